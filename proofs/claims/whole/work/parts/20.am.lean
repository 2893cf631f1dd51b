/-! the abstract heap: kinds, lengths, number fields, reference fields, int arrays, reference arrays, size -/
abbrev AH : Type := (Nat → Nat) × (Nat → Nat) × (Nat → Nat → Int) × (Nat → Nat → Option Nat) × (Nat → Int → Int) × (Nat → Int → Option Nat) × Nat
def ah_T (h : AH) : Nat → Nat := h.1
def ah_N (h : AH) : Nat → Nat := h.2.1
def ah_F (h : AH) : Nat → Nat → Int := h.2.2.1
def ah_P (h : AH) : Nat → Nat → Option Nat := h.2.2.2.1
def ah_I (h : AH) : Nat → Int → Int := h.2.2.2.2.1
def ah_R (h : AH) : Nat → Int → Option Nat := h.2.2.2.2.2.1
def ah_S (h : AH) : Nat := h.2.2.2.2.2.2
def fu {α β : Type} [DecidableEq α] (f : α → β) (a : α) (b : β) : α → β := fun x => if x = a then b else f x
theorem fu_s {α β : Type} [DecidableEq α] (f : α → β) (a : α) (b : β) : fu f a b a = b := by simp [fu]
theorem fu_n {α β : Type} [DecidableEq α] (f : α → β) {a x : α} (b : β) (h : x ≠ a) : fu f a b x = f x := by simp [fu, h]
def ah_sF (h : AH) (a k : Nat) (v : Int) : AH := (h.1, h.2.1, fu h.2.2.1 a (fu (h.2.2.1 a) k v), h.2.2.2)
def ah_sP (h : AH) (a k : Nat) (v : Option Nat) : AH := (h.1, h.2.1, h.2.2.1, fu h.2.2.2.1 a (fu (h.2.2.2.1 a) k v), h.2.2.2.2)
def ah_sI (h : AH) (a : Nat) (i : Int) (v : Int) : AH := (h.1, h.2.1, h.2.2.1, h.2.2.2.1, fu h.2.2.2.2.1 a (fu (h.2.2.2.2.1 a) i v), h.2.2.2.2.2)
def ah_sR (h : AH) (a : Nat) (i : Int) (v : Option Nat) : AH := (h.1, h.2.1, h.2.2.1, h.2.2.2.1, h.2.2.2.2.1, fu h.2.2.2.2.2.1 a (fu (h.2.2.2.2.2.1 a) i v), h.2.2.2.2.2.2)
def ah_nO (h : AH) (ci : Nat) : AH := (fu h.1 (ah_S h) (10 + ci), h.2.1, fu h.2.2.1 (ah_S h) (fun _ => 0), fu h.2.2.2.1 (ah_S h) (fun _ => none), h.2.2.2.2.1, h.2.2.2.2.2.1, ah_S h + 1)
def ah_nI (h : AH) (n : Nat) : AH := (fu h.1 (ah_S h) 1, fu h.2.1 (ah_S h) n, h.2.2.1, h.2.2.2.1, fu h.2.2.2.2.1 (ah_S h) (fun _ => 0), h.2.2.2.2.2.1, ah_S h + 1)
def ah_nR (h : AH) (t n : Nat) : AH := (fu h.1 (ah_S h) t, fu h.2.1 (ah_S h) n, h.2.2.1, h.2.2.2.1, h.2.2.2.2.1, fu h.2.2.2.2.2.1 (ah_S h) (fun _ => none), ah_S h + 1)
/-! programs over it -/
abbrev MO (α : Type) : Type := AH → Option (α × AH)
def mo_p {α : Type} (a : α) : MO α := fun h => some (a, h)
def mo_0 {α : Type} : MO α := fun _ => none
def mo_b {α β : Type} (m : MO α) (k : α → MO β) : MO β := fun h => match m h with
  | none => none
  | some q => k q.1 q.2
theorem mo_b_n {α β : Type} {m : MO α} {k : α → MO β} {h : AH} (e : m h = none) : mo_b m k h = none := by simp [mo_b, e]
theorem mo_b_s {α β : Type} {m : MO α} {k : α → MO β} {h h' : AH} {a : α} (e : m h = some (a, h')) : mo_b m k h = k a h' := by simp [mo_b, e]
theorem mo_b_inv {α β : Type} {m : MO α} {k : α → MO β} {h h' : AH} {b : β} (e : mo_b m k h = some (b, h')) : ∃ a h1, m h = some (a, h1) ∧ k a h1 = some (b, h') := by
  cases hm : m h with
  | none => rw [mo_b_n hm] at e; cases e
  | some q => exact ⟨q.1, q.2, rfl, by rw [mo_b_s (a := q.1) (h' := q.2) hm] at e; exact e⟩
theorem mo_assoc {α β γ : Type} (m : MO α) (k : α → MO β) (k2 : β → MO γ) : mo_b (mo_b m k) k2 = mo_b m (fun a => mo_b (k a) k2) := by
  funext h
  cases hm : m h with
  | none => rw [mo_b_n hm, mo_b_n (mo_b_n hm)]
  | some q =>
    rw [mo_b_s (a := q.1) (h' := q.2) hm]
    show (match mo_b m k h with | none => none | some q => k2 q.1 q.2) = _
    rw [mo_b_s (a := q.1) (h' := q.2) hm]
    rfl
theorem mo_bp {α : Type} (m : MO α) : mo_b m mo_p = m := by
  funext h
  cases hm : m h with
  | none => rw [mo_b_n hm]
  | some q => rw [mo_b_s (a := q.1) (h' := q.2) hm]; rfl
theorem mo_pb {α β : Type} (a : α) (k : α → MO β) : mo_b (mo_p a) k = k a := rfl
def am_r (x : Int) : Prop := -2147483648 ≤ x ∧ x ≤ 2147483647
theorem am_rr (x : Int) : am_r x ↔ (-2147483648 ≤ x ∧ x ≤ 2147483647) := Iff.rfl
def am_rb (x : Int) : Bool := decide (-2147483648 ≤ x) && decide (x ≤ 2147483647)
theorem am_rb_iff {x : Int} : am_rb x = true ↔ am_r x := by simp [am_rb, am_r]
def mo_lt {α : Type} (x y : Int) (t e : MO α) : MO α := fun h => if (am_rb x && am_rb y) = true then (if x < y then t h else e h) else none
def mo_le {α : Type} (x y : Int) (t e : MO α) : MO α := fun h => if (am_rb x && am_rb y) = true then (if x ≤ y then t h else e h) else none
def mo_eq {α : Type} (x y : Int) (t e : MO α) : MO α := fun h => if (am_rb x && am_rb y) = true then (if x = y then t h else e h) else none
def mo_nl {α : Type} (r : Option Nat) (t e : MO α) : MO α := match r with
  | none => t
  | some _ => e
def mo_on {α : Type} (r : Option Nat) (f : Nat → MO α) : MO α := match r with
  | none => mo_0
  | some a => f a
def mo_lp {S β : Type} : Nat → (S → MO (S ⊕ β)) → S → MO β
  | 0, _, _ => mo_0
  | n + 1, F, s => mo_b (F s) (fun r => Sum.elim (fun s' => mo_lp n F s') (fun b => mo_p b) r)
def mo_N : Nat := 200000
/-! what the instructions do -/
def op_g (ci : Nat) (r : Option Nat) (k : Nat) : MO Int := mo_on r fun a h => if ah_T h a = 10 + ci then some (ah_F h a k, h) else none
def op_gr (ci : Nat) (r : Option Nat) (k : Nat) : MO (Option Nat) := mo_on r fun a h => if ah_T h a = 10 + ci then some (ah_P h a k, h) else none
def op_si (ci : Nat) (r : Option Nat) (k : Nat) (v : Int) : MO Unit := mo_on r fun a h => if ah_T h a = 10 + ci then some ((), ah_sF h a k v) else none
def op_sz (ci : Nat) (r : Option Nat) (k : Nat) (v : Int) : MO Unit := mo_on r fun a h => if ah_T h a = 10 + ci ∧ (v = 0 ∨ v = 1) then some ((), ah_sF h a k v) else none
def op_sr (ci : Nat) (r : Option Nat) (k : Nat) (v : Option Nat) : MO Unit := mo_on r fun a h => if ah_T h a = 10 + ci then some ((), ah_sP h a k v) else none
def op_al (r : Option Nat) : MO Int := mo_on r fun a h => if ah_T h a = 1 ∨ ah_T h a = 2 ∨ ah_T h a = 3 then some ((ah_N h a : Int), h) else none
def am_in (i : Int) (n : Nat) : Prop := 0 ≤ i ∧ i < n ∧ i ≤ 2147483647
def op_ld (r : Option Nat) (i : Int) : MO Int := mo_on r fun a h => if ah_T h a = 1 ∧ 0 ≤ i ∧ i < ah_N h a ∧ i ≤ 2147483647 then some (ah_I h a i, h) else none
def op_st (r : Option Nat) (i v : Int) : MO Unit := mo_on r fun a h => if ah_T h a = 1 ∧ 0 ≤ i ∧ i < ah_N h a ∧ i ≤ 2147483647 then some ((), ah_sI h a i v) else none
def op_rl (t : Nat) (r : Option Nat) (i : Int) : MO (Option Nat) := mo_on r fun a h => if ah_T h a = t ∧ 0 ≤ i ∧ i < ah_N h a ∧ i ≤ 2147483647 then some (ah_R h a i, h) else none
def op_rs (t ci : Nat) (r : Option Nat) (i : Int) (v : Option Nat) : MO Unit := mo_on v fun b => mo_on r fun a h => if ah_T h a = t ∧ 0 ≤ i ∧ i < ah_N h a ∧ i ≤ 2147483647 ∧ ah_T h b = 10 + ci then some ((), ah_sR h a i (some b)) else none
def op_no (ci : Nat) : MO (Option Nat) := fun h => some (some (ah_S h), ah_nO h ci)
def op_ni (cap : Nat) (n : Int) : MO (Option Nat) := fun h => if 0 ≤ n ∧ n ≤ cap then some (some (ah_S h), ah_nI h n.toNat) else none
def op_nr (t : Nat) (cap : Nat) (n : Int) : MO (Option Nat) := fun h => if 0 ≤ n ∧ n ≤ cap then some (some (ah_S h), ah_nR h t n.toNat) else none
def op_z (x : Int) : MO Int := fun h => if x = 0 ∨ x = 1 then some (x, h) else none
def op_div (x y : Int) : MO Int := fun h => if 0 ≤ x ∧ x ≤ 2147483647 ∧ 0 < y ∧ y ≤ 2147483647 then some (x / y, h) else none
def op_rem (x y : Int) : MO Int := fun h => if 0 ≤ x ∧ x ≤ 2147483647 ∧ 0 < y ∧ y ≤ 2147483647 then some (x % y, h) else none
/-- lcmp of two longs that are in the range of ints -/
def op_lc (x y : Int) : MO Int := fun h => if (am_rb x && am_rb y) = true then some (if y < x then 1 else if x = y then 0 else -1, h) else none
/-- a call on an object of class ci -/
def mo_cv {α : Type} (ci : Nat) (r : Option Nat) (f : Nat → MO α) : MO α := mo_on r fun b h => if ah_T h b = 10 + ci then f b h else none
