/-! guards and branches that simp decides by omega -/
noncomputable def gd {β : Type} (c : Prop) (x : Option β) : Option β := @ite _ c (Classical.propDecidable c) x none
noncomputable def br {β : Type} (c : Prop) (x y : β) : β := @ite _ c (Classical.propDecidable c) x y
theorem gd_t {β : Type} {c : Prop} {x : Option β} (h : c) : gd c x = x := if_pos h
theorem bc_t {β : Type} {c : Prop} {x y : β} (h : c) : br c x y = x := if_pos h
theorem bc_f {β : Type} {c : Prop} {x y : β} (h : ¬ c) : br c x y = y := if_neg h
theorem gd_tt {β : Type} {x : Option β} : gd True x = x := if_pos trivial
theorem bc_tt {β : Type} {x y : β} : br True x y = x := if_pos trivial
theorem bc_ff {β : Type} {x y : β} : br False x y = y := if_neg (fun h => h)
theorem rb_and (x y : Int) : ((am_rb x && am_rb y) = true) ↔ ((-2147483648 ≤ x ∧ x ≤ 2147483647) ∧ (-2147483648 ≤ y ∧ y ≤ 2147483647)) := by rw [Bool.and_eq_true, am_rb_iff, am_rb_iff]; rfl
section RR
variable {α β : Type} {h : AH} {K : α → MO β} {x y : Int} {A B : MO α} {A' B' : MO β}
theorem rr_p {a : α} : mo_p a h = some (a, h) := rfl
theorem rr_bp {a : α} : mo_b (mo_p a) K h = K a h := rfl
theorem rr_bb {γ : Type} {m : MO γ} {k : γ → MO α} : mo_b (mo_b m k) K h = mo_b m (fun a => mo_b (k a) K) h := by rw [mo_assoc]
theorem rr_0 : (mo_0 : MO α) h = none := rfl
theorem rr_lt : mo_lt x y A' B' h = gd ((-2147483648 ≤ x ∧ x ≤ 2147483647) ∧ (-2147483648 ≤ y ∧ y ≤ 2147483647)) (br (x < y) (A' h) (B' h)) := by
  unfold mo_lt gd br
  by_cases hr : (am_rb x && am_rb y) = true
  · rw [if_pos hr, if_pos ((rb_and x y).mp hr)]; congr
  · rw [if_neg hr, if_neg (fun q => hr ((rb_and x y).mpr q))]
theorem rr_blt : mo_b (mo_lt x y A B) K h = gd ((-2147483648 ≤ x ∧ x ≤ 2147483647) ∧ (-2147483648 ≤ y ∧ y ≤ 2147483647)) (br (x < y) (mo_b A K h) (mo_b B K h)) := by
  unfold mo_b
  rw [rr_lt]
  unfold gd br
  by_cases hr : ((-2147483648 ≤ x ∧ x ≤ 2147483647) ∧ (-2147483648 ≤ y ∧ y ≤ 2147483647))
  · rw [if_pos hr, if_pos hr]
    by_cases hc : x < y
    · rw [if_pos hc, if_pos hc]
    · rw [if_neg hc, if_neg hc]
  · rw [if_neg hr, if_neg hr]
theorem rr_le : mo_le x y A' B' h = gd ((-2147483648 ≤ x ∧ x ≤ 2147483647) ∧ (-2147483648 ≤ y ∧ y ≤ 2147483647)) (br (x ≤ y) (A' h) (B' h)) := by
  unfold mo_le gd br
  by_cases hr : (am_rb x && am_rb y) = true
  · rw [if_pos hr, if_pos ((rb_and x y).mp hr)]; congr
  · rw [if_neg hr, if_neg (fun q => hr ((rb_and x y).mpr q))]
theorem rr_ble : mo_b (mo_le x y A B) K h = gd ((-2147483648 ≤ x ∧ x ≤ 2147483647) ∧ (-2147483648 ≤ y ∧ y ≤ 2147483647)) (br (x ≤ y) (mo_b A K h) (mo_b B K h)) := by
  unfold mo_b
  rw [rr_le]
  unfold gd br
  by_cases hr : ((-2147483648 ≤ x ∧ x ≤ 2147483647) ∧ (-2147483648 ≤ y ∧ y ≤ 2147483647))
  · rw [if_pos hr, if_pos hr]
    by_cases hc : x ≤ y
    · rw [if_pos hc, if_pos hc]
    · rw [if_neg hc, if_neg hc]
  · rw [if_neg hr, if_neg hr]
theorem rr_eq : mo_eq x y A' B' h = gd ((-2147483648 ≤ x ∧ x ≤ 2147483647) ∧ (-2147483648 ≤ y ∧ y ≤ 2147483647)) (br (x = y) (A' h) (B' h)) := by
  unfold mo_eq gd br
  by_cases hr : (am_rb x && am_rb y) = true
  · rw [if_pos hr, if_pos ((rb_and x y).mp hr)]; congr
  · rw [if_neg hr, if_neg (fun q => hr ((rb_and x y).mpr q))]
theorem rr_beq : mo_b (mo_eq x y A B) K h = gd ((-2147483648 ≤ x ∧ x ≤ 2147483647) ∧ (-2147483648 ≤ y ∧ y ≤ 2147483647)) (br (x = y) (mo_b A K h) (mo_b B K h)) := by
  unfold mo_b
  rw [rr_eq]
  unfold gd br
  by_cases hr : ((-2147483648 ≤ x ∧ x ≤ 2147483647) ∧ (-2147483648 ≤ y ∧ y ≤ 2147483647))
  · rw [if_pos hr, if_pos hr]
    by_cases hc : x = y
    · rw [if_pos hc, if_pos hc]
    · rw [if_neg hc, if_neg hc]
  · rw [if_neg hr, if_neg hr]
theorem rr_nl_n : mo_nl none A' B' h = A' h := rfl
theorem rr_nl_s {a : Nat} : mo_nl (some a) A' B' h = B' h := rfl
theorem rr_bnl_n : mo_b (mo_nl none A B) K h = mo_b A K h := rfl
theorem rr_bnl_s {a : Nat} : mo_b (mo_nl (some a) A B) K h = mo_b B K h := rfl
theorem rr_cond_t {X Y : MO β} : cond true X Y h = X h := rfl
theorem rr_cond_f {X Y : MO β} : cond false X Y h = Y h := rfl
theorem rr_bcond_t {X Y : MO α} : mo_b (cond true X Y) K h = mo_b X K h := rfl
theorem rr_bcond_f {X Y : MO α} : mo_b (cond false X Y) K h = mo_b Y K h := rfl
theorem rr_bon {a : Nat} {f : Nat → MO α} : mo_b (mo_on (some a) f) K h = mo_b (f a) K h := rfl
theorem rr_bcv {ci a : Nat} {f : Nat → MO α} : mo_b (mo_cv ci (some a) f) K h = gd (ah_T h a = 10 + ci) (mo_b (f a) K h) := by
  unfold gd
  by_cases hr : ah_T h a = 10 + ci
  · rw [if_pos hr]
    have e : mo_cv ci (some a) f h = f a h := by show (if _ then _ else _) = _; rw [if_pos hr]
    unfold mo_b; rw [e]
  · rw [if_neg hr]
    exact mo_b_n (by show (if _ then _ else _) = _; rw [if_neg hr])
theorem rr_cv {ci a : Nat} {f : Nat → MO β} : mo_cv ci (some a) f h = gd (ah_T h a = 10 + ci) (f a h) := by
  show (if _ then _ else _) = _
  by_cases hr : ah_T h a = 10 + ci
  · rw [if_pos hr, gd_t hr]
  · rw [if_neg hr]; unfold gd; rw [if_neg hr]
theorem rr_g {ci a k : Nat} {K : Int → MO β} : mo_b (op_g ci (some a) k) K h = gd (ah_T h a = 10 + ci) (K (ah_F h a k) h) := by
  by_cases hr : ah_T h a = 10 + ci
  · have e : (op_g ci (some a) k : MO _) h = some (ah_F h a k, h) := by show (if _ then _ else _) = _; rw [if_pos hr]
    rw [mo_b_s e, gd_t hr]
  · have e : (op_g ci (some a) k : MO _) h = none := by show (if _ then _ else _) = _; rw [if_neg hr]
    rw [mo_b_n e]; unfold gd; rw [if_neg hr]
theorem rr_gr {ci a k : Nat} {K : (Option Nat) → MO β} : mo_b (op_gr ci (some a) k) K h = gd (ah_T h a = 10 + ci) (K (ah_P h a k) h) := by
  by_cases hr : ah_T h a = 10 + ci
  · have e : (op_gr ci (some a) k : MO _) h = some (ah_P h a k, h) := by show (if _ then _ else _) = _; rw [if_pos hr]
    rw [mo_b_s e, gd_t hr]
  · have e : (op_gr ci (some a) k : MO _) h = none := by show (if _ then _ else _) = _; rw [if_neg hr]
    rw [mo_b_n e]; unfold gd; rw [if_neg hr]
theorem rr_si {ci a k : Nat} {v : Int} {K : Unit → MO β} : mo_b (op_si ci (some a) k v) K h = gd (ah_T h a = 10 + ci) (K () (ah_sF h a k v)) := by
  by_cases hr : ah_T h a = 10 + ci
  · have e : (op_si ci (some a) k v : MO _) h = some ((), (ah_sF h a k v)) := by show (if _ then _ else _) = _; rw [if_pos hr]
    rw [mo_b_s e, gd_t hr]
  · have e : (op_si ci (some a) k v : MO _) h = none := by show (if _ then _ else _) = _; rw [if_neg hr]
    rw [mo_b_n e]; unfold gd; rw [if_neg hr]
theorem rr_sz {ci a k : Nat} {v : Int} {K : Unit → MO β} : mo_b (op_sz ci (some a) k v) K h = gd (ah_T h a = 10 + ci ∧ (v = 0 ∨ v = 1)) (K () (ah_sF h a k v)) := by
  by_cases hr : ah_T h a = 10 + ci ∧ (v = 0 ∨ v = 1)
  · have e : (op_sz ci (some a) k v : MO _) h = some ((), (ah_sF h a k v)) := by show (if _ then _ else _) = _; rw [if_pos hr]
    rw [mo_b_s e, gd_t hr]
  · have e : (op_sz ci (some a) k v : MO _) h = none := by show (if _ then _ else _) = _; rw [if_neg hr]
    rw [mo_b_n e]; unfold gd; rw [if_neg hr]
theorem rr_sr {ci a k : Nat} {v : Option Nat} {K : Unit → MO β} : mo_b (op_sr ci (some a) k v) K h = gd (ah_T h a = 10 + ci) (K () (ah_sP h a k v)) := by
  by_cases hr : ah_T h a = 10 + ci
  · have e : (op_sr ci (some a) k v : MO _) h = some ((), (ah_sP h a k v)) := by show (if _ then _ else _) = _; rw [if_pos hr]
    rw [mo_b_s e, gd_t hr]
  · have e : (op_sr ci (some a) k v : MO _) h = none := by show (if _ then _ else _) = _; rw [if_neg hr]
    rw [mo_b_n e]; unfold gd; rw [if_neg hr]
theorem rr_al {a : Nat} {K : Int → MO β} : mo_b (op_al (some a)) K h = gd (ah_T h a = 1 ∨ ah_T h a = 2 ∨ ah_T h a = 3) (K (ah_N h a : Int) h) := by
  by_cases hr : ah_T h a = 1 ∨ ah_T h a = 2 ∨ ah_T h a = 3
  · have e : (op_al (some a) : MO _) h = some ((ah_N h a : Int), h) := by show (if _ then _ else _) = _; rw [if_pos hr]
    rw [mo_b_s e, gd_t hr]
  · have e : (op_al (some a) : MO _) h = none := by show (if _ then _ else _) = _; rw [if_neg hr]
    rw [mo_b_n e]; unfold gd; rw [if_neg hr]
theorem rr_ld {a : Nat} {i : Int} {K : Int → MO β} : mo_b (op_ld (some a) i) K h = gd (ah_T h a = 1 ∧ 0 ≤ i ∧ i < ah_N h a ∧ i ≤ 2147483647) (K (ah_I h a i) h) := by
  by_cases hr : ah_T h a = 1 ∧ 0 ≤ i ∧ i < ah_N h a ∧ i ≤ 2147483647
  · have e : (op_ld (some a) i : MO _) h = some ((ah_I h a i), h) := by show (if _ then _ else _) = _; rw [if_pos hr]
    rw [mo_b_s e, gd_t hr]
  · have e : (op_ld (some a) i : MO _) h = none := by show (if _ then _ else _) = _; rw [if_neg hr]
    rw [mo_b_n e]; unfold gd; rw [if_neg hr]
theorem rr_st {a : Nat} {i v : Int} {K : Unit → MO β} : mo_b (op_st (some a) i v) K h = gd (ah_T h a = 1 ∧ 0 ≤ i ∧ i < ah_N h a ∧ i ≤ 2147483647) (K () (ah_sI h a i v)) := by
  by_cases hr : ah_T h a = 1 ∧ 0 ≤ i ∧ i < ah_N h a ∧ i ≤ 2147483647
  · have e : (op_st (some a) i v : MO _) h = some ((), (ah_sI h a i v)) := by show (if _ then _ else _) = _; rw [if_pos hr]
    rw [mo_b_s e, gd_t hr]
  · have e : (op_st (some a) i v : MO _) h = none := by show (if _ then _ else _) = _; rw [if_neg hr]
    rw [mo_b_n e]; unfold gd; rw [if_neg hr]
theorem rr_rl {t a : Nat} {i : Int} {K : (Option Nat) → MO β} : mo_b (op_rl t (some a) i) K h = gd (ah_T h a = t ∧ 0 ≤ i ∧ i < ah_N h a ∧ i ≤ 2147483647) (K (ah_R h a i) h) := by
  by_cases hr : ah_T h a = t ∧ 0 ≤ i ∧ i < ah_N h a ∧ i ≤ 2147483647
  · have e : (op_rl t (some a) i : MO _) h = some ((ah_R h a i), h) := by show (if _ then _ else _) = _; rw [if_pos hr]
    rw [mo_b_s e, gd_t hr]
  · have e : (op_rl t (some a) i : MO _) h = none := by show (if _ then _ else _) = _; rw [if_neg hr]
    rw [mo_b_n e]; unfold gd; rw [if_neg hr]
theorem rr_rs {t ci a b : Nat} {i : Int} {K : Unit → MO β} : mo_b (op_rs t ci (some a) i (some b)) K h = gd (ah_T h a = t ∧ 0 ≤ i ∧ i < ah_N h a ∧ i ≤ 2147483647 ∧ ah_T h b = 10 + ci) (K () (ah_sR h a i (some b))) := by
  by_cases hr : ah_T h a = t ∧ 0 ≤ i ∧ i < ah_N h a ∧ i ≤ 2147483647 ∧ ah_T h b = 10 + ci
  · have e : (op_rs t ci (some a) i (some b) : MO _) h = some ((), (ah_sR h a i (some b))) := by show (if _ then _ else _) = _; rw [if_pos hr]
    rw [mo_b_s e, gd_t hr]
  · have e : (op_rs t ci (some a) i (some b) : MO _) h = none := by show (if _ then _ else _) = _; rw [if_neg hr]
    rw [mo_b_n e]; unfold gd; rw [if_neg hr]
theorem rr_ni {cap : Nat} {i : Int} {K : (Option Nat) → MO β} : mo_b (op_ni cap i) K h = gd (0 ≤ i ∧ i ≤ cap) (K (some (ah_S h)) (ah_nI h i.toNat)) := by
  by_cases hr : 0 ≤ i ∧ i ≤ cap
  · have e : (op_ni cap i : MO _) h = some ((some (ah_S h)), (ah_nI h i.toNat)) := by show (if _ then _ else _) = _; rw [if_pos hr]
    rw [mo_b_s e, gd_t hr]
  · have e : (op_ni cap i : MO _) h = none := by show (if _ then _ else _) = _; rw [if_neg hr]
    rw [mo_b_n e]; unfold gd; rw [if_neg hr]
theorem rr_nr {t cap : Nat} {i : Int} {K : (Option Nat) → MO β} : mo_b (op_nr t cap i) K h = gd (0 ≤ i ∧ i ≤ cap) (K (some (ah_S h)) (ah_nR h t i.toNat)) := by
  by_cases hr : 0 ≤ i ∧ i ≤ cap
  · have e : (op_nr t cap i : MO _) h = some ((some (ah_S h)), (ah_nR h t i.toNat)) := by show (if _ then _ else _) = _; rw [if_pos hr]
    rw [mo_b_s e, gd_t hr]
  · have e : (op_nr t cap i : MO _) h = none := by show (if _ then _ else _) = _; rw [if_neg hr]
    rw [mo_b_n e]; unfold gd; rw [if_neg hr]
theorem rr_z  {K : Int → MO β} : mo_b (op_z x) K h = gd (x = 0 ∨ x = 1) (K x h) := by
  by_cases hr : x = 0 ∨ x = 1
  · have e : (op_z x : MO _) h = some (x, h) := by show (if _ then _ else _) = _; rw [if_pos hr]
    rw [mo_b_s e, gd_t hr]
  · have e : (op_z x : MO _) h = none := by show (if _ then _ else _) = _; rw [if_neg hr]
    rw [mo_b_n e]; unfold gd; rw [if_neg hr]
theorem rr_div  {K : Int → MO β} : mo_b (op_div x y) K h = gd (0 ≤ x ∧ x ≤ 2147483647 ∧ 0 < y ∧ y ≤ 2147483647) (K (x / y) h) := by
  by_cases hr : 0 ≤ x ∧ x ≤ 2147483647 ∧ 0 < y ∧ y ≤ 2147483647
  · have e : (op_div x y : MO _) h = some ((x / y), h) := by show (if _ then _ else _) = _; rw [if_pos hr]
    rw [mo_b_s e, gd_t hr]
  · have e : (op_div x y : MO _) h = none := by show (if _ then _ else _) = _; rw [if_neg hr]
    rw [mo_b_n e]; unfold gd; rw [if_neg hr]
theorem rr_rem  {K : Int → MO β} : mo_b (op_rem x y) K h = gd (0 ≤ x ∧ x ≤ 2147483647 ∧ 0 < y ∧ y ≤ 2147483647) (K (x % y) h) := by
  by_cases hr : 0 ≤ x ∧ x ≤ 2147483647 ∧ 0 < y ∧ y ≤ 2147483647
  · have e : (op_rem x y : MO _) h = some ((x % y), h) := by show (if _ then _ else _) = _; rw [if_pos hr]
    rw [mo_b_s e, gd_t hr]
  · have e : (op_rem x y : MO _) h = none := by show (if _ then _ else _) = _; rw [if_neg hr]
    rw [mo_b_n e]; unfold gd; rw [if_neg hr]
theorem rq_mx {K : Int → MO β} : mo_b (op_mx x y) K h = gd ((-2147483648 ≤ x ∧ x ≤ 2147483647) ∧ (-2147483648 ≤ y ∧ y ≤ 2147483647)) (K (if x < y then y else x) h) := by
  by_cases hr : (am_rb x && am_rb y) = true
  · have e : (op_mx x y : MO _) h = some ((if x < y then y else x), h) := by show (if _ then _ else _) = _; rw [if_pos hr]
    rw [mo_b_s e, gd_t ((rb_and x y).mp hr)]
  · have e : (op_mx x y : MO _) h = none := by show (if _ then _ else _) = _; rw [if_neg hr]
    rw [mo_b_n e]; unfold gd; rw [if_neg (fun q => hr ((rb_and x y).mpr q))]
theorem rq_mn {K : Int → MO β} : mo_b (op_mn x y) K h = gd ((-2147483648 ≤ x ∧ x ≤ 2147483647) ∧ (-2147483648 ≤ y ∧ y ≤ 2147483647)) (K (if y < x then y else x) h) := by
  by_cases hr : (am_rb x && am_rb y) = true
  · have e : (op_mn x y : MO _) h = some ((if y < x then y else x), h) := by show (if _ then _ else _) = _; rw [if_pos hr]
    rw [mo_b_s e, gd_t ((rb_and x y).mp hr)]
  · have e : (op_mn x y : MO _) h = none := by show (if _ then _ else _) = _; rw [if_neg hr]
    rw [mo_b_n e]; unfold gd; rw [if_neg (fun q => hr ((rb_and x y).mpr q))]
theorem rr_lc {K : Int → MO β} : mo_b (op_lc x y) K h = gd ((-2147483648 ≤ x ∧ x ≤ 2147483647) ∧ (-2147483648 ≤ y ∧ y ≤ 2147483647)) (K (if y < x then 1 else if x = y then 0 else -1) h) := by
  by_cases hr : (am_rb x && am_rb y) = true
  · have e : (op_lc x y : MO _) h = some ((if y < x then 1 else if x = y then 0 else -1), h) := by show (if _ then _ else _) = _; rw [if_pos hr]
    rw [mo_b_s e, gd_t ((rb_and x y).mp hr)]
  · have e : (op_lc x y : MO _) h = none := by show (if _ then _ else _) = _; rw [if_neg hr]
    rw [mo_b_n e]; unfold gd; rw [if_neg (fun q => hr ((rb_and x y).mpr q))]
theorem rq_ab {K : Int → MO β} : mo_b (op_ab x) K h = gd ((-2147483648 ≤ x ∧ x ≤ 2147483647) ∧ (-2147483648 ≤ (0 : Int) ∧ (0 : Int) ≤ 2147483647)) (K (if x < 0 then -x else x) h) := by
  by_cases hr : (am_rb x && am_rb 0) = true
  · have e : (op_ab x : MO _) h = some (if x < 0 then -x else x, h) := by show (if _ then _ else _) = _; rw [if_pos hr]
    rw [mo_b_s e, gd_t ((rb_and x 0).mp hr)]
  · have e : (op_ab x : MO _) h = none := by show (if _ then _ else _) = _; rw [if_neg hr]
    rw [mo_b_n e]; unfold gd; rw [if_neg (fun q => hr ((rb_and x 0).mpr q))]
theorem rr_mx {K : Int → MO β} : mo_b (op_mx x y) K h = gd ((-2147483648 ≤ x ∧ x ≤ 2147483647) ∧ (-2147483648 ≤ y ∧ y ≤ 2147483647)) (K (max x y) h) := by
  rw [rq_mx, show (if x < y then y else x) = max x y by split <;> omega]
theorem rr_mn {K : Int → MO β} : mo_b (op_mn x y) K h = gd ((-2147483648 ≤ x ∧ x ≤ 2147483647) ∧ (-2147483648 ≤ y ∧ y ≤ 2147483647)) (K (min x y) h) := by
  rw [rq_mn, show (if y < x then y else x) = min x y by split <;> omega]
theorem rr_ab {K : Int → MO β} : mo_b (op_ab x) K h = gd ((-2147483648 ≤ x ∧ x ≤ 2147483647) ∧ (-2147483648 ≤ (0 : Int) ∧ (0 : Int) ≤ 2147483647)) (K ((x.natAbs : Nat) : Int) h) := by
  rw [rq_ab, show (if x < 0 then -x else x) = ((x.natAbs : Nat) : Int) by split <;> omega]
theorem rr_no {ci : Nat} {K : (Option Nat) → MO β} : mo_b (op_no ci) K h = K (some (ah_S h)) (ah_nO h ci) := rfl
end RR
/-! what a changed heap holds -/
section HL
variable {h : AH} {a b k j : Nat} {v : Int} {r : Option Nat} {i i2 : Int}
def ah_wI (h : AH) (a : Nat) (f : Int → Int) : AH := (h.1, h.2.1, h.2.2.1, h.2.2.2.1, fu h.2.2.2.2.1 a f, h.2.2.2.2.2)
theorem hl_T_sF : ah_T (ah_sF h a k v) = ah_T h := rfl
theorem hl_N_sF : ah_N (ah_sF h a k v) = ah_N h := rfl
theorem hl_P_sF : ah_P (ah_sF h a k v) = ah_P h := rfl
theorem hl_I_sF : ah_I (ah_sF h a k v) = ah_I h := rfl
theorem hl_R_sF : ah_R (ah_sF h a k v) = ah_R h := rfl
theorem hl_S_sF : ah_S (ah_sF h a k v) = ah_S h := rfl
theorem hl_T_sP : ah_T (ah_sP h a k r) = ah_T h := rfl
theorem hl_N_sP : ah_N (ah_sP h a k r) = ah_N h := rfl
theorem hl_F_sP : ah_F (ah_sP h a k r) = ah_F h := rfl
theorem hl_I_sP : ah_I (ah_sP h a k r) = ah_I h := rfl
theorem hl_R_sP : ah_R (ah_sP h a k r) = ah_R h := rfl
theorem hl_S_sP : ah_S (ah_sP h a k r) = ah_S h := rfl
theorem hl_T_sI : ah_T (ah_sI h a i v) = ah_T h := rfl
theorem hl_N_sI : ah_N (ah_sI h a i v) = ah_N h := rfl
theorem hl_F_sI : ah_F (ah_sI h a i v) = ah_F h := rfl
theorem hl_P_sI : ah_P (ah_sI h a i v) = ah_P h := rfl
theorem hl_R_sI : ah_R (ah_sI h a i v) = ah_R h := rfl
theorem hl_S_sI : ah_S (ah_sI h a i v) = ah_S h := rfl
theorem hl_T_sR : ah_T (ah_sR h a i r) = ah_T h := rfl
theorem hl_N_sR : ah_N (ah_sR h a i r) = ah_N h := rfl
theorem hl_F_sR : ah_F (ah_sR h a i r) = ah_F h := rfl
theorem hl_P_sR : ah_P (ah_sR h a i r) = ah_P h := rfl
theorem hl_I_sR : ah_I (ah_sR h a i r) = ah_I h := rfl
theorem hl_S_sR : ah_S (ah_sR h a i r) = ah_S h := rfl
theorem hl_T_wI {f : Int → Int} : ah_T (ah_wI h a f) = ah_T h := rfl
theorem hl_N_wI {f : Int → Int} : ah_N (ah_wI h a f) = ah_N h := rfl
theorem hl_F_wI {f : Int → Int} : ah_F (ah_wI h a f) = ah_F h := rfl
theorem hl_P_wI {f : Int → Int} : ah_P (ah_wI h a f) = ah_P h := rfl
theorem hl_R_wI {f : Int → Int} : ah_R (ah_wI h a f) = ah_R h := rfl
theorem hl_S_wI {f : Int → Int} : ah_S (ah_wI h a f) = ah_S h := rfl
theorem hl_F_sF : ah_F (ah_sF h a k v) b j = if b = a ∧ j = k then v else ah_F h b j := by
  by_cases hb : b = a
  · subst hb
    by_cases hj : j = k
    · subst hj; simp [ah_F, ah_sF, fu]
    · simp [ah_F, ah_sF, fu, hj]
  · simp [ah_F, ah_sF, fu, hb]
theorem hl_P_sP : ah_P (ah_sP h a k r) b j = if b = a ∧ j = k then r else ah_P h b j := by
  by_cases hb : b = a
  · subst hb
    by_cases hj : j = k
    · subst hj; simp [ah_P, ah_sP, fu]
    · simp [ah_P, ah_sP, fu, hj]
  · simp [ah_P, ah_sP, fu, hb]
theorem hl_I_sI : ah_I (ah_sI h a i v) b i2 = if b = a ∧ i2 = i then v else ah_I h b i2 := by
  by_cases hb : b = a
  · subst hb
    by_cases hj : i2 = i
    · subst hj; simp [ah_I, ah_sI, fu]
    · simp [ah_I, ah_sI, fu, hj]
  · simp [ah_I, ah_sI, fu, hb]
theorem hl_R_sR : ah_R (ah_sR h a i r) b i2 = if b = a ∧ i2 = i then r else ah_R h b i2 := by
  by_cases hb : b = a
  · subst hb
    by_cases hj : i2 = i
    · subst hj; simp [ah_R, ah_sR, fu]
    · simp [ah_R, ah_sR, fu, hj]
  · simp [ah_R, ah_sR, fu, hb]
theorem hl_I_wI {f : Int → Int} : ah_I (ah_wI h a f) b = if b = a then f else ah_I h b := by
  by_cases hb : b = a
  · subst hb; simp [ah_I, ah_wI, fu]
  · simp [ah_I, ah_wI, fu, hb]
theorem hl_wI_id : ah_wI h a (ah_I h a) = h := by
  have e : fu h.2.2.2.2.1 a (ah_I h a) = h.2.2.2.2.1 := by
    funext x; by_cases hx : x = a
    · subst hx; simp [fu, ah_I]
    · simp [fu, hx]
  unfold ah_wI; rw [e]
theorem hl_sI_wI {f : Int → Int} : ah_sI (ah_wI h a f) a i v = ah_wI h a (fu f i v) := by
  have e : fu (fu h.2.2.2.2.1 a f) a (fu (fu h.2.2.2.2.1 a f a) i v) = fu h.2.2.2.2.1 a (fu f i v) := by
    funext x; by_cases hx : x = a
    · subst hx; simp [fu]
    · simp [fu, hx]
  unfold ah_sI ah_wI; dsimp only; rw [e]
theorem hl_wI_wI {f g : Int → Int} : ah_wI (ah_wI h a f) a g = ah_wI h a g := by
  have e : fu (fu h.2.2.2.2.1 a f) a g = fu h.2.2.2.2.1 a g := by
    funext x; by_cases hx : x = a
    · subst hx; simp [fu]
    · simp [fu, hx]
  unfold ah_wI; dsimp only; rw [e]
theorem hl_sI : ah_sI h a i v = ah_wI h a (fu (ah_I h a) i v) := rfl
theorem hl_F_sF_s : ah_F (ah_sF h a k v) a k = v := by rw [hl_F_sF, if_pos ⟨rfl, rfl⟩]
theorem hl_F_sF_n (hn : b ≠ a ∨ j ≠ k) : ah_F (ah_sF h a k v) b j = ah_F h b j := by rw [hl_F_sF, if_neg (by omega)]
theorem hl_P_sP_s : ah_P (ah_sP h a k r) a k = r := by rw [hl_P_sP, if_pos ⟨rfl, rfl⟩]
theorem hl_P_sP_n (hn : b ≠ a ∨ j ≠ k) : ah_P (ah_sP h a k r) b j = ah_P h b j := by rw [hl_P_sP, if_neg (by omega)]
theorem hl_I_sI_s : ah_I (ah_sI h a i v) a i = v := by rw [hl_I_sI, if_pos ⟨rfl, rfl⟩]
theorem hl_I_sI_n (hn : b ≠ a ∨ i2 ≠ i) : ah_I (ah_sI h a i v) b i2 = ah_I h b i2 := by rw [hl_I_sI, if_neg (by omega)]
theorem hl_R_sR_s : ah_R (ah_sR h a i r) a i = r := by rw [hl_R_sR, if_pos ⟨rfl, rfl⟩]
theorem hl_R_sR_n (hn : b ≠ a ∨ i2 ≠ i) : ah_R (ah_sR h a i r) b i2 = ah_R h b i2 := by rw [hl_R_sR, if_neg (by omega)]
theorem hl_I_wI_s {f : Int → Int} : ah_I (ah_wI h a f) a = f := by rw [hl_I_wI, if_pos rfl]
theorem hl_I_wI_n {f : Int → Int} (hn : b ≠ a) : ah_I (ah_wI h a f) b = ah_I h b := by rw [hl_I_wI, if_neg hn]
end HL
/-! nothing but the number fields and the int arrays of the cells from lo up to hi is changed -/
def FRM (h h' : AH) (lo hi : Nat) : Prop := ah_T h' = ah_T h ∧ ah_N h' = ah_N h ∧ ah_P h' = ah_P h ∧ ah_R h' = ah_R h ∧ ah_S h' = ah_S h ∧ (∀ q, q < lo ∨ hi ≤ q → ah_F h' q = ah_F h q) ∧ ∀ q, q < lo ∨ hi ≤ q → ah_I h' q = ah_I h q
theorem FRM.rf {h : AH} {lo hi : Nat} : FRM h h lo hi := ⟨rfl, rfl, rfl, rfl, rfl, fun _ _ => rfl, fun _ _ => rfl⟩
theorem FRM.tr {h h' h'' : AH} {lo hi lo2 hi2 lo3 hi3 : Nat} (a : FRM h h' lo hi) (b : FRM h' h'' lo2 hi2) (h1 : lo3 ≤ lo) (h2 : lo3 ≤ lo2) (h3 : hi ≤ hi3) (h4 : hi2 ≤ hi3) : FRM h h'' lo3 hi3 :=
  ⟨b.1.trans a.1, b.2.1.trans a.2.1, b.2.2.1.trans a.2.2.1, b.2.2.2.1.trans a.2.2.2.1, b.2.2.2.2.1.trans a.2.2.2.2.1, fun q hq => (b.2.2.2.2.2.1 q (by omega)).trans (a.2.2.2.2.2.1 q (by omega)), fun q hq => (b.2.2.2.2.2.2 q (by omega)).trans (a.2.2.2.2.2.2 q (by omega))⟩
theorem FRM.sF {h : AH} {a k lo hi : Nat} {v : Int} (h1 : lo ≤ a) (h2 : a < hi) : FRM h (ah_sF h a k v) lo hi :=
  ⟨rfl, rfl, rfl, rfl, rfl, fun q hq => by funext j; exact hl_F_sF_n (Or.inl (by omega)), fun _ _ => rfl⟩
theorem FRM.wI {h : AH} {a lo hi : Nat} {f : Int → Int} (h1 : lo ≤ a) (h2 : a < hi) : FRM h (ah_wI h a f) lo hi :=
  ⟨rfl, rfl, rfl, rfl, rfl, fun _ _ => rfl, fun q hq => hl_I_wI_n (by omega)⟩
theorem FRM.sI {h : AH} {a lo hi : Nat} {i v : Int} (h1 : lo ≤ a) (h2 : a < hi) : FRM h (ah_sI h a i v) lo hi := by rw [hl_sI]; exact FRM.wI h1 h2
/-! loops -/
theorem lp_seq {A B : Type} {F : A → MO (A ⊕ B)} (s : Nat → A) (H : Nat → AH) (k : Nat) {b : B} {hE : AH} (step : ∀ j, j < k → F (s j) (H j) = some (.inl (s (j + 1)), H (j + 1))) (exit : F (s k) (H k) = some (.inr b, hE)) : ∀ (n : Nat), k < n → mo_lp n F (s 0) (H 0) = some (b, hE) := by
  have key : ∀ (d j n : Nat), j + d = k → d < n → mo_lp n F (s j) (H j) = some (b, hE) := by
    intro d
    induction d with
    | zero =>
      intro j n hj hn
      obtain ⟨n, rfl⟩ : ∃ n', n = n' + 1 := ⟨n - 1, by omega⟩
      have hjk : j = k := by omega
      subst hjk
      show mo_b (F (s j)) _ (H j) = _
      rw [mo_b_s exit]; rfl
    | succ d ih =>
      intro j n hj hn
      obtain ⟨n, rfl⟩ : ∃ n', n = n' + 1 := ⟨n - 1, by omega⟩
      show mo_b (F (s j)) _ (H j) = _
      rw [mo_b_s (step j (by omega))]
      exact ih (j + 1) n (by omega) (by omega)
  intro n hn
  exact key k 0 n (by omega) hn
/-- with an invariant: a number that falls -/
theorem lp_inv {A B : Type} {F : A → MO (A ⊕ B)} (I : A → AH → Prop) (mu : A → Nat) (Q : B → AH → Prop) (step : ∀ a h, I a h → (∃ a' h', F a h = some (.inl a', h') ∧ I a' h' ∧ mu a' < mu a) ∨ ∃ b h', F a h = some (.inr b, h') ∧ Q b h') : ∀ (n : Nat) (a : A) (h : AH), I a h → mu a < n → ∃ b h', mo_lp n F a h = some (b, h') ∧ Q b h' := by
  intro n
  induction n with
  | zero => intro a h _ hn; omega
  | succ n ih =>
    intro a h hI hn
    rcases step a h hI with ⟨a', h', e, hI', hm⟩ | ⟨b, h', e, hQ⟩
    · obtain ⟨b, h2, e2, hQ⟩ := ih a' h' hI' (by omega)
      refine ⟨b, h2, ?_, hQ⟩
      show mo_b (F a) _ h = _
      rw [mo_b_s e]; exact e2
    · refine ⟨b, h', ?_, hQ⟩
      show mo_b (F a) _ h = _
      rw [mo_b_s e]; rfl
theorem mo_N_v : mo_N = 200000 := rfl
