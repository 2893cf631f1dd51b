def X3_addLine (x0 : Nat) (x1 : Option Nat) (x2 : Option Nat) (x3 : Int) : MO Unit :=
mo_b (op_g 3 (some x0) 5) fun t1 =>
mo_le t1 0 (
mo_p ()) (
mo_b (op_g 3 (some x0) 5) fun t2 =>
mo_b (op_al x1) fun t3 =>
mo_lt t2 t3 (
mo_b (op_g 3 (some x0) 5) fun t4 =>
mo_b (op_ld x1 t4) fun t5 =>
mo_lt t5 0 (
mo_p ()) (
mo_b (op_al x2) fun t6 =>
mo_lt t5 t6 (
mo_b (op_st x2 t5 x3) fun _ =>
mo_b (op_g 3 (some x0) 5) fun t7 =>
mo_b (op_st x1 t7 (t5 + 1)) fun _ =>
mo_p ()) (
mo_p ()))) (
mo_p ()))
def X3_addComing (x0 : Nat) (x1 : Int) : MO Unit :=
mo_b (op_gr 3 (some x0) 2) fun t1 =>
mo_b (op_gr 3 (some x0) 4) fun t2 =>
mo_b (mo_cv 3 (some x0) (fun b2 => X3_addLine b2 t1 t2 x1)) fun _ =>
mo_p ()
def X3_begins (x0 : Nat) (x1 : Int) : MO Int :=
mo_lt x1 0 (
mo_p 0) (
mo_b (op_g 3 (some x0) 5) fun t1 =>
mo_lt x1 t1 (
mo_b (op_gr 3 (some x0) 0) fun t2 =>
mo_b (op_al t2) fun t3 =>
mo_lt x1 t3 (
mo_b (op_gr 3 (some x0) 0) fun t4 =>
mo_b (op_ld t4 x1) fun t5 =>
mo_p t5) (
mo_p 0)) (
mo_p 0))
def X3_shiftBefore (x0 : Nat) (x1 : Int) : MO Int :=
mo_b (
mo_lt x1 0 (
mo_p 0) (
mo_b (op_gr 3 (some x0) 2) fun t1 =>
mo_b (op_al t1) fun t2 =>
mo_lt x1 t2 (
mo_b (op_gr 3 (some x0) 1) fun t3 =>
mo_b (op_al t3) fun t4 =>
mo_lt x1 t4 (
mo_p 1) (
mo_p 0)) (
mo_p 0))) fun t5 =>
mo_eq t5 0 (
mo_p 0) (
mo_b (op_gr 3 (some x0) 2) fun t6 =>
mo_b (op_ld t6 x1) fun t7 =>
mo_b (op_gr 3 (some x0) 1) fun t8 =>
mo_b (op_ld t8 x1) fun t9 =>
mo_p (t7 - t9))
def X3_beginsBehind (x0 : Nat) (x1 : Int) : MO Int :=
mo_b (mo_cv 3 (some x0) (fun b3 => X3_begins b3 x1)) fun t1 =>
mo_b (mo_cv 3 (some x0) (fun b2 => X3_shiftBefore b2 x1)) fun t2 =>
mo_p (t1 + t2)
def X3_coming (x0 : Nat) (x1 : Int) : MO Int :=
mo_lt x1 0 (
mo_p 0) (
mo_b (op_g 3 (some x0) 5) fun t1 =>
mo_lt x1 t1 (
mo_b (op_gr 3 (some x0) 2) fun t2 =>
mo_b (op_al t2) fun t3 =>
mo_lt (x1 + 1) t3 (
mo_b (op_gr 3 (some x0) 2) fun t4 =>
mo_b (op_ld t4 (x1 + 1)) fun t5 =>
mo_b (op_gr 3 (some x0) 2) fun t6 =>
mo_b (op_ld t6 x1) fun t7 =>
mo_p (t5 - t7)) (
mo_p 0)) (
mo_p 0))
def X3_start (x0 : Option Nat) (x1 : Int) : MO Int :=
mo_lt x1 0 (
mo_p 0) (
mo_b (op_al x0) fun t1 =>
mo_lt x1 t1 (
mo_b (op_ld x0 x1) fun t2 =>
mo_p t2) (
mo_p 0))
def X3_comingLine (x0 : Nat) (x1 : Int) (x2 : Int) : MO Int :=
mo_b (op_gr 3 (some x0) 2) fun t1 =>
mo_b (X3_start t1 x1) fun t2 =>
mo_lt x2 0 (
mo_p (-1)) (
mo_b (mo_cv 3 (some x0) (fun b7 => X3_coming b7 x1)) fun t3 =>
mo_lt x2 t3 (
mo_b (op_gr 3 (some x0) 4) fun t4 =>
mo_b (op_al t4) fun t5 =>
mo_lt (t2 + x2) t5 (
mo_b (op_gr 3 (some x0) 4) fun t6 =>
mo_b (op_ld t6 (t2 + x2)) fun t7 =>
mo_p t7) (
mo_p (-1))) (
mo_p (-1)))
def X3_comingAt_L2 (x0 : Nat) (x1 : Int) : Int → MO (Int ⊕ Int) := fun y1 =>
mo_b (op_g 3 (some x0) 5) fun t2 =>
mo_lt y1 t2 (
mo_b (mo_cv 3 (some x0) (fun b7 => X3_beginsBehind b7 y1)) fun t3 =>
mo_lt (x1 - t3) 0 (
mo_p (.inl (y1 + 1))) (
mo_b (mo_cv 3 (some x0) (fun b6 => X3_coming b6 y1)) fun t4 =>
mo_lt (x1 - t3) t4 (
mo_b (mo_cv 3 (some x0) (fun b5 => X3_comingLine b5 y1 (x1 - t3))) fun t5 =>
mo_p (.inr t5)) (
mo_p (.inl (y1 + 1))))) (
mo_p (.inr (-1)))
def X3_comingAt (x0 : Nat) (x1 : Int) : MO Int :=
mo_lp mo_N (X3_comingAt_L2 x0 x1) 0
def X0_addBrought_L3 (x0 : Option Nat) (x2 : Int) (x3 : Option Nat) : Int → MO (Int ⊕ Unit) := fun y1 =>
mo_lt y1 x2 (
mo_b (mo_cv 3 x0 (fun b3 => X3_comingAt b3 y1)) fun t2 =>
mo_b (mo_cv 3 x3 (fun b2 => X3_addComing b2 t2)) fun _ =>
mo_p (.inl (y1 + 1))) (
mo_p (.inr ()))
def X0_addBrought (x0 : Option Nat) (x1 : Int) (x2 : Int) (x3 : Option Nat) : MO Unit :=
mo_b (mo_lp mo_N (X0_addBrought_L3 x0 x2 x3) x1) fun _ =>
mo_p ()
def X3_addGoing (x0 : Nat) (x1 : Int) : MO Unit :=
mo_b (op_gr 3 (some x0) 1) fun t1 =>
mo_b (op_gr 3 (some x0) 3) fun t2 =>
mo_b (mo_cv 3 (some x0) (fun b2 => X3_addLine b2 t1 t2 x1)) fun _ =>
mo_p ()
def X3_going (x0 : Nat) (x1 : Int) : MO Int :=
mo_lt x1 0 (
mo_p 0) (
mo_b (op_g 3 (some x0) 5) fun t1 =>
mo_lt x1 t1 (
mo_b (op_gr 3 (some x0) 1) fun t2 =>
mo_b (op_al t2) fun t3 =>
mo_lt (x1 + 1) t3 (
mo_b (op_gr 3 (some x0) 1) fun t4 =>
mo_b (op_ld t4 (x1 + 1)) fun t5 =>
mo_b (op_gr 3 (some x0) 1) fun t6 =>
mo_b (op_ld t6 x1) fun t7 =>
mo_p (t5 - t7)) (
mo_p 0)) (
mo_p 0))
def X3_goingLine (x0 : Nat) (x1 : Int) (x2 : Int) : MO Int :=
mo_b (op_gr 3 (some x0) 1) fun t1 =>
mo_b (X3_start t1 x1) fun t2 =>
mo_lt x2 0 (
mo_p (-1)) (
mo_b (mo_cv 3 (some x0) (fun b7 => X3_going b7 x1)) fun t3 =>
mo_lt x2 t3 (
mo_b (op_gr 3 (some x0) 3) fun t4 =>
mo_b (op_al t4) fun t5 =>
mo_lt (t2 + x2) t5 (
mo_b (op_gr 3 (some x0) 3) fun t6 =>
mo_b (op_ld t6 (t2 + x2)) fun t7 =>
mo_p t7) (
mo_p (-1))) (
mo_p (-1)))
def X3_goingAt_L2 (x0 : Nat) (x1 : Int) : Int → MO (Int ⊕ Int) := fun y1 =>
mo_b (op_g 3 (some x0) 5) fun t2 =>
mo_lt y1 t2 (
mo_b (mo_cv 3 (some x0) (fun b7 => X3_begins b7 y1)) fun t3 =>
mo_lt (x1 - t3) 0 (
mo_p (.inl (y1 + 1))) (
mo_b (mo_cv 3 (some x0) (fun b6 => X3_going b6 y1)) fun t4 =>
mo_lt (x1 - t3) t4 (
mo_b (mo_cv 3 (some x0) (fun b5 => X3_goingLine b5 y1 (x1 - t3))) fun t5 =>
mo_p (.inr t5)) (
mo_p (.inl (y1 + 1))))) (
mo_p (.inr (-1)))
def X3_goingAt (x0 : Nat) (x1 : Int) : MO Int :=
mo_lp mo_N (X3_goingAt_L2 x0 x1) 0
def X0_addTaken_L3 (x0 : Option Nat) (x2 : Int) (x3 : Option Nat) : Int → MO (Int ⊕ Unit) := fun y1 =>
mo_lt y1 x2 (
mo_b (mo_cv 3 x0 (fun b3 => X3_goingAt b3 y1)) fun t2 =>
mo_b (mo_cv 3 x3 (fun b2 => X3_addGoing b2 t2)) fun _ =>
mo_p (.inl (y1 + 1))) (
mo_p (.inr ()))
def X0_addTaken (x0 : Option Nat) (x1 : Int) (x2 : Int) (x3 : Option Nat) : MO Unit :=
mo_b (mo_lp mo_N (X0_addTaken_L3 x0 x2 x3) x1) fun _ =>
mo_p ()
def X3_hunks (x0 : Nat) : MO Int :=
mo_b (op_g 3 (some x0) 5) fun t1 =>
mo_p t1
def X0_agree_L13 (x1 : Option Nat) (x2 : Option Nat) (y1 : Int) : Int → MO (Int ⊕ (Int ⊕ Int)) := fun y3 =>
mo_b (mo_cv 3 x1 (fun b10 => X3_coming b10 y1)) fun t4 =>
mo_lt y3 t4 (
mo_b (mo_cv 3 x1 (fun b9 => X3_beginsBehind b9 y1)) fun t5 =>
mo_b (mo_cv 3 x2 (fun b8 => X3_goingAt b8 (t5 + y3))) fun t6 =>
mo_eq t6 (-1) (
mo_p (.inl (y3 + 1))) (
mo_b (mo_cv 3 x1 (fun b7 => X3_comingLine b7 y1 y3)) fun t7 =>
mo_eq t6 t7 (
mo_p (.inl (y3 + 1))) (
mo_p (.inr (.inr 0))))) (
mo_p (.inr (.inl (y1 + 1))))
def X0_agree_L2 (x1 : Option Nat) (x2 : Option Nat) : Int → MO (Int ⊕ Int) := fun y1 =>
mo_b (mo_cv 3 x1 (fun b11 => X3_hunks b11)) fun t2 =>
mo_lt y1 t2 (
mo_lp mo_N (X0_agree_L13 x1 x2 y1) 0) (
mo_p (.inr 1))
def X0_agree (x0 : Nat) (x1 : Option Nat) (x2 : Option Nat) : MO Int :=
mo_lp mo_N (X0_agree_L2 x1 x2) 0
def X3_endsBehind (x0 : Nat) (x1 : Int) : MO Int :=
mo_b (mo_cv 3 (some x0) (fun b3 => X3_beginsBehind b3 x1)) fun t1 =>
mo_b (mo_cv 3 (some x0) (fun b2 => X3_coming b2 x1)) fun t2 =>
mo_p (t1 + t2)
def X3_ends (x0 : Nat) (x1 : Int) : MO Int :=
mo_b (mo_cv 3 (some x0) (fun b3 => X3_begins b3 x1)) fun t1 =>
mo_b (mo_cv 3 (some x0) (fun b2 => X3_going b2 x1)) fun t2 =>
mo_p (t1 + t2)
def X3_touches_L2 (x0 : Nat) (x1 : Int) (x2 : Int) : Int → MO (Int ⊕ Int) := fun y1 =>
mo_b (op_g 3 (some x0) 5) fun t2 =>
mo_lt y1 t2 (
mo_b (mo_cv 3 (some x0) (fun b5 => X3_begins b5 y1)) fun t3 =>
mo_le t3 x2 (
mo_b (mo_cv 3 (some x0) (fun b4 => X3_ends b4 y1)) fun t4 =>
mo_le x1 t4 (
mo_p (.inr 1)) (
mo_p (.inl (y1 + 1)))) (
mo_p (.inl (y1 + 1)))) (
mo_p (.inr 0))
def X3_touches (x0 : Nat) (x1 : Int) (x2 : Int) : MO Int :=
mo_lp mo_N (X3_touches_L2 x0 x1 x2) 0
def X0_anyTouch_L2 (x1 : Option Nat) (x2 : Option Nat) : Int → MO (Int ⊕ Int) := fun y1 =>
mo_b (mo_cv 3 x1 (fun b8 => X3_hunks b8)) fun t2 =>
mo_lt y1 t2 (
mo_b (mo_cv 3 x1 (fun b7 => X3_beginsBehind b7 y1)) fun t3 =>
mo_b (mo_cv 3 x1 (fun b6 => X3_endsBehind b6 y1)) fun t4 =>
mo_b (mo_cv 3 x2 (fun b5 => X3_touches b5 t3 t4)) fun t5 =>
mo_eq t5 0 (
mo_p (.inl (y1 + 1))) (
mo_p (.inr 1))) (
mo_p (.inr 0))
def X0_anyTouch (x0 : Nat) (x1 : Option Nat) (x2 : Option Nat) : MO Int :=
mo_lp mo_N (X0_anyTouch_L2 x1 x2) 0
def X0_gather_L109 (x0 : Nat) (x1 : Option Nat) (x2 : Option Nat) : Int → MO (Int ⊕ Unit) := fun y15 =>
mo_b (mo_cv 3 x1 (fun b44 => X3_hunks b44)) fun t16 =>
mo_b (mo_cv 3 x2 (fun b43 => X3_hunks b43)) fun t17 =>
mo_lt y15 (t16 + t17) (
mo_b (op_g 0 (some x0) 1) fun t18 =>
mo_b (mo_cv 3 x1 (fun b42 => X3_hunks b42)) fun t19 =>
mo_b (
mo_b (
mo_lt t18 t19 (
mo_b (op_g 0 (some x0) 1) fun t20 =>
mo_b (mo_cv 3 x1 (fun b22 => X3_beginsBehind b22 t20)) fun t21 =>
mo_b (op_g 0 (some x0) 5) fun t22 =>
mo_le t21 t22 (
mo_p true) (
mo_p false)) (
mo_p false)) fun c131 => cond c131 (
mo_b (op_g 0 (some x0) 5) fun t24 =>
mo_b (op_g 0 (some x0) 1) fun t25 =>
mo_b (mo_cv 3 x1 (fun b28 => X3_endsBehind b28 t25)) fun t26 =>
mo_b (op_mx t24 t26) fun t27 =>
mo_b (op_si 0 (some x0) 5 t27) fun _ =>
mo_b (op_g 0 (some x0) 1) fun t28 =>
mo_b (op_si 0 (some x0) 1 (t28 + 1)) fun _ =>
mo_p ()) (
mo_b (op_g 0 (some x0) 3) fun t30 =>
mo_b (mo_cv 3 x2 (fun b41 => X3_hunks b41)) fun t31 =>
mo_lt t30 t31 (
mo_b (op_g 0 (some x0) 3) fun t32 =>
mo_b (mo_cv 3 x2 (fun b40 => X3_begins b40 t32)) fun t33 =>
mo_b (op_g 0 (some x0) 5) fun t34 =>
mo_le t33 t34 (
mo_b (op_g 0 (some x0) 5) fun t35 =>
mo_b (op_g 0 (some x0) 3) fun t36 =>
mo_b (mo_cv 3 x2 (fun b39 => X3_ends b39 t36)) fun t37 =>
mo_b (op_mx t35 t37) fun t38 =>
mo_b (op_si 0 (some x0) 5 t38) fun _ =>
mo_b (op_g 0 (some x0) 3) fun t39 =>
mo_b (op_si 0 (some x0) 3 (t39 + 1)) fun _ =>
mo_p ()) (
mo_p ())) (
mo_p ()))) fun _ =>
mo_p (.inl (y15 + 1))) (
mo_p (.inr ()))
def X0_gather (x0 : Nat) (x1 : Option Nat) (x2 : Option Nat) : MO Unit :=
mo_b (op_g 0 (some x0) 1) fun t1 =>
mo_b (op_si 0 (some x0) 0 t1) fun _ =>
mo_b (op_g 0 (some x0) 3) fun t2 =>
mo_b (op_si 0 (some x0) 2 t2) fun _ =>
mo_b (op_g 0 (some x0) 0) fun t3 =>
mo_b (mo_cv 3 x1 (fun b48 => X3_hunks b48)) fun t4 =>
mo_b (
mo_lt t3 t4 (
mo_p 1) (
mo_p 0)) fun t5 =>
mo_b (op_g 0 (some x0) 2) fun t6 =>
mo_b (mo_cv 3 x2 (fun b47 => X3_hunks b47)) fun t7 =>
mo_b (
mo_lt t6 t7 (
mo_p 1) (
mo_p 0)) fun t8 =>
mo_b (op_g 0 (some x0) 0) fun t9 =>
mo_b (mo_cv 3 x1 (fun b46 => X3_beginsBehind b46 t9)) fun t10 =>
mo_b (op_g 0 (some x0) 2) fun t11 =>
mo_b (mo_cv 3 x2 (fun b45 => X3_begins b45 t11)) fun t12 =>
mo_b (
mo_eq t5 0 (
mo_p t12) (
mo_eq t8 0 (
mo_p t10) (
mo_le t10 t12 (
mo_p t10) (
mo_p t12)))) fun t13 =>
mo_b (op_si 0 (some x0) 4 t13) fun _ =>
mo_b (op_g 0 (some x0) 4) fun t14 =>
mo_b (op_si 0 (some x0) 5 t14) fun _ =>
mo_b (mo_lp mo_N (X0_gather_L109 x0 x1 x2) 0) fun _ =>
mo_p ()
def X0_init (x0 : Nat) : MO Unit :=
mo_p ()
def X3_addComingOf_L2 (x0 : Nat) (x1 : Option Nat) (x2 : Int) : Int → MO (Int ⊕ Unit) := fun y1 =>
mo_b (mo_cv 3 x1 (fun b5 => X3_coming b5 x2)) fun t2 =>
mo_lt y1 t2 (
mo_b (mo_cv 3 x1 (fun b4 => X3_comingLine b4 x2 y1)) fun t3 =>
mo_b (mo_cv 3 (some x0) (fun b3 => X3_addComing b3 t3)) fun _ =>
mo_p (.inl (y1 + 1))) (
mo_p (.inr ()))
def X3_addComingOf (x0 : Nat) (x1 : Option Nat) (x2 : Int) : MO Unit :=
mo_b (mo_lp mo_N (X3_addComingOf_L2 x0 x1 x2) 0) fun _ =>
mo_p ()
def X3_addGoingOf_L2 (x0 : Nat) (x1 : Option Nat) (x2 : Int) : Int → MO (Int ⊕ Unit) := fun y1 =>
mo_b (mo_cv 3 x1 (fun b5 => X3_going b5 x2)) fun t2 =>
mo_lt y1 t2 (
mo_b (mo_cv 3 x1 (fun b4 => X3_goingLine b4 x2 y1)) fun t3 =>
mo_b (mo_cv 3 (some x0) (fun b3 => X3_addGoing b3 t3)) fun _ =>
mo_p (.inl (y1 + 1))) (
mo_p (.inr ()))
def X3_addGoingOf (x0 : Nat) (x1 : Option Nat) (x2 : Int) : MO Unit :=
mo_b (mo_lp mo_N (X3_addGoingOf_L2 x0 x1 x2) 0) fun _ =>
mo_p ()
def X3_begin (x0 : Nat) (x1 : Int) : MO Unit :=
mo_b (op_g 3 (some x0) 5) fun t1 =>
mo_lt t1 0 (
mo_p ()) (
mo_b (op_g 3 (some x0) 5) fun t2 =>
mo_b (op_gr 3 (some x0) 0) fun t3 =>
mo_b (op_al t3) fun t4 =>
mo_lt t2 t4 (
mo_b (op_gr 3 (some x0) 0) fun t5 =>
mo_b (op_g 3 (some x0) 5) fun t6 =>
mo_b (op_st t5 t6 x1) fun _ =>
mo_b (op_gr 3 (some x0) 1) fun t7 =>
mo_b (op_g 3 (some x0) 5) fun t8 =>
mo_b (op_gr 3 (some x0) 1) fun t9 =>
mo_b (op_g 3 (some x0) 5) fun t10 =>
mo_b (op_ld t9 t10) fun t11 =>
mo_b (op_st t7 (t8 + 1) t11) fun _ =>
mo_b (op_gr 3 (some x0) 2) fun t12 =>
mo_b (op_g 3 (some x0) 5) fun t13 =>
mo_b (op_gr 3 (some x0) 2) fun t14 =>
mo_b (op_g 3 (some x0) 5) fun t15 =>
mo_b (op_ld t14 t15) fun t16 =>
mo_b (op_st t12 (t13 + 1) t16) fun _ =>
mo_b (op_g 3 (some x0) 5) fun t17 =>
mo_b (op_si 3 (some x0) 5 (t17 + 1)) fun _ =>
mo_p ()) (
mo_p ()))
def X3_addHunk (x0 : Nat) (x1 : Option Nat) (x2 : Int) (x3 : Int) : MO Unit :=
mo_b (mo_cv 3 (some x0) (fun b2 => X3_begin b2 x3)) fun _ =>
mo_b (mo_cv 3 (some x0) (fun b1 => X3_addGoingOf b1 x1 x2)) fun _ =>
mo_b (mo_cv 3 (some x0) (fun b0 => X3_addComingOf b0 x1 x2)) fun _ =>
mo_p ()
def X0_moveAhead_L18 (x1 : Option Nat) (x2 : Option Nat) (y1 : Int) : (Int × Int) → MO ((Int × Int) ⊕ Int) := fun (y3, y4) =>
mo_b (mo_cv 3 x1 (fun b10 => X3_hunks b10)) fun t5 =>
mo_lt y4 t5 (
mo_b (mo_cv 3 x1 (fun b9 => X3_beginsBehind b9 y4)) fun t6 =>
mo_b (mo_cv 3 x2 (fun b8 => X3_begins b8 y1)) fun t7 =>
mo_b (
mo_lt t6 t7 (
mo_p 1) (
mo_p 0)) fun t8 =>
mo_p (.inl ((y3 + t8), (y4 + 1)))) (
mo_p (.inr y3))
def X0_moveAhead_L3 (x1 : Option Nat) (x2 : Option Nat) (x3 : Option Nat) : Int → MO (Int ⊕ Unit) := fun y1 =>
mo_b (mo_cv 3 x2 (fun b17 => X3_hunks b17)) fun t2 =>
mo_lt y1 t2 (
mo_b (mo_lp mo_N (X0_moveAhead_L18 x1 x2 y1) (0, 0)) fun t12 =>
mo_b (mo_cv 3 x2 (fun b16 => X3_begins b16 y1)) fun t13 =>
mo_b (mo_cv 3 x1 (fun b15 => X3_shiftBefore b15 t12)) fun t14 =>
mo_b (mo_cv 3 x3 (fun b14 => X3_addHunk b14 x2 y1 (t13 - t14))) fun _ =>
mo_p (.inl (y1 + 1))) (
mo_p (.inr ()))
def X0_moveAhead (x0 : Nat) (x1 : Option Nat) (x2 : Option Nat) (x3 : Option Nat) : MO Unit :=
mo_b (mo_lp mo_N (X0_moveAhead_L3 x1 x2 x3) 0) fun _ =>
mo_p ()
def X0_moveBehind_L18 (x1 : Option Nat) (x2 : Option Nat) (y1 : Int) : (Int × Int) → MO ((Int × Int) ⊕ Int) := fun (y3, y4) =>
mo_b (mo_cv 3 x2 (fun b10 => X3_hunks b10)) fun t5 =>
mo_lt y4 t5 (
mo_b (mo_cv 3 x2 (fun b9 => X3_begins b9 y4)) fun t6 =>
mo_b (mo_cv 3 x1 (fun b8 => X3_beginsBehind b8 y1)) fun t7 =>
mo_b (
mo_lt t6 t7 (
mo_p 1) (
mo_p 0)) fun t8 =>
mo_p (.inl ((y3 + t8), (y4 + 1)))) (
mo_p (.inr y3))
def X0_moveBehind_L3 (x1 : Option Nat) (x2 : Option Nat) (x3 : Option Nat) : Int → MO (Int ⊕ Unit) := fun y1 =>
mo_b (mo_cv 3 x1 (fun b17 => X3_hunks b17)) fun t2 =>
mo_lt y1 t2 (
mo_b (mo_lp mo_N (X0_moveBehind_L18 x1 x2 y1) (0, 0)) fun t12 =>
mo_b (mo_cv 3 x1 (fun b16 => X3_begins b16 y1)) fun t13 =>
mo_b (mo_cv 3 x2 (fun b15 => X3_shiftBefore b15 t12)) fun t14 =>
mo_b (mo_cv 3 x3 (fun b14 => X3_addHunk b14 x1 y1 (t13 + t14))) fun _ =>
mo_p (.inl (y1 + 1))) (
mo_p (.inr ()))
def X0_moveBehind (x0 : Nat) (x1 : Option Nat) (x2 : Option Nat) (x3 : Option Nat) : MO Unit :=
mo_b (mo_lp mo_N (X0_moveBehind_L3 x1 x2 x3) 0) fun _ =>
mo_p ()
def X0_writeComing_L12 (x0 : Nat) (x1 : Option Nat) (x2 : Option Nat) (x3 : Option Nat) : (Int × Int) → MO ((Int × Int) ⊕ Int) := fun (y3, y4) =>
mo_b (op_g 0 (some x0) 3) fun t5 =>
mo_lt y4 t5 (
mo_b (mo_cv 3 x2 (fun b10 => X3_begins b10 y4)) fun t6 =>
mo_b (X0_addBrought x1 y3 t6 x3) fun _ =>
mo_b (mo_cv 3 x3 (fun b8 => X3_addComingOf b8 x2 y4)) fun _ =>
mo_b (mo_cv 3 x2 (fun b7 => X3_ends b7 y4)) fun t7 =>
mo_p (.inl (t7, (y4 + 1)))) (
mo_p (.inr y3))
def X0_writeComing (x0 : Nat) (x1 : Option Nat) (x2 : Option Nat) (x3 : Option Nat) : MO Unit :=
mo_b (op_g 0 (some x0) 4) fun t1 =>
mo_b (op_g 0 (some x0) 2) fun t2 =>
mo_b (mo_lp mo_N (X0_writeComing_L12 x0 x1 x2 x3) (t1, t2)) fun t12 =>
mo_b (op_g 0 (some x0) 5) fun t13 =>
mo_b (X0_addBrought x1 t12 t13 x3) fun _ =>
mo_p ()
def X0_writeGoing_L12 (x0 : Nat) (x1 : Option Nat) (x2 : Option Nat) (x3 : Option Nat) : (Int × Int) → MO ((Int × Int) ⊕ Int) := fun (y3, y4) =>
mo_b (op_g 0 (some x0) 1) fun t5 =>
mo_lt y4 t5 (
mo_b (mo_cv 3 x1 (fun b10 => X3_beginsBehind b10 y4)) fun t6 =>
mo_b (X0_addTaken x2 y3 t6 x3) fun _ =>
mo_b (mo_cv 3 x3 (fun b8 => X3_addGoingOf b8 x1 y4)) fun _ =>
mo_b (mo_cv 3 x1 (fun b7 => X3_endsBehind b7 y4)) fun t7 =>
mo_p (.inl (t7, (y4 + 1)))) (
mo_p (.inr y3))
def X0_writeGoing (x0 : Nat) (x1 : Option Nat) (x2 : Option Nat) (x3 : Option Nat) : MO Unit :=
mo_b (op_g 0 (some x0) 4) fun t1 =>
mo_b (op_g 0 (some x0) 0) fun t2 =>
mo_b (mo_lp mo_N (X0_writeGoing_L12 x0 x1 x2 x3) (t1, t2)) fun t12 =>
mo_b (op_g 0 (some x0) 5) fun t13 =>
mo_b (X0_addTaken x2 t12 t13 x3) fun _ =>
mo_p ()
def X3_clear (x0 : Nat) : MO Unit :=
mo_b (op_si 3 (some x0) 5 0) fun _ =>
mo_p ()
def X3_lastIsIdle_L28 (t1 : Int) (x0 : Nat) : (Int × Int) → MO ((Int × Int) ⊕ Int) := fun (y5, y6) =>
mo_b (mo_cv 3 (some x0) (fun b12 => X3_going b12 (t1 - 1))) fun t7 =>
mo_lt y6 t7 (
mo_b (
mo_eq y5 0 (
mo_p 0) (
mo_b (mo_cv 3 (some x0) (fun b10 => X3_goingLine b10 (t1 - 1) y6)) fun t8 =>
mo_b (mo_cv 3 (some x0) (fun b9 => X3_comingLine b9 (t1 - 1) y6)) fun t9 =>
mo_eq t8 t9 (
mo_p 1) (
mo_p 0))) fun t12 =>
mo_p (.inl (t12, (y6 + 1)))) (
mo_p (.inr y5))
def X3_lastIsIdle (x0 : Nat) : MO Int :=
mo_b (op_g 3 (some x0) 5) fun t1 =>
mo_b (mo_cv 3 (some x0) (fun b16 => X3_going b16 (t1 - 1))) fun t2 =>
mo_b (mo_cv 3 (some x0) (fun b15 => X3_coming b15 (t1 - 1))) fun t3 =>
mo_b (
mo_eq t2 t3 (
mo_p 1) (
mo_p 0)) fun t4 =>
mo_b (mo_lp mo_N (X3_lastIsIdle_L28 t1 x0) (t4, 0)) fun t14 =>
mo_b (op_z t14) fun t15 => mo_p t15
def X3_leaveOutLast (x0 : Nat) : MO Unit :=
mo_b (op_g 3 (some x0) 5) fun t1 =>
mo_b (op_mx (t1 - 1) 0) fun t2 =>
mo_b (op_si 3 (some x0) 5 t2) fun _ =>
mo_p ()
def X0_putTogether_L17 (x0 : Nat) (x1 : Option Nat) (x2 : Option Nat) (x3 : Option Nat) : Int → MO (Int ⊕ Unit) := fun y1 =>
mo_b (mo_cv 3 x1 (fun b32 => X3_hunks b32)) fun t2 =>
mo_b (mo_cv 3 x2 (fun b31 => X3_hunks b31)) fun t3 =>
mo_lt y1 (t2 + t3) (
mo_b (op_g 0 (some x0) 1) fun t4 =>
mo_b (mo_cv 3 x1 (fun b30 => X3_hunks b30)) fun t5 =>
mo_b (
mo_lt t4 t5 (
mo_b (mo_cv 0 (some x0) (fun b15 => X0_gather b15 x1 x2)) fun _ =>
mo_b (op_g 0 (some x0) 4) fun t6 =>
mo_b (op_g 0 (some x0) 0) fun t7 =>
mo_b (mo_cv 3 x1 (fun b14 => X3_shiftBefore b14 t7)) fun t8 =>
mo_b (mo_cv 3 x3 (fun b13 => X3_begin b13 (t6 - t8))) fun _ =>
mo_b (mo_cv 0 (some x0) (fun b12 => X0_writeGoing b12 x1 x2 x3)) fun _ =>
mo_b (mo_cv 0 (some x0) (fun b11 => X0_writeComing b11 x1 x2 x3)) fun _ =>
mo_b (mo_cv 3 x3 (fun b10 => X3_lastIsIdle b10)) fun t9 =>
mo_eq t9 0 (
mo_p ()) (
mo_b (mo_cv 3 x3 (fun b9 => X3_leaveOutLast b9)) fun _ =>
mo_p ())) (
mo_b (op_g 0 (some x0) 3) fun t17 =>
mo_b (mo_cv 3 x2 (fun b29 => X3_hunks b29)) fun t18 =>
mo_lt t17 t18 (
mo_b (mo_cv 0 (some x0) (fun b28 => X0_gather b28 x1 x2)) fun _ =>
mo_b (op_g 0 (some x0) 4) fun t19 =>
mo_b (op_g 0 (some x0) 0) fun t20 =>
mo_b (mo_cv 3 x1 (fun b27 => X3_shiftBefore b27 t20)) fun t21 =>
mo_b (mo_cv 3 x3 (fun b26 => X3_begin b26 (t19 - t21))) fun _ =>
mo_b (mo_cv 0 (some x0) (fun b25 => X0_writeGoing b25 x1 x2 x3)) fun _ =>
mo_b (mo_cv 0 (some x0) (fun b24 => X0_writeComing b24 x1 x2 x3)) fun _ =>
mo_b (mo_cv 3 x3 (fun b23 => X3_lastIsIdle b23)) fun t22 =>
mo_eq t22 0 (
mo_p ()) (
mo_b (mo_cv 3 x3 (fun b22 => X3_leaveOutLast b22)) fun _ =>
mo_p ())) (
mo_p ()))) fun _ =>
mo_p (.inl (y1 + 1))) (
mo_p (.inr ()))
def X0_putTogether (x0 : Nat) (x1 : Option Nat) (x2 : Option Nat) (x3 : Option Nat) : MO Unit :=
mo_b (mo_cv 3 x3 (fun b33 => X3_clear b33)) fun _ =>
mo_b (op_si 0 (some x0) 1 0) fun _ =>
mo_b (op_si 0 (some x0) 3 0) fun _ =>
mo_b (mo_lp mo_N (X0_putTogether_L17 x0 x1 x2 x3) 0) fun _ =>
mo_p ()
def X1_mostFrom (x0 : Nat) (x1 : Int) (x2 : Int) : MO Int :=
mo_lt ((x1 * 15) + x2) 0 (
mo_p 0) (
mo_b (op_gr 1 (some x0) 0) fun t1 =>
mo_b (op_al t1) fun t2 =>
mo_lt ((x1 * 15) + x2) t2 (
mo_b (op_gr 1 (some x0) 0) fun t3 =>
mo_b (op_ld t3 ((x1 * 15) + x2)) fun t4 =>
mo_p t4) (
mo_p 0))
def X4_at (x0 : Nat) (x1 : Int) : MO Int :=
mo_lt x1 0 (
mo_p (-1)) (
mo_b (op_g 4 (some x0) 1) fun t1 =>
mo_lt x1 t1 (
mo_b (op_gr 4 (some x0) 0) fun t2 =>
mo_b (op_al t2) fun t3 =>
mo_lt x1 t3 (
mo_b (op_gr 4 (some x0) 0) fun t4 =>
mo_b (op_ld t4 x1) fun t5 =>
mo_p t5) (
mo_p (-1))) (
mo_p (-1)))
def X4_size (x0 : Nat) : MO Int :=
mo_b (op_g 4 (some x0) 1) fun t1 =>
mo_p t1
def X1_reckonMost (x0 : Nat) (x1 : Option Nat) (x2 : Int) (x3 : Option Nat) (x4 : Int) : MO Int :=
mo_b (mo_cv 4 x1 (fun b14 => X4_size b14)) fun t1 =>
mo_lt x2 t1 (
mo_b (mo_cv 4 x3 (fun b13 => X4_size b13)) fun t2 =>
mo_lt x4 t2 (
mo_b (mo_cv 4 x1 (fun b12 => X4_at b12 x2)) fun t3 =>
mo_b (mo_cv 4 x3 (fun b11 => X4_at b11 x4)) fun t4 =>
mo_eq t3 t4 (
mo_b (mo_cv 1 (some x0) (fun b10 => X1_mostFrom b10 (x2 + 1) (x4 + 1))) fun t10 =>
mo_p (t10 + 1)) (
mo_b (mo_cv 1 (some x0) (fun b8 => X1_mostFrom b8 (x2 + 1) x4)) fun t5 =>
mo_b (mo_cv 1 (some x0) (fun b7 => X1_mostFrom b7 x2 (x4 + 1))) fun t6 =>
mo_b (op_mx t5 t6) fun t7 =>
mo_p t7)) (
mo_p 0)) (
mo_p 0)
def X1_setMost (x0 : Nat) (x1 : Int) (x2 : Int) (x3 : Int) : MO Unit :=
mo_lt ((x1 * 15) + x2) 0 (
mo_p ()) (
mo_b (op_gr 1 (some x0) 0) fun t1 =>
mo_b (op_al t1) fun t2 =>
mo_lt ((x1 * 15) + x2) t2 (
mo_b (op_gr 1 (some x0) 0) fun t3 =>
mo_b (op_st t3 ((x1 * 15) + x2) x3) fun _ =>
mo_p ()) (
mo_p ()))
def X1_setMate (x0 : Nat) (x1 : Int) (x2 : Int) : MO Unit :=
mo_lt x1 0 (
mo_p ()) (
mo_b (op_gr 1 (some x0) 1) fun t1 =>
mo_b (op_al t1) fun t2 =>
mo_lt x1 t2 (
mo_b (op_gr 1 (some x0) 1) fun t3 =>
mo_b (op_st t3 x1 x2) fun _ =>
mo_p ()) (
mo_p ()))
def X1_trace_L8 (x0 : Nat) (x1 : Option Nat) (x2 : Option Nat) : (Int × Int × Int) → MO ((Int × Int × Int) ⊕ Unit) := fun (y1, y2, y3) =>
mo_lt y3 28 (
mo_b (mo_cv 4 x1 (fun b20 => X4_size b20)) fun t4 =>
mo_lt y1 t4 (
mo_b (mo_cv 4 x2 (fun b19 => X4_size b19)) fun t5 =>
mo_b (
mo_lt y2 t5 (
mo_p 1) (
mo_p 0)) fun t6 =>
mo_b (
mo_b (
mo_eq t6 0 (
mo_p false) (
mo_b (mo_cv 4 x1 (fun b9 => X4_at b9 y1)) fun t7 =>
mo_b (mo_cv 4 x2 (fun b8 => X4_at b8 y2)) fun t8 =>
mo_eq t7 t8 (
mo_p true) (
mo_p false))) fun c41 => cond c41 (
mo_b (mo_cv 1 (some x0) (fun b10 => X1_setMate b10 y1 y2)) fun _ =>
mo_p ((y1 + 1), (y2 + 1))) (
mo_eq t6 0 (
mo_b (mo_cv 1 (some x0) (fun b11 => X1_setMate b11 y1 (-1))) fun _ =>
mo_p ((y1 + 1), y2)) (
mo_b (mo_cv 1 (some x0) (fun b16 => X1_mostFrom b16 (y1 + 1) y2)) fun t13 =>
mo_b (mo_cv 1 (some x0) (fun b15 => X1_mostFrom b15 y1 y2)) fun t14 =>
mo_eq t13 t14 (
mo_b (mo_cv 1 (some x0) (fun b14 => X1_setMate b14 y1 (-1))) fun _ =>
mo_p ((y1 + 1), y2)) (
mo_p (y1, (y2 + 1)))))) fun (t18, t19) =>
mo_p (.inl (t18, t19, (y3 + 1)))) (
mo_p (.inr ()))) (
mo_p (.inr ()))
def X1_trace (x0 : Nat) (x1 : Option Nat) (x2 : Option Nat) : MO Unit :=
mo_b (mo_lp mo_N (X1_trace_L8 x0 x1 x2) (0, 0, 0)) fun _ =>
mo_p ()
def X1_find_L15 (x0 : Nat) (x1 : Option Nat) (x2 : Option Nat) (y2 : Int) : Int → MO (Int ⊕ Unit) := fun y4 =>
mo_lt y4 0 (
mo_p (.inr ())) (
mo_b (mo_cv 1 (some x0) (fun b6 => X1_reckonMost b6 x1 y2 x2 y4)) fun t5 =>
mo_b (mo_cv 1 (some x0) (fun b5 => X1_setMost b5 y2 y4 t5)) fun _ =>
mo_p (.inl (y4 + (-1))))
def X1_find_L5 (x0 : Nat) (x1 : Option Nat) (x2 : Option Nat) : Int → MO (Int ⊕ Unit) := fun y2 =>
mo_lt y2 0 (
mo_p (.inr ())) (
mo_b (mo_cv 4 x2 (fun b7 => X4_size b7)) fun t3 =>
mo_b (mo_lp mo_N (X1_find_L15 x0 x1 x2 y2) t3) fun _ =>
mo_p (.inl (y2 + (-1))))
def X1_find (x0 : Nat) (x1 : Option Nat) (x2 : Option Nat) : MO Unit :=
mo_b (mo_cv 4 x1 (fun b9 => X4_size b9)) fun t1 =>
mo_b (mo_lp mo_N (X1_find_L5 x0 x1 x2) t1) fun _ =>
mo_b (mo_cv 1 (some x0) (fun b8 => X1_trace b8 x1 x2)) fun _ =>
mo_p ()
def X1_init (x0 : Nat) : MO Unit :=
mo_b (op_ni 225 225) fun t1 =>
mo_b (op_sr 1 (some x0) 0 t1) fun _ =>
mo_b (op_ni 14 14) fun t2 =>
mo_b (op_sr 1 (some x0) 1 t2) fun _ =>
mo_p ()
def X1_mate (x0 : Nat) (x1 : Int) : MO Int :=
mo_lt x1 0 (
mo_p (-1)) (
mo_b (op_gr 1 (some x0) 1) fun t1 =>
mo_b (op_al t1) fun t2 =>
mo_lt x1 t2 (
mo_b (op_gr 1 (some x0) 1) fun t3 =>
mo_b (op_ld t3 x1) fun t4 =>
mo_p t4) (
mo_p (-1)))
def X3_addComingPart_L3 (x0 : Nat) (x1 : Option Nat) (x3 : Int) : Int → MO (Int ⊕ Unit) := fun y1 =>
mo_lt y1 x3 (
mo_b (mo_cv 4 x1 (fun b3 => X4_at b3 y1)) fun t2 =>
mo_b (mo_cv 3 (some x0) (fun b2 => X3_addComing b2 t2)) fun _ =>
mo_p (.inl (y1 + 1))) (
mo_p (.inr ()))
def X3_addComingPart (x0 : Nat) (x1 : Option Nat) (x2 : Int) (x3 : Int) : MO Unit :=
mo_b (mo_lp mo_N (X3_addComingPart_L3 x0 x1 x3) x2) fun _ =>
mo_p ()
def X3_addGoingPart_L3 (x0 : Nat) (x1 : Option Nat) (x3 : Int) : Int → MO (Int ⊕ Unit) := fun y1 =>
mo_lt y1 x3 (
mo_b (mo_cv 4 x1 (fun b3 => X4_at b3 y1)) fun t2 =>
mo_b (mo_cv 3 (some x0) (fun b2 => X3_addGoing b2 t2)) fun _ =>
mo_p (.inl (y1 + 1))) (
mo_p (.inr ()))
def X3_addGoingPart (x0 : Nat) (x1 : Option Nat) (x2 : Int) (x3 : Int) : MO Unit :=
mo_b (mo_lp mo_N (X3_addGoingPart_L3 x0 x1 x3) x2) fun _ =>
mo_p ()
def X1_writeHunks_L13 (x0 : Nat) (x1 : Option Nat) (x2 : Option Nat) (x3 : Option Nat) : (Int × Int × Int) → MO ((Int × Int × Int) ⊕ Unit) := fun (y1, y2, y3) =>
mo_b (mo_cv 4 x1 (fun b16 => X4_size b16)) fun t4 =>
mo_le y3 t4 (
mo_b (mo_cv 4 x1 (fun b15 => X4_size b15)) fun t5 =>
mo_b (
mo_lt y3 t5 (
mo_b (mo_cv 1 (some x0) (fun b8 => X1_mate b8 y3)) fun t8 =>
mo_p t8) (
mo_b (mo_cv 4 x2 (fun b6 => X4_size b6)) fun t6 =>
mo_p t6)) fun t10 =>
mo_b (
mo_eq t10 (-1) (
mo_p (y1, y2)) (
mo_b (
mo_b (
mo_lt y1 y3 (
mo_p true) (
mo_lt y2 t10 (
mo_p true) (
mo_p false))) fun c59 => cond c59 (
mo_b (mo_cv 3 x3 (fun b12 => X3_begin b12 y1)) fun _ =>
mo_b (mo_cv 3 x3 (fun b11 => X3_addGoingPart b11 x1 y1 y3)) fun _ =>
mo_b (mo_cv 3 x3 (fun b10 => X3_addComingPart b10 x2 y2 t10)) fun _ =>
mo_p ()) (
mo_p ())) fun _ =>
mo_p ((y3 + 1), (t10 + 1)))) fun (t14, t15) =>
mo_p (.inl (t14, t15, (y3 + 1)))) (
mo_p (.inr ()))
def X1_writeHunks (x0 : Nat) (x1 : Option Nat) (x2 : Option Nat) (x3 : Option Nat) : MO Unit :=
mo_b (mo_cv 3 x3 (fun b17 => X3_clear b17)) fun _ =>
mo_b (mo_lp mo_N (X1_writeHunks_L13 x0 x1 x2 x3) (0, 0, 0)) fun _ =>
mo_p ()
def X2_pieceRoom (x0 : Nat) (x1 : Int) (x2 : Int) : MO Int :=
mo_lt x1 0 (
mo_p 0) (
mo_lt x1 6 (
mo_lt x2 0 (
mo_b (op_gr 2 (some x0) 2) fun t1 =>
mo_b (op_ld t1 x1) fun t2 =>
mo_p t2) (
mo_lt x2 6 (
mo_b (op_gr 2 (some x0) 3) fun t5 =>
mo_b (op_ld t5 ((x2 * 6) + x1)) fun t6 =>
mo_p t6) (
mo_b (op_gr 2 (some x0) 2) fun t3 =>
mo_b (op_ld t3 x1) fun t4 =>
mo_p t4))) (
mo_p 0))
def X2_bestPieceRoom (x0 : Nat) (x1 : Int) : MO Int :=
mo_lt x1 0 (
mo_p 0) (
mo_lt x1 6 (
mo_b (op_gr 2 (some x0) 8) fun t1 =>
mo_b (op_ld t1 x1) fun t2 =>
mo_b (mo_cv 2 (some x0) (fun b3 => X2_pieceRoom b3 x1 t2)) fun t3 =>
mo_p t3) (
mo_p 0))
def X2_isRemadeBy_L5 (x0 : Nat) (x2 : Int) : (Int × Int) → MO ((Int × Int) ⊕ Int) := fun (y1, y2) =>
mo_b (op_g 2 (some x0) 0) fun t3 =>
mo_lt y2 t3 (
mo_lt y1 0 (
mo_p (.inr 0)) (
mo_lt y1 6 (
mo_eq y1 x2 (
mo_p (.inr 1)) (
mo_b (op_gr 2 (some x0) 8) fun t4 =>
mo_b (op_ld t4 y1) fun t5 =>
mo_p (.inl (t5, (y2 + 1))))) (
mo_p (.inr 0)))) (
mo_p (.inr 0))
def X2_isRemadeBy (x0 : Nat) (x1 : Int) (x2 : Int) : MO Int :=
mo_lp mo_N (X2_isRemadeBy_L5 x0 x2) (x1, 0)
def X2_lostWith_L4 (x0 : Nat) (x1 : Int) : (Int × Int) → MO ((Int × Int) ⊕ Int) := fun (y1, y2) =>
mo_b (op_g 2 (some x0) 0) fun t3 =>
mo_lt y2 t3 (
mo_b (mo_cv 2 (some x0) (fun b7 => X2_isRemadeBy b7 y2 x1)) fun t4 =>
mo_b (
mo_eq t4 0 (
mo_p 0) (
mo_b (op_gr 2 (some x0) 4) fun t5 =>
mo_b (op_ld t5 y2) fun t6 =>
mo_p t6)) fun t7 =>
mo_p (.inl ((y1 + t7), (y2 + 1)))) (
mo_p (.inr y1))
def X2_lostWith (x0 : Nat) (x1 : Int) : MO Int :=
mo_b (mo_lp mo_N (X2_lostWith_L4 x0 x1) (0, 0)) fun t9 =>
mo_p t9
def X2_worstPiece_L4 (x0 : Nat) (x1 : Int) : (Int × Int) → MO ((Int × Int) ⊕ Int) := fun (y1, y2) =>
mo_b (op_g 2 (some x0) 9) fun t3 =>
mo_eq t3 0 (
mo_p (.inr y1)) (
mo_b (op_g 2 (some x0) 0) fun t4 =>
mo_lt y2 t4 (
mo_b (
mo_eq y2 x1 (
mo_p y1) (
mo_eq y1 (-1) (
mo_p y2) (
mo_b (mo_cv 2 (some x0) (fun b7 => X2_lostWith b7 y2)) fun t5 =>
mo_b (mo_cv 2 (some x0) (fun b6 => X2_lostWith b6 y1)) fun t6 =>
mo_le t5 t6 (
mo_p y1) (
mo_p y2)))) fun t9 =>
mo_p (.inl (t9, (y2 + 1)))) (
mo_p (.inr y1)))
def X2_worstPiece (x0 : Nat) (x1 : Int) : MO Int :=
mo_b (mo_lp mo_N (X2_worstPiece_L4 x0 x1) ((-1), 0)) fun t10 =>
mo_p t10
def X2_worstLossBut (x0 : Nat) (x1 : Int) : MO Int :=
mo_b (mo_cv 2 (some x0) (fun b3 => X2_worstPiece b3 x1)) fun t1 =>
mo_eq t1 (-1) (
mo_p 0) (
mo_b (mo_cv 2 (some x0) (fun b2 => X2_lostWith b2 t1)) fun t2 =>
mo_p t2)
def X2_isBetterCopy (x0 : Nat) (x1 : Int) (x2 : Int) : MO Int :=
mo_b (mo_cv 2 (some x0) (fun b7 => X2_worstLossBut b7 x1)) fun t1 =>
mo_b (mo_cv 2 (some x0) (fun b6 => X2_worstLossBut b6 x2)) fun t2 =>
mo_lt t1 t2 (
mo_p 1) (
mo_eq t1 t2 (
mo_b (mo_cv 2 (some x0) (fun b5 => X2_bestPieceRoom b5 x1)) fun t3 =>
mo_b (mo_cv 2 (some x0) (fun b4 => X2_bestPieceRoom b4 x2)) fun t4 =>
mo_lt t3 t4 (
mo_p 1) (
mo_p 0)) (
mo_p 0))
def X2_bestCopy_L4 (x0 : Nat) (x1 : Int) : (Int × Int) → MO ((Int × Int) ⊕ Int) := fun (y1, y2) =>
mo_b (op_g 2 (some x0) 9) fun t3 =>
mo_eq t3 0 (
mo_p (.inr y1)) (
mo_b (op_g 2 (some x0) 0) fun t4 =>
mo_lt y2 t4 (
mo_b (mo_cv 2 (some x0) (fun b8 => X2_bestPieceRoom b8 y2)) fun t5 =>
mo_b (
mo_le t5 x1 (
mo_eq y1 (-1) (
mo_p y2) (
mo_b (mo_cv 2 (some x0) (fun b6 => X2_isBetterCopy b6 y2 y1)) fun t6 =>
mo_eq t6 0 (
mo_p y1) (
mo_p y2))) (
mo_p y1)) fun t8 =>
mo_p (.inl (t8, (y2 + 1)))) (
mo_p (.inr y1)))
def X2_bestCopy (x0 : Nat) (x1 : Int) : MO Int :=
mo_b (mo_lp mo_N (X2_bestCopy_L4 x0 x1) ((-1), 0)) fun t10 =>
mo_p t10
def X2_clear (x0 : Nat) (x1 : Int) (x2 : Int) : MO Unit :=
mo_b (op_mn x1 6) fun t1 =>
mo_b (op_mx 0 t1) fun t2 =>
mo_b (op_si 2 (some x0) 0 t2) fun _ =>
mo_b (op_si 2 (some x0) 1 x2) fun _ =>
mo_b (op_sz 2 (some x0) 9 0) fun _ =>
mo_b (op_si 2 (some x0) 10 0) fun _ =>
mo_b (op_si 2 (some x0) 11 0) fun _ =>
mo_p ()
def X2_reckonLeastFrom_L40 (x0 : Nat) (y6 : Int) : (Int × Int) → MO ((Int × Int) ⊕ Int) := fun (y9, y10) =>
mo_b (op_g 2 (some x0) 0) fun t11 =>
mo_lt y10 t11 (
mo_b (
mo_eq y10 y6 (
mo_p y9) (
mo_b (mo_cv 2 (some x0) (fun b13 => X2_pieceRoom b13 y6 y10)) fun t12 =>
mo_b (op_mn y9 t12) fun t13 =>
mo_p t13)) fun t15 =>
mo_p (.inl (t15, (y10 + 1)))) (
mo_p (.inr y9))
def X2_reckonLeastFrom_L27 (x0 : Nat) : Int → MO (Int ⊕ Unit) := fun y6 =>
mo_lt y6 0 (
mo_p (.inr ())) (
mo_b (op_gr 2 (some x0) 2) fun t7 =>
mo_b (op_ld t7 y6) fun t8 =>
mo_b (mo_lp mo_N (X2_reckonLeastFrom_L40 x0 y6) (t8, 0)) fun t16 =>
mo_b (op_gr 2 (some x0) 5) fun t17 =>
mo_b (op_gr 2 (some x0) 5) fun t18 =>
mo_b (op_ld t18 (y6 + 1)) fun t19 =>
mo_b (op_st t17 y6 (t19 + t16)) fun _ =>
mo_b (op_gr 2 (some x0) 6) fun t20 =>
mo_b (op_gr 2 (some x0) 6) fun t21 =>
mo_b (op_ld t21 (y6 + 1)) fun t22 =>
mo_b (op_gr 2 (some x0) 4) fun t23 =>
mo_b (op_ld t23 y6) fun t24 =>
mo_b (op_gr 2 (some x0) 2) fun t25 =>
mo_b (op_ld t25 y6) fun t26 =>
mo_b (op_st t20 y6 (t22 + (t24 * t26))) fun _ =>
mo_p (.inl (y6 + (-1))))
def X2_reckonLeastFrom (x0 : Nat) : MO Unit :=
mo_b (op_gr 2 (some x0) 5) fun t1 =>
mo_b (op_g 2 (some x0) 0) fun t2 =>
mo_b (op_st t1 t2 0) fun _ =>
mo_b (op_gr 2 (some x0) 6) fun t3 =>
mo_b (op_g 2 (some x0) 0) fun t4 =>
mo_b (op_st t3 t4 0) fun _ =>
mo_b (op_g 2 (some x0) 0) fun t5 =>
mo_b (mo_lp mo_N (X2_reckonLeastFrom_L27 x0) (t5 - 1)) fun _ =>
mo_p ()
def X2_isLess (x0 : Nat) (x1 : Int) (x2 : Int) : MO Int :=
mo_b (op_g 2 (some x0) 9) fun t1 =>
mo_eq t1 0 (
mo_p 1) (
mo_b (op_g 2 (some x0) 10) fun t2 =>
mo_lt x1 t2 (
mo_p 1) (
mo_b (op_g 2 (some x0) 10) fun t3 =>
mo_eq x1 t3 (
mo_b (op_g 2 (some x0) 11) fun t4 =>
mo_lt x2 t4 (
mo_p 1) (
mo_p 0)) (
mo_p 0)))
def X2_leadsTo_L5 (x0 : Nat) (x2 : Int) : (Int × Int) → MO ((Int × Int) ⊕ Int) := fun (y1, y2) =>
mo_b (op_g 2 (some x0) 0) fun t3 =>
mo_lt y2 t3 (
mo_lt y1 0 (
mo_p (.inr y1)) (
mo_lt y1 x2 (
mo_lt y1 6 (
mo_b (op_gr 2 (some x0) 7) fun t4 =>
mo_b (op_ld t4 y1) fun t5 =>
mo_p (.inl (t5, (y2 + 1)))) (
mo_p (.inr y1))) (
mo_p (.inr y1)))) (
mo_p (.inr y1))
def X2_leadsTo (x0 : Nat) (x1 : Int) (x2 : Int) : MO Int :=
mo_b (mo_lp mo_N (X2_leadsTo_L5 x0 x2) (x1, 0)) fun t6 =>
mo_eq t6 x2 (
mo_p 1) (
mo_p 0)
def X2_remadeAtLeast (x0 : Nat) (x1 : Int) (x2 : Int) : MO Int :=
mo_b (
mo_lt x2 0 (
mo_p 0) (
mo_lt x2 6 (
mo_p 1) (
mo_p 0))) fun t1 =>
mo_b (mo_cv 2 (some x0) (fun b5 => X2_pieceRoom b5 x1 x2)) fun t2 =>
mo_b (
mo_eq t1 0 (
mo_p 0) (
mo_b (op_gr 2 (some x0) 2) fun t3 =>
mo_b (op_ld t3 x2) fun t4 =>
mo_p t4)) fun t5 =>
mo_p (t2 + t5)
def X2_remadeBy_L8 (x0 : Nat) (x1 : Option Nat) : (Int × Int × Int) → MO ((Int × Int × Int) ⊕ Int) := fun (y1, y2, y3) =>
mo_b (op_g 2 (some x0) 0) fun t4 =>
mo_lt y3 t4 (
mo_lt y2 0 (
mo_p (.inr y1)) (
mo_b (op_al x1) fun t5 =>
mo_lt y2 t5 (
mo_b (op_ld x1 y2) fun t6 =>
mo_b (mo_cv 2 (some x0) (fun b8 => X2_pieceRoom b8 y2 t6)) fun t7 =>
mo_b (op_ld x1 y2) fun t8 =>
mo_p (.inl ((y1 + t7), t8, (y3 + 1)))) (
mo_p (.inr y1)))) (
mo_p (.inr y1))
def X2_remadeBy (x0 : Nat) (x1 : Option Nat) (x2 : Int) : MO Int :=
mo_b (mo_lp mo_N (X2_remadeBy_L8 x0 x1) (0, x2, 0)) fun t10 =>
mo_p t10
def X2_takeIfLess_L78 (x0 : Nat) : Int → MO (Int ⊕ Unit) := fun y5 =>
mo_b (op_g 2 (some x0) 0) fun t6 =>
mo_lt y5 t6 (
mo_b (op_gr 2 (some x0) 8) fun t7 =>
mo_b (op_gr 2 (some x0) 7) fun t8 =>
mo_b (op_ld t8 y5) fun t9 =>
mo_b (op_st t7 y5 t9) fun _ =>
mo_p (.inl (y5 + 1))) (
mo_p (.inr ()))
def X2_takeIfLess_L4 (x0 : Nat) (x1 : Int) : (Int × Int) → MO ((Int × Int) ⊕ Unit) := fun (y1, y2) =>
mo_b (op_g 2 (some x0) 0) fun t3 =>
mo_lt y2 t3 (
mo_b (op_gr 2 (some x0) 7) fun t11 =>
mo_b (mo_cv 2 (some x0) (fun b15 => X2_remadeBy b15 t11 y2)) fun t12 =>
mo_b (op_g 2 (some x0) 1) fun t13 =>
mo_le t12 t13 (
mo_b (op_gr 2 (some x0) 4) fun t14 =>
mo_b (op_ld t14 y2) fun t15 =>
mo_p (.inl ((y1 + (t15 * t12)), (y2 + 1)))) (
mo_p (.inr ()))) (
mo_b (mo_cv 2 (some x0) (fun b9 => X2_isLess b9 x1 y1)) fun t4 =>
mo_eq t4 0 (
mo_p (.inr ())) (
mo_b (op_sz 2 (some x0) 9 1) fun _ =>
mo_b (op_si 2 (some x0) 10 x1) fun _ =>
mo_b (op_si 2 (some x0) 11 y1) fun _ =>
mo_b (mo_lp mo_N (X2_takeIfLess_L78 x0) 0) fun _ =>
mo_p (.inr ())))
def X2_takeIfLess (x0 : Nat) (x1 : Int) : MO Unit :=
mo_lp mo_N (X2_takeIfLess_L4 x0 x1) (0, 0)
def X2_tryFrom_L21 (rec_ : Nat → Int → Int → Int → MO Unit) (x0 : Nat) (x1 : Int) (x2 : Int) (x3 : Int) : Int → MO (Int ⊕ Unit) := fun y3 =>
mo_b (op_g 2 (some x0) 0) fun t4 =>
mo_lt y3 t4 (
mo_b (mo_cv 2 (some x0) (fun b21 => X2_remadeAtLeast b21 x1 y3)) fun t5 =>
mo_b (mo_cv 2 (some x0) (fun b20 => X2_pieceRoom b20 x1 y3)) fun t6 =>
mo_b (op_gr 2 (some x0) 4) fun t7 =>
mo_b (op_ld t7 x1) fun t8 =>
mo_b (
mo_eq y3 x1 (
mo_p 0) (
mo_b (op_g 2 (some x0) 1) fun t9 =>
mo_le t5 t9 (
mo_b (mo_cv 2 (some x0) (fun b10 => X2_leadsTo b10 y3 x1)) fun t10 =>
mo_eq t10 0 (
mo_p 1) (
mo_p 0)) (
mo_p 0))) fun t12 =>
mo_b (
mo_eq t12 0 (
mo_p ()) (
mo_b (op_gr 2 (some x0) 5) fun t13 =>
mo_b (op_ld t13 (x1 + 1)) fun t14 =>
mo_b (op_gr 2 (some x0) 6) fun t15 =>
mo_b (op_ld t15 (x1 + 1)) fun t16 =>
mo_b (mo_cv 2 (some x0) (fun b19 => X2_isLess b19 ((x2 + t6) + t14) ((x3 + (t8 * t5)) + t16))) fun t17 =>
mo_eq t17 0 (
mo_p ()) (
mo_b (op_gr 2 (some x0) 7) fun t18 =>
mo_b (op_st t18 x1 y3) fun _ =>
mo_b (mo_cv 2 (some x0) (fun b18 => rec_ b18 (x1 + 1) (x2 + t6) (x3 + (t8 * t5)))) fun _ =>
mo_p ()))) fun _ =>
mo_p (.inl (y3 + 1))) (
mo_p (.inr ()))
def X2_tryFromB (rec_ : Nat → Int → Int → Int → MO Unit) (x0 : Nat) (x1 x2 x3 : Int) : MO Unit :=
mo_lt x1 0 (
mo_b (mo_cv 2 (some x0) (fun b0 => X2_takeIfLess b0 x2)) fun _ =>
mo_p ()) (
mo_b (op_g 2 (some x0) 0) fun t2 =>
mo_lt x1 t2 (
mo_b (mo_lp mo_N (X2_tryFrom_L21 rec_ x0 x1 x2 x3) (-1)) fun _ =>
mo_p ()) (
mo_b (mo_cv 2 (some x0) (fun b22 => X2_takeIfLess b22 x2)) fun _ =>
mo_p ()))
def X2_tryFrom : Nat → Nat → Int → Int → Int → MO Unit
  | 0 => fun _ _ _ _ => mo_0
  | n + 1 => fun x0 x1 x2 x3 => X2_tryFromB (X2_tryFrom n) x0 x1 x2 x3
def X2_find_L2 (x0 : Nat) : Int → MO (Int ⊕ Unit) := fun y1 =>
mo_b (op_g 2 (some x0) 0) fun t2 =>
mo_lt y1 t2 (
mo_b (op_gr 2 (some x0) 2) fun t5 =>
mo_b (op_ld t5 y1) fun t6 =>
mo_b (op_g 2 (some x0) 1) fun t7 =>
mo_le t6 t7 (
mo_p (.inl (y1 + 1))) (
mo_p (.inr ()))) (
mo_b (mo_cv 2 (some x0) (fun b3 => X2_reckonLeastFrom b3)) fun _ =>
mo_b (mo_cv 2 (some x0) (fun b2 => X2_tryFrom 8 b2 0 0 0)) fun _ =>
mo_p (.inr ()))
def X2_find (x0 : Nat) : MO Unit :=
mo_lp mo_N (X2_find_L2 x0) 0
def X2_init (x0 : Nat) : MO Unit :=
mo_b (op_ni 6 6) fun t1 =>
mo_b (op_sr 2 (some x0) 2 t1) fun _ =>
mo_b (op_ni 36 36) fun t2 =>
mo_b (op_sr 2 (some x0) 3 t2) fun _ =>
mo_b (op_ni 6 6) fun t3 =>
mo_b (op_sr 2 (some x0) 4 t3) fun _ =>
mo_b (op_ni 7 7) fun t4 =>
mo_b (op_sr 2 (some x0) 5 t4) fun _ =>
mo_b (op_ni 7 7) fun t5 =>
mo_b (op_sr 2 (some x0) 6 t5) fun _ =>
mo_b (op_ni 6 6) fun t6 =>
mo_b (op_sr 2 (some x0) 7 t6) fun _ =>
mo_b (op_ni 6 6) fun t7 =>
mo_b (op_sr 2 (some x0) 8 t7) fun _ =>
mo_p ()
def X2_remadeFor (x0 : Nat) (x1 : Int) : MO Int :=
mo_b (op_g 2 (some x0) 9) fun t1 =>
mo_eq t1 0 (
mo_p (-2)) (
mo_lt x1 0 (
mo_p (-2)) (
mo_b (op_g 2 (some x0) 0) fun t2 =>
mo_lt x1 t2 (
mo_b (op_gr 2 (some x0) 8) fun t3 =>
mo_b (mo_cv 2 (some x0) (fun b4 => X2_remadeBy b4 t3 x1)) fun t4 =>
mo_p t4) (
mo_p (-2))))
def X2_roomOrNone (x0 : Nat) : MO Int :=
mo_b (op_g 2 (some x0) 9) fun t1 =>
mo_eq t1 0 (
mo_p (-1)) (
mo_b (op_g 2 (some x0) 10) fun t2 =>
mo_p t2)
def X2_setPatch (x0 : Nat) (x1 : Int) (x2 : Int) (x3 : Int) : MO Unit :=
mo_lt x1 0 (
mo_p ()) (
mo_lt x1 6 (
mo_lt x2 0 (
mo_p ()) (
mo_lt x2 6 (
mo_b (op_gr 2 (some x0) 3) fun t1 =>
mo_b (op_st t1 ((x2 * 6) + x1) x3) fun _ =>
mo_p ()) (
mo_p ()))) (
mo_p ()))
def X2_setWhole (x0 : Nat) (x1 : Int) (x2 : Int) (x3 : Int) : MO Unit :=
mo_lt x1 0 (
mo_p ()) (
mo_lt x1 6 (
mo_b (op_gr 2 (some x0) 2) fun t1 =>
mo_b (op_st t1 x1 x2) fun _ =>
mo_b (op_gr 2 (some x0) 4) fun t2 =>
mo_b (op_st t2 x1 x3) fun _ =>
mo_p ()) (
mo_p ()))
def X2_sourceOf (x0 : Nat) (x1 : Int) : MO Int :=
mo_b (op_g 2 (some x0) 9) fun t1 =>
mo_eq t1 0 (
mo_p (-2)) (
mo_lt x1 0 (
mo_p (-2)) (
mo_b (op_g 2 (some x0) 0) fun t2 =>
mo_lt x1 t2 (
mo_b (op_gr 2 (some x0) 8) fun t3 =>
mo_b (op_ld t3 x1) fun t4 =>
mo_p t4) (
mo_p (-2))))
def X2_sumOrNone (x0 : Nat) : MO Int :=
mo_b (op_g 2 (some x0) 9) fun t1 =>
mo_eq t1 0 (
mo_p (-1)) (
mo_b (op_g 2 (some x0) 11) fun t2 =>
mo_p t2)
def X3_allComing (x0 : Nat) : MO Int :=
mo_b (op_gr 3 (some x0) 2) fun t1 =>
mo_b (op_g 3 (some x0) 5) fun t2 =>
mo_b (X3_start t1 t2) fun t3 =>
mo_p t3
def X3_allGoing (x0 : Nat) : MO Int :=
mo_b (op_gr 3 (some x0) 1) fun t1 =>
mo_b (op_g 3 (some x0) 5) fun t2 =>
mo_b (X3_start t1 t2) fun t3 =>
mo_p t3
def X3_become_L6 (x0 : Nat) (x1 : Option Nat) : Int → MO (Int ⊕ Unit) := fun y1 =>
mo_b (mo_cv 3 x1 (fun b5 => X3_hunks b5)) fun t2 =>
mo_lt y1 t2 (
mo_b (mo_cv 3 x1 (fun b4 => X3_begins b4 y1)) fun t3 =>
mo_b (mo_cv 3 (some x0) (fun b3 => X3_addHunk b3 x1 y1 t3)) fun _ =>
mo_p (.inl (y1 + 1))) (
mo_p (.inr ()))
def X3_become (x0 : Nat) (x1 : Option Nat) : MO Unit :=
mo_b (mo_cv 3 (some x0) (fun b6 => X3_clear b6)) fun _ =>
mo_b (mo_lp mo_N (X3_become_L6 x0 x1) 0) fun _ =>
mo_p ()
def X3_becomeTurned_L52 (x0 : Nat) (x1 : Option Nat) (y1 : Int) : Int → MO (Int ⊕ Unit) := fun y10 =>
mo_b (mo_cv 3 x1 (fun b14 => X3_going b14 y1)) fun t11 =>
mo_lt y10 t11 (
mo_b (mo_cv 3 x1 (fun b13 => X3_goingLine b13 y1 y10)) fun t12 =>
mo_b (mo_cv 3 (some x0) (fun b12 => X3_addComing b12 t12)) fun _ =>
mo_p (.inl (y10 + 1))) (
mo_p (.inr ()))
def X3_becomeTurned_L25 (x0 : Nat) (x1 : Option Nat) (y1 : Int) : Int → MO (Int ⊕ Unit) := fun y4 =>
mo_b (mo_cv 3 x1 (fun b8 => X3_coming b8 y1)) fun t5 =>
mo_lt y4 t5 (
mo_b (mo_cv 3 x1 (fun b7 => X3_comingLine b7 y1 y4)) fun t6 =>
mo_b (mo_cv 3 (some x0) (fun b6 => X3_addGoing b6 t6)) fun _ =>
mo_p (.inl (y4 + 1))) (
mo_p (.inr ()))
def X3_becomeTurned_L6 (x0 : Nat) (x1 : Option Nat) : Int → MO (Int ⊕ Unit) := fun y1 =>
mo_b (mo_cv 3 x1 (fun b17 => X3_hunks b17)) fun t2 =>
mo_lt y1 t2 (
mo_b (mo_cv 3 x1 (fun b16 => X3_beginsBehind b16 y1)) fun t3 =>
mo_b (mo_cv 3 (some x0) (fun b15 => X3_begin b15 t3)) fun _ =>
mo_b (mo_lp mo_N (X3_becomeTurned_L25 x0 x1 y1) 0) fun _ =>
mo_b (mo_lp mo_N (X3_becomeTurned_L52 x0 x1 y1) 0) fun _ =>
mo_p (.inl (y1 + 1))) (
mo_p (.inr ()))
def X3_becomeTurned (x0 : Nat) (x1 : Option Nat) : MO Unit :=
mo_b (mo_cv 3 (some x0) (fun b18 => X3_clear b18)) fun _ =>
mo_b (mo_lp mo_N (X3_becomeTurned_L6 x0 x1) 0) fun _ =>
mo_p ()
def X3_standsAt_L19 (x0 : Nat) (x1 : Option Nat) (x2 : Int) (x3 : Int) : Int → MO (Int ⊕ Int) := fun y3 =>
mo_b (mo_cv 3 (some x0) (fun b8 => X3_going b8 x2)) fun t4 =>
mo_lt y3 t4 (
mo_b (mo_cv 4 x1 (fun b7 => X4_at b7 (x3 + y3))) fun t5 =>
mo_b (mo_cv 3 (some x0) (fun b6 => X3_goingLine b6 x2 y3)) fun t6 =>
mo_eq t5 t6 (
mo_p (.inl (y3 + 1))) (
mo_p (.inr 0))) (
mo_p (.inr 1))
def X3_standsAt (x0 : Nat) (x1 : Option Nat) (x2 : Int) (x3 : Int) : MO Int :=
mo_b (mo_cv 3 (some x0) (fun b10 => X3_going b10 x2)) fun t1 =>
mo_b (mo_cv 4 x1 (fun b9 => X4_size b9)) fun t2 =>
mo_le (x3 + t1) t2 (
mo_lp mo_N (X3_standsAt_L19 x0 x1 x2 x3) 0) (
mo_p 0)
def X3_fitsOn_L2 (x0 : Nat) (x1 : Option Nat) : Int → MO (Int ⊕ Int) := fun y1 =>
mo_b (op_g 3 (some x0) 5) fun t2 =>
mo_lt y1 t2 (
mo_b (mo_cv 3 (some x0) (fun b5 => X3_begins b5 y1)) fun t3 =>
mo_b (mo_cv 3 (some x0) (fun b4 => X3_standsAt b4 x1 y1 t3)) fun t4 =>
mo_eq t4 0 (
mo_p (.inr 0)) (
mo_p (.inl (y1 + 1)))) (
mo_p (.inr 1))
def X3_fitsOn (x0 : Nat) (x1 : Option Nat) : MO Int :=
mo_lp mo_N (X3_fitsOn_L2 x0 x1) 0
def X3_isAlike_L109 (x0 : Nat) (x1 : Int) (x2 : Option Nat) (x3 : Int) : (Int × Int) → MO ((Int × Int) ⊕ Int) := fun (y23, y24) =>
mo_eq y23 0 (
mo_p (.inr y23)) (
mo_b (mo_cv 3 (some x0) (fun b30 => X3_coming b30 x1)) fun t25 =>
mo_lt y24 t25 (
mo_b (mo_cv 3 (some x0) (fun b29 => X3_comingLine b29 x1 y24)) fun t26 =>
mo_b (mo_cv 3 x2 (fun b28 => X3_comingLine b28 x3 y24)) fun t27 =>
mo_b (
mo_eq t26 t27 (
mo_p 1) (
mo_p 0)) fun t28 =>
mo_p (.inl (t28, (y24 + 1)))) (
mo_p (.inr y23)))
def X3_isAlike_L61 (x0 : Nat) (x1 : Int) (x2 : Option Nat) (x3 : Int) : (Int × Int) → MO ((Int × Int) ⊕ Int) := fun (y13, y14) =>
mo_eq y13 0 (
mo_p (.inr y13)) (
mo_b (mo_cv 3 (some x0) (fun b20 => X3_going b20 x1)) fun t15 =>
mo_lt y14 t15 (
mo_b (mo_cv 3 (some x0) (fun b19 => X3_goingLine b19 x1 y14)) fun t16 =>
mo_b (mo_cv 3 x2 (fun b18 => X3_goingLine b18 x3 y14)) fun t17 =>
mo_b (
mo_eq t16 t17 (
mo_p 1) (
mo_p 0)) fun t18 =>
mo_p (.inl (t18, (y14 + 1)))) (
mo_p (.inr y13)))
def X3_isAlike (x0 : Nat) (x1 : Int) (x2 : Option Nat) (x3 : Int) : MO Int :=
mo_b (mo_cv 3 (some x0) (fun b34 => X3_going b34 x1)) fun t1 =>
mo_b (mo_cv 3 x2 (fun b33 => X3_going b33 x3)) fun t2 =>
mo_b (
mo_eq t1 t2 (
mo_b (mo_cv 3 (some x0) (fun b5 => X3_coming b5 x1)) fun t3 =>
mo_b (mo_cv 3 x2 (fun b4 => X3_coming b4 x3)) fun t4 =>
mo_eq t3 t4 (
mo_p 1) (
mo_p 0)) (
mo_p 0)) fun t7 =>
mo_b (
mo_eq t7 0 (
mo_p 0) (
mo_b (mo_cv 3 (some x0) (fun b10 => X3_begins b10 x1)) fun t8 =>
mo_b (mo_cv 3 x2 (fun b9 => X3_begins b9 x3)) fun t9 =>
mo_eq t8 t9 (
mo_p 1) (
mo_p 0))) fun t12 =>
mo_b (mo_lp mo_N (X3_isAlike_L61 x0 x1 x2 x3) (t12, 0)) fun t22 =>
mo_b (mo_lp mo_N (X3_isAlike_L109 x0 x1 x2 x3) (t22, 0)) fun t32 =>
mo_b (op_z t32) fun t33 => mo_p t33
def X3_hasAlike_L2 (x0 : Nat) (x1 : Option Nat) (x2 : Int) : Int → MO (Int ⊕ Int) := fun y1 =>
mo_b (op_g 3 (some x0) 5) fun t2 =>
mo_lt y1 t2 (
mo_b (mo_cv 3 (some x0) (fun b3 => X3_isAlike b3 y1 x1 x2)) fun t3 =>
mo_eq t3 0 (
mo_p (.inl (y1 + 1))) (
mo_p (.inr 1))) (
mo_p (.inr 0))
def X3_hasAlike (x0 : Nat) (x1 : Option Nat) (x2 : Int) : MO Int :=
mo_lp mo_N (X3_hasAlike_L2 x0 x1 x2) 0
def X3_init (x0 : Nat) (x1 : Int) (x2 : Int) : MO Unit :=
mo_b (op_mx x1 0) fun t1 =>
mo_b (op_mx x2 0) fun t2 =>
mo_b (op_ni 64 t1) fun t3 =>
mo_b (op_sr 3 (some x0) 0 t3) fun _ =>
mo_b (op_ni 64 (t1 + 1)) fun t4 =>
mo_b (op_sr 3 (some x0) 1 t4) fun _ =>
mo_b (op_ni 64 (t1 + 1)) fun t5 =>
mo_b (op_sr 3 (some x0) 2 t5) fun _ =>
mo_b (op_ni 64 t2) fun t6 =>
mo_b (op_sr 3 (some x0) 3 t6) fun _ =>
mo_b (op_ni 64 t2) fun t7 =>
mo_b (op_sr 3 (some x0) 4 t7) fun _ =>
mo_p ()
def X3_nearestPlace_L7 (x0 : Nat) (x1 : Option Nat) (x2 : Int) (x3 : Int) : (Int × Int) → MO ((Int × Int) ⊕ Int) := fun (y1, y2) =>
mo_b (mo_cv 4 x1 (fun b9 => X4_size b9)) fun t3 =>
mo_le y2 t3 (
mo_b (
mo_eq y1 (-1) (
mo_p 1) (
mo_b (op_ab (y2 - x3)) fun t4 =>
mo_b (op_ab (y1 - x3)) fun t5 =>
mo_lt t4 t5 (
mo_p 1) (
mo_p 0))) fun t6 =>
mo_b (
mo_eq t6 0 (
mo_p y1) (
mo_b (mo_cv 3 (some x0) (fun b7 => X3_standsAt b7 x1 x2 y2)) fun t7 =>
mo_eq t7 0 (
mo_p y1) (
mo_p y2))) fun t9 =>
mo_p (.inl (t9, (y2 + 1)))) (
mo_p (.inr y1))
def X3_nearestPlace (x0 : Nat) (x1 : Option Nat) (x2 : Int) (x3 : Int) (x4 : Int) : MO Int :=
mo_b (mo_lp mo_N (X3_nearestPlace_L7 x0 x1 x2 x3) ((-1), x4)) fun t11 =>
mo_p t11
def X4_insert_L30 (x0 : Nat) (x1 : Int) : Int → MO (Int ⊕ Unit) := fun y6 =>
mo_le y6 x1 (
mo_p (.inr ())) (
mo_b (op_gr 4 (some x0) 0) fun t7 =>
mo_b (op_gr 4 (some x0) 0) fun t8 =>
mo_b (op_ld t8 (y6 - 1)) fun t9 =>
mo_b (op_st t7 y6 t9) fun _ =>
mo_p (.inl (y6 + (-1))))
def X4_insert (x0 : Nat) (x1 : Int) (x2 : Int) : MO Unit :=
mo_lt x1 0 (
mo_p ()) (
mo_b (op_g 4 (some x0) 1) fun t1 =>
mo_le x1 t1 (
mo_b (op_g 4 (some x0) 1) fun t2 =>
mo_b (op_gr 4 (some x0) 0) fun t3 =>
mo_b (op_al t3) fun t4 =>
mo_lt t2 t4 (
mo_b (op_g 4 (some x0) 1) fun t5 =>
mo_b (mo_lp mo_N (X4_insert_L30 x0 x1) t5) fun _ =>
mo_b (op_gr 4 (some x0) 0) fun t10 =>
mo_b (op_st t10 x1 x2) fun _ =>
mo_b (op_g 4 (some x0) 1) fun t11 =>
mo_b (op_si 4 (some x0) 1 (t11 + 1)) fun _ =>
mo_p ()) (
mo_p ())) (
mo_p ()))
def X4_remove_L27 (x0 : Nat) : Int → MO (Int ⊕ Unit) := fun y5 =>
mo_b (op_g 4 (some x0) 1) fun t6 =>
mo_lt y5 (t6 - 1) (
mo_b (op_gr 4 (some x0) 0) fun t7 =>
mo_b (op_gr 4 (some x0) 0) fun t8 =>
mo_b (op_ld t8 (y5 + 1)) fun t9 =>
mo_b (op_st t7 y5 t9) fun _ =>
mo_p (.inl (y5 + 1))) (
mo_p (.inr ()))
def X4_remove (x0 : Nat) (x1 : Int) : MO Unit :=
mo_lt x1 0 (
mo_p ()) (
mo_b (op_g 4 (some x0) 1) fun t1 =>
mo_lt x1 t1 (
mo_b (op_g 4 (some x0) 1) fun t2 =>
mo_b (op_gr 4 (some x0) 0) fun t3 =>
mo_b (op_al t3) fun t4 =>
mo_le t2 t4 (
mo_b (mo_lp mo_N (X4_remove_L27 x0) x1) fun _ =>
mo_b (op_g 4 (some x0) 1) fun t10 =>
mo_b (op_si 4 (some x0) 1 (t10 - 1)) fun _ =>
mo_p ()) (
mo_p ())) (
mo_p ()))
def X3_replace_L27 (x0 : Nat) (x1 : Option Nat) (x2 : Int) (x3 : Int) : Int → MO (Int ⊕ Unit) := fun y5 =>
mo_b (mo_cv 3 (some x0) (fun b9 => X3_coming b9 x2)) fun t6 =>
mo_lt y5 t6 (
mo_b (mo_cv 3 (some x0) (fun b8 => X3_comingLine b8 x2 y5)) fun t7 =>
mo_b (mo_cv 4 x1 (fun b7 => X4_insert b7 (x3 + y5) t7)) fun _ =>
mo_p (.inl (y5 + 1))) (
mo_p (.inr ()))
def X3_replace_L3 (x0 : Nat) (x1 : Option Nat) (x2 : Int) (x3 : Int) : Int → MO (Int ⊕ Unit) := fun y1 =>
mo_b (mo_cv 3 (some x0) (fun b3 => X3_going b3 x2)) fun t2 =>
mo_lt y1 t2 (
mo_b (mo_cv 4 x1 (fun b2 => X4_remove b2 x3)) fun _ =>
mo_p (.inl (y1 + 1))) (
mo_p (.inr ()))
def X3_replace (x0 : Nat) (x1 : Option Nat) (x2 : Int) (x3 : Int) : MO Unit :=
mo_b (mo_lp mo_N (X3_replace_L3 x0 x1 x2 x3) 0) fun _ =>
mo_b (mo_lp mo_N (X3_replace_L27 x0 x1 x2 x3) 0) fun _ =>
mo_p ()
def X3_layLooselyOn_L10 (x0 : Nat) (x1 : Option Nat) : (Int × Int × Int × Int) → MO ((Int × Int × Int × Int) ⊕ Int) := fun (y1, y2, y3, y4) =>
mo_b (op_g 3 (some x0) 5) fun t5 =>
mo_lt y4 t5 (
mo_b (mo_cv 3 (some x0) (fun b16 => X3_begins b16 y4)) fun t6 =>
mo_b (mo_cv 3 (some x0) (fun b15 => X3_nearestPlace b15 x1 y4 (t6 + y1) y2)) fun t7 =>
mo_eq t7 (-1) (
mo_p (.inr (-1))) (
mo_b (mo_cv 3 (some x0) (fun b14 => X3_replace b14 x1 y4 t7)) fun _ =>
mo_b (op_ab (t7 - (t6 + y1))) fun t8 =>
mo_b (mo_cv 3 (some x0) (fun b13 => X3_coming b13 y4)) fun t9 =>
mo_b (mo_cv 3 (some x0) (fun b12 => X3_going b12 y4)) fun t10 =>
mo_b (mo_cv 3 (some x0) (fun b11 => X3_coming b11 y4)) fun t11 =>
mo_p (.inl ((y1 + (((t7 - (t6 + y1)) + t9) - t10)), ((t7 + t11) + 1), (y3 + t8), (y4 + 1))))) (
mo_p (.inr y3))
def X3_layLooselyOn (x0 : Nat) (x1 : Option Nat) : MO Int :=
mo_lp mo_N (X3_layLooselyOn_L10 x0 x1) (0, 0, 0, 0)
def X4_add (x0 : Nat) (x1 : Int) : MO Unit :=
mo_b (op_g 4 (some x0) 1) fun t1 =>
mo_b (mo_cv 4 (some x0) (fun b1 => X4_insert b1 t1 x1)) fun _ =>
mo_p ()
def X4_addPart_L3 (x0 : Nat) (x1 : Option Nat) (x3 : Int) : Int → MO (Int ⊕ Unit) := fun y1 =>
mo_lt y1 x3 (
mo_b (mo_cv 4 x1 (fun b3 => X4_at b3 y1)) fun t2 =>
mo_b (mo_cv 4 (some x0) (fun b2 => X4_add b2 t2)) fun _ =>
mo_p (.inl (y1 + 1))) (
mo_p (.inr ()))
def X4_addPart (x0 : Nat) (x1 : Option Nat) (x2 : Int) (x3 : Int) : MO Unit :=
mo_b (mo_lp mo_N (X4_addPart_L3 x0 x1 x3) x2) fun _ =>
mo_p ()
def X4_clear (x0 : Nat) : MO Unit :=
mo_b (op_si 4 (some x0) 1 0) fun _ =>
mo_p ()
def X3_layOn_L33 (x0 : Nat) (x2 : Option Nat) (y2 : Int) : Int → MO (Int ⊕ Unit) := fun y5 =>
mo_b (mo_cv 3 (some x0) (fun b9 => X3_coming b9 y2)) fun t6 =>
mo_lt y5 t6 (
mo_b (mo_cv 3 (some x0) (fun b8 => X3_comingLine b8 y2 y5)) fun t7 =>
mo_b (mo_cv 4 x2 (fun b7 => X4_add b7 t7)) fun _ =>
mo_p (.inl (y5 + 1))) (
mo_p (.inr ()))
def X3_layOn_L9 (x0 : Nat) (x1 : Option Nat) (x2 : Option Nat) : (Int × Int) → MO ((Int × Int) ⊕ Int) := fun (y1, y2) =>
mo_b (op_g 3 (some x0) 5) fun t3 =>
mo_lt y2 t3 (
mo_b (mo_cv 3 (some x0) (fun b13 => X3_begins b13 y2)) fun t4 =>
mo_b (mo_cv 4 x2 (fun b12 => X4_addPart b12 x1 y1 t4)) fun _ =>
mo_b (mo_lp mo_N (X3_layOn_L33 x0 x2 y2) 0) fun _ =>
mo_b (mo_cv 3 (some x0) (fun b11 => X3_ends b11 y2)) fun t11 =>
mo_p (.inl (t11, (y2 + 1)))) (
mo_p (.inr y1))
def X3_layOn (x0 : Nat) (x1 : Option Nat) (x2 : Option Nat) : MO Unit :=
mo_b (mo_cv 4 x2 (fun b18 => X4_clear b18)) fun _ =>
mo_b (mo_lp mo_N (X3_layOn_L9 x0 x1 x2) (0, 0)) fun t15 =>
mo_b (mo_cv 4 x1 (fun b17 => X4_size b17)) fun t16 =>
mo_b (mo_cv 4 x2 (fun b16 => X4_addPart b16 x1 t15 t16)) fun _ =>
mo_p ()
def X3_mayBeginNext (x0 : Nat) (x1 : Int) : MO Int :=
mo_b (op_g 3 (some x0) 5) fun t1 =>
mo_eq t1 0 (
mo_p 1) (
mo_b (op_g 3 (some x0) 5) fun t2 =>
mo_b (mo_cv 3 (some x0) (fun b3 => X3_ends b3 (t2 - 1))) fun t3 =>
mo_le x1 t3 (
mo_p 0) (
mo_p 1))
def X3_room (x0 : Nat) : MO Int :=
mo_b (op_g 3 (some x0) 5) fun t1 =>
mo_b (mo_cv 3 (some x0) (fun b2 => X3_allComing b2)) fun t2 =>
mo_p (((2 * t1) + t2) + 1)
def X4_become (x0 : Nat) (x1 : Option Nat) : MO Unit :=
mo_b (mo_cv 4 (some x0) (fun b3 => X4_clear b3)) fun _ =>
mo_b (mo_cv 4 x1 (fun b2 => X4_size b2)) fun t1 =>
mo_b (mo_cv 4 (some x0) (fun b1 => X4_addPart b1 x1 0 t1)) fun _ =>
mo_p ()
def X4_init (x0 : Nat) (x1 : Int) : MO Unit :=
mo_b (op_mx x1 0) fun t1 =>
mo_b (op_ni 64 t1) fun t2 =>
mo_b (op_sr 4 (some x0) 0 t2) fun _ =>
mo_p ()
def X6_mix (x0 : Int) (x2 : Int) : MO Int :=
mo_lt x2 x2 mo_0 (
mo_p ((31 * x0) + x2))
def X4_mixInto_L5 (x0 : Nat) : (Int × Int) → MO ((Int × Int) ⊕ Int) := fun (y1, y2) =>
mo_b (op_g 4 (some x0) 1) fun t3 =>
mo_lt y2 t3 (
mo_b (mo_cv 4 (some x0) (fun b6 => X4_at b6 y2)) fun t4 =>
mo_b (X6_mix y1 t4) fun t5 =>
mo_p (.inl (t5, (y2 + 1)))) (
mo_p (.inr y1))
def X4_mixInto (x0 : Nat) (x1 : Int) : MO Int :=
mo_b (mo_lp mo_N (X4_mixInto_L5 x0) (x1, 0)) fun t8 =>
mo_p t8
def X4_room (x0 : Nat) : MO Int :=
mo_b (op_g 4 (some x0) 1) fun t1 =>
mo_p (t1 + 1)
def X5_setBringer (x0 : Nat) (x1 : Int) (x2 : Int) : MO Unit :=
mo_lt x1 0 (
mo_p ()) (
mo_b (op_gr 5 (some x0) 3) fun t1 =>
mo_b (op_al t1) fun t2 =>
mo_lt x1 t2 (
mo_b (op_gr 5 (some x0) 3) fun t3 =>
mo_b (op_st t3 x1 x2) fun _ =>
mo_p ()) (
mo_p ()))
def X5_allBroughtBy_L2 (x0 : Nat) (x1 : Int) : Int → MO (Int ⊕ Unit) := fun y1 =>
mo_b (op_gr 5 (some x0) 0) fun t2 =>
mo_b (mo_cv 4 t2 (fun b4 => X4_size b4)) fun t3 =>
mo_lt y1 t3 (
mo_b (mo_cv 5 (some x0) (fun b3 => X5_setBringer b3 y1 x1)) fun _ =>
mo_p (.inl (y1 + 1))) (
mo_p (.inr ()))
def X5_allBroughtBy (x0 : Nat) (x1 : Int) : MO Unit :=
mo_b (mo_lp mo_N (X5_allBroughtBy_L2 x0 x1) 0) fun _ =>
mo_p ()
def X5_bringerOf (x0 : Nat) (x1 : Int) : MO Int :=
mo_lt x1 0 (
mo_p (-1)) (
mo_b (op_gr 5 (some x0) 3) fun t1 =>
mo_b (op_al t1) fun t2 =>
mo_lt x1 t2 (
mo_b (op_gr 5 (some x0) 3) fun t3 =>
mo_b (op_ld t3 x1) fun t4 =>
mo_p t4) (
mo_p (-1)))
def X5_init (x0 : Nat) (x1 : Int) (x2 : Int) : MO Unit :=
mo_b (op_no 4) fun t1 =>
mo_b (mo_on t1 (fun b2 => X4_init b2 14)) fun _ =>
mo_b (op_sr 5 (some x0) 0 t1) fun _ =>
mo_b (op_ni 14 14) fun t2 =>
mo_b (op_sr 5 (some x0) 3 t2) fun _ =>
mo_b (op_si 5 (some x0) 4 1) fun _ =>
mo_b (op_si 5 (some x0) 1 x1) fun _ =>
mo_b (op_si 5 (some x0) 2 x2) fun _ =>
mo_p ()
def X6_versionOrNull (x0 : Nat) (x1 : Int) : MO (Option Nat) :=
mo_lt x1 0 (
mo_p none) (
mo_b (op_g 6 (some x0) 3) fun t1 =>
mo_lt x1 t1 (
mo_b (op_gr 6 (some x0) 2) fun t2 =>
mo_b (op_al t2) fun t3 =>
mo_lt x1 t3 (
mo_b (op_gr 6 (some x0) 2) fun t4 =>
mo_b (op_rl 2 t4 x1) fun t5 =>
mo_p t5) (
mo_p none)) (
mo_p none))
def X6_about (x0 : Nat) (x1 : Int) (x2 : Int) : MO Int :=
mo_b (mo_cv 6 (some x0) (fun b10 => X6_versionOrNull b10 x1)) fun t1 =>
mo_nl t1 (
mo_p (-101)) (
mo_eq x2 0 (
mo_b (op_gr 5 t1 0) fun t2 =>
mo_b (mo_cv 4 t2 (fun b3 => X4_size b3)) fun t3 =>
mo_p t3) (
mo_eq x2 1 (
mo_b (op_g 5 t1 1) fun t5 =>
mo_p t5) (
mo_eq x2 2 (
mo_b (op_g 5 t1 2) fun t6 =>
mo_p t6) (
mo_eq x2 3 (
mo_b (op_g 5 t1 4) fun t7 =>
mo_p t7) (
mo_eq x2 4 (
mo_b (op_gr 5 t1 0) fun t8 =>
mo_b (mo_cv 4 t8 (fun b9 => X4_room b9)) fun t9 =>
mo_p t9) (
mo_p (-102)))))))
def X6_addPatch (x0 : Nat) (x1 : Option Nat) : MO Int :=
mo_b (op_g 6 (some x0) 5) fun t1 =>
mo_lt t1 0 (
mo_p (-104)) (
mo_b (op_g 6 (some x0) 5) fun t2 =>
mo_b (op_gr 6 (some x0) 4) fun t3 =>
mo_b (op_al t3) fun t4 =>
mo_lt t2 t4 (
mo_b (op_gr 6 (some x0) 4) fun t5 =>
mo_b (op_g 6 (some x0) 5) fun t6 =>
mo_b (op_rs 3 3 t5 t6 x1) fun _ =>
mo_b (op_g 6 (some x0) 5) fun t7 =>
mo_b (op_si 6 (some x0) 5 (t7 + 1)) fun _ =>
mo_b (op_g 6 (some x0) 5) fun t8 =>
mo_p (t8 - 1)) (
mo_p (-104)))
def X6_asked (x0 : Nat) (x1 : Int) (x2 : Int) : MO Int :=
mo_b (mo_cv 6 (some x0) (fun b2 => X6_versionOrNull b2 x1)) fun t1 =>
mo_nl t1 (
mo_p (-101)) (
mo_lt x2 0 (
mo_p (-102)) (
mo_le x2 9 (
mo_b (op_g 5 t1 4) fun t2 =>
mo_b (op_si 5 t1 4 x2) fun _ =>
mo_p t2) (
mo_p (-102))))
def X6_hasRoomForPatches (x0 : Nat) (x1 : Int) : MO Int :=
mo_b (op_g 6 (some x0) 5) fun t1 =>
mo_le (t1 + x1) 12 (
mo_p 1) (
mo_p 0)
def X6_newPatch  : MO (Option Nat) :=
mo_b (op_no 3) fun t1 =>
mo_b (mo_on t1 (fun b1 => X3_init b1 10 28)) fun _ =>
mo_p t1
def X6_blank (x0 : Nat) : MO Int :=
mo_b (mo_cv 6 (some x0) (fun b5 => X6_hasRoomForPatches b5 1)) fun t1 =>
mo_eq t1 0 (
mo_p (-104)) (
mo_b (X6_newPatch) fun t2 =>
mo_b (mo_cv 6 (some x0) (fun b3 => X6_addPatch b3 t2)) fun t3 =>
mo_p t3)
def X6_brought (x0 : Nat) (x1 : Int) (x2 : Int) : MO Int :=
mo_b (mo_cv 6 (some x0) (fun b6 => X6_versionOrNull b6 x1)) fun t1 =>
mo_nl t1 (
mo_p (-101)) (
mo_lt x2 0 (
mo_p (-101)) (
mo_b (op_gr 5 t1 0) fun t2 =>
mo_b (mo_cv 4 t2 (fun b5 => X4_size b5)) fun t3 =>
mo_lt x2 t3 (
mo_b (mo_cv 5 t1 (fun b4 => X5_bringerOf b4 x2)) fun t4 =>
mo_p t4) (
mo_p (-101))))
def X6_clashes_L4 (x0 : Nat) : (Int × Int) → MO ((Int × Int) ⊕ Int) := fun (y1, y2) =>
mo_b (op_gr 6 (some x0) 8) fun t3 =>
mo_b (mo_cv 3 t3 (fun b18 => X3_hunks b18)) fun t4 =>
mo_lt y2 t4 (
mo_b (op_gr 6 (some x0) 9) fun t5 =>
mo_b (op_gr 6 (some x0) 8) fun t6 =>
mo_b (mo_cv 3 t6 (fun b17 => X3_begins b17 y2)) fun t7 =>
mo_b (op_gr 6 (some x0) 8) fun t8 =>
mo_b (mo_cv 3 t8 (fun b16 => X3_ends b16 y2)) fun t9 =>
mo_b (mo_cv 3 t5 (fun b15 => X3_touches b15 t7 t9)) fun t10 =>
mo_b (
mo_eq t10 0 (
mo_p y1) (
mo_b (op_gr 6 (some x0) 9) fun t11 =>
mo_b (op_gr 6 (some x0) 8) fun t12 =>
mo_b (mo_cv 3 t11 (fun b13 => X3_hasAlike b13 t12 y2)) fun t13 =>
mo_eq t13 0 (
mo_p (y1 + 1)) (
mo_p y1))) fun t15 =>
mo_p (.inl (t15, (y2 + 1)))) (
mo_p (.inr y1))
def X6_clashes (x0 : Nat) : MO Int :=
mo_b (mo_lp mo_N (X6_clashes_L4 x0) (0, 0)) fun t20 =>
mo_p t20
def X6_writeDifference (x0 : Nat) (x1 : Option Nat) (x2 : Option Nat) (x3 : Option Nat) : MO Unit :=
mo_b (op_gr 6 (some x0) 7) fun t1 =>
mo_b (op_gr 5 x1 0) fun t2 =>
mo_b (op_gr 5 x2 0) fun t3 =>
mo_b (mo_cv 1 t1 (fun b7 => X1_find b7 t2 t3)) fun _ =>
mo_b (op_gr 6 (some x0) 7) fun t4 =>
mo_b (op_gr 5 x1 0) fun t5 =>
mo_b (op_gr 5 x2 0) fun t6 =>
mo_b (mo_cv 1 t4 (fun b6 => X1_writeHunks b6 t5 t6 x3)) fun _ =>
mo_p ()
def X6_writeBothDifferences (x0 : Nat) (x1 : Int) (x2 : Int) (x3 : Int) : MO Int :=
mo_b (mo_cv 6 (some x0) (fun b9 => X6_versionOrNull b9 x1)) fun t1 =>
mo_b (mo_cv 6 (some x0) (fun b8 => X6_versionOrNull b8 x2)) fun t2 =>
mo_b (mo_cv 6 (some x0) (fun b7 => X6_versionOrNull b7 x3)) fun t3 =>
mo_nl t1 (
mo_p 0) (
mo_nl t2 (
mo_p 0) (
mo_nl t3 (
mo_p 0) (
mo_b (op_gr 6 (some x0) 8) fun t4 =>
mo_b (mo_cv 6 (some x0) (fun b6 => X6_writeDifference b6 t1 t2 t4)) fun _ =>
mo_b (op_gr 6 (some x0) 9) fun t5 =>
mo_b (mo_cv 6 (some x0) (fun b5 => X6_writeDifference b5 t1 t3 t5)) fun _ =>
mo_p 1)))
def X6_clash (x0 : Nat) (x1 : Int) (x2 : Int) (x3 : Int) : MO Int :=
mo_b (mo_cv 6 (some x0) (fun b3 => X6_writeBothDifferences b3 x1 x2 x3)) fun t1 =>
mo_eq t1 0 (
mo_p (-101)) (
mo_b (mo_cv 6 (some x0) (fun b2 => X6_clashes b2)) fun t2 =>
mo_p t2)
def X6_count (x0 : Nat) (x1 : Int) : MO Int :=
mo_eq x1 0 (
mo_b (op_g 6 (some x0) 3) fun t1 =>
mo_p t1) (
mo_eq x1 1 (
mo_b (op_gr 6 (some x0) 0) fun t2 =>
mo_b (mo_cv 4 t2 (fun b3 => X4_size b3)) fun t3 =>
mo_p t3) (
mo_eq x1 2 (
mo_b (op_g 6 (some x0) 5) fun t5 =>
mo_p t5) (
mo_eq x1 3 (
mo_b (op_g 6 (some x0) 13) fun t6 =>
mo_p t6) (
mo_p (-102)))))
def X6_desk (x0 : Nat) (x1 : Int) : MO Int :=
mo_b (op_gr 6 (some x0) 0) fun t1 =>
mo_b (mo_cv 4 t1 (fun b2 => X4_at b2 x1)) fun t2 =>
mo_p t2
def X6_tellPatch (x0 : Option Nat) (x1 : Int) : MO Int :=
mo_eq x1 0 (
mo_b (mo_cv 3 x0 (fun b1 => X3_hunks b1)) fun t1 =>
mo_p t1) (
mo_eq x1 1 (
mo_b (mo_cv 3 x0 (fun b3 => X3_allGoing b3)) fun t3 =>
mo_p t3) (
mo_eq x1 2 (
mo_b (mo_cv 3 x0 (fun b5 => X3_allComing b5)) fun t5 =>
mo_p t5) (
mo_b (mo_cv 3 x0 (fun b7 => X3_room b7)) fun t7 =>
mo_p t7)))
def X6_differ (x0 : Nat) (x1 : Int) (x2 : Int) (x3 : Int) : MO Int :=
mo_b (mo_cv 6 (some x0) (fun b14 => X6_versionOrNull b14 x1)) fun t1 =>
mo_b (mo_cv 6 (some x0) (fun b13 => X6_versionOrNull b13 x2)) fun t2 =>
mo_nl t1 (
mo_p (-101)) (
mo_nl t2 (
mo_p (-101)) (
mo_lt x3 0 (
mo_p (-102)) (
mo_le x3 4 (
mo_b (op_gr 6 (some x0) 8) fun t3 =>
mo_b (mo_cv 6 (some x0) (fun b12 => X6_writeDifference b12 t1 t2 t3)) fun _ =>
mo_eq x3 0 (
mo_b (op_gr 5 t1 0) fun t7 =>
mo_b (mo_cv 4 t7 (fun b11 => X4_size b11)) fun t8 =>
mo_b (op_gr 6 (some x0) 8) fun t9 =>
mo_b (mo_cv 3 t9 (fun b10 => X3_allGoing b10)) fun t10 =>
mo_p (t8 - t10)) (
mo_b (op_gr 6 (some x0) 8) fun t4 =>
mo_b (X6_tellPatch t4 (x3 - 1)) fun t5 =>
mo_p t5)) (
mo_p (-102)))))
def X6_differenceRoom (x0 : Nat) (x1 : Int) (x2 : Int) : MO Int :=
mo_lt ((x1 * 10) + x2) 0 (
mo_p 0) (
mo_b (op_gr 6 (some x0) 6) fun t1 =>
mo_b (op_al t1) fun t2 =>
mo_lt ((x1 * 10) + x2) t2 (
mo_b (op_gr 6 (some x0) 6) fun t3 =>
mo_b (op_ld t3 ((x1 * 10) + x2)) fun t4 =>
mo_p t4) (
mo_p 0))
def X6_mixPatch_L109 (x2 : Option Nat) (y9 : Int) : (Int × Int) → MO ((Int × Int) ⊕ Int) := fun (y26, y27) =>
mo_b (mo_cv 3 x2 (fun b32 => X3_coming b32 y9)) fun t28 =>
mo_lt y27 t28 (
mo_b (mo_cv 3 x2 (fun b31 => X3_comingLine b31 y9 y27)) fun t29 =>
mo_b (X6_mix y26 t29) fun t30 =>
mo_p (.inl (t30, (y27 + 1)))) (
mo_p (.inr y26))
def X6_mixPatch_L76 (x2 : Option Nat) (y9 : Int) : (Int × Int) → MO ((Int × Int) ⊕ Int) := fun (y17, y18) =>
mo_b (mo_cv 3 x2 (fun b23 => X3_going b23 y9)) fun t19 =>
mo_lt y18 t19 (
mo_b (mo_cv 3 x2 (fun b22 => X3_goingLine b22 y9 y18)) fun t20 =>
mo_b (X6_mix y17 t20) fun t21 =>
mo_p (.inl (t21, (y18 + 1)))) (
mo_p (.inr y17))
def X6_mixPatch_L31 (x2 : Option Nat) : (Int × Int) → MO ((Int × Int) ⊕ Int) := fun (y8, y9) =>
mo_b (mo_cv 3 x2 (fun b40 => X3_hunks b40)) fun t10 =>
mo_lt y9 t10 (
mo_b (mo_cv 3 x2 (fun b39 => X3_begins b39 y9)) fun t11 =>
mo_b (X6_mix y8 t11) fun t12 =>
mo_b (mo_cv 3 x2 (fun b37 => X3_going b37 y9)) fun t13 =>
mo_b (X6_mix t12 t13) fun t14 =>
mo_b (mo_cv 3 x2 (fun b35 => X3_coming b35 y9)) fun t15 =>
mo_b (X6_mix t14 t15) fun t16 =>
mo_b (mo_lp mo_N (X6_mixPatch_L76 x2 y9) (t16, 0)) fun t25 =>
mo_b (mo_lp mo_N (X6_mixPatch_L109 x2 y9) (t25, 0)) fun t34 =>
mo_p (.inl (t34, (y9 + 1)))) (
mo_p (.inr y8))
def X6_mixPatch_L5 (x2 : Option Nat) : (Int × Int) → MO ((Int × Int) ⊕ Int) := fun (y1, y2) =>
mo_le y2 3 (
mo_b (X6_tellPatch x2 y2) fun t3 =>
mo_b (X6_mix y1 t3) fun t4 =>
mo_p (.inl (t4, (y2 + 1)))) (
mo_p (.inr y1))
def X6_mixPatch (x0 : Int) (x2 : Option Nat) : MO Int :=
mo_b (mo_lp mo_N (X6_mixPatch_L5 x2) (x0, 0)) fun t7 =>
mo_b (mo_lp mo_N (X6_mixPatch_L31 x2) (t7, 0)) fun t42 =>
mo_p t42
def X6_mixVersion_L6 (x0 : Nat) (x3 : Int) : (Int × Int) → MO ((Int × Int) ⊕ Int) := fun (y1, y2) =>
mo_le y2 4 (
mo_b (mo_cv 6 (some x0) (fun b5 => X6_about b5 x3 y2)) fun t3 =>
mo_b (X6_mix y1 t3) fun t4 =>
mo_p (.inl (t4, (y2 + 1)))) (
mo_p (.inr y1))
def X6_mixVersion (x0 : Nat) (x1 : Int) (x3 : Int) : MO Int :=
mo_b (mo_lp mo_N (X6_mixVersion_L6 x0 x3) (x1, 0)) fun t7 =>
mo_b (mo_cv 6 (some x0) (fun b11 => X6_versionOrNull b11 x3)) fun t8 =>
mo_nl t8 (
mo_p t7) (
mo_b (op_gr 5 t8 0) fun t9 =>
mo_b (mo_cv 4 t9 (fun b10 => X4_mixInto b10 t7)) fun t10 =>
mo_p t10)
def X6_patchOrNull (x0 : Nat) (x1 : Int) : MO (Option Nat) :=
mo_lt x1 0 (
mo_p none) (
mo_b (op_g 6 (some x0) 5) fun t1 =>
mo_lt x1 t1 (
mo_b (op_gr 6 (some x0) 4) fun t2 =>
mo_b (op_al t2) fun t3 =>
mo_lt x1 t3 (
mo_b (op_gr 6 (some x0) 4) fun t4 =>
mo_b (op_rl 3 t4 x1) fun t5 =>
mo_p t5) (
mo_p none)) (
mo_p none))
def X6_digest_L86 (x0 : Nat) (y19 : Int) : (Int × Int) → MO ((Int × Int) ⊕ Int) := fun (y21, y22) =>
mo_b (op_g 6 (some x0) 3) fun t23 =>
mo_lt y22 t23 (
mo_b (
mo_eq y19 y22 (
mo_p y21) (
mo_b (mo_cv 6 (some x0) (fun b26 => X6_differenceRoom b26 y19 y22)) fun t24 =>
mo_b (X6_mix y21 t24) fun t25 =>
mo_p t25)) fun t28 =>
mo_p (.inl (t28, (y22 + 1)))) (
mo_p (.inr y21))
def X6_digest_L131 (x0 : Nat) : (Int × Int) → MO ((Int × Int) ⊕ Int) := fun (y31, y32) =>
mo_le y32 3 (
mo_b (mo_cv 6 (some x0) (fun b35 => X6_count b35 y32)) fun t33 =>
mo_b (X6_mix y31 t33) fun t34 =>
mo_p (.inl (t34, (y32 + 1)))) (
mo_p (.inr y31))
def X6_digest_L75 (x0 : Nat) : (Int × Int) → MO ((Int × Int) ⊕ Int) := fun (y18, y19) =>
mo_b (op_g 6 (some x0) 3) fun t20 =>
mo_lt y19 t20 (
mo_b (mo_lp mo_N (X6_digest_L86 x0 y19) (y18, 0)) fun t29 =>
mo_p (.inl (t29, (y19 + 1)))) (
mo_p (.inr y18))
def X6_digest_L36 (x0 : Nat) : (Int × Int) → MO ((Int × Int) ⊕ Int) := fun (y9, y10) =>
mo_b (op_g 6 (some x0) 5) fun t11 =>
mo_lt y10 t11 (
mo_b (mo_cv 6 (some x0) (fun b15 => X6_patchOrNull b15 y10)) fun t12 =>
mo_b (
mo_nl t12 (
mo_p y9) (
mo_b (X6_mixPatch y9 t12) fun t13 =>
mo_p t13)) fun t15 =>
mo_p (.inl (t15, (y10 + 1)))) (
mo_p (.inr y9))
def X6_digest_L13 (x0 : Nat) : (Int × Int) → MO ((Int × Int) ⊕ Int) := fun (y3, y4) =>
mo_b (op_g 6 (some x0) 3) fun t5 =>
mo_lt y4 t5 (
mo_b (mo_cv 6 (some x0) (fun b6 => X6_mixVersion b6 y3 y4)) fun t6 =>
mo_p (.inl (t6, (y4 + 1)))) (
mo_p (.inr y3))
def X6_digest (x0 : Nat) : MO Int :=
mo_b (op_gr 6 (some x0) 0) fun t1 =>
mo_b (mo_cv 4 t1 (fun b37 => X4_mixInto b37 271)) fun t2 =>
mo_b (mo_lp mo_N (X6_digest_L13 x0) (t2, 0)) fun t8 =>
mo_b (mo_lp mo_N (X6_digest_L36 x0) (t8, 0)) fun t17 =>
mo_b (mo_lp mo_N (X6_digest_L75 x0) (t17, 0)) fun t30 =>
mo_b (mo_lp mo_N (X6_digest_L131 x0) (t30, 0)) fun t37 =>
mo_p t37
def X6_drop (x0 : Nat) (x1 : Int) : MO Int :=
mo_lt x1 0 (
mo_p (-101)) (
mo_b (op_gr 6 (some x0) 0) fun t1 =>
mo_b (mo_cv 4 t1 (fun b7 => X4_size b7)) fun t2 =>
mo_lt x1 t2 (
mo_b (op_gr 6 (some x0) 0) fun t3 =>
mo_b (mo_cv 4 t3 (fun b6 => X4_at b6 x1)) fun t4 =>
mo_b (op_gr 6 (some x0) 0) fun t5 =>
mo_b (mo_cv 4 t5 (fun b5 => X4_remove b5 x1)) fun _ =>
mo_p t4) (
mo_p (-101)))
def X6_findStore_L62 (x0 : Nat) (x1 : Int) (y3 : Int) : Int → MO (Int ⊕ Unit) := fun y11 =>
mo_lt y11 x1 (
mo_b (op_gr 6 (some x0) 12) fun t12 =>
mo_b (mo_cv 6 (some x0) (fun b14 => X6_differenceRoom b14 y11 y3)) fun t13 =>
mo_b (mo_cv 2 t12 (fun b13 => X2_setPatch b13 y3 y11 t13)) fun _ =>
mo_p (.inl (y11 + 1))) (
mo_p (.inr ()))
def X6_findStore_L21 (x0 : Nat) (x1 : Int) : Int → MO (Int ⊕ Unit) := fun y3 =>
mo_lt y3 x1 (
mo_b (mo_cv 6 (some x0) (fun b15 => X6_versionOrNull b15 y3)) fun t4 =>
mo_b (
mo_nl t4 (
mo_p ()) (
mo_b (op_gr 6 (some x0) 12) fun t5 =>
mo_b (op_gr 5 t4 0) fun t6 =>
mo_b (mo_cv 4 t6 (fun b9 => X4_room b9)) fun t7 =>
mo_b (op_g 5 t4 4) fun t8 =>
mo_b (mo_cv 2 t5 (fun b8 => X2_setWhole b8 y3 t7 t8)) fun _ =>
mo_p ())) fun _ =>
mo_b (mo_lp mo_N (X6_findStore_L62 x0 x1 y3) 0) fun _ =>
mo_p (.inl (y3 + 1))) (
mo_p (.inr ()))
def X6_findStore (x0 : Nat) (x1 : Int) (x2 : Int) : MO Unit :=
mo_b (op_g 6 (some x0) 13) fun t1 =>
mo_b (op_si 6 (some x0) 13 (t1 + 1)) fun _ =>
mo_b (op_gr 6 (some x0) 12) fun t2 =>
mo_b (mo_cv 2 t2 (fun b18 => X2_clear b18 x1 x2)) fun _ =>
mo_b (mo_lp mo_N (X6_findStore_L21 x0 x1) 0) fun _ =>
mo_b (op_gr 6 (some x0) 12) fun t17 =>
mo_b (mo_cv 2 t17 (fun b17 => X2_find b17)) fun _ =>
mo_p ()
def X6_fits (x0 : Nat) (x1 : Int) : MO Int :=
mo_b (mo_cv 6 (some x0) (fun b4 => X6_patchOrNull b4 x1)) fun t1 =>
mo_nl t1 (
mo_p (-101)) (
mo_b (op_gr 6 (some x0) 0) fun t2 =>
mo_b (mo_cv 3 t1 (fun b3 => X3_fitsOn b3 t2)) fun t3 =>
mo_eq t3 0 (
mo_p 0) (
mo_p 1))
def X6_isLine (x0 : Int) : MO Int :=
mo_lt x0 0 (
mo_p 0) (
mo_le x0 99 (
mo_p 1) (
mo_p 0))
def X6_isHunk (x0 : Int) (x1 : Int) (x2 : Int) : MO Int :=
mo_b (
mo_eq x1 (-1) (
mo_eq x2 (-1) (
mo_p 1) (
mo_b (X6_isLine x2) fun t1 =>
mo_eq t1 0 (
mo_p 0) (
mo_p 1))) (
mo_b (X6_isLine x1) fun t3 =>
mo_eq t3 0 (
mo_p 0) (
mo_eq x2 (-1) (
mo_p 1) (
mo_b (X6_isLine x2) fun t4 =>
mo_eq t4 0 (
mo_p 0) (
mo_p 1))))) fun t7 =>
mo_lt x0 0 (
mo_p 0) (
mo_le x0 14 (
mo_eq t7 0 (
mo_p 0) (
mo_eq x1 (-1) (
mo_eq x2 (-1) (
mo_p 0) (
mo_p 1)) (
mo_p 1))) (
mo_p 0))
def X6_isPatchSize (x0 : Int) (x1 : Int) (x2 : Int) : MO Int :=
mo_le x0 10 (
mo_le x1 28 (
mo_le x2 28 (
mo_p 1) (
mo_p 0)) (
mo_p 0)) (
mo_p 0)
def X6_hunk (x0 : Nat) (x1 : Int) (x2 : Int) (x3 : Int) (x4 : Int) : MO Int :=
mo_b (mo_cv 6 (some x0) (fun b20 => X6_patchOrNull b20 x1)) fun t1 =>
mo_nl t1 (
mo_p (-101)) (
mo_b (X6_isHunk x2 x3 x4) fun t2 =>
mo_eq t2 0 (
mo_p (-102)) (
mo_b (mo_cv 3 t1 (fun b18 => X3_mayBeginNext b18 x2)) fun t3 =>
mo_eq t3 0 (
mo_p (-102)) (
mo_b (
mo_eq x3 (-1) (
mo_p 0) (
mo_p 1)) fun t4 =>
mo_b (
mo_eq x4 (-1) (
mo_p 0) (
mo_p 1)) fun t5 =>
mo_b (mo_cv 3 t1 (fun b17 => X3_hunks b17)) fun t6 =>
mo_b (mo_cv 3 t1 (fun b16 => X3_allGoing b16)) fun t7 =>
mo_b (mo_cv 3 t1 (fun b15 => X3_allComing b15)) fun t8 =>
mo_b (X6_isPatchSize (t6 + 1) (t7 + t4) (t8 + t5)) fun t9 =>
mo_eq t9 0 (
mo_p (-104)) (
mo_b (mo_cv 3 t1 (fun b13 => X3_begin b13 x2)) fun _ =>
mo_b (
mo_eq t4 1 (
mo_b (mo_cv 3 t1 (fun b9 => X3_addGoing b9 x3)) fun _ =>
mo_p ()) (
mo_p ())) fun _ =>
mo_b (
mo_eq t5 1 (
mo_b (mo_cv 3 t1 (fun b10 => X3_addComing b10 x4)) fun _ =>
mo_p ()) (
mo_p ())) fun _ =>
mo_b (mo_cv 3 t1 (fun b12 => X3_hunks b12)) fun t12 =>
mo_p t12))))
def X6_hunkOf (x0 : Nat) (x1 : Int) (x2 : Int) (x3 : Int) : MO Int :=
mo_b (mo_cv 6 (some x0) (fun b13 => X6_patchOrNull b13 x1)) fun t1 =>
mo_nl t1 (
mo_p (-101)) (
mo_lt x2 0 (
mo_p (-101)) (
mo_b (mo_cv 3 t1 (fun b12 => X3_hunks b12)) fun t2 =>
mo_lt x2 t2 (
mo_eq x3 0 (
mo_b (mo_cv 3 t1 (fun b3 => X3_begins b3 x2)) fun t3 =>
mo_p t3) (
mo_eq x3 1 (
mo_b (mo_cv 3 t1 (fun b5 => X3_going b5 x2)) fun t5 =>
mo_p t5) (
mo_eq x3 2 (
mo_b (mo_cv 3 t1 (fun b7 => X3_coming b7 x2)) fun t7 =>
mo_p t7) (
mo_b (
mo_lt x3 10 (
mo_p false) (
mo_lt x3 38 (
mo_p true) (
mo_p false))) fun c80 => cond c80 (
mo_b (mo_cv 3 t1 (fun b9 => X3_goingLine b9 x2 (x3 - 10))) fun t9 =>
mo_p t9) (
mo_lt x3 40 (
mo_p (-102)) (
mo_lt x3 68 (
mo_b (mo_cv 3 t1 (fun b11 => X3_comingLine b11 x2 (x3 - 40))) fun t11 =>
mo_p t11) (
mo_p (-102)))))))) (
mo_p (-101))))
def X6_init (x0 : Nat) : MO Unit :=
mo_b (op_no 4) fun t1 =>
mo_b (mo_on t1 (fun b18 => X4_init b18 14)) fun _ =>
mo_b (op_sr 6 (some x0) 0 t1) fun _ =>
mo_b (op_no 4) fun t2 =>
mo_b (mo_on t2 (fun b17 => X4_init b17 42)) fun _ =>
mo_b (op_sr 6 (some x0) 1 t2) fun _ =>
mo_b (op_nr 2 10 10) fun t3 =>
mo_b (op_sr 6 (some x0) 2 t3) fun _ =>
mo_b (op_nr 3 12 12) fun t4 =>
mo_b (op_sr 6 (some x0) 4 t4) fun _ =>
mo_b (op_ni 100 100) fun t5 =>
mo_b (op_sr 6 (some x0) 6 t5) fun _ =>
mo_b (op_no 1) fun t6 =>
mo_b (mo_on t6 (fun b16 => X1_init b16)) fun _ =>
mo_b (op_sr 6 (some x0) 7 t6) fun _ =>
mo_b (op_no 3) fun t7 =>
mo_b (mo_on t7 (fun b15 => X3_init b15 10 14)) fun _ =>
mo_b (op_sr 6 (some x0) 8 t7) fun _ =>
mo_b (op_no 3) fun t8 =>
mo_b (mo_on t8 (fun b14 => X3_init b14 10 14)) fun _ =>
mo_b (op_sr 6 (some x0) 9 t8) fun _ =>
mo_b (op_no 3) fun t9 =>
mo_b (mo_on t9 (fun b13 => X3_init b13 20 56)) fun _ =>
mo_b (op_sr 6 (some x0) 10 t9) fun _ =>
mo_b (op_no 0) fun t10 =>
mo_b (mo_on t10 (fun b12 => X0_init b12)) fun _ =>
mo_b (op_sr 6 (some x0) 11 t10) fun _ =>
mo_b (op_no 2) fun t11 =>
mo_b (mo_on t11 (fun b11 => X2_init b11)) fun _ =>
mo_b (op_sr 6 (some x0) 12 t11) fun _ =>
mo_p ()
def X6_isStore (x0 : Nat) (x1 : Int) (x2 : Int) : MO Int :=
mo_lt x1 1 (
mo_p 0) (
mo_le x1 6 (
mo_b (op_g 6 (some x0) 3) fun t1 =>
mo_le x1 t1 (
mo_lt x2 1 (
mo_p 0) (
mo_le x2 999 (
mo_p 1) (
mo_p 0))) (
mo_p 0)) (
mo_p 0))
def X6_isVersionOrNone (x0 : Nat) (x1 : Int) : MO Int :=
mo_eq x1 (-1) (
mo_p 1) (
mo_b (mo_cv 6 (some x0) (fun b1 => X6_versionOrNull b1 x1)) fun t1 =>
mo_nl t1 (
mo_p 0) (
mo_p 1))
def X6_takeTrialToDesk (x0 : Nat) : MO Int :=
mo_b (op_gr 6 (some x0) 1) fun t1 =>
mo_b (mo_cv 4 t1 (fun b8 => X4_size b8)) fun t2 =>
mo_le t2 14 (
mo_b (op_gr 6 (some x0) 0) fun t3 =>
mo_b (op_gr 6 (some x0) 1) fun t4 =>
mo_b (mo_cv 4 t3 (fun b7 => X4_become b7 t4)) fun _ =>
mo_b (op_gr 6 (some x0) 0) fun t5 =>
mo_b (mo_cv 4 t5 (fun b6 => X4_size b6)) fun t6 =>
mo_p t6) (
mo_p (-104))
def X6_uniteBothDifferences_L13 (x0 : Nat) : (Int × Int × Int) → MO ((Int × Int × Int) ⊕ Unit) := fun (y2, y3, y4) =>
mo_lt y4 20 (
mo_b (op_gr 6 (some x0) 8) fun t5 =>
mo_b (mo_cv 3 t5 (fun b39 => X3_hunks b39)) fun t6 =>
mo_b (
mo_lt y2 t6 (
mo_p 1) (
mo_p 0)) fun t7 =>
mo_b (op_gr 6 (some x0) 9) fun t8 =>
mo_b (mo_cv 3 t8 (fun b38 => X3_hunks b38)) fun t9 =>
mo_b (
mo_lt y3 t9 (
mo_p 1) (
mo_p 0)) fun t10 =>
mo_b (
mo_b (
mo_eq t7 0 (
mo_p false) (
mo_eq t10 0 (
mo_p true) (
mo_b (op_gr 6 (some x0) 8) fun t11 =>
mo_b (mo_cv 3 t11 (fun b15 => X3_begins b15 y2)) fun t12 =>
mo_b (op_gr 6 (some x0) 9) fun t13 =>
mo_b (mo_cv 3 t13 (fun b14 => X3_begins b14 y3)) fun t14 =>
mo_le t12 t14 (
mo_p true) (
mo_p false)))) fun c57 => cond c57 (
mo_b (
mo_eq t10 0 (
mo_p 0) (
mo_b (op_gr 6 (some x0) 8) fun t17 =>
mo_b (mo_cv 3 t17 (fun b21 => X3_begins b21 y2)) fun t18 =>
mo_b (op_gr 6 (some x0) 9) fun t19 =>
mo_b (mo_cv 3 t19 (fun b20 => X3_begins b20 y3)) fun t20 =>
mo_eq t18 t20 (
mo_p 1) (
mo_p 0))) fun t23 =>
mo_b (op_gr 6 (some x0) 10) fun t24 =>
mo_b (op_gr 6 (some x0) 8) fun t25 =>
mo_b (op_gr 6 (some x0) 8) fun t26 =>
mo_b (mo_cv 3 t26 (fun b29 => X3_begins b29 y2)) fun t27 =>
mo_b (mo_cv 3 t24 (fun b28 => X3_addHunk b28 t25 y2 t27)) fun _ =>
mo_b (
mo_eq t23 0 (
mo_p 0) (
mo_p 1)) fun t28 =>
mo_p ((y2 + 1), (y3 + t28))) (
mo_eq t10 0 (
mo_p (y2, y3)) (
mo_b (op_gr 6 (some x0) 10) fun t31 =>
mo_b (op_gr 6 (some x0) 9) fun t32 =>
mo_b (op_gr 6 (some x0) 9) fun t33 =>
mo_b (mo_cv 3 t33 (fun b35 => X3_begins b35 y3)) fun t34 =>
mo_b (mo_cv 3 t31 (fun b34 => X3_addHunk b34 t32 y3 t34)) fun _ =>
mo_p (y2, (y3 + 1))))) fun (t37, t38) =>
mo_p (.inl (t37, t38, (y4 + 1)))) (
mo_p (.inr ()))
def X6_uniteBothDifferences (x0 : Nat) : MO Unit :=
mo_b (op_gr 6 (some x0) 10) fun t1 =>
mo_b (mo_cv 3 t1 (fun b40 => X3_clear b40)) fun _ =>
mo_b (mo_lp mo_N (X6_uniteBothDifferences_L13 x0) (0, 0, 0)) fun _ =>
mo_p ()
def X6_join (x0 : Nat) (x1 : Int) (x2 : Int) (x3 : Int) : MO Int :=
mo_b (mo_cv 6 (some x0) (fun b12 => X6_versionOrNull b12 x1)) fun t1 =>
mo_nl t1 (
mo_p (-101)) (
mo_b (mo_cv 6 (some x0) (fun b11 => X6_writeBothDifferences b11 x1 x2 x3)) fun t2 =>
mo_eq t2 0 (
mo_p (-101)) (
mo_b (mo_cv 6 (some x0) (fun b10 => X6_clashes b10)) fun t3 =>
mo_le t3 0 (
mo_b (mo_cv 6 (some x0) (fun b9 => X6_uniteBothDifferences b9)) fun _ =>
mo_b (op_gr 6 (some x0) 10) fun t4 =>
mo_b (op_gr 5 t1 0) fun t5 =>
mo_b (op_gr 6 (some x0) 1) fun t6 =>
mo_b (mo_cv 3 t4 (fun b8 => X3_layOn b8 t5 t6)) fun _ =>
mo_b (mo_cv 6 (some x0) (fun b7 => X6_takeTrialToDesk b7)) fun t7 =>
mo_p t7) (
mo_p (-103))))
def X6_leadBackTo_L22 (x0 : Nat) (x1 : Option Nat) (x2 : Option Nat) : Int → MO (Int ⊕ Unit) := fun y4 =>
mo_b (op_gr 5 x1 0) fun t5 =>
mo_b (mo_cv 4 t5 (fun b12 => X4_size b12)) fun t6 =>
mo_lt y4 t6 (
mo_b (op_gr 6 (some x0) 7) fun t7 =>
mo_b (mo_cv 1 t7 (fun b11 => X1_mate b11 y4)) fun t8 =>
mo_b (mo_cv 5 x1 (fun b10 => X5_bringerOf b10 y4)) fun t9 =>
mo_b (mo_cv 5 x2 (fun b9 => X5_setBringer b9 t8 t9)) fun _ =>
mo_p (.inl (y4 + 1))) (
mo_p (.inr ()))
def X6_leadBackTo (x0 : Nat) (x1 : Option Nat) (x2 : Option Nat) : MO Unit :=
mo_nl x1 (
mo_p ()) (
mo_b (op_gr 6 (some x0) 7) fun t1 =>
mo_b (op_gr 5 x1 0) fun t2 =>
mo_b (op_gr 5 x2 0) fun t3 =>
mo_b (mo_cv 1 t1 (fun b13 => X1_find b13 t2 t3)) fun _ =>
mo_b (mo_lp mo_N (X6_leadBackTo_L22 x0 x1 x2) 0) fun _ =>
mo_p ())
def X6_leadBack (x0 : Nat) (x1 : Int) (x2 : Option Nat) : MO Unit :=
mo_b (mo_cv 5 x2 (fun b8 => X5_allBroughtBy b8 x1)) fun _ =>
mo_b (op_g 5 x2 2) fun t1 =>
mo_b (mo_cv 6 (some x0) (fun b7 => X6_versionOrNull b7 t1)) fun t2 =>
mo_b (mo_cv 6 (some x0) (fun b6 => X6_leadBackTo b6 t2 x2)) fun _ =>
mo_b (op_g 5 x2 1) fun t3 =>
mo_b (mo_cv 6 (some x0) (fun b5 => X6_versionOrNull b5 t3)) fun t4 =>
mo_b (mo_cv 6 (some x0) (fun b4 => X6_leadBackTo b4 t4 x2)) fun _ =>
mo_p ()
def X6_setDifferenceRoom (x0 : Nat) (x1 : Int) (x2 : Int) (x3 : Int) : MO Unit :=
mo_lt ((x1 * 10) + x2) 0 (
mo_p ()) (
mo_b (op_gr 6 (some x0) 6) fun t1 =>
mo_b (op_al t1) fun t2 =>
mo_lt ((x1 * 10) + x2) t2 (
mo_b (op_gr 6 (some x0) 6) fun t3 =>
mo_b (op_st t3 ((x1 * 10) + x2) x3) fun _ =>
mo_p ()) (
mo_p ()))
def X6_reckonRooms_L8 (t1 : Option Nat) (x0 : Nat) (x1 : Int) : Int → MO (Int ⊕ Unit) := fun y2 =>
mo_b (op_g 6 (some x0) 3) fun t3 =>
mo_lt y2 t3 (
mo_b (mo_cv 6 (some x0) (fun b16 => X6_versionOrNull b16 y2)) fun t4 =>
mo_b (
mo_nl t4 (
mo_p ()) (
mo_nl t1 (
mo_p ()) (
mo_b (op_gr 6 (some x0) 8) fun t5 =>
mo_b (mo_cv 6 (some x0) (fun b15 => X6_writeDifference b15 t4 t1 t5)) fun _ =>
mo_b (op_gr 6 (some x0) 8) fun t6 =>
mo_b (mo_cv 3 t6 (fun b14 => X3_room b14)) fun t7 =>
mo_b (mo_cv 6 (some x0) (fun b13 => X6_setDifferenceRoom b13 y2 x1 t7)) fun _ =>
mo_b (op_gr 6 (some x0) 8) fun t8 =>
mo_b (mo_cv 6 (some x0) (fun b12 => X6_writeDifference b12 t1 t4 t8)) fun _ =>
mo_b (op_gr 6 (some x0) 8) fun t9 =>
mo_b (mo_cv 3 t9 (fun b11 => X3_room b11)) fun t10 =>
mo_b (mo_cv 6 (some x0) (fun b10 => X6_setDifferenceRoom b10 x1 y2 t10)) fun _ =>
mo_p ()))) fun _ =>
mo_p (.inl (y2 + 1))) (
mo_p (.inr ()))
def X6_reckonRooms (x0 : Nat) (x1 : Int) : MO Unit :=
mo_b (mo_cv 6 (some x0) (fun b17 => X6_versionOrNull b17 x1)) fun t1 =>
mo_b (mo_lp mo_N (X6_reckonRooms_L8 t1 x0 x1) 0) fun _ =>
mo_p ()
def X6_keep (x0 : Nat) (x1 : Int) (x2 : Int) : MO Int :=
mo_b (mo_cv 6 (some x0) (fun b14 => X6_isVersionOrNone b14 x1)) fun t1 =>
mo_eq t1 0 (
mo_p (-101)) (
mo_b (mo_cv 6 (some x0) (fun b13 => X6_isVersionOrNone b13 x2)) fun t2 =>
mo_eq t2 0 (
mo_p (-101)) (
mo_b (
mo_eq x2 (-1) (
mo_p false) (
mo_eq x1 x2 (
mo_p true) (
mo_eq x1 (-1) (
mo_p true) (
mo_p false)))) fun c21 => cond c21 (
mo_p (-102)) (
mo_b (op_g 6 (some x0) 3) fun t3 =>
mo_lt t3 10 (
mo_b (op_no 5) fun t4 =>
mo_b (mo_on t4 (fun b12 => X5_init b12 x1 x2)) fun _ =>
mo_b (op_gr 5 t4 0) fun t5 =>
mo_b (op_gr 6 (some x0) 0) fun t6 =>
mo_b (mo_cv 4 t5 (fun b11 => X4_become b11 t6)) fun _ =>
mo_b (op_g 6 (some x0) 3) fun t7 =>
mo_b (op_gr 6 (some x0) 2) fun t8 =>
mo_b (op_rs 2 5 t8 t7 t4) fun _ =>
mo_b (op_g 6 (some x0) 3) fun t9 =>
mo_b (op_si 6 (some x0) 3 (t9 + 1)) fun _ =>
mo_b (mo_cv 6 (some x0) (fun b10 => X6_reckonRooms b10 t7)) fun _ =>
mo_b (mo_cv 6 (some x0) (fun b9 => X6_leadBack b9 t7 t4)) fun _ =>
mo_p t7) (
mo_p (-104)))))
def X6_kept (x0 : Nat) (x1 : Int) (x2 : Int) (x3 : Int) : MO Int :=
mo_b (mo_cv 6 (some x0) (fun b13 => X6_versionOrNull b13 x1)) fun t1 =>
mo_b (mo_cv 6 (some x0) (fun b12 => X6_versionOrNull b12 x2)) fun t2 =>
mo_nl t1 (
mo_p (-101)) (
mo_nl t2 (
mo_p (-101)) (
mo_lt x3 0 (
mo_p (-101)) (
mo_b (op_gr 5 t1 0) fun t3 =>
mo_b (mo_cv 4 t3 (fun b11 => X4_size b11)) fun t4 =>
mo_lt x3 t4 (
mo_b (op_gr 6 (some x0) 7) fun t5 =>
mo_b (op_gr 5 t1 0) fun t6 =>
mo_b (op_gr 5 t2 0) fun t7 =>
mo_b (mo_cv 1 t5 (fun b10 => X1_find b10 t6 t7)) fun _ =>
mo_b (op_gr 6 (some x0) 7) fun t8 =>
mo_b (mo_cv 1 t8 (fun b9 => X1_mate b9 x3)) fun t9 =>
mo_p t9) (
mo_p (-101)))))
def X6_lay (x0 : Nat) (x1 : Int) : MO Int :=
mo_b (mo_cv 6 (some x0) (fun b9 => X6_patchOrNull b9 x1)) fun t1 =>
mo_nl t1 (
mo_p (-101)) (
mo_b (op_gr 6 (some x0) 0) fun t2 =>
mo_b (mo_cv 3 t1 (fun b8 => X3_fitsOn b8 t2)) fun t3 =>
mo_eq t3 0 (
mo_p (-103)) (
mo_b (op_gr 6 (some x0) 0) fun t4 =>
mo_b (op_gr 6 (some x0) 1) fun t5 =>
mo_b (mo_cv 3 t1 (fun b7 => X3_layOn b7 t4 t5)) fun _ =>
mo_b (mo_cv 6 (some x0) (fun b6 => X6_takeTrialToDesk b6)) fun t6 =>
mo_p t6))
def X6_line (x0 : Nat) (x1 : Int) (x2 : Int) : MO Int :=
mo_lt x1 0 (
mo_p (-102)) (
mo_b (op_gr 6 (some x0) 0) fun t1 =>
mo_b (mo_cv 4 t1 (fun b12 => X4_size b12)) fun t2 =>
mo_le x1 t2 (
mo_b (X6_isLine x2) fun t3 =>
mo_eq t3 0 (
mo_p (-102)) (
mo_b (op_gr 6 (some x0) 0) fun t4 =>
mo_b (mo_cv 4 t4 (fun b10 => X4_size b10)) fun t5 =>
mo_lt t5 14 (
mo_b (op_gr 6 (some x0) 0) fun t6 =>
mo_b (mo_cv 4 t6 (fun b9 => X4_insert b9 x1 x2)) fun _ =>
mo_b (op_gr 6 (some x0) 0) fun t7 =>
mo_b (mo_cv 4 t7 (fun b8 => X4_size b8)) fun t8 =>
mo_p t8) (
mo_p (-104)))) (
mo_p (-102)))
def X6_loose (x0 : Nat) (x1 : Int) : MO Int :=
mo_b (mo_cv 6 (some x0) (fun b9 => X6_patchOrNull b9 x1)) fun t1 =>
mo_nl t1 (
mo_p (-101)) (
mo_b (op_gr 6 (some x0) 1) fun t2 =>
mo_b (op_gr 6 (some x0) 0) fun t3 =>
mo_b (mo_cv 4 t2 (fun b8 => X4_become b8 t3)) fun _ =>
mo_b (op_gr 6 (some x0) 1) fun t4 =>
mo_b (mo_cv 3 t1 (fun b7 => X3_layLooselyOn b7 t4)) fun t5 =>
mo_eq t5 (-1) (
mo_p (-103)) (
mo_b (mo_cv 6 (some x0) (fun b6 => X6_takeTrialToDesk b6)) fun t6 =>
mo_eq t6 (-104) (
mo_p (-104)) (
mo_p t5)))
def X6_of (x0 : Nat) (x1 : Int) (x2 : Int) : MO Int :=
mo_b (mo_cv 6 (some x0) (fun b3 => X6_patchOrNull b3 x1)) fun t1 =>
mo_nl t1 (
mo_p (-101)) (
mo_lt x2 0 (
mo_p (-102)) (
mo_le x2 3 (
mo_b (X6_tellPatch t1 x2) fun t2 =>
mo_p t2) (
mo_p (-102))))
def X6_patch (x0 : Nat) (x1 : Int) (x2 : Int) : MO Int :=
mo_b (mo_cv 6 (some x0) (fun b10 => X6_versionOrNull b10 x1)) fun t1 =>
mo_b (mo_cv 6 (some x0) (fun b9 => X6_versionOrNull b9 x2)) fun t2 =>
mo_nl t1 (
mo_p (-101)) (
mo_nl t2 (
mo_p (-101)) (
mo_b (mo_cv 6 (some x0) (fun b8 => X6_hasRoomForPatches b8 1)) fun t3 =>
mo_eq t3 0 (
mo_p (-104)) (
mo_b (X6_newPatch) fun t4 =>
mo_b (mo_cv 6 (some x0) (fun b6 => X6_writeDifference b6 t1 t2 t4)) fun _ =>
mo_b (mo_cv 6 (some x0) (fun b5 => X6_addPatch b5 t4)) fun t5 =>
mo_p t5)))
def X6_saved (x0 : Nat) (x1 : Int) (x2 : Int) (x3 : Int) (x4 : Int) : MO Int :=
mo_b (mo_cv 6 (some x0) (fun b9 => X6_isStore b9 x1 x2)) fun t1 =>
mo_b (
mo_eq t1 0 (
mo_p true) (
mo_lt x3 0 (
mo_p true) (
mo_le x3 99 (
mo_lt x4 0 (
mo_p true) (
mo_le x4 1 (
mo_p false) (
mo_p true))) (
mo_p true)))) fun c6 => cond c6 (
mo_p (-102)) (
mo_b (op_g 6 (some x0) 13) fun t2 =>
mo_lt t2 30 (
mo_b (mo_cv 6 (some x0) (fun b8 => X6_findStore b8 x1 x2)) fun _ =>
mo_b (op_gr 6 (some x0) 12) fun t3 =>
mo_b (mo_cv 2 t3 (fun b7 => X2_bestCopy b7 x3)) fun t4 =>
mo_eq x4 0 (
mo_p t4) (
mo_eq t4 (-1) (
mo_p t4) (
mo_b (op_gr 6 (some x0) 12) fun t5 =>
mo_b (mo_cv 2 t5 (fun b6 => X2_worstLossBut b6 t4)) fun t6 =>
mo_p t6))) (
mo_p (-103)))
def X6_share_L27 (t1 : Option Nat) (x2 : Int) : (Int × Int) → MO ((Int × Int) ⊕ Int) := fun (y3, y4) =>
mo_b (op_gr 5 t1 0) fun t5 =>
mo_b (mo_cv 4 t5 (fun b9 => X4_size b9)) fun t6 =>
mo_lt y4 t6 (
mo_b (mo_cv 5 t1 (fun b8 => X5_bringerOf b8 y4)) fun t7 =>
mo_b (
mo_eq t7 x2 (
mo_p (y3 + 1)) (
mo_p y3)) fun t8 =>
mo_p (.inl (t8, (y4 + 1)))) (
mo_p (.inr y3))
def X6_share (x0 : Nat) (x1 : Int) (x2 : Int) : MO Int :=
mo_b (mo_cv 6 (some x0) (fun b12 => X6_versionOrNull b12 x1)) fun t1 =>
mo_nl t1 (
mo_p (-101)) (
mo_b (mo_cv 6 (some x0) (fun b11 => X6_versionOrNull b11 x2)) fun t2 =>
mo_nl t2 (
mo_p (-101)) (
mo_b (mo_lp mo_N (X6_share_L27 t1 x2) (0, 0)) fun t11 =>
mo_p t11))
def X6_store (x0 : Nat) (x1 : Int) (x2 : Int) (x3 : Int) : MO Int :=
mo_b (
mo_lt x3 10 (
mo_p 0) (
mo_lt x3 16 (
mo_p 1) (
mo_p 0))) fun t1 =>
mo_b (
mo_lt x3 20 (
mo_p 0) (
mo_lt x3 26 (
mo_p 1) (
mo_p 0))) fun t2 =>
mo_b (mo_cv 6 (some x0) (fun b17 => X6_isStore b17 x1 x2)) fun t3 =>
mo_eq t3 0 (
mo_p (-102)) (
mo_b (
mo_eq x3 0 (
mo_p false) (
mo_eq x3 1 (
mo_p false) (
mo_eq t1 0 (
mo_eq t2 0 (
mo_p true) (
mo_p false)) (
mo_p false)))) fun c48 => cond c48 (
mo_p (-102)) (
mo_b (op_g 6 (some x0) 13) fun t4 =>
mo_lt t4 30 (
mo_b (mo_cv 6 (some x0) (fun b16 => X6_findStore b16 x1 x2)) fun _ =>
mo_eq t1 0 (
mo_eq t2 0 (
mo_eq x3 0 (
mo_b (op_gr 6 (some x0) 12) fun t8 =>
mo_b (mo_cv 2 t8 (fun b9 => X2_roomOrNone b9)) fun t9 =>
mo_p t9) (
mo_b (op_gr 6 (some x0) 12) fun t5 =>
mo_b (mo_cv 2 t5 (fun b6 => X2_sumOrNone b6)) fun t6 =>
mo_p t6)) (
mo_b (op_gr 6 (some x0) 12) fun t11 =>
mo_b (mo_cv 2 t11 (fun b12 => X2_remadeFor b12 (x3 - 20))) fun t12 =>
mo_p t12)) (
mo_b (op_gr 6 (some x0) 12) fun t14 =>
mo_b (mo_cv 2 t14 (fun b15 => X2_sourceOf b15 (x3 - 10))) fun t15 =>
mo_p t15)) (
mo_p (-103))))
def X6_swap (x0 : Nat) (x1 : Int) (x2 : Int) : MO Int :=
mo_b (mo_cv 6 (some x0) (fun b20 => X6_patchOrNull b20 x1)) fun t1 =>
mo_b (mo_cv 6 (some x0) (fun b19 => X6_patchOrNull b19 x2)) fun t2 =>
mo_nl t1 (
mo_p (-101)) (
mo_nl t2 (
mo_p (-101)) (
mo_b (op_gr 6 (some x0) 11) fun t3 =>
mo_b (mo_cv 0 t3 (fun b18 => X0_anyTouch b18 t1 t2)) fun t4 =>
mo_eq t4 0 (
mo_b (mo_cv 6 (some x0) (fun b17 => X6_hasRoomForPatches b17 2)) fun t5 =>
mo_eq t5 0 (
mo_p (-104)) (
mo_b (X6_newPatch) fun t6 =>
mo_b (op_gr 6 (some x0) 11) fun t7 =>
mo_b (mo_cv 0 t7 (fun b15 => X0_moveAhead b15 t1 t2 t6)) fun _ =>
mo_b (X6_newPatch) fun t8 =>
mo_b (op_gr 6 (some x0) 11) fun t9 =>
mo_b (mo_cv 0 t9 (fun b13 => X0_moveBehind b13 t1 t2 t8)) fun _ =>
mo_b (mo_cv 6 (some x0) (fun b12 => X6_addPatch b12 t6)) fun t10 =>
mo_b (mo_cv 6 (some x0) (fun b11 => X6_addPatch b11 t8)) fun t11 =>
mo_p t10)) (
mo_p (-103))))
def X6_take (x0 : Nat) (x1 : Int) : MO Int :=
mo_eq x1 (-1) (
mo_b (op_gr 6 (some x0) 0) fun t9 =>
mo_b (mo_cv 4 t9 (fun b12 => X4_clear b12)) fun _ =>
mo_b (op_gr 6 (some x0) 0) fun t10 =>
mo_b (mo_cv 4 t10 (fun b11 => X4_size b11)) fun t11 =>
mo_p t11) (
mo_b (mo_cv 6 (some x0) (fun b7 => X6_versionOrNull b7 x1)) fun t1 =>
mo_nl t1 (
mo_p (-101)) (
mo_b (op_gr 6 (some x0) 0) fun t2 =>
mo_b (op_gr 5 t1 0) fun t3 =>
mo_b (mo_cv 4 t2 (fun b6 => X4_become b6 t3)) fun _ =>
mo_b (op_gr 6 (some x0) 0) fun t4 =>
mo_b (mo_cv 4 t4 (fun b5 => X4_size b5)) fun t5 =>
mo_p t5))
def X6_text (x0 : Nat) (x1 : Int) (x2 : Int) : MO Int :=
mo_b (mo_cv 6 (some x0) (fun b4 => X6_versionOrNull b4 x1)) fun t1 =>
mo_nl t1 (
mo_p (-101)) (
mo_b (op_gr 5 t1 0) fun t2 =>
mo_b (mo_cv 4 t2 (fun b3 => X4_at b3 x2)) fun t3 =>
mo_p t3)
def X6_together (x0 : Nat) (x1 : Int) (x2 : Int) : MO Int :=
mo_b (mo_cv 6 (some x0) (fun b28 => X6_patchOrNull b28 x1)) fun t1 =>
mo_b (mo_cv 6 (some x0) (fun b27 => X6_patchOrNull b27 x2)) fun t2 =>
mo_nl t1 (
mo_p (-101)) (
mo_nl t2 (
mo_p (-101)) (
mo_b (op_gr 6 (some x0) 11) fun t3 =>
mo_b (mo_cv 0 t3 (fun b26 => X0_agree b26 t1 t2)) fun t4 =>
mo_eq t4 0 (
mo_p (-102)) (
mo_b (op_gr 6 (some x0) 11) fun t5 =>
mo_b (op_gr 6 (some x0) 10) fun t6 =>
mo_b (mo_cv 0 t5 (fun b25 => X0_putTogether b25 t1 t2 t6)) fun _ =>
mo_b (mo_cv 6 (some x0) (fun b24 => X6_hasRoomForPatches b24 1)) fun t7 =>
mo_eq t7 0 (
mo_p (-104)) (
mo_b (op_gr 6 (some x0) 10) fun t8 =>
mo_b (mo_cv 3 t8 (fun b23 => X3_hunks b23)) fun t9 =>
mo_b (op_gr 6 (some x0) 10) fun t10 =>
mo_b (mo_cv 3 t10 (fun b22 => X3_allGoing b22)) fun t11 =>
mo_b (op_gr 6 (some x0) 10) fun t12 =>
mo_b (mo_cv 3 t12 (fun b21 => X3_allComing b21)) fun t13 =>
mo_b (X6_isPatchSize t9 t11 t13) fun t14 =>
mo_eq t14 0 (
mo_p (-104)) (
mo_b (X6_newPatch) fun t15 =>
mo_b (op_gr 6 (some x0) 10) fun t16 =>
mo_b (mo_cv 3 t15 (fun b18 => X3_become b18 t16)) fun _ =>
mo_b (mo_cv 6 (some x0) (fun b17 => X6_addPatch b17 t15)) fun t17 =>
mo_p t17)))))
def X6_turn (x0 : Nat) (x1 : Int) : MO Int :=
mo_b (mo_cv 6 (some x0) (fun b8 => X6_patchOrNull b8 x1)) fun t1 =>
mo_nl t1 (
mo_p (-101)) (
mo_b (mo_cv 6 (some x0) (fun b7 => X6_hasRoomForPatches b7 1)) fun t2 =>
mo_eq t2 0 (
mo_p (-104)) (
mo_b (X6_newPatch) fun t3 =>
mo_b (mo_cv 3 t3 (fun b5 => X3_becomeTurned b5 t1)) fun _ =>
mo_b (mo_cv 6 (some x0) (fun b4 => X6_addPatch b4 t3)) fun t4 =>
mo_p t4))
def X6_worst (x0 : Nat) (x1 : Int) (x2 : Int) (x3 : Int) : MO Int :=
mo_b (mo_cv 6 (some x0) (fun b9 => X6_isStore b9 x1 x2)) fun t1 =>
mo_eq t1 0 (
mo_p (-102)) (
mo_lt x3 0 (
mo_p (-102)) (
mo_le x3 1 (
mo_b (op_g 6 (some x0) 13) fun t2 =>
mo_lt t2 30 (
mo_b (mo_cv 6 (some x0) (fun b8 => X6_findStore b8 x1 x2)) fun _ =>
mo_b (op_gr 6 (some x0) 12) fun t3 =>
mo_b (mo_cv 2 t3 (fun b7 => X2_worstPiece b7 (-1))) fun t4 =>
mo_eq x3 0 (
mo_p t4) (
mo_eq t4 (-1) (
mo_p t4) (
mo_b (op_gr 6 (some x0) 12) fun t5 =>
mo_b (mo_cv 2 t5 (fun b6 => X2_lostWith b6 t4)) fun t6 =>
mo_p t6))) (
mo_p (-103))) (
mo_p (-102))))
def X7_aboutOf (x0 : Nat) (x1 : Int) (x2 : Int) : MO Int :=
mo_eq x2 0 (
mo_b (op_gr 7 (some x0) 3) fun t1 =>
mo_b (op_ld t1 x1) fun t2 =>
mo_p t2) (
mo_eq x2 1 (
mo_b (op_gr 7 (some x0) 5) fun t3 =>
mo_b (op_ld t3 x1) fun t4 =>
mo_p t4) (
mo_eq x2 2 (
mo_b (op_gr 7 (some x0) 6) fun t5 =>
mo_b (op_ld t5 x1) fun t6 =>
mo_p t6) (
mo_eq x2 3 (
mo_b (op_gr 7 (some x0) 7) fun t7 =>
mo_b (op_ld t7 x1) fun t8 =>
mo_p t8) (
mo_b (op_gr 7 (some x0) 3) fun t9 =>
mo_b (op_ld t9 x1) fun t10 =>
mo_p (t10 + 1)))))
def X7_within (x0 : Int) (x1 : Int) (x2 : Int) : MO Int :=
mo_lt x0 x1 (
mo_p 0) (
mo_le x0 x2 (
mo_p 1) (
mo_p 0))
def X7_isVersion (x0 : Nat) (x1 : Int) : MO Int :=
mo_b (op_g 7 (some x0) 2) fun t1 =>
mo_b (X7_within x1 0 (t1 - 1)) fun t2 =>
mo_b (op_z t2) fun t3 => mo_p t3
def X7_about (x0 : Nat) (x1 : Int) (x2 : Int) : MO Int :=
mo_b (mo_cv 7 (some x0) (fun b5 => X7_isVersion b5 x1)) fun t1 =>
mo_eq t1 0 (
mo_p (-101)) (
mo_b (X7_within x2 0 4) fun t2 =>
mo_eq t2 0 (
mo_p (-102)) (
mo_b (mo_cv 7 (some x0) (fun b3 => X7_aboutOf b3 x1 x2)) fun t3 =>
mo_p t3))
def X7_comeFrom_L8 (x0 : Nat) (x1 : Int) (x2 : Int) : (Int × Int) → MO ((Int × Int) ⊕ Int) := fun (y1, y2) =>
mo_lt y2 x2 (
mo_b (op_gr 7 (some x0) 12) fun t3 =>
mo_b (op_ld t3 ((10 * x1) + y2)) fun t4 =>
mo_p (.inl ((y1 + t4), (y2 + 1)))) (
mo_p (.inr y1))
def X7_comeFrom (x0 : Nat) (x1 : Int) (x2 : Int) : MO Int :=
mo_b (mo_lp mo_N (X7_comeFrom_L8 x0 x1 x2) ((28 * x1), 0)) fun t5 =>
mo_p t5
def X7_goFrom_L8 (x0 : Nat) (x1 : Int) (x2 : Int) : (Int × Int) → MO ((Int × Int) ⊕ Int) := fun (y1, y2) =>
mo_lt y2 x2 (
mo_b (op_gr 7 (some x0) 11) fun t3 =>
mo_b (op_ld t3 ((10 * x1) + y2)) fun t4 =>
mo_p (.inl ((y1 + t4), (y2 + 1)))) (
mo_p (.inr y1))
def X7_goFrom (x0 : Nat) (x1 : Int) (x2 : Int) : MO Int :=
mo_b (mo_lp mo_N (X7_goFrom_L8 x0 x1 x2) ((28 * x1), 0)) fun t5 =>
mo_p t5
def X7_standsAt_L15 (x0 : Nat) (x1 : Int) (x2 : Int) : (Int × Int) → MO ((Int × Int) ⊕ Int) := fun (y3, y4) =>
mo_lt y4 x2 (
mo_b (op_gr 7 (some x0) 12) fun t5 =>
mo_b (op_ld t5 ((10 * x1) + y4)) fun t6 =>
mo_b (op_gr 7 (some x0) 11) fun t7 =>
mo_b (op_ld t7 ((10 * x1) + y4)) fun t8 =>
mo_p (.inl ((y3 + (t6 - t8)), (y4 + 1)))) (
mo_p (.inr y3))
def X7_standsAt (x0 : Nat) (x1 : Int) (x2 : Int) : MO Int :=
mo_b (op_gr 7 (some x0) 10) fun t1 =>
mo_b (op_ld t1 ((10 * x1) + x2)) fun t2 =>
mo_b (mo_lp mo_N (X7_standsAt_L15 x0 x1 x2) (t2, 0)) fun t9 =>
mo_p t9
def X7_agree_L64 (t4 : Int) (t9 : Int) (x0 : Nat) (x1 : Int) (x2 : Int) (y1 : Int) (y5 : Int) : Int → MO (Int ⊕ (Int ⊕ (Int ⊕ Int))) := fun y11 =>
mo_b (op_gr 7 (some x0) 12) fun t12 =>
mo_b (op_ld t12 ((10 * x1) + y1)) fun t13 =>
mo_lt y11 (t4 + t13) (
mo_b (op_gr 7 (some x0) 11) fun t14 =>
mo_b (op_ld t14 ((10 * x2) + y5)) fun t15 =>
mo_lt y11 (t9 + t15) (
mo_b (op_gr 7 (some x0) 14) fun t16 =>
mo_b (mo_cv 7 (some x0) (fun b22 => X7_comeFrom b22 x1 y1)) fun t17 =>
mo_b (op_ld t16 ((t17 + y11) - t4)) fun t18 =>
mo_b (op_gr 7 (some x0) 13) fun t19 =>
mo_b (mo_cv 7 (some x0) (fun b21 => X7_goFrom b21 x2 y5)) fun t20 =>
mo_b (op_ld t19 ((t20 + y11) - t9)) fun t21 =>
mo_eq t18 t21 (
mo_p (.inl (y11 + 1))) (
mo_p (.inr (.inr (.inr 0))))) (
mo_p (.inr (.inl (y5 + 1))))) (
mo_p (.inr (.inl (y5 + 1))))
def X7_agree_L23 (t4 : Int) (x0 : Nat) (x1 : Int) (x2 : Int) (y1 : Int) : Int → MO (Int ⊕ (Int ⊕ Int)) := fun y5 =>
mo_b (op_gr 7 (some x0) 9) fun t6 =>
mo_b (op_ld t6 x2) fun t7 =>
mo_lt y5 t7 (
mo_b (op_gr 7 (some x0) 10) fun t8 =>
mo_b (op_ld t8 ((10 * x2) + y5)) fun t9 =>
mo_b (
mo_le t4 t9 (
mo_p t9) (
mo_p t4)) fun t10 =>
mo_lp mo_N (X7_agree_L64 t4 t9 x0 x1 x2 y1 y5) t10) (
mo_p (.inr (.inl (y1 + 1))))
def X7_agree_L2 (x0 : Nat) (x1 : Int) (x2 : Int) : Int → MO (Int ⊕ Int) := fun y1 =>
mo_b (op_gr 7 (some x0) 9) fun t2 =>
mo_b (op_ld t2 x1) fun t3 =>
mo_lt y1 t3 (
mo_b (mo_cv 7 (some x0) (fun b23 => X7_standsAt b23 x1 y1)) fun t4 =>
mo_lp mo_N (X7_agree_L23 t4 x0 x1 x2 y1) 0) (
mo_p (.inr 1))
def X7_agree (x0 : Nat) (x1 : Int) (x2 : Int) : MO Int :=
mo_lp mo_N (X7_agree_L2 x0 x1 x2) 0
def X7_workFrom_L4 (x0 : Nat) (x1 : Int) : (Int × Int) → MO ((Int × Int) ⊕ Int) := fun (y1, y2) =>
mo_lt y2 x1 (
mo_b (op_gr 7 (some x0) 19) fun t3 =>
mo_b (op_ld t3 y2) fun t4 =>
mo_p (.inl ((y1 + t4), (y2 + 1)))) (
mo_p (.inr y1))
def X7_workFrom (x0 : Nat) (x1 : Int) : MO Int :=
mo_b (mo_lp mo_N (X7_workFrom_L4 x0 x1) (0, 0)) fun t5 =>
mo_p t5
def X7_xFrom_L4 (x0 : Nat) (x1 : Int) : (Int × Int) → MO ((Int × Int) ⊕ Int) := fun (y1, y2) =>
mo_lt y2 x1 (
mo_b (op_gr 7 (some x0) 31) fun t3 =>
mo_b (op_ld t3 y2) fun t4 =>
mo_p (.inl ((y1 + t4), (y2 + 1)))) (
mo_p (.inr y1))
def X7_xFrom (x0 : Nat) (x1 : Int) : MO Int :=
mo_b (mo_lp mo_N (X7_xFrom_L4 x0 x1) (0, 0)) fun t5 =>
mo_p t5
def X7_alike_L54 (x0 : Nat) (x1 : Int) (x2 : Int) : (Int × Int) → MO ((Int × Int) ⊕ Int) := fun (y14, y15) =>
mo_b (op_gr 7 (some x0) 31) fun t16 =>
mo_b (op_ld t16 x1) fun t17 =>
mo_lt y15 t17 (
mo_eq y14 0 (
mo_p (.inr y14)) (
mo_b (op_gr 7 (some x0) 32) fun t18 =>
mo_b (mo_cv 7 (some x0) (fun b25 => X7_xFrom b25 x1)) fun t19 =>
mo_b (op_ld t18 (t19 + y15)) fun t20 =>
mo_b (op_gr 7 (some x0) 23) fun t21 =>
mo_b (mo_cv 7 (some x0) (fun b24 => X7_workFrom b24 x2)) fun t22 =>
mo_b (op_ld t21 (t22 + y15)) fun t23 =>
mo_b (
mo_eq t20 t23 (
mo_p 1) (
mo_p 0)) fun t24 =>
mo_p (.inl (t24, (y15 + 1))))) (
mo_p (.inr y14))
def X7_alike (x0 : Nat) (x1 : Int) (x2 : Int) : MO Int :=
mo_b (op_gr 7 (some x0) 29) fun t1 =>
mo_b (op_ld t1 x1) fun t2 =>
mo_b (op_gr 7 (some x0) 17) fun t3 =>
mo_b (op_ld t3 x2) fun t4 =>
mo_b (
mo_eq t2 t4 (
mo_b (op_gr 7 (some x0) 30) fun t5 =>
mo_b (op_ld t5 x1) fun t6 =>
mo_b (op_gr 7 (some x0) 18) fun t7 =>
mo_b (op_ld t7 x2) fun t8 =>
mo_eq t6 t8 (
mo_b (op_gr 7 (some x0) 31) fun t9 =>
mo_b (op_ld t9 x1) fun t10 =>
mo_b (op_gr 7 (some x0) 19) fun t11 =>
mo_b (op_ld t11 x2) fun t12 =>
mo_eq t10 t12 (
mo_p 1) (
mo_p 0)) (
mo_p 0)) (
mo_p 0)) fun t13 =>
mo_b (mo_lp mo_N (X7_alike_L54 x0 x1 x2) (t13, 0)) fun t27 =>
mo_b (op_z t27) fun t28 => mo_p t28
def X7_areVersions (x0 : Nat) (x1 : Int) (x2 : Int) (x3 : Int) : MO Int :=
mo_b (mo_cv 7 (some x0) (fun b5 => X7_isVersion b5 x1)) fun t1 =>
mo_eq t1 0 (
mo_p 0) (
mo_b (mo_cv 7 (some x0) (fun b4 => X7_isVersion b4 x2)) fun t2 =>
mo_eq t2 0 (
mo_p 0) (
mo_b (mo_cv 7 (some x0) (fun b3 => X7_isVersion b3 x3)) fun t3 =>
mo_eq t3 0 (
mo_p 0) (
mo_p 1)))
def X7_asked (x0 : Nat) (x1 : Int) (x2 : Int) : MO Int :=
mo_b (mo_cv 7 (some x0) (fun b6 => X7_isVersion b6 x1)) fun t1 =>
mo_eq t1 0 (
mo_p (-101)) (
mo_b (X7_within x2 0 9) fun t2 =>
mo_eq t2 0 (
mo_p (-102)) (
mo_b (op_gr 7 (some x0) 7) fun t3 =>
mo_b (op_ld t3 x1) fun t4 =>
mo_b (op_gr 7 (some x0) 7) fun t5 =>
mo_b (op_st t5 x1 x2) fun _ =>
mo_p t4))
def X7_newWork (x0 : Nat) : MO Unit :=
mo_b (op_si 7 (some x0) 16 0) fun _ =>
mo_b (op_si 7 (some x0) 20 0) fun _ =>
mo_b (op_si 7 (some x0) 22 0) fun _ =>
mo_p ()
def X7_storeWork_L127 (x0 : Nat) : Int → MO (Int ⊕ Unit) := fun y24 =>
mo_b (op_g 7 (some x0) 22) fun t25 =>
mo_lt y24 t25 (
mo_b (op_gr 7 (some x0) 14) fun t26 =>
mo_b (op_g 7 (some x0) 8) fun t27 =>
mo_b (op_gr 7 (some x0) 23) fun t28 =>
mo_b (op_ld t28 y24) fun t29 =>
mo_b (op_st t26 ((28 * t27) + y24) t29) fun _ =>
mo_p (.inl (y24 + 1))) (
mo_p (.inr ()))
def X7_storeWork_L91 (x0 : Nat) : Int → MO (Int ⊕ Unit) := fun y18 =>
mo_b (op_g 7 (some x0) 20) fun t19 =>
mo_lt y18 t19 (
mo_b (op_gr 7 (some x0) 13) fun t20 =>
mo_b (op_g 7 (some x0) 8) fun t21 =>
mo_b (op_gr 7 (some x0) 21) fun t22 =>
mo_b (op_ld t22 y18) fun t23 =>
mo_b (op_st t20 ((28 * t21) + y18) t23) fun _ =>
mo_p (.inl (y18 + 1))) (
mo_p (.inr ()))
def X7_storeWork_L15 (x0 : Nat) : Int → MO (Int ⊕ Unit) := fun y4 =>
mo_b (op_g 7 (some x0) 16) fun t5 =>
mo_lt y4 t5 (
mo_b (op_gr 7 (some x0) 10) fun t6 =>
mo_b (op_g 7 (some x0) 8) fun t7 =>
mo_b (op_gr 7 (some x0) 17) fun t8 =>
mo_b (op_ld t8 y4) fun t9 =>
mo_b (op_st t6 ((10 * t7) + y4) t9) fun _ =>
mo_b (op_gr 7 (some x0) 11) fun t10 =>
mo_b (op_g 7 (some x0) 8) fun t11 =>
mo_b (op_gr 7 (some x0) 18) fun t12 =>
mo_b (op_ld t12 y4) fun t13 =>
mo_b (op_st t10 ((10 * t11) + y4) t13) fun _ =>
mo_b (op_gr 7 (some x0) 12) fun t14 =>
mo_b (op_g 7 (some x0) 8) fun t15 =>
mo_b (op_gr 7 (some x0) 19) fun t16 =>
mo_b (op_ld t16 y4) fun t17 =>
mo_b (op_st t14 ((10 * t15) + y4) t17) fun _ =>
mo_p (.inl (y4 + 1))) (
mo_p (.inr ()))
def X7_storeWork (x0 : Nat) : MO Int :=
mo_b (op_gr 7 (some x0) 9) fun t1 =>
mo_b (op_g 7 (some x0) 8) fun t2 =>
mo_b (op_g 7 (some x0) 16) fun t3 =>
mo_b (op_st t1 t2 t3) fun _ =>
mo_b (mo_lp mo_N (X7_storeWork_L15 x0) 0) fun _ =>
mo_b (mo_lp mo_N (X7_storeWork_L91 x0) 0) fun _ =>
mo_b (mo_lp mo_N (X7_storeWork_L127 x0) 0) fun _ =>
mo_b (op_g 7 (some x0) 8) fun t30 =>
mo_b (op_si 7 (some x0) 8 (t30 + 1)) fun _ =>
mo_b (op_g 7 (some x0) 8) fun t31 =>
mo_p (t31 - 1)
def X7_blank (x0 : Nat) : MO Int :=
mo_b (op_g 7 (some x0) 8) fun t1 =>
mo_eq t1 12 (
mo_p (-104)) (
mo_b (mo_cv 7 (some x0) (fun b3 => X7_newWork b3)) fun _ =>
mo_b (mo_cv 7 (some x0) (fun b2 => X7_storeWork b2)) fun t2 =>
mo_p t2)
def X7_comes (x0 : Nat) (x1 : Int) : MO Unit :=
mo_b (op_gr 7 (some x0) 23) fun t1 =>
mo_b (op_g 7 (some x0) 22) fun t2 =>
mo_b (op_st t1 t2 x1) fun _ =>
mo_b (op_g 7 (some x0) 22) fun t3 =>
mo_b (op_si 7 (some x0) 22 (t3 + 1)) fun _ =>
mo_b (op_gr 7 (some x0) 19) fun t4 =>
mo_b (op_g 7 (some x0) 16) fun t5 =>
mo_b (op_ld t4 (t5 - 1)) fun t6 =>
mo_b (op_st t4 (t5 - 1) (t6 + 1)) fun _ =>
mo_p ()
def X7_goes (x0 : Nat) (x1 : Int) : MO Unit :=
mo_b (op_gr 7 (some x0) 21) fun t1 =>
mo_b (op_g 7 (some x0) 20) fun t2 =>
mo_b (op_st t1 t2 x1) fun _ =>
mo_b (op_g 7 (some x0) 20) fun t3 =>
mo_b (op_si 7 (some x0) 20 (t3 + 1)) fun _ =>
mo_b (op_gr 7 (some x0) 18) fun t4 =>
mo_b (op_g 7 (some x0) 16) fun t5 =>
mo_b (op_ld t4 (t5 - 1)) fun t6 =>
mo_b (op_st t4 (t5 - 1) (t6 + 1)) fun _ =>
mo_p ()
def X7_newHunk (x0 : Nat) (x1 : Int) : MO Unit :=
mo_b (op_gr 7 (some x0) 17) fun t1 =>
mo_b (op_g 7 (some x0) 16) fun t2 =>
mo_b (op_st t1 t2 x1) fun _ =>
mo_b (op_gr 7 (some x0) 18) fun t3 =>
mo_b (op_g 7 (some x0) 16) fun t4 =>
mo_b (op_st t3 t4 0) fun _ =>
mo_b (op_gr 7 (some x0) 19) fun t5 =>
mo_b (op_g 7 (some x0) 16) fun t6 =>
mo_b (op_st t5 t6 0) fun _ =>
mo_b (op_g 7 (some x0) 16) fun t7 =>
mo_b (op_si 7 (some x0) 16 (t7 + 1)) fun _ =>
mo_p ()
def X7_layDifference_L27 (t2 : Int) (t4 : Int) (x0 : Nat) (x1 : Int) (x2 : Int) (y5 : Int) : Int → MO (Int ⊕ Unit) := fun y6 =>
mo_lt y6 0 (
mo_p (.inr ())) (
mo_b (
mo_lt y5 t2 (
mo_lt y6 t4 (
mo_b (op_gr 7 (some x0) 24) fun t7 =>
mo_b (op_ld t7 ((15 * (y5 + 1)) + y6)) fun t8 =>
mo_b (op_gr 7 (some x0) 24) fun t9 =>
mo_b (op_ld t9 (((15 * y5) + y6) + 1)) fun t10 =>
mo_b (
mo_le t8 t10 (
mo_p t10) (
mo_p t8)) fun t11 =>
mo_b (op_gr 7 (some x0) 4) fun t12 =>
mo_b (op_ld t12 ((14 * x1) + y5)) fun t13 =>
mo_b (op_gr 7 (some x0) 4) fun t14 =>
mo_b (op_ld t14 ((14 * x2) + y6)) fun t15 =>
mo_b (
mo_eq t13 t15 (
mo_b (op_gr 7 (some x0) 24) fun t16 =>
mo_b (op_ld t16 (((15 * (y5 + 1)) + y6) + 1)) fun t17 =>
mo_p (t17 + 1)) (
mo_p t11)) fun t18 =>
mo_p t18) (
mo_p 0)) (
mo_p 0)) fun t19 =>
mo_b (op_gr 7 (some x0) 24) fun t20 =>
mo_b (op_st t20 ((15 * y5) + y6) t19) fun _ =>
mo_p (.inl (y6 + (-1))))
def X7_layDifference_L196 (t2 : Int) (t4 : Int) (x0 : Nat) (x1 : Int) (x2 : Int) : (Int × Int × Int) → MO ((Int × Int × Int) ⊕ Unit) := fun (y21, y22, y23) =>
mo_b (
mo_lt y22 t2 (
mo_p true) (
mo_lt y23 t4 (
mo_p true) (
mo_p false))) fun c199 => cond c199 (
mo_b (
mo_lt y22 t2 (
mo_lt y23 t4 (
mo_b (op_gr 7 (some x0) 4) fun t24 =>
mo_b (op_ld t24 ((14 * x1) + y22)) fun t25 =>
mo_b (op_gr 7 (some x0) 4) fun t26 =>
mo_b (op_ld t26 ((14 * x2) + y23)) fun t27 =>
mo_eq t25 t27 (
mo_p 1) (
mo_p 0)) (
mo_p 0)) (
mo_p 0)) fun t28 =>
mo_b (
mo_eq t28 0 (
mo_b (
mo_eq y21 0 (
mo_b (mo_cv 7 (some x0) (fun b28 => X7_newHunk b28 y22)) fun _ =>
mo_p ()) (
mo_p ())) fun _ =>
mo_b (
mo_lt y22 t2 (
mo_eq y23 t4 (
mo_p 1) (
mo_b (op_gr 7 (some x0) 24) fun t30 =>
mo_b (op_ld t30 ((15 * (y22 + 1)) + y23)) fun t31 =>
mo_b (op_gr 7 (some x0) 24) fun t32 =>
mo_b (op_ld t32 ((15 * y22) + y23)) fun t33 =>
mo_eq t31 t33 (
mo_p 1) (
mo_p 0))) (
mo_p 0)) fun t34 =>
mo_eq t34 0 (
mo_b (op_gr 7 (some x0) 4) fun t35 =>
mo_b (op_ld t35 ((14 * x2) + y23)) fun t36 =>
mo_b (mo_cv 7 (some x0) (fun b36 => X7_comes b36 t36)) fun _ =>
mo_p (1, y22, (y23 + 1))) (
mo_b (op_gr 7 (some x0) 25) fun t38 =>
mo_b (op_st t38 y22 (-1)) fun _ =>
mo_b (op_gr 7 (some x0) 4) fun t39 =>
mo_b (op_ld t39 ((14 * x1) + y22)) fun t40 =>
mo_b (mo_cv 7 (some x0) (fun b40 => X7_goes b40 t40)) fun _ =>
mo_p (1, (y22 + 1), y23))) (
mo_b (op_gr 7 (some x0) 25) fun t42 =>
mo_b (op_st t42 y22 y23) fun _ =>
mo_b (op_g 7 (some x0) 26) fun t43 =>
mo_b (op_si 7 (some x0) 26 (t43 + 1)) fun _ =>
mo_p (0, (y22 + 1), (y23 + 1)))) fun (t44, t45, t46) =>
mo_p (.inl (t44, t45, t46))) (
mo_p (.inr ()))
def X7_layDifference_L18 (t2 : Int) (t4 : Int) (x0 : Nat) (x1 : Int) (x2 : Int) : Int → MO (Int ⊕ Unit) := fun y5 =>
mo_lt y5 0 (
mo_p (.inr ())) (
mo_b (mo_lp mo_N (X7_layDifference_L27 t2 t4 x0 x1 x2 y5) t4) fun _ =>
mo_p (.inl (y5 + (-1))))
def X7_layDifference (x0 : Nat) (x1 : Int) (x2 : Int) : MO Unit :=
mo_b (op_gr 7 (some x0) 3) fun t1 =>
mo_b (op_ld t1 x1) fun t2 =>
mo_b (op_gr 7 (some x0) 3) fun t3 =>
mo_b (op_ld t3 x2) fun t4 =>
mo_b (mo_lp mo_N (X7_layDifference_L18 t2 t4 x0 x1 x2) t2) fun _ =>
mo_b (mo_cv 7 (some x0) (fun b46 => X7_newWork b46)) fun _ =>
mo_b (op_si 7 (some x0) 26 0) fun _ =>
mo_b (mo_lp mo_N (X7_layDifference_L196 t2 t4 x0 x1 x2) (0, 0, 0)) fun _ =>
mo_p ()
def X7_ledTo_L14 (x0 : Nat) (x1 : Int) (x3 : Int) : Int → MO (Int ⊕ Int) := fun y1 =>
mo_b (op_gr 7 (some x0) 3) fun t2 =>
mo_b (op_ld t2 x1) fun t3 =>
mo_lt y1 t3 (
mo_b (op_gr 7 (some x0) 25) fun t4 =>
mo_b (op_ld t4 y1) fun t5 =>
mo_eq t5 x3 (
mo_p (.inr y1)) (
mo_p (.inl (y1 + 1)))) (
mo_p (.inr (-1)))
def X7_ledTo (x0 : Nat) (x1 : Int) (x2 : Int) (x3 : Int) : MO Int :=
mo_eq x1 (-1) (
mo_p (-1)) (
mo_b (mo_cv 7 (some x0) (fun b5 => X7_layDifference b5 x1 x2)) fun _ =>
mo_lp mo_N (X7_ledTo_L14 x0 x1 x3) 0)
def X7_broughtBy_L8 (x0 : Nat) : (Int × Int × Int) → MO ((Int × Int × Int) ⊕ Int) := fun (y1, y2, y3) =>
mo_eq y3 0 (
mo_p (.inr y1)) (
mo_b (op_gr 7 (some x0) 5) fun t4 =>
mo_b (op_ld t4 y1) fun t5 =>
mo_b (mo_cv 7 (some x0) (fun b20 => X7_ledTo b20 t5 y1 y2)) fun t6 =>
mo_b (
mo_eq t6 (-1) (
mo_b (op_gr 7 (some x0) 6) fun t7 =>
mo_b (op_ld t7 y1) fun t8 =>
mo_b (mo_cv 7 (some x0) (fun b9 => X7_ledTo b9 t8 y1 y2)) fun t9 =>
mo_p t9) (
mo_p (-1))) fun t11 =>
mo_b (
mo_eq t6 (-1) (
mo_eq t11 (-1) (
mo_p 0) (
mo_p 1)) (
mo_p 1)) fun t12 =>
mo_b (
mo_eq t12 0 (
mo_p (y1, y2)) (
mo_b (
mo_eq t6 (-1) (
mo_b (op_gr 7 (some x0) 6) fun t13 =>
mo_b (op_ld t13 y1) fun t14 =>
mo_p t14) (
mo_b (op_gr 7 (some x0) 5) fun t15 =>
mo_b (op_ld t15 y1) fun t16 =>
mo_p t16)) fun t17 =>
mo_b (
mo_eq t6 (-1) (
mo_p t11) (
mo_p t6)) fun t18 =>
mo_p (t17, t18))) fun (t19, t20) =>
mo_p (.inl (t19, t20, t12)))
def X7_broughtBy (x0 : Nat) (x1 : Int) (x2 : Int) : MO Int :=
mo_b (mo_lp mo_N (X7_broughtBy_L8 x0) (x1, x2, 1)) fun t22 =>
mo_p t22
def X7_brought (x0 : Nat) (x1 : Int) (x2 : Int) : MO Int :=
mo_b (mo_cv 7 (some x0) (fun b7 => X7_isVersion b7 x1)) fun t1 =>
mo_eq t1 0 (
mo_p (-101)) (
mo_b (op_gr 7 (some x0) 3) fun t2 =>
mo_b (op_ld t2 x1) fun t3 =>
mo_b (X7_within x2 0 (t3 - 1)) fun t4 =>
mo_eq t4 0 (
mo_p (-101)) (
mo_b (mo_cv 7 (some x0) (fun b5 => X7_broughtBy b5 x1 x2)) fun t5 =>
mo_p t5))
def X7_broughtAt_L6 (x0 : Nat) (x1 : Int) (x3 : Int) (x4 : Int) : (Int × Int) → MO ((Int × Int) ⊕ Int) := fun (y1, y2) =>
mo_lt y2 x3 (
mo_b (mo_cv 7 (some x0) (fun b12 => X7_standsAt b12 x1 y2)) fun t3 =>
mo_b (op_gr 7 (some x0) 12) fun t4 =>
mo_b (op_ld t4 ((10 * x1) + y2)) fun t5 =>
mo_b (X7_within x4 t3 ((t3 + t5) - 1)) fun t6 =>
mo_b (
mo_eq t6 0 (
mo_p y1) (
mo_b (op_gr 7 (some x0) 14) fun t7 =>
mo_b (mo_cv 7 (some x0) (fun b9 => X7_comeFrom b9 x1 y2)) fun t8 =>
mo_b (op_ld t7 ((t8 + x4) - t3)) fun t9 =>
mo_p t9)) fun t11 =>
mo_p (.inl (t11, (y2 + 1)))) (
mo_p (.inr y1))
def X7_broughtAt (x0 : Nat) (x1 : Int) (x2 : Int) (x3 : Int) (x4 : Int) : MO Int :=
mo_b (mo_lp mo_N (X7_broughtAt_L6 x0 x1 x3 x4) ((-1), x2)) fun t14 =>
mo_p t14
def X7_clashes_L2 (x0 : Nat) (x1 : Int) : Int → MO (Int ⊕ Int) := fun y1 =>
mo_b (op_g 7 (some x0) 16) fun t2 =>
mo_lt y1 t2 (
mo_b (op_gr 7 (some x0) 29) fun t3 =>
mo_b (op_ld t3 x1) fun t4 =>
mo_b (op_gr 7 (some x0) 17) fun t5 =>
mo_b (op_ld t5 y1) fun t6 =>
mo_b (op_gr 7 (some x0) 18) fun t7 =>
mo_b (op_ld t7 y1) fun t8 =>
mo_b (
mo_le t4 (t6 + t8) (
mo_b (op_gr 7 (some x0) 17) fun t9 =>
mo_b (op_ld t9 y1) fun t10 =>
mo_b (op_gr 7 (some x0) 29) fun t11 =>
mo_b (op_ld t11 x1) fun t12 =>
mo_b (op_gr 7 (some x0) 30) fun t13 =>
mo_b (op_ld t13 x1) fun t14 =>
mo_le t10 (t12 + t14) (
mo_p 1) (
mo_p 0)) (
mo_p 0)) fun t15 =>
mo_eq t15 0 (
mo_p (.inl (y1 + 1))) (
mo_b (mo_cv 7 (some x0) (fun b16 => X7_alike b16 x1 y1)) fun t16 =>
mo_eq t16 0 (
mo_p (.inr 1)) (
mo_p (.inl (y1 + 1))))) (
mo_p (.inr 0))
def X7_clashes (x0 : Nat) (x1 : Int) : MO Int :=
mo_lp mo_N (X7_clashes_L2 x0 x1) 0
def X7_layX_L68 (x0 : Nat) : Int → MO (Int ⊕ Unit) := fun y13 =>
mo_b (op_g 7 (some x0) 22) fun t14 =>
mo_lt y13 t14 (
mo_b (op_gr 7 (some x0) 32) fun t15 =>
mo_b (op_gr 7 (some x0) 23) fun t16 =>
mo_b (op_ld t16 y13) fun t17 =>
mo_b (op_st t15 y13 t17) fun _ =>
mo_p (.inl (y13 + 1))) (
mo_p (.inr ()))
def X7_layX_L16 (x0 : Nat) : Int → MO (Int ⊕ Unit) := fun y2 =>
mo_b (op_g 7 (some x0) 16) fun t3 =>
mo_lt y2 t3 (
mo_b (op_gr 7 (some x0) 29) fun t4 =>
mo_b (op_gr 7 (some x0) 17) fun t5 =>
mo_b (op_ld t5 y2) fun t6 =>
mo_b (op_st t4 y2 t6) fun _ =>
mo_b (op_gr 7 (some x0) 30) fun t7 =>
mo_b (op_gr 7 (some x0) 18) fun t8 =>
mo_b (op_ld t8 y2) fun t9 =>
mo_b (op_st t7 y2 t9) fun _ =>
mo_b (op_gr 7 (some x0) 31) fun t10 =>
mo_b (op_gr 7 (some x0) 19) fun t11 =>
mo_b (op_ld t11 y2) fun t12 =>
mo_b (op_st t10 y2 t12) fun _ =>
mo_p (.inl (y2 + 1))) (
mo_p (.inr ()))
def X7_layX (x0 : Nat) (x1 : Int) (x2 : Int) : MO Unit :=
mo_b (mo_cv 7 (some x0) (fun b17 => X7_layDifference b17 x1 x2)) fun _ =>
mo_b (op_g 7 (some x0) 16) fun t1 =>
mo_b (op_si 7 (some x0) 33 t1) fun _ =>
mo_b (mo_lp mo_N (X7_layX_L16 x0) 0) fun _ =>
mo_b (mo_lp mo_N (X7_layX_L68 x0) 0) fun _ =>
mo_p ()
def X7_clashMany_L18 (x0 : Nat) : (Int × Int) → MO ((Int × Int) ⊕ Int) := fun (y1, y2) =>
mo_b (op_g 7 (some x0) 33) fun t3 =>
mo_lt y2 t3 (
mo_b (mo_cv 7 (some x0) (fun b5 => X7_clashes b5 y2)) fun t4 =>
mo_b (
mo_eq t4 0 (
mo_p 0) (
mo_p 1)) fun t5 =>
mo_p (.inl ((y1 + t5), (y2 + 1)))) (
mo_p (.inr y1))
def X7_clashMany (x0 : Nat) (x1 : Int) (x2 : Int) (x3 : Int) : MO Int :=
mo_b (mo_cv 7 (some x0) (fun b8 => X7_layX b8 x1 x2)) fun _ =>
mo_b (mo_cv 7 (some x0) (fun b7 => X7_layDifference b7 x1 x3)) fun _ =>
mo_b (mo_lp mo_N (X7_clashMany_L18 x0) (0, 0)) fun t7 =>
mo_p t7
def X7_clash (x0 : Nat) (x1 : Int) (x2 : Int) (x3 : Int) : MO Int :=
mo_b (mo_cv 7 (some x0) (fun b3 => X7_areVersions b3 x1 x2 x3)) fun t1 =>
mo_eq t1 0 (
mo_p (-101)) (
mo_b (mo_cv 7 (some x0) (fun b2 => X7_clashMany b2 x1 x2 x3)) fun t2 =>
mo_p t2)
def X7_comesOf_L4 (x0 : Nat) (x1 : Int) : (Int × Int) → MO ((Int × Int) ⊕ Int) := fun (y1, y2) =>
mo_b (op_gr 7 (some x0) 9) fun t3 =>
mo_b (op_ld t3 x1) fun t4 =>
mo_lt y2 t4 (
mo_b (op_gr 7 (some x0) 12) fun t5 =>
mo_b (op_ld t5 ((10 * x1) + y2)) fun t6 =>
mo_p (.inl ((y1 + t6), (y2 + 1)))) (
mo_p (.inr y1))
def X7_comesOf (x0 : Nat) (x1 : Int) : MO Int :=
mo_b (mo_lp mo_N (X7_comesOf_L4 x0 x1) (0, 0)) fun t7 =>
mo_p t7
def X7_howMany (x0 : Nat) (x1 : Int) : MO Int :=
mo_eq x1 0 (
mo_b (op_g 7 (some x0) 2) fun t4 =>
mo_p t4) (
mo_eq x1 1 (
mo_b (op_g 7 (some x0) 0) fun t3 =>
mo_p t3) (
mo_eq x1 2 (
mo_b (op_g 7 (some x0) 8) fun t2 =>
mo_p t2) (
mo_eq x1 3 (
mo_b (op_g 7 (some x0) 15) fun t1 =>
mo_p t1) (
mo_p (-102)))))
def X7_count (x0 : Nat) (x1 : Int) : MO Int :=
mo_b (mo_cv 7 (some x0) (fun b1 => X7_howMany b1 x1)) fun t1 =>
mo_p t1
def X7_desk (x0 : Nat) (x1 : Int) : MO Int :=
mo_b (op_g 7 (some x0) 0) fun t1 =>
mo_b (X7_within x1 0 (t1 - 1)) fun t2 =>
mo_eq t2 0 (
mo_p (-1)) (
mo_b (op_gr 7 (some x0) 1) fun t3 =>
mo_b (op_ld t3 x1) fun t4 =>
mo_p t4)
def X7_workRoom (x0 : Nat) : MO Int :=
mo_b (op_g 7 (some x0) 16) fun t1 =>
mo_b (op_g 7 (some x0) 22) fun t2 =>
mo_p (((2 * t1) + t2) + 1)
def X7_differ (x0 : Nat) (x1 : Int) (x2 : Int) (x3 : Int) : MO Int :=
mo_b (mo_cv 7 (some x0) (fun b12 => X7_isVersion b12 x1)) fun t1 =>
mo_eq t1 0 (
mo_p (-101)) (
mo_b (mo_cv 7 (some x0) (fun b11 => X7_isVersion b11 x2)) fun t2 =>
mo_eq t2 0 (
mo_p (-101)) (
mo_b (X7_within x3 0 4) fun t3 =>
mo_eq t3 0 (
mo_p (-102)) (
mo_b (mo_cv 7 (some x0) (fun b9 => X7_layDifference b9 x1 x2)) fun _ =>
mo_eq x3 0 (
mo_b (op_g 7 (some x0) 26) fun t9 =>
mo_p t9) (
mo_eq x3 1 (
mo_b (op_g 7 (some x0) 16) fun t8 =>
mo_p t8) (
mo_eq x3 2 (
mo_b (op_g 7 (some x0) 20) fun t7 =>
mo_p t7) (
mo_eq x3 3 (
mo_b (op_g 7 (some x0) 22) fun t6 =>
mo_p t6) (
mo_b (mo_cv 7 (some x0) (fun b4 => X7_workRoom b4)) fun t4 =>
mo_p t4)))))))
def X7_mix (x0 : Nat) (x1 : Int) : MO Unit :=
mo_b (op_g 7 (some x0) 42) fun t1 =>
mo_b (op_si 7 (some x0) 42 ((31 * t1) + x1)) fun _ =>
mo_p ()
def X7_goesOf_L4 (x0 : Nat) (x1 : Int) : (Int × Int) → MO ((Int × Int) ⊕ Int) := fun (y1, y2) =>
mo_b (op_gr 7 (some x0) 9) fun t3 =>
mo_b (op_ld t3 x1) fun t4 =>
mo_lt y2 t4 (
mo_b (op_gr 7 (some x0) 11) fun t5 =>
mo_b (op_ld t5 ((10 * x1) + y2)) fun t6 =>
mo_p (.inl ((y1 + t6), (y2 + 1)))) (
mo_p (.inr y1))
def X7_goesOf (x0 : Nat) (x1 : Int) : MO Int :=
mo_b (mo_lp mo_N (X7_goesOf_L4 x0 x1) (0, 0)) fun t7 =>
mo_p t7
def X7_ofPatch (x0 : Nat) (x1 : Int) (x2 : Int) : MO Int :=
mo_eq x2 0 (
mo_b (op_gr 7 (some x0) 9) fun t9 =>
mo_b (op_ld t9 x1) fun t10 =>
mo_p t10) (
mo_eq x2 1 (
mo_b (mo_cv 7 (some x0) (fun b7 => X7_goesOf b7 x1)) fun t7 =>
mo_p t7) (
mo_eq x2 2 (
mo_b (mo_cv 7 (some x0) (fun b5 => X7_comesOf b5 x1)) fun t5 =>
mo_p t5) (
mo_b (op_gr 7 (some x0) 9) fun t1 =>
mo_b (op_ld t1 x1) fun t2 =>
mo_b (mo_cv 7 (some x0) (fun b3 => X7_comesOf b3 x1)) fun t3 =>
mo_p (((2 * t2) + t3) + 1))))
def X7_toldOf (x0 : Nat) (x1 : Int) (x2 : Int) (x3 : Int) : MO Int :=
mo_lt x3 3 (
mo_eq x3 0 (
mo_b (op_gr 7 (some x0) 10) fun t17 =>
mo_b (op_ld t17 ((10 * x1) + x2)) fun t18 =>
mo_p t18) (
mo_eq x3 1 (
mo_b (op_gr 7 (some x0) 11) fun t15 =>
mo_b (op_ld t15 ((10 * x1) + x2)) fun t16 =>
mo_p t16) (
mo_b (op_gr 7 (some x0) 12) fun t13 =>
mo_b (op_ld t13 ((10 * x1) + x2)) fun t14 =>
mo_p t14))) (
mo_lt x3 40 (
mo_b (op_gr 7 (some x0) 11) fun t7 =>
mo_b (op_ld t7 ((10 * x1) + x2)) fun t8 =>
mo_lt (x3 - 10) t8 (
mo_b (op_gr 7 (some x0) 13) fun t9 =>
mo_b (mo_cv 7 (some x0) (fun b11 => X7_goFrom b11 x1 x2)) fun t10 =>
mo_b (op_ld t9 ((t10 + x3) - 10)) fun t11 =>
mo_p t11) (
mo_p (-1))) (
mo_b (op_gr 7 (some x0) 12) fun t1 =>
mo_b (op_ld t1 ((10 * x1) + x2)) fun t2 =>
mo_lt (x3 - 40) t2 (
mo_b (op_gr 7 (some x0) 14) fun t3 =>
mo_b (mo_cv 7 (some x0) (fun b5 => X7_comeFrom b5 x1 x2)) fun t4 =>
mo_b (op_ld t3 ((t4 + x3) - 40)) fun t5 =>
mo_p t5) (
mo_p (-1))))
def X7_mixPatch_L104 (x0 : Nat) (x1 : Int) (y5 : Int) : Int → MO (Int ⊕ Unit) := fun y20 =>
mo_b (op_gr 7 (some x0) 12) fun t21 =>
mo_b (op_ld t21 ((10 * x1) + y5)) fun t22 =>
mo_lt y20 t22 (
mo_b (op_gr 7 (some x0) 14) fun t23 =>
mo_b (mo_cv 7 (some x0) (fun b26 => X7_comeFrom b26 x1 y5)) fun t24 =>
mo_b (op_ld t23 (t24 + y20)) fun t25 =>
mo_lt t25 t25 mo_0 (
mo_b (mo_cv 7 (some x0) (fun b25 => X7_mix b25 t25)) fun _ =>
mo_p (.inl (y20 + 1)))) (
mo_p (.inr ()))
def X7_mixPatch_L63 (x0 : Nat) (x1 : Int) (y5 : Int) : Int → MO (Int ⊕ Unit) := fun y12 =>
mo_b (op_gr 7 (some x0) 11) fun t13 =>
mo_b (op_ld t13 ((10 * x1) + y5)) fun t14 =>
mo_lt y12 t14 (
mo_b (op_gr 7 (some x0) 13) fun t15 =>
mo_b (mo_cv 7 (some x0) (fun b18 => X7_goFrom b18 x1 y5)) fun t16 =>
mo_b (op_ld t15 (t16 + y12)) fun t17 =>
mo_lt t17 t17 mo_0 (
mo_b (mo_cv 7 (some x0) (fun b17 => X7_mix b17 t17)) fun _ =>
mo_p (.inl (y12 + 1)))) (
mo_p (.inr ()))
def X7_mixPatch_L38 (x0 : Nat) (x1 : Int) (y5 : Int) : Int → MO (Int ⊕ Unit) := fun y8 =>
mo_lt y8 3 (
mo_b (mo_cv 7 (some x0) (fun b10 => X7_toldOf b10 x1 y5 y8)) fun t9 =>
mo_lt t9 t9 mo_0 (
mo_b (mo_cv 7 (some x0) (fun b9 => X7_mix b9 t9)) fun _ =>
mo_p (.inl (y8 + 1)))) (
mo_p (.inr ()))
def X7_mixPatch_L26 (x0 : Nat) (x1 : Int) : Int → MO (Int ⊕ Unit) := fun y5 =>
mo_b (op_gr 7 (some x0) 9) fun t6 =>
mo_b (op_ld t6 x1) fun t7 =>
mo_lt y5 t7 (
mo_b (mo_lp mo_N (X7_mixPatch_L38 x0 x1 y5) 0) fun _ =>
mo_b (mo_lp mo_N (X7_mixPatch_L63 x0 x1 y5) 0) fun _ =>
mo_b (mo_lp mo_N (X7_mixPatch_L104 x0 x1 y5) 0) fun _ =>
mo_p (.inl (y5 + 1))) (
mo_p (.inr ()))
def X7_mixPatch_L2 (x0 : Nat) (x1 : Int) : Int → MO (Int ⊕ Unit) := fun y1 =>
mo_lt y1 4 (
mo_b (mo_cv 7 (some x0) (fun b3 => X7_ofPatch b3 x1 y1)) fun t2 =>
mo_lt t2 t2 mo_0 (
mo_b (mo_cv 7 (some x0) (fun b2 => X7_mix b2 t2)) fun _ =>
mo_p (.inl (y1 + 1)))) (
mo_p (.inr ()))
def X7_mixPatch (x0 : Nat) (x1 : Int) : MO Unit :=
mo_b (mo_lp mo_N (X7_mixPatch_L2 x0 x1) 0) fun _ =>
mo_b (mo_lp mo_N (X7_mixPatch_L26 x0 x1) 0) fun _ =>
mo_p ()
def X7_digest_L70 (x0 : Nat) (y6 : Int) : Int → MO (Int ⊕ Unit) := fun y12 =>
mo_b (op_gr 7 (some x0) 3) fun t13 =>
mo_b (op_ld t13 y6) fun t14 =>
mo_lt y12 t14 (
mo_b (op_gr 7 (some x0) 4) fun t15 =>
mo_b (op_ld t15 ((14 * y6) + y12)) fun t16 =>
mo_lt t16 t16 mo_0 (
mo_b (mo_cv 7 (some x0) (fun b16 => X7_mix b16 t16)) fun _ =>
mo_p (.inl (y12 + 1)))) (
mo_p (.inr ()))
def X7_digest_L46 (x0 : Nat) (y6 : Int) : Int → MO (Int ⊕ Unit) := fun y8 =>
mo_lt y8 5 (
mo_b (mo_cv 7 (some x0) (fun b10 => X7_aboutOf b10 y6 y8)) fun t9 =>
mo_lt t9 t9 mo_0 (
mo_b (mo_cv 7 (some x0) (fun b9 => X7_mix b9 t9)) fun _ =>
mo_p (.inl (y8 + 1)))) (
mo_p (.inr ()))
def X7_digest_L141 (x0 : Nat) (y21 : Int) : Int → MO (Int ⊕ Unit) := fun y23 =>
mo_b (op_g 7 (some x0) 2) fun t24 =>
mo_lt y23 t24 (
mo_b (
mo_eq y21 y23 (
mo_p ()) (
mo_b (mo_cv 7 (some x0) (fun b27 => X7_layDifference b27 y21 y23)) fun _ =>
mo_b (mo_cv 7 (some x0) (fun b26 => X7_workRoom b26)) fun t25 =>
mo_lt t25 t25 mo_0 (
mo_b (mo_cv 7 (some x0) (fun b25 => X7_mix b25 t25)) fun _ =>
mo_p ()))) fun _ =>
mo_p (.inl (y23 + 1))) (
mo_p (.inr ()))
def X7_digest_L183 (x0 : Nat) : Int → MO (Int ⊕ Unit) := fun y29 =>
mo_lt y29 4 (
mo_b (mo_cv 7 (some x0) (fun b31 => X7_howMany b31 y29)) fun t30 =>
mo_lt t30 t30 mo_0 (
mo_b (mo_cv 7 (some x0) (fun b30 => X7_mix b30 t30)) fun _ =>
mo_p (.inl (y29 + 1)))) (
mo_p (.inr ()))
def X7_digest_L131 (x0 : Nat) : Int → MO (Int ⊕ Unit) := fun y21 =>
mo_b (op_g 7 (some x0) 2) fun t22 =>
mo_lt y21 t22 (
mo_b (mo_lp mo_N (X7_digest_L141 x0 y21) 0) fun _ =>
mo_p (.inl (y21 + 1))) (
mo_p (.inr ()))
def X7_digest_L110 (x0 : Nat) : Int → MO (Int ⊕ Unit) := fun y18 =>
mo_b (op_g 7 (some x0) 8) fun t19 =>
mo_lt y18 t19 (
mo_b (mo_cv 7 (some x0) (fun b19 => X7_mixPatch b19 y18)) fun _ =>
mo_p (.inl (y18 + 1))) (
mo_p (.inr ()))
def X7_digest_L36 (x0 : Nat) : Int → MO (Int ⊕ Unit) := fun y6 =>
mo_b (op_g 7 (some x0) 2) fun t7 =>
mo_lt y6 t7 (
mo_b (mo_lp mo_N (X7_digest_L46 x0 y6) 0) fun _ =>
mo_b (mo_lp mo_N (X7_digest_L70 x0 y6) 0) fun _ =>
mo_p (.inl (y6 + 1))) (
mo_p (.inr ()))
def X7_digest_L9 (x0 : Nat) : Int → MO (Int ⊕ Unit) := fun y1 =>
mo_b (op_g 7 (some x0) 0) fun t2 =>
mo_lt y1 t2 (
mo_b (op_gr 7 (some x0) 1) fun t3 =>
mo_b (op_ld t3 y1) fun t4 =>
mo_lt t4 t4 mo_0 (
mo_b (mo_cv 7 (some x0) (fun b4 => X7_mix b4 t4)) fun _ =>
mo_p (.inl (y1 + 1)))) (
mo_p (.inr ()))
def X7_digest (x0 : Nat) : MO Int :=
mo_b (op_si 7 (some x0) 42 271) fun _ =>
mo_b (mo_lp mo_N (X7_digest_L9 x0) 0) fun _ =>
mo_b (mo_lp mo_N (X7_digest_L36 x0) 0) fun _ =>
mo_b (mo_lp mo_N (X7_digest_L110 x0) 0) fun _ =>
mo_b (mo_lp mo_N (X7_digest_L131 x0) 0) fun _ =>
mo_b (mo_lp mo_N (X7_digest_L183 x0) 0) fun _ =>
mo_b (op_g 7 (some x0) 42) fun t33 =>
mo_p t33
def X7_drop_L36 (x0 : Nat) : Int → MO (Int ⊕ Unit) := fun y6 =>
mo_b (op_g 7 (some x0) 0) fun t7 =>
mo_lt y6 t7 (
mo_b (op_gr 7 (some x0) 1) fun t8 =>
mo_b (op_gr 7 (some x0) 1) fun t9 =>
mo_b (op_ld t9 (y6 + 1)) fun t10 =>
mo_b (op_st t8 y6 t10) fun _ =>
mo_p (.inl (y6 + 1))) (
mo_p (.inr ()))
def X7_drop (x0 : Nat) (x1 : Int) : MO Int :=
mo_b (op_g 7 (some x0) 0) fun t1 =>
mo_b (X7_within x1 0 (t1 - 1)) fun t2 =>
mo_eq t2 0 (
mo_p (-101)) (
mo_b (op_gr 7 (some x0) 1) fun t3 =>
mo_b (op_ld t3 x1) fun t4 =>
mo_b (op_g 7 (some x0) 0) fun t5 =>
mo_b (op_si 7 (some x0) 0 (t5 - 1)) fun _ =>
mo_b (mo_lp mo_N (X7_drop_L36 x0) x1) fun _ =>
mo_p t4)
def X7_stands_L36 (t2 : Int) (x0 : Nat) (x1 : Int) (x2 : Int) (x3 : Int) : (Int × Int) → MO ((Int × Int) ⊕ Int) := fun (y4, y5) =>
mo_lt y5 t2 (
mo_eq y4 0 (
mo_p (.inr y4)) (
mo_b (op_gr 7 (some x0) 28) fun t6 =>
mo_b (op_ld t6 (x3 + y5)) fun t7 =>
mo_b (op_gr 7 (some x0) 13) fun t8 =>
mo_b (mo_cv 7 (some x0) (fun b11 => X7_goFrom b11 x1 x2)) fun t9 =>
mo_b (op_ld t8 (t9 + y5)) fun t10 =>
mo_b (
mo_eq t7 t10 (
mo_p 1) (
mo_p 0)) fun t11 =>
mo_p (.inl (t11, (y5 + 1))))) (
mo_p (.inr y4))
def X7_stands (x0 : Nat) (x1 : Int) (x2 : Int) (x3 : Int) (x4 : Int) : MO Int :=
mo_b (op_gr 7 (some x0) 11) fun t1 =>
mo_b (op_ld t1 ((10 * x1) + x2)) fun t2 =>
mo_b (
mo_lt x3 0 (
mo_p 0) (
mo_le (x3 + t2) x4 (
mo_p 1) (
mo_p 0))) fun t3 =>
mo_b (mo_lp mo_N (X7_stands_L36 t2 x0 x1 x2 x3) (t3, 0)) fun t13 =>
mo_b (op_z t13) fun t14 => mo_p t14
def X7_fitsWork_L4 (x0 : Nat) (x1 : Int) : (Int × Int) → MO ((Int × Int) ⊕ Int) := fun (y1, y2) =>
mo_b (op_gr 7 (some x0) 9) fun t3 =>
mo_b (op_ld t3 x1) fun t4 =>
mo_lt y2 t4 (
mo_eq y1 0 (
mo_p (.inr y1)) (
mo_b (op_gr 7 (some x0) 10) fun t5 =>
mo_b (op_ld t5 ((10 * x1) + y2)) fun t6 =>
mo_b (op_g 7 (some x0) 27) fun t7 =>
mo_b (mo_cv 7 (some x0) (fun b8 => X7_stands b8 x1 y2 t6 t7)) fun t8 =>
mo_p (.inl (t8, (y2 + 1))))) (
mo_p (.inr y1))
def X7_fitsWork (x0 : Nat) (x1 : Int) : MO Int :=
mo_b (mo_lp mo_N (X7_fitsWork_L4 x0 x1) (1, 0)) fun t10 =>
mo_b (op_z t10) fun t11 => mo_p t11
def X7_isPatch (x0 : Nat) (x1 : Int) : MO Int :=
mo_b (op_g 7 (some x0) 8) fun t1 =>
mo_b (X7_within x1 0 (t1 - 1)) fun t2 =>
mo_b (op_z t2) fun t3 => mo_p t3
def X7_workOnDesk_L10 (x0 : Nat) : Int → MO (Int ⊕ Unit) := fun y2 =>
mo_b (op_g 7 (some x0) 0) fun t3 =>
mo_lt y2 t3 (
mo_b (op_gr 7 (some x0) 28) fun t4 =>
mo_b (op_gr 7 (some x0) 1) fun t5 =>
mo_b (op_ld t5 y2) fun t6 =>
mo_b (op_st t4 y2 t6) fun _ =>
mo_p (.inl (y2 + 1))) (
mo_p (.inr ()))
def X7_workOnDesk (x0 : Nat) : MO Unit :=
mo_b (op_g 7 (some x0) 0) fun t1 =>
mo_b (op_si 7 (some x0) 27 t1) fun _ =>
mo_b (mo_lp mo_N (X7_workOnDesk_L10 x0) 0) fun _ =>
mo_p ()
def X7_fits (x0 : Nat) (x1 : Int) : MO Int :=
mo_b (mo_cv 7 (some x0) (fun b4 => X7_isPatch b4 x1)) fun t1 =>
mo_eq t1 0 (
mo_p (-101)) (
mo_b (mo_cv 7 (some x0) (fun b3 => X7_workOnDesk b3)) fun _ =>
mo_b (mo_cv 7 (some x0) (fun b2 => X7_fitsWork b2 x1)) fun t2 =>
mo_eq t2 0 (
mo_p 0) (
mo_p 1))
def X7_hunk (x0 : Nat) (x1 : Int) (x2 : Int) (x3 : Int) (x4 : Int) : MO Int :=
mo_b (mo_cv 7 (some x0) (fun b29 => X7_isPatch b29 x1)) fun t1 =>
mo_eq t1 0 (
mo_p (-101)) (
mo_b (op_gr 7 (some x0) 9) fun t2 =>
mo_b (op_ld t2 x1) fun t3 =>
mo_b (
mo_eq t3 0 (
mo_p 1) (
mo_b (op_gr 7 (some x0) 10) fun t4 =>
mo_b (op_ld t4 (((10 * x1) + t3) - 1)) fun t5 =>
mo_b (op_gr 7 (some x0) 11) fun t6 =>
mo_b (op_ld t6 (((10 * x1) + t3) - 1)) fun t7 =>
mo_le x2 (t5 + t7) (
mo_p 0) (
mo_p 1))) fun t8 =>
mo_b (X7_within x2 0 14) fun t9 =>
mo_b (
mo_eq t9 0 (
mo_p true) (
mo_b (X7_within x3 (-1) 99) fun t10 =>
mo_eq t10 0 (
mo_p true) (
mo_b (X7_within x4 (-1) 99) fun t11 =>
mo_eq t11 0 (
mo_p true) (
mo_eq x3 (-1) (
mo_eq x4 (-1) (
mo_p true) (
mo_eq t8 0 (
mo_p true) (
mo_p false))) (
mo_eq t8 0 (
mo_p true) (
mo_p false)))))) fun c68 => cond c68 (
mo_p (-102)) (
mo_b (mo_cv 7 (some x0) (fun b27 => X7_goesOf b27 x1)) fun t14 =>
mo_b (mo_cv 7 (some x0) (fun b26 => X7_comesOf b26 x1)) fun t15 =>
mo_b (
mo_eq t3 10 (
mo_p true) (
mo_eq x3 (-1) (
mo_eq x4 (-1) (
mo_p false) (
mo_eq t15 28 (
mo_p true) (
mo_p false))) (
mo_eq t14 28 (
mo_p true) (
mo_eq x4 (-1) (
mo_p false) (
mo_eq t15 28 (
mo_p true) (
mo_p false)))))) fun c129 => cond c129 (
mo_p (-104)) (
mo_b (op_gr 7 (some x0) 10) fun t16 =>
mo_b (op_st t16 ((10 * x1) + t3) x2) fun _ =>
mo_b (op_gr 7 (some x0) 11) fun t17 =>
mo_b (
mo_eq x3 (-1) (
mo_p 0) (
mo_p 1)) fun t18 =>
mo_b (op_st t17 ((10 * x1) + t3) t18) fun _ =>
mo_b (op_gr 7 (some x0) 12) fun t19 =>
mo_b (
mo_eq x4 (-1) (
mo_p 0) (
mo_p 1)) fun t20 =>
mo_b (op_st t19 ((10 * x1) + t3) t20) fun _ =>
mo_b (
mo_eq x3 (-1) (
mo_p ()) (
mo_b (op_gr 7 (some x0) 13) fun t21 =>
mo_b (op_st t21 ((28 * x1) + t14) x3) fun _ =>
mo_p ())) fun _ =>
mo_b (
mo_eq x4 (-1) (
mo_p ()) (
mo_b (op_gr 7 (some x0) 14) fun t22 =>
mo_b (op_st t22 ((28 * x1) + t15) x4) fun _ =>
mo_p ())) fun _ =>
mo_b (op_gr 7 (some x0) 9) fun t23 =>
mo_b (op_ld t23 x1) fun t24 =>
mo_b (op_st t23 x1 (t24 + 1)) fun _ =>
mo_b (op_gr 7 (some x0) 9) fun t25 =>
mo_b (op_ld t25 x1) fun t26 =>
mo_p t26)))
def X7_hunkOf (x0 : Nat) (x1 : Int) (x2 : Int) (x3 : Int) : MO Int :=
mo_b (mo_cv 7 (some x0) (fun b14 => X7_isPatch b14 x1)) fun t1 =>
mo_eq t1 0 (
mo_p (-101)) (
mo_b (op_gr 7 (some x0) 9) fun t2 =>
mo_b (op_ld t2 x1) fun t3 =>
mo_b (X7_within x2 0 (t3 - 1)) fun t4 =>
mo_eq t4 0 (
mo_p (-101)) (
mo_b (X7_within x3 0 2) fun t5 =>
mo_b (
mo_eq t5 0 (
mo_b (X7_within x3 10 37) fun t6 =>
mo_eq t6 0 (
mo_b (X7_within x3 40 67) fun t7 =>
mo_eq t7 0 (
mo_p 0) (
mo_p 1)) (
mo_p 1)) (
mo_p 1)) fun t10 =>
mo_eq t10 0 (
mo_p (-102)) (
mo_b (mo_cv 7 (some x0) (fun b11 => X7_toldOf b11 x1 x2 x3)) fun t11 =>
mo_p t11)))
def X7_init (x0 : Nat) : MO Unit :=
mo_b (op_ni 48 48) fun t1 =>
mo_b (op_sr 7 (some x0) 1 t1) fun _ =>
mo_b (op_ni 10 10) fun t2 =>
mo_b (op_sr 7 (some x0) 3 t2) fun _ =>
mo_b (op_ni 140 140) fun t3 =>
mo_b (op_sr 7 (some x0) 4 t3) fun _ =>
mo_b (op_ni 10 10) fun t4 =>
mo_b (op_sr 7 (some x0) 5 t4) fun _ =>
mo_b (op_ni 10 10) fun t5 =>
mo_b (op_sr 7 (some x0) 6 t5) fun _ =>
mo_b (op_ni 10 10) fun t6 =>
mo_b (op_sr 7 (some x0) 7 t6) fun _ =>
mo_b (op_ni 12 12) fun t7 =>
mo_b (op_sr 7 (some x0) 9 t7) fun _ =>
mo_b (op_ni 120 120) fun t8 =>
mo_b (op_sr 7 (some x0) 10 t8) fun _ =>
mo_b (op_ni 120 120) fun t9 =>
mo_b (op_sr 7 (some x0) 11 t9) fun _ =>
mo_b (op_ni 120 120) fun t10 =>
mo_b (op_sr 7 (some x0) 12 t10) fun _ =>
mo_b (op_ni 336 336) fun t11 =>
mo_b (op_sr 7 (some x0) 13 t11) fun _ =>
mo_b (op_ni 336 336) fun t12 =>
mo_b (op_sr 7 (some x0) 14 t12) fun _ =>
mo_b (op_ni 40 40) fun t13 =>
mo_b (op_sr 7 (some x0) 17 t13) fun _ =>
mo_b (op_ni 40 40) fun t14 =>
mo_b (op_sr 7 (some x0) 18 t14) fun _ =>
mo_b (op_ni 40 40) fun t15 =>
mo_b (op_sr 7 (some x0) 19 t15) fun _ =>
mo_b (op_ni 120 120) fun t16 =>
mo_b (op_sr 7 (some x0) 21 t16) fun _ =>
mo_b (op_ni 120 120) fun t17 =>
mo_b (op_sr 7 (some x0) 23 t17) fun _ =>
mo_b (op_ni 225 225) fun t18 =>
mo_b (op_sr 7 (some x0) 24 t18) fun _ =>
mo_b (op_ni 14 14) fun t19 =>
mo_b (op_sr 7 (some x0) 25 t19) fun _ =>
mo_b (op_ni 80 80) fun t20 =>
mo_b (op_sr 7 (some x0) 28 t20) fun _ =>
mo_b (op_ni 15 15) fun t21 =>
mo_b (op_sr 7 (some x0) 29 t21) fun _ =>
mo_b (op_ni 15 15) fun t22 =>
mo_b (op_sr 7 (some x0) 30 t22) fun _ =>
mo_b (op_ni 15 15) fun t23 =>
mo_b (op_sr 7 (some x0) 31 t23) fun _ =>
mo_b (op_ni 28 28) fun t24 =>
mo_b (op_sr 7 (some x0) 32 t24) fun _ =>
mo_b (op_ni 36 36) fun t25 =>
mo_b (op_sr 7 (some x0) 34 t25) fun _ =>
mo_b (op_ni 6 6) fun t26 =>
mo_b (op_sr 7 (some x0) 35 t26) fun _ =>
mo_b (op_ni 6 6) fun t27 =>
mo_b (op_sr 7 (some x0) 36 t27) fun _ =>
mo_b (op_ni 6 6) fun t28 =>
mo_b (op_sr 7 (some x0) 37 t28) fun _ =>
mo_b (op_ni 6 6) fun t29 =>
mo_b (op_sr 7 (some x0) 38 t29) fun _ =>
mo_p ()
def X7_isAsk (x0 : Nat) (x1 : Int) (x2 : Int) : MO Int :=
mo_b (op_g 7 (some x0) 2) fun t1 =>
mo_b (
mo_lt t1 6 (
mo_b (op_g 7 (some x0) 2) fun t2 =>
mo_p t2) (
mo_p 6)) fun t3 =>
mo_b (X7_within x1 1 t3) fun t4 =>
mo_eq t4 0 (
mo_p 0) (
mo_b (X7_within x2 1 999) fun t5 =>
mo_eq t5 0 (
mo_p 0) (
mo_p 1))
def X7_toDesk_L10 (x0 : Nat) : Int → MO (Int ⊕ Unit) := fun y2 =>
mo_b (op_g 7 (some x0) 27) fun t3 =>
mo_lt y2 t3 (
mo_b (op_gr 7 (some x0) 1) fun t4 =>
mo_b (op_gr 7 (some x0) 28) fun t5 =>
mo_b (op_ld t5 y2) fun t6 =>
mo_b (op_st t4 y2 t6) fun _ =>
mo_p (.inl (y2 + 1))) (
mo_p (.inr ()))
def X7_toDesk (x0 : Nat) : MO Unit :=
mo_b (op_g 7 (some x0) 27) fun t1 =>
mo_b (op_si 7 (some x0) 0 t1) fun _ =>
mo_b (mo_lp mo_N (X7_toDesk_L10 x0) 0) fun _ =>
mo_p ()
def X7_join_L162 (t13 : Int) (t22 : Int) (x0 : Nat) (y3 : Int) (y4 : Int) : Int → MO (Int ⊕ Unit) := fun y23 =>
mo_lt y23 t22 (
mo_b (op_gr 7 (some x0) 28) fun t24 =>
mo_b (op_g 7 (some x0) 27) fun t25 =>
mo_b (
mo_eq t13 0 (
mo_b (op_gr 7 (some x0) 23) fun t26 =>
mo_b (mo_cv 7 (some x0) (fun b28 => X7_workFrom b28 y4)) fun t27 =>
mo_b (op_ld t26 (t27 + y23)) fun t28 =>
mo_p t28) (
mo_b (op_gr 7 (some x0) 32) fun t30 =>
mo_b (mo_cv 7 (some x0) (fun b32 => X7_xFrom b32 y3)) fun t31 =>
mo_b (op_ld t30 (t31 + y23)) fun t32 =>
mo_p t32)) fun t34 =>
mo_b (op_st t24 t25 t34) fun _ =>
mo_b (op_g 7 (some x0) 27) fun t35 =>
mo_b (op_si 7 (some x0) 27 (t35 + 1)) fun _ =>
mo_p (.inl (y23 + 1))) (
mo_p (.inr ()))
def X7_join_L40 (x0 : Nat) (x1 : Int) : (Int × Int × Int) → MO ((Int × Int × Int) ⊕ Unit) := fun (y3, y4, y5) =>
mo_b (op_gr 7 (some x0) 3) fun t6 =>
mo_b (op_ld t6 x1) fun t7 =>
mo_b (
mo_lt y5 t7 (
mo_p true) (
mo_b (op_g 7 (some x0) 33) fun t8 =>
mo_lt y3 t8 (
mo_p true) (
mo_b (op_g 7 (some x0) 16) fun t9 =>
mo_lt y4 t9 (
mo_p true) (
mo_p false)))) fun c48 => cond c48 (
mo_b (op_g 7 (some x0) 33) fun t10 =>
mo_b (
mo_lt y3 t10 (
mo_b (op_gr 7 (some x0) 29) fun t11 =>
mo_b (op_ld t11 y3) fun t12 =>
mo_eq t12 y5 (
mo_p 1) (
mo_p 0)) (
mo_p 0)) fun t13 =>
mo_b (op_g 7 (some x0) 16) fun t14 =>
mo_b (
mo_lt y4 t14 (
mo_b (op_gr 7 (some x0) 17) fun t15 =>
mo_b (op_ld t15 y4) fun t16 =>
mo_eq t16 y5 (
mo_p 1) (
mo_p 0)) (
mo_p 0)) fun t17 =>
mo_b (
mo_b (
mo_eq t13 0 (
mo_eq t17 0 (
mo_p false) (
mo_p true)) (
mo_p true)) fun c127 => cond c127 (
mo_b (
mo_eq t13 0 (
mo_b (op_gr 7 (some x0) 19) fun t18 =>
mo_b (op_ld t18 y4) fun t19 =>
mo_p t19) (
mo_b (op_gr 7 (some x0) 31) fun t20 =>
mo_b (op_ld t20 y3) fun t21 =>
mo_p t21)) fun t22 =>
mo_b (mo_lp mo_N (X7_join_L162 t13 t22 x0 y3 y4) 0) fun _ =>
mo_b (
mo_eq t13 0 (
mo_b (op_gr 7 (some x0) 18) fun t36 =>
mo_b (op_ld t36 y4) fun t37 =>
mo_p t37) (
mo_b (op_gr 7 (some x0) 30) fun t38 =>
mo_b (op_ld t38 y3) fun t39 =>
mo_p t39)) fun t40 =>
mo_b (
mo_eq t13 0 (
mo_p 0) (
mo_p 1)) fun t41 =>
mo_b (
mo_eq t17 0 (
mo_p 0) (
mo_p 1)) fun t42 =>
mo_p ((y3 + t41), (y4 + t42), (y5 + t40))) (
mo_p (y3, y4, y5))) fun (t43, t44, t45) =>
mo_b (op_gr 7 (some x0) 3) fun t46 =>
mo_b (op_ld t46 x1) fun t47 =>
mo_b (
mo_lt t45 t47 (
mo_b (op_g 7 (some x0) 33) fun t48 =>
mo_b (
mo_lt t43 t48 (
mo_b (op_gr 7 (some x0) 29) fun t52 =>
mo_b (op_ld t52 t43) fun t53 =>
mo_eq t53 t45 (
mo_p 1) (
mo_b (op_g 7 (some x0) 16) fun t54 =>
mo_lt t44 t54 (
mo_b (op_gr 7 (some x0) 17) fun t55 =>
mo_b (op_ld t55 t44) fun t56 =>
mo_eq t56 t45 (
mo_p 1) (
mo_p 0)) (
mo_p 0))) (
mo_b (op_g 7 (some x0) 16) fun t49 =>
mo_lt t44 t49 (
mo_b (op_gr 7 (some x0) 17) fun t50 =>
mo_b (op_ld t50 t44) fun t51 =>
mo_eq t51 t45 (
mo_p 1) (
mo_p 0)) (
mo_p 0))) fun t57 =>
mo_eq t57 0 (
mo_b (op_gr 7 (some x0) 28) fun t58 =>
mo_b (op_g 7 (some x0) 27) fun t59 =>
mo_b (op_gr 7 (some x0) 4) fun t60 =>
mo_b (op_ld t60 ((14 * x1) + t45)) fun t61 =>
mo_b (op_st t58 t59 t61) fun _ =>
mo_b (op_g 7 (some x0) 27) fun t62 =>
mo_b (op_si 7 (some x0) 27 (t62 + 1)) fun _ =>
mo_p (t45 + 1)) (
mo_p t45)) (
mo_p t45)) fun t63 =>
mo_p (.inl (t43, t44, t63))) (
mo_p (.inr ()))
def X7_join (x0 : Nat) (x1 : Int) (x2 : Int) (x3 : Int) : MO Int :=
mo_b (mo_cv 7 (some x0) (fun b67 => X7_areVersions b67 x1 x2 x3)) fun t1 =>
mo_eq t1 0 (
mo_p (-101)) (
mo_b (mo_cv 7 (some x0) (fun b66 => X7_clashMany b66 x1 x2 x3)) fun t2 =>
mo_le t2 0 (
mo_b (op_si 7 (some x0) 27 0) fun _ =>
mo_b (mo_lp mo_N (X7_join_L40 x0 x1) (0, 0, 0)) fun _ =>
mo_b (op_g 7 (some x0) 27) fun t64 =>
mo_le t64 14 (
mo_b (mo_cv 7 (some x0) (fun b65 => X7_toDesk b65)) fun _ =>
mo_b (op_g 7 (some x0) 0) fun t65 =>
mo_p t65) (
mo_p (-104))) (
mo_p (-103)))
def X7_keep_L61 (x0 : Nat) : Int → MO (Int ⊕ Unit) := fun y8 =>
mo_b (op_g 7 (some x0) 0) fun t9 =>
mo_lt y8 t9 (
mo_b (op_gr 7 (some x0) 4) fun t10 =>
mo_b (op_g 7 (some x0) 2) fun t11 =>
mo_b (op_gr 7 (some x0) 1) fun t12 =>
mo_b (op_ld t12 y8) fun t13 =>
mo_b (op_st t10 ((14 * t11) + y8) t13) fun _ =>
mo_p (.inl (y8 + 1))) (
mo_p (.inr ()))
def X7_keep (x0 : Nat) (x1 : Int) (x2 : Int) : MO Int :=
mo_b (
mo_eq x1 (-1) (
mo_eq x2 (-1) (
mo_p false) (
mo_b (mo_cv 7 (some x0) (fun b1 => X7_isVersion b1 x2)) fun t1 =>
mo_eq t1 0 (
mo_p true) (
mo_p false))) (
mo_b (mo_cv 7 (some x0) (fun b5 => X7_isVersion b5 x1)) fun t3 =>
mo_eq t3 0 (
mo_p true) (
mo_eq x2 (-1) (
mo_p false) (
mo_b (mo_cv 7 (some x0) (fun b4 => X7_isVersion b4 x2)) fun t4 =>
mo_eq t4 0 (
mo_p true) (
mo_p false))))) fun c2 => cond c2 (
mo_p (-101)) (
mo_b (
mo_eq x2 (-1) (
mo_p false) (
mo_eq x1 x2 (
mo_p true) (
mo_eq x1 (-1) (
mo_p true) (
mo_p false)))) fun c31 => cond c31 (
mo_p (-102)) (
mo_b (op_g 7 (some x0) 2) fun t7 =>
mo_eq t7 10 (
mo_p (-104)) (
mo_b (mo_lp mo_N (X7_keep_L61 x0) 0) fun _ =>
mo_b (op_gr 7 (some x0) 3) fun t14 =>
mo_b (op_g 7 (some x0) 2) fun t15 =>
mo_b (op_g 7 (some x0) 0) fun t16 =>
mo_b (op_st t14 t15 t16) fun _ =>
mo_b (op_gr 7 (some x0) 5) fun t17 =>
mo_b (op_g 7 (some x0) 2) fun t18 =>
mo_b (op_st t17 t18 x1) fun _ =>
mo_b (op_gr 7 (some x0) 6) fun t19 =>
mo_b (op_g 7 (some x0) 2) fun t20 =>
mo_b (op_st t19 t20 x2) fun _ =>
mo_b (op_gr 7 (some x0) 7) fun t21 =>
mo_b (op_g 7 (some x0) 2) fun t22 =>
mo_b (op_st t21 t22 1) fun _ =>
mo_b (op_g 7 (some x0) 2) fun t23 =>
mo_b (op_si 7 (some x0) 2 (t23 + 1)) fun _ =>
mo_b (op_g 7 (some x0) 2) fun t24 =>
mo_p (t24 - 1))))
def X7_kept (x0 : Nat) (x1 : Int) (x2 : Int) (x3 : Int) : MO Int :=
mo_b (mo_cv 7 (some x0) (fun b10 => X7_isVersion b10 x1)) fun t1 =>
mo_eq t1 0 (
mo_p (-101)) (
mo_b (mo_cv 7 (some x0) (fun b9 => X7_isVersion b9 x2)) fun t2 =>
mo_eq t2 0 (
mo_p (-101)) (
mo_b (op_gr 7 (some x0) 3) fun t3 =>
mo_b (op_ld t3 x1) fun t4 =>
mo_b (X7_within x3 0 (t4 - 1)) fun t5 =>
mo_eq t5 0 (
mo_p (-101)) (
mo_b (mo_cv 7 (some x0) (fun b7 => X7_layDifference b7 x1 x2)) fun _ =>
mo_b (op_gr 7 (some x0) 25) fun t6 =>
mo_b (op_ld t6 x3) fun t7 =>
mo_p t7)))
def X7_layHunk_L85 (t2 : Int) (t4 : Int) (x0 : Nat) : Int → MO (Int ⊕ Unit) := fun y5 =>
mo_b (op_g 7 (some x0) 27) fun t6 =>
mo_lt y5 t6 (
mo_b (op_gr 7 (some x0) 28) fun t7 =>
mo_b (op_gr 7 (some x0) 28) fun t8 =>
mo_b (op_ld t8 y5) fun t9 =>
mo_b (op_st t7 ((y5 + t4) - t2) t9) fun _ =>
mo_p (.inl (y5 + 1))) (
mo_p (.inr ()))
def X7_layHunk_L41 (t2 : Int) (t4 : Int) (x0 : Nat) (x3 : Int) : Int → MO (Int ⊕ Unit) := fun y11 =>
mo_lt y11 (x3 + t2) (
mo_p (.inr ())) (
mo_b (op_gr 7 (some x0) 28) fun t12 =>
mo_b (op_gr 7 (some x0) 28) fun t13 =>
mo_b (op_ld t13 y11) fun t14 =>
mo_b (op_st t12 ((y11 + t4) - t2) t14) fun _ =>
mo_p (.inl (y11 + (-1))))
def X7_layHunk_L123 (t4 : Int) (x0 : Nat) (x1 : Int) (x2 : Int) (x3 : Int) : Int → MO (Int ⊕ Unit) := fun y15 =>
mo_lt y15 t4 (
mo_b (op_gr 7 (some x0) 28) fun t16 =>
mo_b (op_gr 7 (some x0) 14) fun t17 =>
mo_b (mo_cv 7 (some x0) (fun b19 => X7_comeFrom b19 x1 x2)) fun t18 =>
mo_b (op_ld t17 (t18 + y15)) fun t19 =>
mo_b (op_st t16 (x3 + y15) t19) fun _ =>
mo_p (.inl (y15 + 1))) (
mo_p (.inr ()))
def X7_layHunk (x0 : Nat) (x1 : Int) (x2 : Int) (x3 : Int) : MO Unit :=
mo_b (op_gr 7 (some x0) 11) fun t1 =>
mo_b (op_ld t1 ((10 * x1) + x2)) fun t2 =>
mo_b (op_gr 7 (some x0) 12) fun t3 =>
mo_b (op_ld t3 ((10 * x1) + x2)) fun t4 =>
mo_b (
mo_le t4 t2 (
mo_b (mo_lp mo_N (X7_layHunk_L85 t2 t4 x0) (x3 + t2)) fun _ =>
mo_p ()) (
mo_b (op_g 7 (some x0) 27) fun t10 =>
mo_b (mo_lp mo_N (X7_layHunk_L41 t2 t4 x0 x3) (t10 - 1)) fun _ =>
mo_p ())) fun _ =>
mo_b (mo_lp mo_N (X7_layHunk_L123 t4 x0 x1 x2 x3) 0) fun _ =>
mo_b (op_g 7 (some x0) 27) fun t21 =>
mo_b (op_si 7 (some x0) 27 (t21 + (t4 - t2))) fun _ =>
mo_p ()
def X7_lay_L35 (x0 : Nat) (x1 : Int) : Int → MO (Int ⊕ Unit) := fun y5 =>
mo_lt y5 0 (
mo_p (.inr ())) (
mo_b (op_gr 7 (some x0) 10) fun t6 =>
mo_b (op_ld t6 ((10 * x1) + y5)) fun t7 =>
mo_b (mo_cv 7 (some x0) (fun b7 => X7_layHunk b7 x1 y5 t7)) fun _ =>
mo_p (.inl (y5 + (-1))))
def X7_lay (x0 : Nat) (x1 : Int) : MO Int :=
mo_b (mo_cv 7 (some x0) (fun b13 => X7_isPatch b13 x1)) fun t1 =>
mo_eq t1 0 (
mo_p (-101)) (
mo_b (mo_cv 7 (some x0) (fun b12 => X7_workOnDesk b12)) fun _ =>
mo_b (mo_cv 7 (some x0) (fun b11 => X7_fitsWork b11 x1)) fun t2 =>
mo_eq t2 0 (
mo_p (-103)) (
mo_b (op_gr 7 (some x0) 9) fun t3 =>
mo_b (op_ld t3 x1) fun t4 =>
mo_b (mo_lp mo_N (X7_lay_L35 x0 x1) (t4 - 1)) fun _ =>
mo_b (op_g 7 (some x0) 27) fun t9 =>
mo_le t9 14 (
mo_b (mo_cv 7 (some x0) (fun b10 => X7_toDesk b10)) fun _ =>
mo_b (op_g 7 (some x0) 0) fun t10 =>
mo_p t10) (
mo_p (-104))))
def X7_takenAt_L6 (x0 : Nat) (x1 : Int) (x3 : Int) (x4 : Int) : (Int × Int) → MO ((Int × Int) ⊕ Int) := fun (y1, y2) =>
mo_lt y2 x3 (
mo_b (op_gr 7 (some x0) 10) fun t3 =>
mo_b (op_ld t3 ((10 * x1) + y2)) fun t4 =>
mo_b (op_gr 7 (some x0) 11) fun t5 =>
mo_b (op_ld t5 ((10 * x1) + y2)) fun t6 =>
mo_b (X7_within x4 t4 ((t4 + t6) - 1)) fun t7 =>
mo_b (
mo_eq t7 0 (
mo_p y1) (
mo_b (op_gr 7 (some x0) 13) fun t8 =>
mo_b (mo_cv 7 (some x0) (fun b10 => X7_goFrom b10 x1 y2)) fun t9 =>
mo_b (op_ld t8 ((t9 + x4) - t4)) fun t10 =>
mo_p t10)) fun t12 =>
mo_p (.inl (t12, (y2 + 1)))) (
mo_p (.inr y1))
def X7_takenAt (x0 : Nat) (x1 : Int) (x2 : Int) (x3 : Int) (x4 : Int) : MO Int :=
mo_b (mo_lp mo_N (X7_takenAt_L6 x0 x1 x3 x4) ((-1), x2)) fun t14 =>
mo_p t14
def X7_layAhead_L41 (x0 : Nat) (x1 : Int) (y2 : Int) : Int → MO (Int ⊕ Unit) := fun y5 =>
mo_b (op_gr 7 (some x0) 11) fun t6 =>
mo_b (op_ld t6 ((10 * x1) + y2)) fun t7 =>
mo_lt y5 t7 (
mo_b (op_gr 7 (some x0) 13) fun t8 =>
mo_b (mo_cv 7 (some x0) (fun b11 => X7_goFrom b11 x1 y2)) fun t9 =>
mo_b (op_ld t8 (t9 + y5)) fun t10 =>
mo_b (mo_cv 7 (some x0) (fun b10 => X7_goes b10 t10)) fun _ =>
mo_p (.inl (y5 + 1))) (
mo_p (.inr ()))
def X7_layAhead_L7 (x0 : Nat) (x1 : Int) (x3 : Int) (x4 : Int) (x5 : Int) (x6 : Int) (x8 : Int) : (Int × Int) → MO ((Int × Int) ⊕ Unit) := fun (y1, y2) =>
mo_b (
mo_lt y1 x8 (
mo_p true) (
mo_lt y2 x3 (
mo_p true) (
mo_p false))) fun c11 => cond c11 (
mo_b (
mo_lt y2 x3 (
mo_b (mo_cv 7 (some x0) (fun b3 => X7_standsAt b3 x1 y2)) fun t3 =>
mo_eq t3 y1 (
mo_p true) (
mo_p false)) (
mo_p false)) fun c23 => cond c23 (
mo_b (mo_lp mo_N (X7_layAhead_L41 x0 x1 y2) 0) fun _ =>
mo_b (op_gr 7 (some x0) 12) fun t13 =>
mo_b (op_ld t13 ((10 * x1) + y2)) fun t14 =>
mo_p (.inl ((y1 + t14), (y2 + 1)))) (
mo_b (mo_cv 7 (some x0) (fun b16 => X7_takenAt b16 x4 x5 x6 y1)) fun t15 =>
mo_b (mo_cv 7 (some x0) (fun b15 => X7_goes b15 t15)) fun _ =>
mo_p (.inl ((y1 + 1), y2)))) (
mo_p (.inr ()))
def X7_layAhead (x0 : Nat) (x1 : Int) (x2 : Int) (x3 : Int) (x4 : Int) (x5 : Int) (x6 : Int) (x7 : Int) (x8 : Int) : MO Unit :=
mo_b (mo_lp mo_N (X7_layAhead_L7 x0 x1 x3 x4 x5 x6 x8) (x7, x2)) fun _ =>
mo_p ()
def X7_layBehind_L50 (x0 : Nat) (x4 : Int) (y2 : Int) : Int → MO (Int ⊕ Unit) := fun y5 =>
mo_b (op_gr 7 (some x0) 12) fun t6 =>
mo_b (op_ld t6 ((10 * x4) + y2)) fun t7 =>
mo_lt y5 t7 (
mo_b (op_gr 7 (some x0) 14) fun t8 =>
mo_b (mo_cv 7 (some x0) (fun b11 => X7_comeFrom b11 x4 y2)) fun t9 =>
mo_b (op_ld t8 (t9 + y5)) fun t10 =>
mo_b (mo_cv 7 (some x0) (fun b10 => X7_comes b10 t10)) fun _ =>
mo_p (.inl (y5 + 1))) (
mo_p (.inr ()))
def X7_layBehind_L8 (x0 : Nat) (x1 : Int) (x2 : Int) (x3 : Int) (x4 : Int) (x6 : Int) (x8 : Int) : (Int × Int) → MO ((Int × Int) ⊕ Unit) := fun (y1, y2) =>
mo_b (
mo_lt y1 x8 (
mo_p true) (
mo_lt y2 x6 (
mo_p true) (
mo_p false))) fun c12 => cond c12 (
mo_b (
mo_lt y2 x6 (
mo_b (op_gr 7 (some x0) 10) fun t3 =>
mo_b (op_ld t3 ((10 * x4) + y2)) fun t4 =>
mo_eq t4 y1 (
mo_p true) (
mo_p false)) (
mo_p false)) fun c26 => cond c26 (
mo_b (mo_lp mo_N (X7_layBehind_L50 x0 x4 y2) 0) fun _ =>
mo_b (op_gr 7 (some x0) 11) fun t13 =>
mo_b (op_ld t13 ((10 * x4) + y2)) fun t14 =>
mo_p (.inl ((y1 + t14), (y2 + 1)))) (
mo_b (mo_cv 7 (some x0) (fun b16 => X7_broughtAt b16 x1 x2 x3 y1)) fun t15 =>
mo_b (mo_cv 7 (some x0) (fun b15 => X7_comes b15 t15)) fun _ =>
mo_p (.inl ((y1 + 1), y2)))) (
mo_p (.inr ()))
def X7_layBehind (x0 : Nat) (x1 : Int) (x2 : Int) (x3 : Int) (x4 : Int) (x5 : Int) (x6 : Int) (x7 : Int) (x8 : Int) : MO Unit :=
mo_b (mo_lp mo_N (X7_layBehind_L8 x0 x1 x2 x3 x4 x6 x8) (x7, x5)) fun _ =>
mo_p ()
def X7_layCode_L7 (x0 : Nat) (x2 : Int) : (Int × Int) → MO ((Int × Int) ⊕ Unit) := fun (y1, y2) =>
mo_lt y2 0 (
mo_p (.inr ())) (
mo_b (op_rem y1 x2) fun t3 =>
mo_b (op_div y1 x2) fun t4 =>
mo_b (op_gr 7 (some x0) 35) fun t5 =>
mo_b (
mo_eq t3 0 (
mo_p (-1)) (
mo_lt (t3 - 1) y2 (
mo_p (t3 - 1)) (
mo_p t3))) fun t6 =>
mo_b (op_st t5 y2 t6) fun _ =>
mo_p (.inl (t4, (y2 + (-1)))))
def X7_layCode (x0 : Nat) (x1 : Int) (x2 : Int) : MO Unit :=
mo_b (mo_lp mo_N (X7_layCode_L7 x0 x2) (x1, (x2 - 1))) fun _ =>
mo_p ()
def X7_layMoved_L216 (x0 : Nat) (x1 : Int) (y1 : Int) : Int → MO (Int ⊕ Unit) := fun y31 =>
mo_b (op_gr 7 (some x0) 12) fun t32 =>
mo_b (op_ld t32 ((10 * x1) + y1)) fun t33 =>
mo_lt y31 t33 (
mo_b (op_gr 7 (some x0) 14) fun t34 =>
mo_b (mo_cv 7 (some x0) (fun b37 => X7_comeFrom b37 x1 y1)) fun t35 =>
mo_b (op_ld t34 (t35 + y31)) fun t36 =>
mo_b (mo_cv 7 (some x0) (fun b36 => X7_comes b36 t36)) fun _ =>
mo_p (.inl (y31 + 1))) (
mo_p (.inr ()))
def X7_layMoved_L171 (x0 : Nat) (x1 : Int) (y1 : Int) : Int → MO (Int ⊕ Unit) := fun y23 =>
mo_b (op_gr 7 (some x0) 11) fun t24 =>
mo_b (op_ld t24 ((10 * x1) + y1)) fun t25 =>
mo_lt y23 t25 (
mo_b (op_gr 7 (some x0) 13) fun t26 =>
mo_b (mo_cv 7 (some x0) (fun b29 => X7_goFrom b29 x1 y1)) fun t27 =>
mo_b (op_ld t26 (t27 + y23)) fun t28 =>
mo_b (mo_cv 7 (some x0) (fun b28 => X7_goes b28 t28)) fun _ =>
mo_p (.inl (y23 + 1))) (
mo_p (.inr ()))
def X7_layMoved_L39 (t5 : Int) (x0 : Nat) (x1 : Int) (x2 : Int) (x3 : Int) (y1 : Int) : (Int × Int) → MO ((Int × Int) ⊕ Int) := fun (y6, y7) =>
mo_b (op_gr 7 (some x0) 9) fun t8 =>
mo_b (op_ld t8 x2) fun t9 =>
mo_lt y7 t9 (
mo_b (op_gr 7 (some x0) 12) fun t10 =>
mo_b (op_ld t10 ((10 * x2) + y7)) fun t11 =>
mo_b (op_gr 7 (some x0) 11) fun t12 =>
mo_b (op_ld t12 ((10 * x2) + y7)) fun t13 =>
mo_b (
mo_eq x3 0 (
mo_b (op_gr 7 (some x0) 10) fun t14 =>
mo_b (op_ld t14 ((10 * x2) + y7)) fun t15 =>
mo_b (mo_cv 7 (some x0) (fun b16 => X7_standsAt b16 x1 y1)) fun t16 =>
mo_lt t15 t16 (
mo_p 1) (
mo_p 0)) (
mo_b (mo_cv 7 (some x0) (fun b18 => X7_standsAt b18 x2 y7)) fun t18 =>
mo_lt t18 t5 (
mo_p 1) (
mo_p 0))) fun t20 =>
mo_b (
mo_eq t20 0 (
mo_p 0) (
mo_eq x3 0 (
mo_p (t11 - t13)) (
mo_p (-(t11 - t13))))) fun t21 =>
mo_p (.inl ((y6 + t21), (y7 + 1)))) (
mo_p (.inr y6))
def X7_layMoved_L7 (x0 : Nat) (x1 : Int) (x2 : Int) (x3 : Int) : Int → MO (Int ⊕ Unit) := fun y1 =>
mo_b (op_gr 7 (some x0) 9) fun t2 =>
mo_b (op_ld t2 x1) fun t3 =>
mo_lt y1 t3 (
mo_b (op_gr 7 (some x0) 10) fun t4 =>
mo_b (op_ld t4 ((10 * x1) + y1)) fun t5 =>
mo_b (mo_lp mo_N (X7_layMoved_L39 t5 x0 x1 x2 x3 y1) (t5, 0)) fun t22 =>
mo_b (mo_cv 7 (some x0) (fun b38 => X7_newHunk b38 t22)) fun _ =>
mo_b (mo_lp mo_N (X7_layMoved_L171 x0 x1 y1) 0) fun _ =>
mo_b (mo_lp mo_N (X7_layMoved_L216 x0 x1 y1) 0) fun _ =>
mo_p (.inl (y1 + 1))) (
mo_p (.inr ()))
def X7_layMoved (x0 : Nat) (x1 : Int) (x2 : Int) (x3 : Int) : MO Unit :=
mo_b (mo_cv 7 (some x0) (fun b39 => X7_newWork b39)) fun _ =>
mo_b (mo_lp mo_N (X7_layMoved_L7 x0 x1 x2 x3) 0) fun _ =>
mo_p ()
def X7_layRemade_L15 (x0 : Nat) (x1 : Int) : (Int × Int × Int) → MO ((Int × Int × Int) ⊕ (Int × Int × Int)) := fun (y2, y3, y4) =>
mo_b (op_gr 7 (some x0) 35) fun t5 =>
mo_b (op_ld t5 y3) fun t6 =>
mo_eq t6 (-1) (
mo_p (.inr (y2, y3, y4))) (
mo_le y4 x1 (
mo_b (op_gr 7 (some x0) 34) fun t7 =>
mo_b (op_gr 7 (some x0) 35) fun t8 =>
mo_b (op_ld t8 y3) fun t9 =>
mo_b (op_ld t7 ((6 * y3) + t9)) fun t10 =>
mo_b (op_gr 7 (some x0) 35) fun t11 =>
mo_b (op_ld t11 y3) fun t12 =>
mo_p (.inl ((y2 + t10), t12, (y4 + 1)))) (
mo_p (.inr (y2, y3, y4))))
def X7_layRemade_L2 (x0 : Nat) (x1 : Int) : Int → MO (Int ⊕ Int) := fun y1 =>
mo_lt y1 x1 (
mo_b (mo_lp mo_N (X7_layRemade_L15 x0 x1) (0, y1, 0)) fun (t13, t14, t15) =>
mo_le t15 x1 (
mo_b (op_gr 7 (some x0) 36) fun t16 =>
mo_b (op_gr 7 (some x0) 34) fun t17 =>
mo_b (op_ld t17 (7 * t14)) fun t18 =>
mo_b (op_st t16 y1 (t13 + t18)) fun _ =>
mo_p (.inl (y1 + 1))) (
mo_p (.inr 0))) (
mo_p (.inr 1))
def X7_layRemade (x0 : Nat) (x1 : Int) : MO Int :=
mo_lp mo_N (X7_layRemade_L2 x0 x1) 0
def X7_look_L151 (x0 : Nat) (x1 : Int) : Int → MO (Int ⊕ Unit) := fun y9 =>
mo_lt y9 x1 (
mo_b (op_gr 7 (some x0) 37) fun t10 =>
mo_b (op_gr 7 (some x0) 35) fun t11 =>
mo_b (op_ld t11 y9) fun t12 =>
mo_b (op_st t10 y9 t12) fun _ =>
mo_b (op_gr 7 (some x0) 38) fun t13 =>
mo_b (op_gr 7 (some x0) 36) fun t14 =>
mo_b (op_ld t14 y9) fun t15 =>
mo_b (op_st t13 y9 t15) fun _ =>
mo_p (.inl (y9 + 1))) (
mo_p (.inr ()))
def X7_look_L151_1 (x0 : Nat) (x1 : Int) : Int → MO (Int ⊕ Unit) := fun y16 =>
mo_lt y16 x1 (
mo_b (op_gr 7 (some x0) 37) fun t17 =>
mo_b (op_gr 7 (some x0) 35) fun t18 =>
mo_b (op_ld t18 y16) fun t19 =>
mo_b (op_st t17 y16 t19) fun _ =>
mo_b (op_gr 7 (some x0) 38) fun t20 =>
mo_b (op_gr 7 (some x0) 36) fun t21 =>
mo_b (op_ld t21 y16) fun t22 =>
mo_b (op_st t20 y16 t22) fun _ =>
mo_p (.inl (y16 + 1))) (
mo_p (.inr ()))
def X7_look_L8 (x0 : Nat) (x1 : Int) (x2 : Int) : (Int × Int × Int) → MO ((Int × Int × Int) ⊕ Unit) := fun (y1, y2, y3) =>
mo_lt y3 x1 (
mo_b (op_gr 7 (some x0) 36) fun t23 =>
mo_b (op_ld t23 y3) fun t24 =>
mo_le t24 x2 (
mo_b (op_gr 7 (some x0) 35) fun t25 =>
mo_b (op_ld t25 y3) fun t26 =>
mo_b (
mo_eq t26 (-1) (
mo_b (op_gr 7 (some x0) 34) fun t31 =>
mo_b (op_ld t31 (7 * y3)) fun t32 =>
mo_p t32) (
mo_b (op_gr 7 (some x0) 34) fun t27 =>
mo_b (op_gr 7 (some x0) 35) fun t28 =>
mo_b (op_ld t28 y3) fun t29 =>
mo_b (op_ld t27 ((6 * y3) + t29)) fun t30 =>
mo_p t30)) fun t33 =>
mo_b (op_gr 7 (some x0) 7) fun t34 =>
mo_b (op_ld t34 y3) fun t35 =>
mo_lt t35 t35 mo_0 (
mo_b (op_gr 7 (some x0) 36) fun t36 =>
mo_b (op_ld t36 y3) fun t37 =>
mo_lt t37 t37 mo_0 (
mo_p (.inl ((y1 + t33), (y2 + (t35 * t37)), (y3 + 1)))))) (
mo_p (.inr ()))) (
mo_b (op_g 7 (some x0) 41) fun t4 =>
mo_b (
mo_eq t4 0 (
mo_p false) (
mo_b (op_g 7 (some x0) 39) fun t5 =>
mo_lt y1 t5 (
mo_p false) (
mo_p true))) fun c103 => cond c103 (
mo_b (op_g 7 (some x0) 39) fun t6 =>
mo_eq y1 t6 (
mo_b (op_g 7 (some x0) 40) fun t7 =>
mo_b (op_lc y2 t7) fun t8 =>
mo_lt t8 0 (
mo_b (op_sz 7 (some x0) 41 1) fun _ =>
mo_b (op_si 7 (some x0) 39 y1) fun _ =>
mo_b (op_si 7 (some x0) 40 y2) fun _ =>
mo_b (mo_lp mo_N (X7_look_L151 x0 x1) 0) fun _ =>
mo_p (.inr ())) (
mo_p (.inr ()))) (
mo_p (.inr ()))) (
mo_b (op_sz 7 (some x0) 41 1) fun _ =>
mo_b (op_si 7 (some x0) 39 y1) fun _ =>
mo_b (op_si 7 (some x0) 40 y2) fun _ =>
mo_b (mo_lp mo_N (X7_look_L151_1 x0 x1) 0) fun _ =>
mo_p (.inr ())))
def X7_look (x0 : Nat) (x1 : Int) (x2 : Int) : MO Unit :=
mo_lp mo_N (X7_look_L8 x0 x1 x2) (0, 0, 0)
def X7_layStore_L10 (x0 : Nat) (x1 : Int) (y1 : Int) : Int → MO (Int ⊕ Unit) := fun y2 =>
mo_lt y2 x1 (
mo_b (mo_cv 7 (some x0) (fun b8 => X7_layDifference b8 y2 y1)) fun _ =>
mo_b (op_gr 7 (some x0) 34) fun t3 =>
mo_b (
mo_eq y1 y2 (
mo_b (op_gr 7 (some x0) 3) fun t6 =>
mo_b (op_ld t6 y1) fun t7 =>
mo_p (t7 + 1)) (
mo_b (mo_cv 7 (some x0) (fun b4 => X7_workRoom b4)) fun t4 =>
mo_p t4)) fun t8 =>
mo_b (op_st t3 ((6 * y1) + y2) t8) fun _ =>
mo_p (.inl (y2 + 1))) (
mo_p (.inr ()))
def X7_layStore_L97 (t12 : Int) (x0 : Nat) (x1 : Int) (x2 : Int) : Int → MO (Int ⊕ Unit) := fun y13 =>
mo_lt y13 t12 (
mo_b (mo_cv 7 (some x0) (fun b16 => X7_layCode b16 y13 x1)) fun _ =>
mo_b (mo_cv 7 (some x0) (fun b15 => X7_layRemade b15 x1)) fun t14 =>
mo_b (
mo_eq t14 0 (
mo_p ()) (
mo_b (mo_cv 7 (some x0) (fun b14 => X7_look b14 x1 x2)) fun _ =>
mo_p ())) fun _ =>
mo_p (.inl (y13 + 1))) (
mo_p (.inr ()))
def X7_layStore_L78 (x1 : Int) : (Int × Int) → MO ((Int × Int) ⊕ Int) := fun (y10, y11) =>
mo_lt y11 x1 (
mo_p (.inl ((y10 * x1), (y11 + 1)))) (
mo_p (.inr y10))
def X7_layStore_L2 (x0 : Nat) (x1 : Int) : Int → MO (Int ⊕ Unit) := fun y1 =>
mo_lt y1 x1 (
mo_b (mo_lp mo_N (X7_layStore_L10 x0 x1 y1) 0) fun _ =>
mo_p (.inl (y1 + 1))) (
mo_p (.inr ()))
def X7_layStore (x0 : Nat) (x1 : Int) (x2 : Int) : MO Unit :=
mo_b (mo_lp mo_N (X7_layStore_L2 x0 x1) 0) fun _ =>
mo_b (op_sz 7 (some x0) 41 0) fun _ =>
mo_b (mo_lp mo_N (X7_layStore_L78 x1) (1, 0)) fun t12 =>
mo_b (mo_lp mo_N (X7_layStore_L97 t12 x0 x1 x2) 0) fun _ =>
mo_p ()
def X7_leaveOutIdle_L30 (t1 : Int) (x0 : Nat) : (Int × Int) → MO ((Int × Int) ⊕ Int) := fun (y7, y8) =>
mo_b (op_gr 7 (some x0) 18) fun t9 =>
mo_b (op_ld t9 (t1 - 1)) fun t10 =>
mo_lt y8 t10 (
mo_eq y7 0 (
mo_p (.inr y7)) (
mo_b (op_gr 7 (some x0) 21) fun t11 =>
mo_b (op_g 7 (some x0) 20) fun t12 =>
mo_b (op_gr 7 (some x0) 18) fun t13 =>
mo_b (op_ld t13 (t1 - 1)) fun t14 =>
mo_b (op_ld t11 ((t12 - t14) + y8)) fun t15 =>
mo_b (op_gr 7 (some x0) 23) fun t16 =>
mo_b (op_g 7 (some x0) 22) fun t17 =>
mo_b (op_gr 7 (some x0) 19) fun t18 =>
mo_b (op_ld t18 (t1 - 1)) fun t19 =>
mo_b (op_ld t16 ((t17 - t19) + y8)) fun t20 =>
mo_b (
mo_eq t15 t20 (
mo_p 1) (
mo_p 0)) fun t21 =>
mo_p (.inl (t21, (y8 + 1))))) (
mo_p (.inr y7))
def X7_leaveOutIdle (x0 : Nat) : MO Unit :=
mo_b (op_g 7 (some x0) 16) fun t1 =>
mo_b (op_gr 7 (some x0) 18) fun t2 =>
mo_b (op_ld t2 (t1 - 1)) fun t3 =>
mo_b (op_gr 7 (some x0) 19) fun t4 =>
mo_b (op_ld t4 (t1 - 1)) fun t5 =>
mo_b (
mo_eq t3 t5 (
mo_p 1) (
mo_p 0)) fun t6 =>
mo_b (mo_lp mo_N (X7_leaveOutIdle_L30 t1 x0) (t6, 0)) fun t22 =>
mo_eq t22 0 (
mo_p ()) (
mo_b (op_g 7 (some x0) 20) fun t23 =>
mo_b (op_gr 7 (some x0) 18) fun t24 =>
mo_b (op_ld t24 (t1 - 1)) fun t25 =>
mo_b (op_si 7 (some x0) 20 (t23 - t25)) fun _ =>
mo_b (op_g 7 (some x0) 22) fun t26 =>
mo_b (op_gr 7 (some x0) 19) fun t27 =>
mo_b (op_ld t27 (t1 - 1)) fun t28 =>
mo_b (op_si 7 (some x0) 22 (t26 - t28)) fun _ =>
mo_b (op_g 7 (some x0) 16) fun t29 =>
mo_b (op_si 7 (some x0) 16 (t29 - 1)) fun _ =>
mo_p ())
def X7_line_L42 (x0 : Nat) (x1 : Int) : Int → MO (Int ⊕ Unit) := fun y6 =>
mo_le y6 x1 (
mo_p (.inr ())) (
mo_b (op_gr 7 (some x0) 1) fun t7 =>
mo_b (op_gr 7 (some x0) 1) fun t8 =>
mo_b (op_ld t8 (y6 - 1)) fun t9 =>
mo_b (op_st t7 y6 t9) fun _ =>
mo_p (.inl (y6 + (-1))))
def X7_line (x0 : Nat) (x1 : Int) (x2 : Int) : MO Int :=
mo_b (op_g 7 (some x0) 0) fun t1 =>
mo_b (X7_within x1 0 t1) fun t2 =>
mo_eq t2 0 (
mo_p (-102)) (
mo_b (X7_within x2 0 99) fun t3 =>
mo_eq t3 0 (
mo_p (-102)) (
mo_b (op_g 7 (some x0) 0) fun t4 =>
mo_eq t4 14 (
mo_p (-104)) (
mo_b (op_g 7 (some x0) 0) fun t5 =>
mo_b (mo_lp mo_N (X7_line_L42 x0 x1) t5) fun _ =>
mo_b (op_gr 7 (some x0) 1) fun t10 =>
mo_b (op_st t10 x1 x2) fun _ =>
mo_b (op_g 7 (some x0) 0) fun t11 =>
mo_b (op_si 7 (some x0) 0 (t11 + 1)) fun _ =>
mo_b (op_g 7 (some x0) 0) fun t12 =>
mo_p t12)))
def X7_loose_L58 (t11 : Int) (x0 : Nat) (x1 : Int) (y2 : Int) (y3 : Int) (y5 : Int) : (Int × Int) → MO ((Int × Int) ⊕ Int) := fun (y12, y13) =>
mo_lt y13 1000 (
mo_eq y12 (-1) (
mo_b (
mo_b (
mo_lt ((t11 + y2) - y13) y3 (
mo_p false) (
mo_b (op_g 7 (some x0) 27) fun t14 =>
mo_b (mo_cv 7 (some x0) (fun b15 => X7_stands b15 x1 y5 ((t11 + y2) - y13) t14)) fun t15 =>
mo_eq t15 0 (
mo_p false) (
mo_p true))) fun c78 => cond c78 (
mo_p ((t11 + y2) - y13)) (
mo_lt ((t11 + y2) + y13) y3 (
mo_p y12) (
mo_b (op_g 7 (some x0) 27) fun t17 =>
mo_b (mo_cv 7 (some x0) (fun b18 => X7_stands b18 x1 y5 ((t11 + y2) + y13) t17)) fun t18 =>
mo_eq t18 0 (
mo_p y12) (
mo_p ((t11 + y2) + y13))))) fun t20 =>
mo_p (.inl (t20, (y13 + 1)))) (
mo_p (.inr y12))) (
mo_p (.inr y12))
def X7_loose_L25 (x0 : Nat) (x1 : Int) : (Int × Int × Int × Int) → MO ((Int × Int × Int × Int) ⊕ Int) := fun (y2, y3, y4, y5) =>
mo_b (op_gr 7 (some x0) 9) fun t6 =>
mo_b (op_ld t6 x1) fun t7 =>
mo_lt y5 t7 (
mo_b (op_gr 7 (some x0) 10) fun t10 =>
mo_b (op_ld t10 ((10 * x1) + y5)) fun t11 =>
mo_b (mo_lp mo_N (X7_loose_L58 t11 x0 x1 y2 y3 y5) ((-1), 0)) fun t21 =>
mo_eq t21 (-1) (
mo_p (.inr (-103))) (
mo_b (mo_cv 7 (some x0) (fun b28 => X7_layHunk b28 x1 y5 t21)) fun _ =>
mo_b (
mo_lt (t21 - (t11 + y2)) 0 (
mo_p (-(t21 - (t11 + y2)))) (
mo_p (t21 - (t11 + y2)))) fun t22 =>
mo_b (op_gr 7 (some x0) 12) fun t23 =>
mo_b (op_ld t23 ((10 * x1) + y5)) fun t24 =>
mo_b (op_gr 7 (some x0) 11) fun t25 =>
mo_b (op_ld t25 ((10 * x1) + y5)) fun t26 =>
mo_b (op_gr 7 (some x0) 12) fun t27 =>
mo_b (op_ld t27 ((10 * x1) + y5)) fun t28 =>
mo_p (.inl ((y2 + (((t21 - (t11 + y2)) + t24) - t26)), ((t21 + t28) + 1), (y4 + t22), (y5 + 1))))) (
mo_b (op_g 7 (some x0) 27) fun t8 =>
mo_le t8 14 (
mo_b (mo_cv 7 (some x0) (fun b8 => X7_toDesk b8)) fun _ =>
mo_p (.inr y4)) (
mo_p (.inr (-104))))
def X7_loose (x0 : Nat) (x1 : Int) : MO Int :=
mo_b (mo_cv 7 (some x0) (fun b30 => X7_isPatch b30 x1)) fun t1 =>
mo_eq t1 0 (
mo_p (-101)) (
mo_b (mo_cv 7 (some x0) (fun b29 => X7_workOnDesk b29)) fun _ =>
mo_lp mo_N (X7_loose_L25 x0 x1) (0, 0, 0, 0))
def X7_lostBy_L18 (x0 : Nat) (x1 : Int) : (Int × Int) → MO ((Int × Int) ⊕ Int) := fun (y3, y4) =>
mo_eq y4 (-1) (
mo_p (.inr y3)) (
mo_b (
mo_eq y3 0 (
mo_eq y4 x1 (
mo_p 1) (
mo_p 0)) (
mo_p 1)) fun t5 =>
mo_b (op_gr 7 (some x0) 37) fun t6 =>
mo_b (op_ld t6 y4) fun t7 =>
mo_p (.inl (t5, t7)))
def X7_lostBy_L5 (x0 : Nat) (x1 : Int) (x2 : Int) : (Int × Int) → MO ((Int × Int) ⊕ Int) := fun (y1, y2) =>
mo_lt y2 x2 (
mo_b (mo_lp mo_N (X7_lostBy_L18 x0 x1) (0, y2)) fun t8 =>
mo_b (
mo_eq t8 0 (
mo_p 0) (
mo_b (op_gr 7 (some x0) 7) fun t9 =>
mo_b (op_ld t9 y2) fun t10 =>
mo_p t10)) fun t11 =>
mo_p (.inl ((y1 + t11), (y2 + 1)))) (
mo_p (.inr y1))
def X7_lostBy (x0 : Nat) (x1 : Int) (x2 : Int) : MO Int :=
mo_b (mo_lp mo_N (X7_lostBy_L5 x0 x1 x2) (0, 0)) fun t12 =>
mo_p t12
def X7_of (x0 : Nat) (x1 : Int) (x2 : Int) : MO Int :=
mo_b (mo_cv 7 (some x0) (fun b5 => X7_isPatch b5 x1)) fun t1 =>
mo_eq t1 0 (
mo_p (-101)) (
mo_b (X7_within x2 0 3) fun t2 =>
mo_eq t2 0 (
mo_p (-102)) (
mo_b (mo_cv 7 (some x0) (fun b3 => X7_ofPatch b3 x1 x2)) fun t3 =>
mo_p t3))
def X7_patch (x0 : Nat) (x1 : Int) (x2 : Int) : MO Int :=
mo_b (mo_cv 7 (some x0) (fun b7 => X7_isVersion b7 x1)) fun t1 =>
mo_eq t1 0 (
mo_p (-101)) (
mo_b (mo_cv 7 (some x0) (fun b6 => X7_isVersion b6 x2)) fun t2 =>
mo_eq t2 0 (
mo_p (-101)) (
mo_b (op_g 7 (some x0) 8) fun t3 =>
mo_eq t3 12 (
mo_p (-104)) (
mo_b (mo_cv 7 (some x0) (fun b5 => X7_layDifference b5 x1 x2)) fun _ =>
mo_b (mo_cv 7 (some x0) (fun b4 => X7_storeWork b4)) fun t4 =>
mo_p t4)))
def X7_pieceRoom (x0 : Nat) (x1 : Int) : MO Int :=
mo_b (op_gr 7 (some x0) 37) fun t1 =>
mo_b (op_ld t1 x1) fun t2 =>
mo_eq t2 (-1) (
mo_b (op_gr 7 (some x0) 34) fun t7 =>
mo_b (op_ld t7 (7 * x1)) fun t8 =>
mo_p t8) (
mo_b (op_gr 7 (some x0) 34) fun t3 =>
mo_b (op_gr 7 (some x0) 37) fun t4 =>
mo_b (op_ld t4 x1) fun t5 =>
mo_b (op_ld t3 ((6 * x1) + t5)) fun t6 =>
mo_p t6)
def X7_worstPiece_L5 (x0 : Nat) (x1 : Int) (x2 : Int) : (Int × Int) → MO ((Int × Int) ⊕ Int) := fun (y1, y2) =>
mo_lt y2 x1 (
mo_b (
mo_eq y2 x2 (
mo_p y1) (
mo_eq y1 (-1) (
mo_p y2) (
mo_b (mo_cv 7 (some x0) (fun b5 => X7_lostBy b5 y2 x1)) fun t3 =>
mo_b (mo_cv 7 (some x0) (fun b4 => X7_lostBy b4 y1 x1)) fun t4 =>
mo_le t3 t4 (
mo_p y1) (
mo_p y2)))) fun t7 =>
mo_p (.inl (t7, (y2 + 1)))) (
mo_p (.inr y1))
def X7_worstPiece (x0 : Nat) (x1 : Int) (x2 : Int) : MO Int :=
mo_b (mo_lp mo_N (X7_worstPiece_L5 x0 x1 x2) ((-1), 0)) fun t8 =>
mo_p t8
def X7_worstThen (x0 : Nat) (x1 : Int) (x2 : Int) : MO Int :=
mo_b (mo_cv 7 (some x0) (fun b3 => X7_worstPiece b3 x1 x2)) fun t1 =>
mo_eq t1 (-1) (
mo_p 0) (
mo_b (mo_cv 7 (some x0) (fun b2 => X7_lostBy b2 t1 x1)) fun t2 =>
mo_p t2)
def X7_saved_L66 (x0 : Nat) (x1 : Int) (x3 : Int) : (Int × Int) → MO ((Int × Int) ⊕ Int) := fun (y6, y7) =>
mo_lt y7 x1 (
mo_b (op_g 7 (some x0) 41) fun t8 =>
mo_eq t8 0 (
mo_p (.inr y6)) (
mo_b (mo_cv 7 (some x0) (fun b20 => X7_pieceRoom b20 y7)) fun t9 =>
mo_b (
mo_le t9 x3 (
mo_b (
mo_eq y6 (-1) (
mo_p (-1)) (
mo_b (mo_cv 7 (some x0) (fun b12 => X7_worstThen b12 x1 y7)) fun t10 =>
mo_b (mo_cv 7 (some x0) (fun b11 => X7_worstThen b11 x1 y6)) fun t11 =>
mo_p (t10 - t11))) fun t14 =>
mo_b (
mo_lt t14 0 (
mo_p y7) (
mo_eq t14 0 (
mo_b (mo_cv 7 (some x0) (fun b17 => X7_pieceRoom b17 y7)) fun t15 =>
mo_b (mo_cv 7 (some x0) (fun b16 => X7_pieceRoom b16 y6)) fun t16 =>
mo_lt t15 t16 (
mo_p y7) (
mo_p y6)) (
mo_p y6))) fun t19 =>
mo_p t19) (
mo_p y6)) fun t20 =>
mo_p (.inl (t20, (y7 + 1))))) (
mo_p (.inr y6))
def X7_saved (x0 : Nat) (x1 : Int) (x2 : Int) (x3 : Int) (x4 : Int) : MO Int :=
mo_b (mo_cv 7 (some x0) (fun b27 => X7_isAsk b27 x1 x2)) fun t1 =>
mo_eq t1 0 (
mo_p (-102)) (
mo_b (X7_within x3 0 99) fun t2 =>
mo_eq t2 0 (
mo_p (-102)) (
mo_b (X7_within x4 0 1) fun t3 =>
mo_eq t3 0 (
mo_p (-102)) (
mo_b (op_g 7 (some x0) 15) fun t4 =>
mo_eq t4 30 (
mo_p (-103)) (
mo_b (op_g 7 (some x0) 15) fun t5 =>
mo_b (op_si 7 (some x0) 15 (t5 + 1)) fun _ =>
mo_b (mo_cv 7 (some x0) (fun b24 => X7_layStore b24 x1 x2)) fun _ =>
mo_b (mo_lp mo_N (X7_saved_L66 x0 x1 x3) ((-1), 0)) fun t22 =>
mo_eq t22 (-1) (
mo_p (-1)) (
mo_eq x4 0 (
mo_p t22) (
mo_b (mo_cv 7 (some x0) (fun b23 => X7_worstThen b23 x1 t22)) fun t23 =>
mo_p t23))))))
def X7_share_L24 (x0 : Nat) (x1 : Int) (x2 : Int) : (Int × Int) → MO ((Int × Int) ⊕ Int) := fun (y3, y4) =>
mo_b (op_gr 7 (some x0) 3) fun t5 =>
mo_b (op_ld t5 x1) fun t6 =>
mo_lt y4 t6 (
mo_b (mo_cv 7 (some x0) (fun b8 => X7_broughtBy b8 x1 y4)) fun t7 =>
mo_b (
mo_eq t7 x2 (
mo_p 1) (
mo_p 0)) fun t8 =>
mo_p (.inl ((y3 + t8), (y4 + 1)))) (
mo_p (.inr y3))
def X7_share (x0 : Nat) (x1 : Int) (x2 : Int) : MO Int :=
mo_b (mo_cv 7 (some x0) (fun b11 => X7_isVersion b11 x1)) fun t1 =>
mo_eq t1 0 (
mo_p (-101)) (
mo_b (mo_cv 7 (some x0) (fun b10 => X7_isVersion b10 x2)) fun t2 =>
mo_eq t2 0 (
mo_p (-101)) (
mo_b (mo_lp mo_N (X7_share_L24 x0 x1 x2) (0, 0)) fun t10 =>
mo_p t10))
def X7_store (x0 : Nat) (x1 : Int) (x2 : Int) (x3 : Int) : MO Int :=
mo_b (mo_cv 7 (some x0) (fun b19 => X7_isAsk b19 x1 x2)) fun t1 =>
mo_b (
mo_eq t1 0 (
mo_p true) (
mo_b (X7_within x3 0 1) fun t2 =>
mo_eq t2 0 (
mo_b (X7_within x3 10 15) fun t3 =>
mo_eq t3 0 (
mo_b (X7_within x3 20 25) fun t4 =>
mo_eq t4 0 (
mo_p true) (
mo_p false)) (
mo_p false)) (
mo_p false))) fun c6 => cond c6 (
mo_p (-102)) (
mo_b (op_g 7 (some x0) 15) fun t8 =>
mo_eq t8 30 (
mo_p (-103)) (
mo_b (op_g 7 (some x0) 15) fun t9 =>
mo_b (op_si 7 (some x0) 15 (t9 + 1)) fun _ =>
mo_b (mo_cv 7 (some x0) (fun b18 => X7_layStore b18 x1 x2)) fun _ =>
mo_lt x3 2 (
mo_b (op_g 7 (some x0) 41) fun t16 =>
mo_eq t16 0 (
mo_p (-1)) (
mo_eq x3 0 (
mo_b (op_g 7 (some x0) 39) fun t18 =>
mo_p t18) (
mo_b (op_g 7 (some x0) 40) fun t17 =>
mo_p t17))) (
mo_b (op_rem x3 10) fun t10 =>
mo_b (op_g 7 (some x0) 41) fun t11 =>
mo_eq t11 0 (
mo_p (-2)) (
mo_lt t10 x1 (
mo_lt x3 20 (
mo_b (op_gr 7 (some x0) 37) fun t14 =>
mo_b (op_ld t14 t10) fun t15 =>
mo_p t15) (
mo_b (op_gr 7 (some x0) 38) fun t12 =>
mo_b (op_ld t12 t10) fun t13 =>
mo_p t13)) (
mo_p (-2))))))
def X7_touches (x0 : Nat) (x1 : Int) (x2 : Int) (x3 : Int) (x4 : Int) : MO Int :=
mo_b (mo_cv 7 (some x0) (fun b7 => X7_standsAt b7 x1 x2)) fun t1 =>
mo_b (op_gr 7 (some x0) 10) fun t2 =>
mo_b (op_ld t2 ((10 * x3) + x4)) fun t3 =>
mo_b (op_gr 7 (some x0) 11) fun t4 =>
mo_b (op_ld t4 ((10 * x3) + x4)) fun t5 =>
mo_le t1 (t3 + t5) (
mo_b (op_gr 7 (some x0) 12) fun t6 =>
mo_b (op_ld t6 ((10 * x1) + x2)) fun t7 =>
mo_le t3 (t1 + t7) (
mo_p 1) (
mo_p 0)) (
mo_p 0)
def X7_swap_L34 (x0 : Nat) (x1 : Int) (x2 : Int) (y3 : Int) : Int → MO (Int ⊕ (Int ⊕ Int)) := fun y13 =>
mo_b (op_gr 7 (some x0) 9) fun t14 =>
mo_b (op_ld t14 x2) fun t15 =>
mo_lt y13 t15 (
mo_b (mo_cv 7 (some x0) (fun b16 => X7_touches b16 x1 y3 x2 y13)) fun t16 =>
mo_eq t16 0 (
mo_p (.inl (y13 + 1))) (
mo_p (.inr (.inr (-103))))) (
mo_p (.inr (.inl (y3 + 1))))
def X7_swap_L21 (x0 : Nat) (x1 : Int) (x2 : Int) : Int → MO (Int ⊕ Int) := fun y3 =>
mo_b (op_gr 7 (some x0) 9) fun t4 =>
mo_b (op_ld t4 x1) fun t5 =>
mo_lt y3 t5 (
mo_lp mo_N (X7_swap_L34 x0 x1 x2 y3) 0) (
mo_b (op_g 7 (some x0) 8) fun t6 =>
mo_le (t6 + 2) 12 (
mo_b (mo_cv 7 (some x0) (fun b11 => X7_layMoved b11 x2 x1 1)) fun _ =>
mo_b (mo_cv 7 (some x0) (fun b10 => X7_storeWork b10)) fun t7 =>
mo_b (mo_cv 7 (some x0) (fun b9 => X7_layMoved b9 x1 x2 0)) fun _ =>
mo_b (mo_cv 7 (some x0) (fun b8 => X7_storeWork b8)) fun t8 =>
mo_p (.inr t7)) (
mo_p (.inr (-104))))
def X7_swap (x0 : Nat) (x1 : Int) (x2 : Int) : MO Int :=
mo_b (mo_cv 7 (some x0) (fun b18 => X7_isPatch b18 x1)) fun t1 =>
mo_eq t1 0 (
mo_p (-101)) (
mo_b (mo_cv 7 (some x0) (fun b17 => X7_isPatch b17 x2)) fun t2 =>
mo_eq t2 0 (
mo_p (-101)) (
mo_lp mo_N (X7_swap_L21 x0 x1 x2) 0))
def X7_take_L37 (x0 : Nat) (x1 : Int) : Int → MO (Int ⊕ Unit) := fun y6 =>
mo_b (op_g 7 (some x0) 0) fun t7 =>
mo_lt y6 t7 (
mo_b (op_gr 7 (some x0) 1) fun t8 =>
mo_b (op_gr 7 (some x0) 4) fun t9 =>
mo_b (op_ld t9 ((14 * x1) + y6)) fun t10 =>
mo_b (op_st t8 y6 t10) fun _ =>
mo_p (.inl (y6 + 1))) (
mo_p (.inr ()))
def X7_take (x0 : Nat) (x1 : Int) : MO Int :=
mo_b (
mo_eq x1 (-1) (
mo_p false) (
mo_b (mo_cv 7 (some x0) (fun b1 => X7_isVersion b1 x1)) fun t1 =>
mo_eq t1 0 (
mo_p true) (
mo_p false))) fun c2 => cond c2 (
mo_p (-101)) (
mo_b (
mo_eq x1 (-1) (
mo_p 0) (
mo_b (op_gr 7 (some x0) 3) fun t3 =>
mo_b (op_ld t3 x1) fun t4 =>
mo_p t4)) fun t5 =>
mo_b (op_si 7 (some x0) 0 t5) fun _ =>
mo_b (mo_lp mo_N (X7_take_L37 x0 x1) 0) fun _ =>
mo_b (op_g 7 (some x0) 0) fun t11 =>
mo_p t11)
def X7_text (x0 : Nat) (x1 : Int) (x2 : Int) : MO Int :=
mo_b (mo_cv 7 (some x0) (fun b7 => X7_isVersion b7 x1)) fun t1 =>
mo_eq t1 0 (
mo_p (-101)) (
mo_b (op_gr 7 (some x0) 3) fun t2 =>
mo_b (op_ld t2 x1) fun t3 =>
mo_b (X7_within x2 0 (t3 - 1)) fun t4 =>
mo_eq t4 0 (
mo_p (-1)) (
mo_b (op_gr 7 (some x0) 4) fun t5 =>
mo_b (op_ld t5 ((14 * x1) + x2)) fun t6 =>
mo_p t6))
def X7_workFits (x0 : Nat) : MO Int :=
mo_b (op_g 7 (some x0) 16) fun t1 =>
mo_le t1 10 (
mo_b (op_g 7 (some x0) 20) fun t2 =>
mo_le t2 28 (
mo_b (op_g 7 (some x0) 22) fun t3 =>
mo_le t3 28 (
mo_p 1) (
mo_p 0)) (
mo_p 0)) (
mo_p 0)
def X7_together_L402 (t54 : Int) (x0 : Nat) (x1 : Int) : (Int × Int) → MO ((Int × Int) ⊕ Int) := fun (y57, y58) =>
mo_lt y58 t54 (
mo_b (op_gr 7 (some x0) 12) fun t59 =>
mo_b (op_ld t59 ((10 * x1) + y58)) fun t60 =>
mo_b (op_gr 7 (some x0) 11) fun t61 =>
mo_b (op_ld t61 ((10 * x1) + y58)) fun t62 =>
mo_p (.inl ((y57 + (t60 - t62)), (y58 + 1)))) (
mo_p (.inr y57))
def X7_together_L155 (t19 : Int) (x0 : Nat) (x1 : Int) (x2 : Int) (y4 : Int) (y5 : Int) : (Int × Int × Int × Int) → MO ((Int × Int × Int × Int) ⊕ (Int × Int × Int)) := fun (y25, y26, y27, y28) =>
mo_eq y28 0 (
mo_p (.inr (y25, y26, y27))) (
mo_b (op_gr 7 (some x0) 9) fun t29 =>
mo_b (op_ld t29 x1) fun t30 =>
mo_b (
mo_lt y25 t30 (
mo_b (
mo_eq y25 y4 (
mo_eq t19 0 (
mo_b (mo_cv 7 (some x0) (fun b33 => X7_standsAt b33 x1 y25)) fun t33 =>
mo_le t33 y27 (
mo_le y25 y4 (
mo_le y26 y5 (
mo_p false) (
mo_p true)) (
mo_p true)) (
mo_p false)) (
mo_p true)) (
mo_b (mo_cv 7 (some x0) (fun b31 => X7_standsAt b31 x1 y25)) fun t31 =>
mo_le t31 y27 (
mo_le y25 y4 (
mo_le y26 y5 (
mo_p false) (
mo_p true)) (
mo_p true)) (
mo_p false))) fun c176 => cond c176 (
mo_b (mo_cv 7 (some x0) (fun b38 => X7_standsAt b38 x1 y25)) fun t35 =>
mo_b (op_gr 7 (some x0) 12) fun t36 =>
mo_b (op_ld t36 ((10 * x1) + y25)) fun t37 =>
mo_b (
mo_le (t35 + t37) y27 (
mo_p y27) (
mo_p (t35 + t37))) fun t38 =>
mo_p ((y25 + 1), t38, 1)) (
mo_p (y25, y27, 0))) (
mo_p (y25, y27, 0))) fun (t40, t41, t42) =>
mo_b (op_gr 7 (some x0) 9) fun t43 =>
mo_b (op_ld t43 x2) fun t44 =>
mo_lt y26 t44 (
mo_b (
mo_eq y26 y5 (
mo_eq t19 0 (
mo_p false) (
mo_b (op_gr 7 (some x0) 10) fun t47 =>
mo_b (op_ld t47 ((10 * x2) + y26)) fun t48 =>
mo_le t48 t41 (
mo_le t40 y4 (
mo_le y26 y5 (
mo_p true) (
mo_p false)) (
mo_p false)) (
mo_p true))) (
mo_b (op_gr 7 (some x0) 10) fun t45 =>
mo_b (op_ld t45 ((10 * x2) + y26)) fun t46 =>
mo_le t46 t41 (
mo_le t40 y4 (
mo_le y26 y5 (
mo_p true) (
mo_p false)) (
mo_p false)) (
mo_p true))) fun c265 => cond c265 (
mo_p (.inl (t40, y26, t41, t42))) (
mo_b (op_gr 7 (some x0) 10) fun t49 =>
mo_b (op_ld t49 ((10 * x2) + y26)) fun t50 =>
mo_b (op_gr 7 (some x0) 11) fun t51 =>
mo_b (op_ld t51 ((10 * x2) + y26)) fun t52 =>
mo_b (
mo_le (t50 + t52) t41 (
mo_p t41) (
mo_p (t50 + t52))) fun t53 =>
mo_p (.inl (t40, (y26 + 1), t53, 1)))) (
mo_p (.inl (t40, y26, t41, t42))))
def X7_together_L43 (x0 : Nat) (x1 : Int) (x2 : Int) : (Int × Int × Int) → MO ((Int × Int × Int) ⊕ Unit) := fun (y4, y5, y6) =>
mo_b (op_gr 7 (some x0) 9) fun t7 =>
mo_b (op_ld t7 x1) fun t8 =>
mo_b (
mo_lt y4 t8 (
mo_p true) (
mo_b (op_gr 7 (some x0) 9) fun t9 =>
mo_b (op_ld t9 x2) fun t10 =>
mo_lt y5 t10 (
mo_p true) (
mo_p false))) fun c50 => cond c50 (
mo_b (op_gr 7 (some x0) 9) fun t11 =>
mo_b (op_ld t11 x2) fun t12 =>
mo_b (
mo_eq y5 t12 (
mo_p 1) (
mo_b (op_gr 7 (some x0) 9) fun t13 =>
mo_b (op_ld t13 x1) fun t14 =>
mo_lt y4 t14 (
mo_b (mo_cv 7 (some x0) (fun b17 => X7_standsAt b17 x1 y4)) fun t15 =>
mo_b (op_gr 7 (some x0) 10) fun t16 =>
mo_b (op_ld t16 ((10 * x2) + y5)) fun t17 =>
mo_le t15 t17 (
mo_p 1) (
mo_p 0)) (
mo_p 0))) fun t19 =>
mo_b (
mo_eq t19 0 (
mo_b (op_gr 7 (some x0) 10) fun t20 =>
mo_b (op_ld t20 ((10 * x2) + y5)) fun t21 =>
mo_p t21) (
mo_b (mo_cv 7 (some x0) (fun b22 => X7_standsAt b22 x1 y4)) fun t22 =>
mo_p t22)) fun t24 =>
mo_b (mo_lp mo_N (X7_together_L155 t19 x0 x1 x2 y4 y5) (y4, y5, t24, 1)) fun (t54, t55, t56) =>
mo_b (mo_cv 7 (some x0) (fun b66 => X7_newHunk b66 (t24 - y6))) fun _ =>
mo_b (mo_cv 7 (some x0) (fun b65 => X7_layAhead b65 x1 y4 t54 x2 y5 t55 t24 t56)) fun _ =>
mo_b (mo_cv 7 (some x0) (fun b64 => X7_layBehind b64 x1 y4 t54 x2 y5 t55 t24 t56)) fun _ =>
mo_b (mo_lp mo_N (X7_together_L402 t54 x0 x1) (y6, y4)) fun t63 =>
mo_b (mo_cv 7 (some x0) (fun b63 => X7_leaveOutIdle b63)) fun _ =>
mo_p (.inl (t54, t55, t63))) (
mo_p (.inr ()))
def X7_together (x0 : Nat) (x1 : Int) (x2 : Int) : MO Int :=
mo_b (mo_cv 7 (some x0) (fun b75 => X7_isPatch b75 x1)) fun t1 =>
mo_eq t1 0 (
mo_p (-101)) (
mo_b (mo_cv 7 (some x0) (fun b74 => X7_isPatch b74 x2)) fun t2 =>
mo_eq t2 0 (
mo_p (-101)) (
mo_b (mo_cv 7 (some x0) (fun b73 => X7_agree b73 x1 x2)) fun t3 =>
mo_eq t3 0 (
mo_p (-102)) (
mo_b (mo_cv 7 (some x0) (fun b72 => X7_newWork b72)) fun _ =>
mo_b (mo_lp mo_N (X7_together_L43 x0 x1 x2) (0, 0, 0)) fun _ =>
mo_b (op_g 7 (some x0) 8) fun t68 =>
mo_eq t68 12 (
mo_p (-104)) (
mo_b (mo_cv 7 (some x0) (fun b71 => X7_workFits b71)) fun t69 =>
mo_eq t69 0 (
mo_p (-104)) (
mo_b (mo_cv 7 (some x0) (fun b70 => X7_storeWork b70)) fun t70 =>
mo_p t70)))))
def X7_turn_L130 (x0 : Nat) (x1 : Int) (y4 : Int) : Int → MO (Int ⊕ Unit) := fun y21 =>
mo_b (op_gr 7 (some x0) 11) fun t22 =>
mo_b (op_ld t22 ((10 * x1) + y4)) fun t23 =>
mo_lt y21 t23 (
mo_b (op_gr 7 (some x0) 13) fun t24 =>
mo_b (mo_cv 7 (some x0) (fun b27 => X7_goFrom b27 x1 y4)) fun t25 =>
mo_b (op_ld t24 (t25 + y21)) fun t26 =>
mo_b (mo_cv 7 (some x0) (fun b26 => X7_comes b26 t26)) fun _ =>
mo_p (.inl (y21 + 1))) (
mo_p (.inr ()))
def X7_turn_L87 (x0 : Nat) (x1 : Int) (y4 : Int) : Int → MO (Int ⊕ Unit) := fun y13 =>
mo_b (op_gr 7 (some x0) 12) fun t14 =>
mo_b (op_ld t14 ((10 * x1) + y4)) fun t15 =>
mo_lt y13 t15 (
mo_b (op_gr 7 (some x0) 14) fun t16 =>
mo_b (mo_cv 7 (some x0) (fun b19 => X7_comeFrom b19 x1 y4)) fun t17 =>
mo_b (op_ld t16 (t17 + y13)) fun t18 =>
mo_b (mo_cv 7 (some x0) (fun b18 => X7_goes b18 t18)) fun _ =>
mo_p (.inl (y13 + 1))) (
mo_p (.inr ()))
def X7_turn_L31 (x0 : Nat) (x1 : Int) : (Int × Int) → MO ((Int × Int) ⊕ Unit) := fun (y3, y4) =>
mo_b (op_gr 7 (some x0) 9) fun t5 =>
mo_b (op_ld t5 x1) fun t6 =>
mo_lt y4 t6 (
mo_b (op_gr 7 (some x0) 10) fun t7 =>
mo_b (op_ld t7 ((10 * x1) + y4)) fun t8 =>
mo_b (mo_cv 7 (some x0) (fun b28 => X7_newHunk b28 (t8 + y3))) fun _ =>
mo_b (op_gr 7 (some x0) 12) fun t9 =>
mo_b (op_ld t9 ((10 * x1) + y4)) fun t10 =>
mo_b (op_gr 7 (some x0) 11) fun t11 =>
mo_b (op_ld t11 ((10 * x1) + y4)) fun t12 =>
mo_b (mo_lp mo_N (X7_turn_L87 x0 x1 y4) 0) fun _ =>
mo_b (mo_lp mo_N (X7_turn_L130 x0 x1 y4) 0) fun _ =>
mo_p (.inl ((y3 + (t10 - t12)), (y4 + 1)))) (
mo_p (.inr ()))
def X7_turn (x0 : Nat) (x1 : Int) : MO Int :=
mo_b (mo_cv 7 (some x0) (fun b32 => X7_isPatch b32 x1)) fun t1 =>
mo_eq t1 0 (
mo_p (-101)) (
mo_b (op_g 7 (some x0) 8) fun t2 =>
mo_eq t2 12 (
mo_p (-104)) (
mo_b (mo_cv 7 (some x0) (fun b31 => X7_newWork b31)) fun _ =>
mo_b (mo_lp mo_N (X7_turn_L31 x0 x1) (0, 0)) fun _ =>
mo_b (mo_cv 7 (some x0) (fun b30 => X7_storeWork b30)) fun t30 =>
mo_p t30))
def X7_worst (x0 : Nat) (x1 : Int) (x2 : Int) (x3 : Int) : MO Int :=
mo_b (mo_cv 7 (some x0) (fun b11 => X7_isAsk b11 x1 x2)) fun t1 =>
mo_eq t1 0 (
mo_p (-102)) (
mo_b (X7_within x3 0 1) fun t2 =>
mo_eq t2 0 (
mo_p (-102)) (
mo_b (op_g 7 (some x0) 15) fun t3 =>
mo_eq t3 30 (
mo_p (-103)) (
mo_b (op_g 7 (some x0) 15) fun t4 =>
mo_b (op_si 7 (some x0) 15 (t4 + 1)) fun _ =>
mo_b (mo_cv 7 (some x0) (fun b9 => X7_layStore b9 x1 x2)) fun _ =>
mo_b (op_g 7 (some x0) 41) fun t5 =>
mo_eq t5 0 (
mo_p (-1)) (
mo_b (mo_cv 7 (some x0) (fun b8 => X7_worstPiece b8 x1 (-1))) fun t6 =>
mo_eq x3 0 (
mo_p t6) (
mo_b (mo_cv 7 (some x0) (fun b7 => X7_lostBy b7 t6 x1)) fun t7 =>
mo_p t7)))))
