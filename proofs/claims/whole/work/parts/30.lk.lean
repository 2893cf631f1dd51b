set_option maxRecDepth 100000 in
set_option maxHeartbeats 4000000 in
theorem lkX3_addLine (x0 : Nat) (x1 : Option Nat) (x2 : Option Nat) (x3 : Int) : LK yX3_addLine sX3_addLine [vr (some x0), vr x1, vr x2, vi x3] en_v (X3_addLine x0 x1 x2 x3) := by
  refine lk_go (L := [(0, vr (some x0)), (1, vr x1), (2, vr x2), (3, vi x3)]) (by decide +kernel) rfl (fun h => by cases h) (Nat.le_of_ble_eq_true rfl) rfl ?_
  intro K
  unfold X3_addLine
  refine gg_aload_n (S := sX3_addLine) 0 1 rfl dX3_addLine_0 rfl rfl ?_
  refine gg_gi (S := sX3_addLine) cfX3 (by decide) (fun _ _ => rfl) 4 rfl flX3_33 dX3_addLine_1 (fun t1 => ?_)
  refine gg_if_le (S := sX3_addLine) (tgt := 16) 7 rfl dX3_addLine_4 (by decide) ?_ ?_
  · exact gg_pure (gg_vret (S := sX3_addLine) rfl dX3_addLine_16 (by decide) (by decide))
  · refine gg_aload_n (S := sX3_addLine) 0 8 rfl dX3_addLine_7 rfl rfl ?_
    refine gg_gi (S := sX3_addLine) cfX3 (by decide) (fun _ _ => rfl) 11 rfl flX3_33 dX3_addLine_8 (fun t2 => ?_)
    refine gg_aload_n (S := sX3_addLine) 1 12 rfl dX3_addLine_11 rfl rfl ?_
    refine gg_alen (S := sX3_addLine) 13 rfl dX3_addLine_12 (fun t3 => ?_)
    refine gg_ic_lt (S := sX3_addLine) (tgt := 17) 16 rfl dX3_addLine_13 (by decide) ?_ ?_
    · refine gg_aload_n (S := sX3_addLine) 1 18 rfl dX3_addLine_17 rfl rfl ?_
      refine gg_aload_n (S := sX3_addLine) 0 19 rfl dX3_addLine_18 rfl rfl ?_
      refine gg_gi (S := sX3_addLine) cfX3 (by decide) (fun _ _ => rfl) 22 rfl flX3_33 dX3_addLine_19 (fun t4 => ?_)
      refine gg_ld (S := sX3_addLine) 23 rfl dX3_addLine_22 (fun t5 => ?_)
      refine gg_istore (S := sX3_addLine) (L' := [(4, vi t5), (0, vr (some x0)), (1, vr x1), (2, vr x2), (3, vi x3)]) 25 rfl dX3_addLine_23 (by decide) rfl ?_
      refine gg_iload (S := sX3_addLine) 0 27 rfl dX3_addLine_25 rfl ?_
      refine gg_if_lt (S := sX3_addLine) (tgt := 52) 30 rfl dX3_addLine_27 (by decide) ?_ ?_
      · exact gg_pure (gg_vret (S := sX3_addLine) rfl dX3_addLine_52 (by decide) (by decide))
      · refine gg_iload (S := sX3_addLine) 0 32 rfl dX3_addLine_30 rfl ?_
        refine gg_aload_n (S := sX3_addLine) 3 33 rfl dX3_addLine_32 rfl rfl ?_
        refine gg_alen (S := sX3_addLine) 34 rfl dX3_addLine_33 (fun t6 => ?_)
        refine gg_ic_ge (S := sX3_addLine) (tgt := 52) 37 rfl dX3_addLine_34 (by decide) ?_ ?_
        · refine gg_aload_n (S := sX3_addLine) 3 38 rfl dX3_addLine_37 rfl rfl ?_
          refine gg_iload (S := sX3_addLine) 0 40 rfl dX3_addLine_38 rfl ?_
          refine gg_iload_n (S := sX3_addLine) 4 41 rfl dX3_addLine_40 rfl rfl ?_
          refine gg_st (S := sX3_addLine) 42 rfl dX3_addLine_41 ?_
          refine gg_aload_n (S := sX3_addLine) 2 43 rfl dX3_addLine_42 rfl rfl ?_
          refine gg_aload_n (S := sX3_addLine) 1 44 rfl dX3_addLine_43 rfl rfl ?_
          refine gg_gi (S := sX3_addLine) cfX3 (by decide) (fun _ _ => rfl) 47 rfl flX3_33 dX3_addLine_44 (fun t7 => ?_)
          refine gg_iload (S := sX3_addLine) 0 49 rfl dX3_addLine_47 rfl ?_
          refine gg_iconst (S := sX3_addLine) 50 rfl dX3_addLine_49 ?_
          refine gg_iadd (S := sX3_addLine) 51 rfl dX3_addLine_50 ?_
          refine gg_st (S := sX3_addLine) 52 rfl dX3_addLine_51 ?_
          exact gg_pure (gg_vret (S := sX3_addLine) rfl dX3_addLine_52 (by decide) (by decide))
        · exact gg_pure (gg_vret (S := sX3_addLine) rfl dX3_addLine_52 (by decide) (by decide))
    · exact gg_pure (gg_vret (S := sX3_addLine) rfl dX3_addLine_16 (by decide) (by decide))

set_option maxRecDepth 100000 in
set_option maxHeartbeats 4000000 in
theorem lkX3_addComing (x0 : Nat) (x1 : Int) : LK yX3_addComing sX3_addComing [vr (some x0), vi x1] en_v (X3_addComing x0 x1) := by
  refine lk_go (L := [(0, vr (some x0)), (1, vi x1)]) (by decide +kernel) rfl (fun h => by cases h) (Nat.le_of_ble_eq_true rfl) rfl ?_
  intro K
  unfold X3_addComing
  refine gg_aload_n (S := sX3_addComing) 0 1 rfl dX3_addComing_0 rfl rfl ?_
  refine gg_aload_n (S := sX3_addComing) 0 2 rfl dX3_addComing_1 rfl rfl ?_
  refine gg_gr (S := sX3_addComing) cfX3 (by decide) (fun _ _ => rfl) 5 rfl flX3_24 dX3_addComing_2 (fun t1 => ?_)
  refine gg_aload_n (S := sX3_addComing) 0 6 rfl dX3_addComing_5 rfl rfl ?_
  refine gg_gr (S := sX3_addComing) cfX3 (by decide) (fun _ _ => rfl) 9 rfl flX3_30 dX3_addComing_6 (fun t2 => ?_)
  refine gg_iload_n (S := sX3_addComing) 1 10 rfl dX3_addComing_9 rfl rfl ?_
  refine gg_callVv (S := sX3_addComing) (S' := sX3_addLine) (cs := 0) (sl := 0) (As := [vr t1, vr t2, vi x1]) (st := []) 13 rfl (fun b2 => lkX3_addLine b2 t1 t2 x1) mwX3_addLine rfl mlX3_63 dX3_addComing_10 cfX3 ⟨by decide, by decide⟩ 0 0 ⟨rfl, rfl⟩ ⟨by decide, by decide⟩ (Nat.le_of_ble_eq_true rfl) (fun _ => ?_)
  exact gg_pure (gg_vret (S := sX3_addComing) rfl dX3_addComing_13 (by decide) (by decide))

set_option maxRecDepth 100000 in
set_option maxHeartbeats 4000000 in
theorem lkX3_begins (x0 : Nat) (x1 : Int) : LK yX3_begins sX3_begins [vr (some x0), vi x1] en_i (X3_begins x0 x1) := by
  refine lk_go (L := [(0, vr (some x0)), (1, vi x1)]) (by decide +kernel) rfl (fun h => by cases h) (Nat.le_of_ble_eq_true rfl) rfl ?_
  intro K
  unfold X3_begins
  refine gg_iload_n (S := sX3_begins) 1 1 rfl dX3_begins_0 rfl rfl ?_
  refine gg_if_lt (S := sX3_begins) (tgt := 30) 4 rfl dX3_begins_1 (by decide) ?_ ?_
  · refine gg_iconst (S := sX3_begins) 31 rfl dX3_begins_30 ?_
    exact gg_pure (gg_iret (S := sX3_begins) rfl dX3_begins_31 (by decide) (by decide))
  · refine gg_iload_n (S := sX3_begins) 1 5 rfl dX3_begins_4 rfl rfl ?_
    refine gg_aload_n (S := sX3_begins) 0 6 rfl dX3_begins_5 rfl rfl ?_
    refine gg_gi (S := sX3_begins) cfX3 (by decide) (fun _ _ => rfl) 9 rfl flX3_33 dX3_begins_6 (fun t1 => ?_)
    refine gg_ic_ge (S := sX3_begins) (tgt := 30) 12 rfl dX3_begins_9 (by decide) ?_ ?_
    · refine gg_iload_n (S := sX3_begins) 1 13 rfl dX3_begins_12 rfl rfl ?_
      refine gg_aload_n (S := sX3_begins) 0 14 rfl dX3_begins_13 rfl rfl ?_
      refine gg_gr (S := sX3_begins) cfX3 (by decide) (fun _ _ => rfl) 17 rfl flX3_15 dX3_begins_14 (fun t2 => ?_)
      refine gg_alen (S := sX3_begins) 18 rfl dX3_begins_17 (fun t3 => ?_)
      refine gg_ic_ge (S := sX3_begins) (tgt := 30) 21 rfl dX3_begins_18 (by decide) ?_ ?_
      · refine gg_aload_n (S := sX3_begins) 0 22 rfl dX3_begins_21 rfl rfl ?_
        refine gg_gr (S := sX3_begins) cfX3 (by decide) (fun _ _ => rfl) 25 rfl flX3_15 dX3_begins_22 (fun t4 => ?_)
        refine gg_iload_n (S := sX3_begins) 1 26 rfl dX3_begins_25 rfl rfl ?_
        refine gg_ld (S := sX3_begins) 27 rfl dX3_begins_26 (fun t5 => ?_)
        refine gg_goto (S := sX3_begins) (tgt := 31) dX3_begins_27 (by decide) ?_
        exact gg_pure (gg_iret (S := sX3_begins) rfl dX3_begins_31 (by decide) (by decide))
      · refine gg_iconst (S := sX3_begins) 31 rfl dX3_begins_30 ?_
        exact gg_pure (gg_iret (S := sX3_begins) rfl dX3_begins_31 (by decide) (by decide))
    · refine gg_iconst (S := sX3_begins) 31 rfl dX3_begins_30 ?_
      exact gg_pure (gg_iret (S := sX3_begins) rfl dX3_begins_31 (by decide) (by decide))

set_option maxRecDepth 100000 in
set_option maxHeartbeats 4000000 in
theorem lkX3_shiftBefore (x0 : Nat) (x1 : Int) : LK yX3_shiftBefore sX3_shiftBefore [vr (some x0), vi x1] en_i (X3_shiftBefore x0 x1) := by
  refine lk_go (L := [(0, vr (some x0)), (1, vi x1)]) (by decide +kernel) rfl (fun h => by cases h) (Nat.le_of_ble_eq_true rfl) rfl ?_
  intro K
  unfold X3_shiftBefore
  refine gg_iload_n (S := sX3_shiftBefore) 1 1 rfl dX3_shiftBefore_0 rfl rfl ?_
  refine gg_join (fun t5 => [(0, vr (some x0)), (1, vi x1)]) (fun t5 => [vi t5]) 27 0 0 (fun κ1 hJ1 => ?_) ?_
  · refine gg_if_lt (S := sX3_shiftBefore) (tgt := 26) 4 rfl dX3_shiftBefore_1 (by decide) ?_ ?_
    · refine gg_iconst (S := sX3_shiftBefore) 27 rfl dX3_shiftBefore_26 ?_
      exact gg_pure (gg_sub [0, 1] rfl (hJ1 0))
    · refine gg_iload_n (S := sX3_shiftBefore) 1 5 rfl dX3_shiftBefore_4 rfl rfl ?_
      refine gg_aload_n (S := sX3_shiftBefore) 0 6 rfl dX3_shiftBefore_5 rfl rfl ?_
      refine gg_gr (S := sX3_shiftBefore) cfX3 (by decide) (fun _ _ => rfl) 9 rfl flX3_24 dX3_shiftBefore_6 (fun t1 => ?_)
      refine gg_alen (S := sX3_shiftBefore) 10 rfl dX3_shiftBefore_9 (fun t2 => ?_)
      refine gg_ic_ge (S := sX3_shiftBefore) (tgt := 26) 13 rfl dX3_shiftBefore_10 (by decide) ?_ ?_
      · refine gg_iload_n (S := sX3_shiftBefore) 1 14 rfl dX3_shiftBefore_13 rfl rfl ?_
        refine gg_aload_n (S := sX3_shiftBefore) 0 15 rfl dX3_shiftBefore_14 rfl rfl ?_
        refine gg_gr (S := sX3_shiftBefore) cfX3 (by decide) (fun _ _ => rfl) 18 rfl flX3_21 dX3_shiftBefore_15 (fun t3 => ?_)
        refine gg_alen (S := sX3_shiftBefore) 19 rfl dX3_shiftBefore_18 (fun t4 => ?_)
        refine gg_ic_ge (S := sX3_shiftBefore) (tgt := 26) 22 rfl dX3_shiftBefore_19 (by decide) ?_ ?_
        · refine gg_iconst (S := sX3_shiftBefore) 23 rfl dX3_shiftBefore_22 ?_
          refine gg_goto (S := sX3_shiftBefore) (tgt := 27) dX3_shiftBefore_23 (by decide) ?_
          exact gg_pure (gg_sub [0, 1] rfl (hJ1 1))
        · refine gg_iconst (S := sX3_shiftBefore) 27 rfl dX3_shiftBefore_26 ?_
          exact gg_pure (gg_sub [0, 1] rfl (hJ1 0))
      · refine gg_iconst (S := sX3_shiftBefore) 27 rfl dX3_shiftBefore_26 ?_
        exact gg_pure (gg_sub [0, 1] rfl (hJ1 0))
  · intro t5
    refine gg_istore_n (S := sX3_shiftBefore) (L' := [(2, vi t5), (0, vr (some x0)), (1, vi x1)]) 28 rfl dX3_shiftBefore_27 rfl (by decide) rfl ?_
    refine gg_iload_n (S := sX3_shiftBefore) 0 29 rfl dX3_shiftBefore_28 rfl rfl ?_
    refine gg_if_eq (S := sX3_shiftBefore) (tgt := 48) 32 rfl dX3_shiftBefore_29 (by decide) ?_ ?_
    · refine gg_iconst (S := sX3_shiftBefore) 49 rfl dX3_shiftBefore_48 ?_
      exact gg_pure (gg_iret (S := sX3_shiftBefore) rfl dX3_shiftBefore_49 (by decide) (by decide))
    · refine gg_aload_n (S := sX3_shiftBefore) 1 33 rfl dX3_shiftBefore_32 rfl rfl ?_
      refine gg_gr (S := sX3_shiftBefore) cfX3 (by decide) (fun _ _ => rfl) 36 rfl flX3_24 dX3_shiftBefore_33 (fun t6 => ?_)
      refine gg_iload_n (S := sX3_shiftBefore) 2 37 rfl dX3_shiftBefore_36 rfl rfl ?_
      refine gg_ld (S := sX3_shiftBefore) 38 rfl dX3_shiftBefore_37 (fun t7 => ?_)
      refine gg_aload_n (S := sX3_shiftBefore) 1 39 rfl dX3_shiftBefore_38 rfl rfl ?_
      refine gg_gr (S := sX3_shiftBefore) cfX3 (by decide) (fun _ _ => rfl) 42 rfl flX3_21 dX3_shiftBefore_39 (fun t8 => ?_)
      refine gg_iload_n (S := sX3_shiftBefore) 2 43 rfl dX3_shiftBefore_42 rfl rfl ?_
      refine gg_ld (S := sX3_shiftBefore) 44 rfl dX3_shiftBefore_43 (fun t9 => ?_)
      refine gg_isub (S := sX3_shiftBefore) 45 rfl dX3_shiftBefore_44 ?_
      refine gg_goto (S := sX3_shiftBefore) (tgt := 49) dX3_shiftBefore_45 (by decide) ?_
      exact gg_pure (gg_iret (S := sX3_shiftBefore) rfl dX3_shiftBefore_49 (by decide) (by decide))

set_option maxRecDepth 100000 in
set_option maxHeartbeats 4000000 in
theorem lkX3_beginsBehind (x0 : Nat) (x1 : Int) : LK yX3_beginsBehind sX3_beginsBehind [vr (some x0), vi x1] en_i (X3_beginsBehind x0 x1) := by
  refine lk_go (L := [(0, vr (some x0)), (1, vi x1)]) (by decide +kernel) rfl (fun h => by cases h) (Nat.le_of_ble_eq_true rfl) rfl ?_
  intro K
  unfold X3_beginsBehind
  refine gg_aload_n (S := sX3_beginsBehind) 0 1 rfl dX3_beginsBehind_0 rfl rfl ?_
  refine gg_iload_n (S := sX3_beginsBehind) 1 2 rfl dX3_beginsBehind_1 rfl rfl ?_
  refine gg_callVi (S := sX3_beginsBehind) (S' := sX3_begins) (cs := 0) (sl := 0) (As := [vi x1]) (st := []) 5 rfl (fun b3 => lkX3_begins b3 x1) mwX3_begins rfl mlX3_45 dX3_beginsBehind_2 cfX3 ⟨by decide, by decide⟩ 0 0 ⟨rfl, rfl⟩ ⟨by decide, by decide⟩ (Nat.le_of_ble_eq_true rfl) (fun t1 => ?_)
  refine gg_aload_n (S := sX3_beginsBehind) 0 6 rfl dX3_beginsBehind_5 rfl rfl ?_
  refine gg_iload_n (S := sX3_beginsBehind) 1 7 rfl dX3_beginsBehind_6 rfl rfl ?_
  refine gg_callVi (S := sX3_beginsBehind) (S' := sX3_shiftBefore) (cs := 0) (sl := 0) (As := [vi x1]) (st := [vi t1]) 10 rfl (fun b2 => lkX3_shiftBefore b2 x1) mwX3_shiftBefore rfl mlX3_54 dX3_beginsBehind_7 cfX3 ⟨by decide, by decide⟩ 0 0 ⟨rfl, rfl⟩ ⟨by decide, by decide⟩ (Nat.le_of_ble_eq_true rfl) (fun t2 => ?_)
  refine gg_iadd (S := sX3_beginsBehind) 11 rfl dX3_beginsBehind_10 ?_
  exact gg_pure (gg_iret (S := sX3_beginsBehind) rfl dX3_beginsBehind_11 (by decide) (by decide))

set_option maxRecDepth 100000 in
set_option maxHeartbeats 4000000 in
theorem lkX3_coming (x0 : Nat) (x1 : Int) : LK yX3_coming sX3_coming [vr (some x0), vi x1] en_i (X3_coming x0 x1) := by
  refine lk_go (L := [(0, vr (some x0)), (1, vi x1)]) (by decide +kernel) rfl (fun h => by cases h) (Nat.le_of_ble_eq_true rfl) rfl ?_
  intro K
  unfold X3_coming
  refine gg_iload_n (S := sX3_coming) 1 1 rfl dX3_coming_0 rfl rfl ?_
  refine gg_if_lt (S := sX3_coming) (tgt := 41) 4 rfl dX3_coming_1 (by decide) ?_ ?_
  · refine gg_iconst (S := sX3_coming) 42 rfl dX3_coming_41 ?_
    exact gg_pure (gg_iret (S := sX3_coming) rfl dX3_coming_42 (by decide) (by decide))
  · refine gg_iload_n (S := sX3_coming) 1 5 rfl dX3_coming_4 rfl rfl ?_
    refine gg_aload_n (S := sX3_coming) 0 6 rfl dX3_coming_5 rfl rfl ?_
    refine gg_gi (S := sX3_coming) cfX3 (by decide) (fun _ _ => rfl) 9 rfl flX3_33 dX3_coming_6 (fun t1 => ?_)
    refine gg_ic_ge (S := sX3_coming) (tgt := 41) 12 rfl dX3_coming_9 (by decide) ?_ ?_
    · refine gg_iload_n (S := sX3_coming) 1 13 rfl dX3_coming_12 rfl rfl ?_
      refine gg_iconst (S := sX3_coming) 14 rfl dX3_coming_13 ?_
      refine gg_iadd (S := sX3_coming) 15 rfl dX3_coming_14 ?_
      refine gg_aload_n (S := sX3_coming) 0 16 rfl dX3_coming_15 rfl rfl ?_
      refine gg_gr (S := sX3_coming) cfX3 (by decide) (fun _ _ => rfl) 19 rfl flX3_24 dX3_coming_16 (fun t2 => ?_)
      refine gg_alen (S := sX3_coming) 20 rfl dX3_coming_19 (fun t3 => ?_)
      refine gg_ic_ge (S := sX3_coming) (tgt := 41) 23 rfl dX3_coming_20 (by decide) ?_ ?_
      · refine gg_aload_n (S := sX3_coming) 0 24 rfl dX3_coming_23 rfl rfl ?_
        refine gg_gr (S := sX3_coming) cfX3 (by decide) (fun _ _ => rfl) 27 rfl flX3_24 dX3_coming_24 (fun t4 => ?_)
        refine gg_iload_n (S := sX3_coming) 1 28 rfl dX3_coming_27 rfl rfl ?_
        refine gg_iconst (S := sX3_coming) 29 rfl dX3_coming_28 ?_
        refine gg_iadd (S := sX3_coming) 30 rfl dX3_coming_29 ?_
        refine gg_ld (S := sX3_coming) 31 rfl dX3_coming_30 (fun t5 => ?_)
        refine gg_aload_n (S := sX3_coming) 0 32 rfl dX3_coming_31 rfl rfl ?_
        refine gg_gr (S := sX3_coming) cfX3 (by decide) (fun _ _ => rfl) 35 rfl flX3_24 dX3_coming_32 (fun t6 => ?_)
        refine gg_iload_n (S := sX3_coming) 1 36 rfl dX3_coming_35 rfl rfl ?_
        refine gg_ld (S := sX3_coming) 37 rfl dX3_coming_36 (fun t7 => ?_)
        refine gg_isub (S := sX3_coming) 38 rfl dX3_coming_37 ?_
        refine gg_goto (S := sX3_coming) (tgt := 42) dX3_coming_38 (by decide) ?_
        exact gg_pure (gg_iret (S := sX3_coming) rfl dX3_coming_42 (by decide) (by decide))
      · refine gg_iconst (S := sX3_coming) 42 rfl dX3_coming_41 ?_
        exact gg_pure (gg_iret (S := sX3_coming) rfl dX3_coming_42 (by decide) (by decide))
    · refine gg_iconst (S := sX3_coming) 42 rfl dX3_coming_41 ?_
      exact gg_pure (gg_iret (S := sX3_coming) rfl dX3_coming_42 (by decide) (by decide))

set_option maxRecDepth 100000 in
set_option maxHeartbeats 4000000 in
theorem lkX3_start (x0 : Option Nat) (x1 : Int) : LK yX3_start sX3_start [vr x0, vi x1] en_i (X3_start x0 x1) := by
  refine lk_go (L := [(0, vr x0), (1, vi x1)]) (by decide +kernel) rfl (fun h => by cases h) (Nat.le_of_ble_eq_true rfl) rfl ?_
  intro K
  unfold X3_start
  refine gg_iload_n (S := sX3_start) 1 1 rfl dX3_start_0 rfl rfl ?_
  refine gg_if_lt (S := sX3_start) (tgt := 16) 4 rfl dX3_start_1 (by decide) ?_ ?_
  · refine gg_iconst (S := sX3_start) 17 rfl dX3_start_16 ?_
    exact gg_pure (gg_iret (S := sX3_start) rfl dX3_start_17 (by decide) (by decide))
  · refine gg_iload_n (S := sX3_start) 1 5 rfl dX3_start_4 rfl rfl ?_
    refine gg_aload_n (S := sX3_start) 0 6 rfl dX3_start_5 rfl rfl ?_
    refine gg_alen (S := sX3_start) 7 rfl dX3_start_6 (fun t1 => ?_)
    refine gg_ic_ge (S := sX3_start) (tgt := 16) 10 rfl dX3_start_7 (by decide) ?_ ?_
    · refine gg_aload_n (S := sX3_start) 0 11 rfl dX3_start_10 rfl rfl ?_
      refine gg_iload_n (S := sX3_start) 1 12 rfl dX3_start_11 rfl rfl ?_
      refine gg_ld (S := sX3_start) 13 rfl dX3_start_12 (fun t2 => ?_)
      refine gg_goto (S := sX3_start) (tgt := 17) dX3_start_13 (by decide) ?_
      exact gg_pure (gg_iret (S := sX3_start) rfl dX3_start_17 (by decide) (by decide))
    · refine gg_iconst (S := sX3_start) 17 rfl dX3_start_16 ?_
      exact gg_pure (gg_iret (S := sX3_start) rfl dX3_start_17 (by decide) (by decide))

set_option maxRecDepth 100000 in
set_option maxHeartbeats 4000000 in
theorem lkX3_comingLine (x0 : Nat) (x1 : Int) (x2 : Int) : LK yX3_comingLine sX3_comingLine [vr (some x0), vi x1, vi x2] en_i (X3_comingLine x0 x1 x2) := by
  refine lk_go (L := [(0, vr (some x0)), (1, vi x1), (2, vi x2)]) (by decide +kernel) rfl (fun h => by cases h) (Nat.le_of_ble_eq_true rfl) rfl ?_
  intro K
  unfold X3_comingLine
  refine gg_aload_n (S := sX3_comingLine) 0 1 rfl dX3_comingLine_0 rfl rfl ?_
  refine gg_gr (S := sX3_comingLine) cfX3 (by decide) (fun _ _ => rfl) 4 rfl flX3_24 dX3_comingLine_1 (fun t1 => ?_)
  refine gg_iload_n (S := sX3_comingLine) 1 5 rfl dX3_comingLine_4 rfl rfl ?_
  refine gg_callSi (S := sX3_comingLine) (S' := sX3_start) (cs := 0) (sl := 0) (As := [vr t1, vi x1]) (st := []) 8 rfl (lkX3_start t1 x1) mwX3_start rfl mlX3_37 dX3_comingLine_5 ⟨by decide, by decide⟩ 0 0 ⟨rfl, rfl⟩ ⟨by decide, by decide⟩ (Nat.le_of_ble_eq_true rfl) (fun t2 => ?_)
  refine gg_iload_n (S := sX3_comingLine) 2 9 rfl dX3_comingLine_8 rfl rfl ?_
  refine gg_iadd (S := sX3_comingLine) 10 rfl dX3_comingLine_9 ?_
  refine gg_istore_n (S := sX3_comingLine) (L' := [(3, vi (t2 + x2)), (0, vr (some x0)), (1, vi x1), (2, vi x2)]) 11 rfl dX3_comingLine_10 rfl (by decide) rfl ?_
  refine gg_iload_n (S := sX3_comingLine) 3 12 rfl dX3_comingLine_11 rfl rfl ?_
  refine gg_if_lt (S := sX3_comingLine) (tgt := 42) 15 rfl dX3_comingLine_12 (by decide) ?_ ?_
  · refine gg_iconst (S := sX3_comingLine) 43 rfl dX3_comingLine_42 ?_
    exact gg_pure (gg_iret (S := sX3_comingLine) rfl dX3_comingLine_43 (by decide) (by decide))
  · refine gg_iload_n (S := sX3_comingLine) 3 16 rfl dX3_comingLine_15 rfl rfl ?_
    refine gg_aload_n (S := sX3_comingLine) 1 17 rfl dX3_comingLine_16 rfl rfl ?_
    refine gg_iload_n (S := sX3_comingLine) 2 18 rfl dX3_comingLine_17 rfl rfl ?_
    refine gg_callVi (S := sX3_comingLine) (S' := sX3_coming) (cs := 0) (sl := 0) (As := [vi x1]) (st := [vi x2]) 21 rfl (fun b7 => lkX3_coming b7 x1) mwX3_coming rfl mlX3_51 dX3_comingLine_18 cfX3 ⟨by decide, by decide⟩ 0 0 ⟨rfl, rfl⟩ ⟨by decide, by decide⟩ (Nat.le_of_ble_eq_true rfl) (fun t3 => ?_)
    refine gg_ic_ge (S := sX3_comingLine) (tgt := 42) 24 rfl dX3_comingLine_21 (by decide) ?_ ?_
    · refine gg_iload_n (S := sX3_comingLine) 0 25 rfl dX3_comingLine_24 rfl rfl ?_
      refine gg_aload_n (S := sX3_comingLine) 1 26 rfl dX3_comingLine_25 rfl rfl ?_
      refine gg_gr (S := sX3_comingLine) cfX3 (by decide) (fun _ _ => rfl) 29 rfl flX3_30 dX3_comingLine_26 (fun t4 => ?_)
      refine gg_alen (S := sX3_comingLine) 30 rfl dX3_comingLine_29 (fun t5 => ?_)
      refine gg_ic_ge (S := sX3_comingLine) (tgt := 42) 33 rfl dX3_comingLine_30 (by decide) ?_ ?_
      · refine gg_aload_n (S := sX3_comingLine) 1 34 rfl dX3_comingLine_33 rfl rfl ?_
        refine gg_gr (S := sX3_comingLine) cfX3 (by decide) (fun _ _ => rfl) 37 rfl flX3_30 dX3_comingLine_34 (fun t6 => ?_)
        refine gg_iload_n (S := sX3_comingLine) 0 38 rfl dX3_comingLine_37 rfl rfl ?_
        refine gg_ld (S := sX3_comingLine) 39 rfl dX3_comingLine_38 (fun t7 => ?_)
        refine gg_goto (S := sX3_comingLine) (tgt := 43) dX3_comingLine_39 (by decide) ?_
        exact gg_pure (gg_iret (S := sX3_comingLine) rfl dX3_comingLine_43 (by decide) (by decide))
      · refine gg_iconst (S := sX3_comingLine) 43 rfl dX3_comingLine_42 ?_
        exact gg_pure (gg_iret (S := sX3_comingLine) rfl dX3_comingLine_43 (by decide) (by decide))
    · refine gg_iconst (S := sX3_comingLine) 43 rfl dX3_comingLine_42 ?_
      exact gg_pure (gg_iret (S := sX3_comingLine) rfl dX3_comingLine_43 (by decide) (by decide))

set_option maxRecDepth 100000 in
set_option maxHeartbeats 4000000 in
theorem lkX3_comingAt (x0 : Nat) (x1 : Int) : LK yX3_comingAt sX3_comingAt [vr (some x0), vi x1] en_i (X3_comingAt x0 x1) := by
  refine lk_go (L := [(0, vr (some x0)), (1, vi x1)]) (by decide +kernel) rfl (fun h => by cases h) (Nat.le_of_ble_eq_true rfl) rfl ?_
  intro K
  unfold X3_comingAt
  refine gg_iconst (S := sX3_comingAt) 1 rfl dX3_comingAt_0 ?_
  refine gg_istore_n (S := sX3_comingAt) (L' := [(2, vi 0), (0, vr (some x0)), (1, vi x1)]) 2 rfl dX3_comingAt_1 rfl (by decide) rfl ?_
  refine gg_sub [1, 2, 0] rfl ?_
  refine gg_loop (fun y1 => [(0, vr (some x0)), (1, vi x1), (2, vi y1)]) mo_N ?_ 0
  · intro rec2 hr2
    intro y1
    dsimp only [X3_comingAt_L2]
    refine gg_iload_n (S := sX3_comingAt) 2 3 rfl dX3_comingAt_2 rfl rfl ?_
    refine gg_aload_n (S := sX3_comingAt) 0 4 rfl dX3_comingAt_3 rfl rfl ?_
    refine gg_gi (S := sX3_comingAt) cfX3 (by decide) (fun _ _ => rfl) 7 rfl flX3_33 dX3_comingAt_4 (fun t2 => ?_)
    refine gg_ic_ge (S := sX3_comingAt) (tgt := 44) 10 rfl dX3_comingAt_7 (by decide) ?_ ?_
    · refine gg_iload_n (S := sX3_comingAt) 1 11 rfl dX3_comingAt_10 rfl rfl ?_
      refine gg_aload_n (S := sX3_comingAt) 0 12 rfl dX3_comingAt_11 rfl rfl ?_
      refine gg_iload_n (S := sX3_comingAt) 2 13 rfl dX3_comingAt_12 rfl rfl ?_
      refine gg_callVi (S := sX3_comingAt) (S' := sX3_beginsBehind) (cs := 0) (sl := 0) (As := [vi y1]) (st := [vi x1]) 16 rfl (fun b7 => lkX3_beginsBehind b7 y1) mwX3_beginsBehind rfl mlX3_57 dX3_comingAt_13 cfX3 ⟨by decide, by decide⟩ 0 0 ⟨rfl, rfl⟩ ⟨by decide, by decide⟩ (Nat.le_of_ble_eq_true rfl) (fun t3 => ?_)
      refine gg_isub (S := sX3_comingAt) 17 rfl dX3_comingAt_16 ?_
      refine gg_istore_n (S := sX3_comingAt) (L' := [(3, vi (x1 - t3)), (0, vr (some x0)), (1, vi x1), (2, vi y1)]) 18 rfl dX3_comingAt_17 rfl (by decide) rfl ?_
      refine gg_iload_n (S := sX3_comingAt) 0 19 rfl dX3_comingAt_18 rfl rfl ?_
      refine gg_if_lt (S := sX3_comingAt) (tgt := 38) 22 rfl dX3_comingAt_19 (by decide) ?_ ?_
      · refine gg_iinc (S := sX3_comingAt) (L' := [(2, vi (y1 + 1)), (3, vi (x1 - t3)), (0, vr (some x0)), (1, vi x1)]) 3 41 rfl dX3_comingAt_38 rfl (by decide) rfl ?_
        refine gg_goto (S := sX3_comingAt) (tgt := 2) dX3_comingAt_41 (by decide) ?_
        exact gg_pure (gg_sub [2, 3, 0] rfl (hr2 (y1 + 1)))
      · refine gg_iload_n (S := sX3_comingAt) 0 23 rfl dX3_comingAt_22 rfl rfl ?_
        refine gg_aload_n (S := sX3_comingAt) 1 24 rfl dX3_comingAt_23 rfl rfl ?_
        refine gg_iload_n (S := sX3_comingAt) 3 25 rfl dX3_comingAt_24 rfl rfl ?_
        refine gg_callVi (S := sX3_comingAt) (S' := sX3_coming) (cs := 0) (sl := 0) (As := [vi y1]) (st := [vi (x1 - t3)]) 28 rfl (fun b6 => lkX3_coming b6 y1) mwX3_coming rfl mlX3_51 dX3_comingAt_25 cfX3 ⟨by decide, by decide⟩ 0 0 ⟨rfl, rfl⟩ ⟨by decide, by decide⟩ (Nat.le_of_ble_eq_true rfl) (fun t4 => ?_)
        refine gg_ic_ge (S := sX3_comingAt) (tgt := 38) 31 rfl dX3_comingAt_28 (by decide) ?_ ?_
        · refine gg_aload_n (S := sX3_comingAt) 1 32 rfl dX3_comingAt_31 rfl rfl ?_
          refine gg_iload_n (S := sX3_comingAt) 3 33 rfl dX3_comingAt_32 rfl rfl ?_
          refine gg_iload_n (S := sX3_comingAt) 0 34 rfl dX3_comingAt_33 rfl rfl ?_
          refine gg_callVi (S := sX3_comingAt) (S' := sX3_comingLine) (cs := 0) (sl := 0) (As := [vi y1, vi (x1 - t3)]) (st := []) 37 rfl (fun b5 => lkX3_comingLine b5 y1 (x1 - t3)) mwX3_comingLine rfl mlX3_92 dX3_comingAt_34 cfX3 ⟨by decide, by decide⟩ 0 0 ⟨rfl, rfl⟩ ⟨by decide, by decide⟩ (Nat.le_of_ble_eq_true rfl) (fun t5 => ?_)
          exact gg_pure (gg_iret (S := sX3_comingAt) rfl dX3_comingAt_37 (by decide) (by decide))
        · refine gg_iinc (S := sX3_comingAt) (L' := [(2, vi (y1 + 1)), (3, vi (x1 - t3)), (0, vr (some x0)), (1, vi x1)]) 3 41 rfl dX3_comingAt_38 rfl (by decide) rfl ?_
          refine gg_goto (S := sX3_comingAt) (tgt := 2) dX3_comingAt_41 (by decide) ?_
          exact gg_pure (gg_sub [2, 3, 0] rfl (hr2 (y1 + 1)))
    · refine gg_iconst (S := sX3_comingAt) 45 rfl dX3_comingAt_44 ?_
      exact gg_pure (gg_iret (S := sX3_comingAt) rfl dX3_comingAt_45 (by decide) (by decide))

set_option maxRecDepth 100000 in
set_option maxHeartbeats 4000000 in
theorem lkX0_addBrought (x0 : Option Nat) (x1 : Int) (x2 : Int) (x3 : Option Nat) : LK yX0_addBrought sX0_addBrought [vr x0, vi x1, vi x2, vr x3] en_v (X0_addBrought x0 x1 x2 x3) := by
  refine lk_go (L := [(0, vr x0), (1, vi x1), (2, vi x2), (3, vr x3)]) (by decide +kernel) rfl (fun h => by cases h) (Nat.le_of_ble_eq_true rfl) rfl ?_
  intro K
  unfold X0_addBrought
  refine gg_iload_n (S := sX0_addBrought) 1 1 rfl dX0_addBrought_0 rfl rfl ?_
  refine gg_istore (S := sX0_addBrought) (L' := [(4, vi x1), (0, vr x0), (1, vi x1), (2, vi x2), (3, vr x3)]) 3 rfl dX0_addBrought_1 (by decide) rfl ?_
  refine gg_sub [1, 3, 4, 0] rfl ?_
  refine gg_loopA (fun y1 => [(0, vr x0), (2, vi x2), (3, vr x3), (4, vi y1)]) (fun _ => []) 25 mo_N ?_ ?_ x1
  · intro κ3 hr3 he3
    intro y1
    dsimp only [X0_addBrought_L3]
    refine gg_iload (S := sX0_addBrought) 3 5 rfl dX0_addBrought_3 rfl ?_
    refine gg_iload_n (S := sX0_addBrought) 1 6 rfl dX0_addBrought_5 rfl rfl ?_
    refine gg_ic_ge (S := sX0_addBrought) (tgt := 25) 9 rfl dX0_addBrought_6 (by decide) ?_ ?_
    · refine gg_aload_n (S := sX0_addBrought) 2 10 rfl dX0_addBrought_9 rfl rfl ?_
      refine gg_aload_n (S := sX0_addBrought) 0 11 rfl dX0_addBrought_10 rfl rfl ?_
      refine gg_iload (S := sX0_addBrought) 3 13 rfl dX0_addBrought_11 rfl ?_
      refine gg_callVi (S := sX0_addBrought) (S' := sX3_comingAt) (cs := 0) (sl := 0) (As := [vi y1]) (st := [vr x3]) 16 rfl (fun b3 => lkX3_comingAt b3 y1) mwX3_comingAt rfl mlX0_117 dX0_addBrought_13 cfX3 ⟨by decide, by decide⟩ 0 0 ⟨rfl, rfl⟩ ⟨by decide, by decide⟩ (Nat.le_of_ble_eq_true rfl) (fun t2 => ?_)
      refine gg_callVv (S := sX0_addBrought) (S' := sX3_addComing) (cs := 0) (sl := 0) (As := [vi t2]) (st := []) 19 rfl (fun b2 => lkX3_addComing b2 t2) mwX3_addComing rfl mlX0_120 dX0_addBrought_16 cfX3 ⟨by decide, by decide⟩ 0 0 ⟨rfl, rfl⟩ ⟨by decide, by decide⟩ (Nat.le_of_ble_eq_true rfl) (fun _ => ?_)
      refine gg_iinc (S := sX0_addBrought) (L' := [(4, vi (y1 + 1)), (0, vr x0), (2, vi x2), (3, vr x3)]) 3 22 rfl dX0_addBrought_19 rfl (by decide) rfl ?_
      refine gg_goto (S := sX0_addBrought) (tgt := 3) dX0_addBrought_22 (by decide) ?_
      exact gg_pure (gg_sub [1, 2, 3, 0] rfl (hr3 (y1 + 1)))
    · exact gg_pure (gg_sub [] rfl (he3 ()))
  · intro _
    exact gg_pure (gg_vret (S := sX0_addBrought) rfl dX0_addBrought_25 (by decide) (by decide))

set_option maxRecDepth 100000 in
set_option maxHeartbeats 4000000 in
theorem lkX3_addGoing (x0 : Nat) (x1 : Int) : LK yX3_addGoing sX3_addGoing [vr (some x0), vi x1] en_v (X3_addGoing x0 x1) := by
  refine lk_go (L := [(0, vr (some x0)), (1, vi x1)]) (by decide +kernel) rfl (fun h => by cases h) (Nat.le_of_ble_eq_true rfl) rfl ?_
  intro K
  unfold X3_addGoing
  refine gg_aload_n (S := sX3_addGoing) 0 1 rfl dX3_addGoing_0 rfl rfl ?_
  refine gg_aload_n (S := sX3_addGoing) 0 2 rfl dX3_addGoing_1 rfl rfl ?_
  refine gg_gr (S := sX3_addGoing) cfX3 (by decide) (fun _ _ => rfl) 5 rfl flX3_21 dX3_addGoing_2 (fun t1 => ?_)
  refine gg_aload_n (S := sX3_addGoing) 0 6 rfl dX3_addGoing_5 rfl rfl ?_
  refine gg_gr (S := sX3_addGoing) cfX3 (by decide) (fun _ _ => rfl) 9 rfl flX3_27 dX3_addGoing_6 (fun t2 => ?_)
  refine gg_iload_n (S := sX3_addGoing) 1 10 rfl dX3_addGoing_9 rfl rfl ?_
  refine gg_callVv (S := sX3_addGoing) (S' := sX3_addLine) (cs := 0) (sl := 0) (As := [vr t1, vr t2, vi x1]) (st := []) 13 rfl (fun b2 => lkX3_addLine b2 t1 t2 x1) mwX3_addLine rfl mlX3_63 dX3_addGoing_10 cfX3 ⟨by decide, by decide⟩ 0 0 ⟨rfl, rfl⟩ ⟨by decide, by decide⟩ (Nat.le_of_ble_eq_true rfl) (fun _ => ?_)
  exact gg_pure (gg_vret (S := sX3_addGoing) rfl dX3_addGoing_13 (by decide) (by decide))

set_option maxRecDepth 100000 in
set_option maxHeartbeats 4000000 in
theorem lkX3_going (x0 : Nat) (x1 : Int) : LK yX3_going sX3_going [vr (some x0), vi x1] en_i (X3_going x0 x1) := by
  refine lk_go (L := [(0, vr (some x0)), (1, vi x1)]) (by decide +kernel) rfl (fun h => by cases h) (Nat.le_of_ble_eq_true rfl) rfl ?_
  intro K
  unfold X3_going
  refine gg_iload_n (S := sX3_going) 1 1 rfl dX3_going_0 rfl rfl ?_
  refine gg_if_lt (S := sX3_going) (tgt := 41) 4 rfl dX3_going_1 (by decide) ?_ ?_
  · refine gg_iconst (S := sX3_going) 42 rfl dX3_going_41 ?_
    exact gg_pure (gg_iret (S := sX3_going) rfl dX3_going_42 (by decide) (by decide))
  · refine gg_iload_n (S := sX3_going) 1 5 rfl dX3_going_4 rfl rfl ?_
    refine gg_aload_n (S := sX3_going) 0 6 rfl dX3_going_5 rfl rfl ?_
    refine gg_gi (S := sX3_going) cfX3 (by decide) (fun _ _ => rfl) 9 rfl flX3_33 dX3_going_6 (fun t1 => ?_)
    refine gg_ic_ge (S := sX3_going) (tgt := 41) 12 rfl dX3_going_9 (by decide) ?_ ?_
    · refine gg_iload_n (S := sX3_going) 1 13 rfl dX3_going_12 rfl rfl ?_
      refine gg_iconst (S := sX3_going) 14 rfl dX3_going_13 ?_
      refine gg_iadd (S := sX3_going) 15 rfl dX3_going_14 ?_
      refine gg_aload_n (S := sX3_going) 0 16 rfl dX3_going_15 rfl rfl ?_
      refine gg_gr (S := sX3_going) cfX3 (by decide) (fun _ _ => rfl) 19 rfl flX3_21 dX3_going_16 (fun t2 => ?_)
      refine gg_alen (S := sX3_going) 20 rfl dX3_going_19 (fun t3 => ?_)
      refine gg_ic_ge (S := sX3_going) (tgt := 41) 23 rfl dX3_going_20 (by decide) ?_ ?_
      · refine gg_aload_n (S := sX3_going) 0 24 rfl dX3_going_23 rfl rfl ?_
        refine gg_gr (S := sX3_going) cfX3 (by decide) (fun _ _ => rfl) 27 rfl flX3_21 dX3_going_24 (fun t4 => ?_)
        refine gg_iload_n (S := sX3_going) 1 28 rfl dX3_going_27 rfl rfl ?_
        refine gg_iconst (S := sX3_going) 29 rfl dX3_going_28 ?_
        refine gg_iadd (S := sX3_going) 30 rfl dX3_going_29 ?_
        refine gg_ld (S := sX3_going) 31 rfl dX3_going_30 (fun t5 => ?_)
        refine gg_aload_n (S := sX3_going) 0 32 rfl dX3_going_31 rfl rfl ?_
        refine gg_gr (S := sX3_going) cfX3 (by decide) (fun _ _ => rfl) 35 rfl flX3_21 dX3_going_32 (fun t6 => ?_)
        refine gg_iload_n (S := sX3_going) 1 36 rfl dX3_going_35 rfl rfl ?_
        refine gg_ld (S := sX3_going) 37 rfl dX3_going_36 (fun t7 => ?_)
        refine gg_isub (S := sX3_going) 38 rfl dX3_going_37 ?_
        refine gg_goto (S := sX3_going) (tgt := 42) dX3_going_38 (by decide) ?_
        exact gg_pure (gg_iret (S := sX3_going) rfl dX3_going_42 (by decide) (by decide))
      · refine gg_iconst (S := sX3_going) 42 rfl dX3_going_41 ?_
        exact gg_pure (gg_iret (S := sX3_going) rfl dX3_going_42 (by decide) (by decide))
    · refine gg_iconst (S := sX3_going) 42 rfl dX3_going_41 ?_
      exact gg_pure (gg_iret (S := sX3_going) rfl dX3_going_42 (by decide) (by decide))

set_option maxRecDepth 100000 in
set_option maxHeartbeats 4000000 in
theorem lkX3_goingLine (x0 : Nat) (x1 : Int) (x2 : Int) : LK yX3_goingLine sX3_goingLine [vr (some x0), vi x1, vi x2] en_i (X3_goingLine x0 x1 x2) := by
  refine lk_go (L := [(0, vr (some x0)), (1, vi x1), (2, vi x2)]) (by decide +kernel) rfl (fun h => by cases h) (Nat.le_of_ble_eq_true rfl) rfl ?_
  intro K
  unfold X3_goingLine
  refine gg_aload_n (S := sX3_goingLine) 0 1 rfl dX3_goingLine_0 rfl rfl ?_
  refine gg_gr (S := sX3_goingLine) cfX3 (by decide) (fun _ _ => rfl) 4 rfl flX3_21 dX3_goingLine_1 (fun t1 => ?_)
  refine gg_iload_n (S := sX3_goingLine) 1 5 rfl dX3_goingLine_4 rfl rfl ?_
  refine gg_callSi (S := sX3_goingLine) (S' := sX3_start) (cs := 0) (sl := 0) (As := [vr t1, vi x1]) (st := []) 8 rfl (lkX3_start t1 x1) mwX3_start rfl mlX3_37 dX3_goingLine_5 ⟨by decide, by decide⟩ 0 0 ⟨rfl, rfl⟩ ⟨by decide, by decide⟩ (Nat.le_of_ble_eq_true rfl) (fun t2 => ?_)
  refine gg_iload_n (S := sX3_goingLine) 2 9 rfl dX3_goingLine_8 rfl rfl ?_
  refine gg_iadd (S := sX3_goingLine) 10 rfl dX3_goingLine_9 ?_
  refine gg_istore_n (S := sX3_goingLine) (L' := [(3, vi (t2 + x2)), (0, vr (some x0)), (1, vi x1), (2, vi x2)]) 11 rfl dX3_goingLine_10 rfl (by decide) rfl ?_
  refine gg_iload_n (S := sX3_goingLine) 3 12 rfl dX3_goingLine_11 rfl rfl ?_
  refine gg_if_lt (S := sX3_goingLine) (tgt := 42) 15 rfl dX3_goingLine_12 (by decide) ?_ ?_
  · refine gg_iconst (S := sX3_goingLine) 43 rfl dX3_goingLine_42 ?_
    exact gg_pure (gg_iret (S := sX3_goingLine) rfl dX3_goingLine_43 (by decide) (by decide))
  · refine gg_iload_n (S := sX3_goingLine) 3 16 rfl dX3_goingLine_15 rfl rfl ?_
    refine gg_aload_n (S := sX3_goingLine) 1 17 rfl dX3_goingLine_16 rfl rfl ?_
    refine gg_iload_n (S := sX3_goingLine) 2 18 rfl dX3_goingLine_17 rfl rfl ?_
    refine gg_callVi (S := sX3_goingLine) (S' := sX3_going) (cs := 0) (sl := 0) (As := [vi x1]) (st := [vi x2]) 21 rfl (fun b7 => lkX3_going b7 x1) mwX3_going rfl mlX3_48 dX3_goingLine_18 cfX3 ⟨by decide, by decide⟩ 0 0 ⟨rfl, rfl⟩ ⟨by decide, by decide⟩ (Nat.le_of_ble_eq_true rfl) (fun t3 => ?_)
    refine gg_ic_ge (S := sX3_goingLine) (tgt := 42) 24 rfl dX3_goingLine_21 (by decide) ?_ ?_
    · refine gg_iload_n (S := sX3_goingLine) 0 25 rfl dX3_goingLine_24 rfl rfl ?_
      refine gg_aload_n (S := sX3_goingLine) 1 26 rfl dX3_goingLine_25 rfl rfl ?_
      refine gg_gr (S := sX3_goingLine) cfX3 (by decide) (fun _ _ => rfl) 29 rfl flX3_27 dX3_goingLine_26 (fun t4 => ?_)
      refine gg_alen (S := sX3_goingLine) 30 rfl dX3_goingLine_29 (fun t5 => ?_)
      refine gg_ic_ge (S := sX3_goingLine) (tgt := 42) 33 rfl dX3_goingLine_30 (by decide) ?_ ?_
      · refine gg_aload_n (S := sX3_goingLine) 1 34 rfl dX3_goingLine_33 rfl rfl ?_
        refine gg_gr (S := sX3_goingLine) cfX3 (by decide) (fun _ _ => rfl) 37 rfl flX3_27 dX3_goingLine_34 (fun t6 => ?_)
        refine gg_iload_n (S := sX3_goingLine) 0 38 rfl dX3_goingLine_37 rfl rfl ?_
        refine gg_ld (S := sX3_goingLine) 39 rfl dX3_goingLine_38 (fun t7 => ?_)
        refine gg_goto (S := sX3_goingLine) (tgt := 43) dX3_goingLine_39 (by decide) ?_
        exact gg_pure (gg_iret (S := sX3_goingLine) rfl dX3_goingLine_43 (by decide) (by decide))
      · refine gg_iconst (S := sX3_goingLine) 43 rfl dX3_goingLine_42 ?_
        exact gg_pure (gg_iret (S := sX3_goingLine) rfl dX3_goingLine_43 (by decide) (by decide))
    · refine gg_iconst (S := sX3_goingLine) 43 rfl dX3_goingLine_42 ?_
      exact gg_pure (gg_iret (S := sX3_goingLine) rfl dX3_goingLine_43 (by decide) (by decide))

set_option maxRecDepth 100000 in
set_option maxHeartbeats 4000000 in
theorem lkX3_goingAt (x0 : Nat) (x1 : Int) : LK yX3_goingAt sX3_goingAt [vr (some x0), vi x1] en_i (X3_goingAt x0 x1) := by
  refine lk_go (L := [(0, vr (some x0)), (1, vi x1)]) (by decide +kernel) rfl (fun h => by cases h) (Nat.le_of_ble_eq_true rfl) rfl ?_
  intro K
  unfold X3_goingAt
  refine gg_iconst (S := sX3_goingAt) 1 rfl dX3_goingAt_0 ?_
  refine gg_istore_n (S := sX3_goingAt) (L' := [(2, vi 0), (0, vr (some x0)), (1, vi x1)]) 2 rfl dX3_goingAt_1 rfl (by decide) rfl ?_
  refine gg_sub [1, 2, 0] rfl ?_
  refine gg_loop (fun y1 => [(0, vr (some x0)), (1, vi x1), (2, vi y1)]) mo_N ?_ 0
  · intro rec2 hr2
    intro y1
    dsimp only [X3_goingAt_L2]
    refine gg_iload_n (S := sX3_goingAt) 2 3 rfl dX3_goingAt_2 rfl rfl ?_
    refine gg_aload_n (S := sX3_goingAt) 0 4 rfl dX3_goingAt_3 rfl rfl ?_
    refine gg_gi (S := sX3_goingAt) cfX3 (by decide) (fun _ _ => rfl) 7 rfl flX3_33 dX3_goingAt_4 (fun t2 => ?_)
    refine gg_ic_ge (S := sX3_goingAt) (tgt := 44) 10 rfl dX3_goingAt_7 (by decide) ?_ ?_
    · refine gg_iload_n (S := sX3_goingAt) 1 11 rfl dX3_goingAt_10 rfl rfl ?_
      refine gg_aload_n (S := sX3_goingAt) 0 12 rfl dX3_goingAt_11 rfl rfl ?_
      refine gg_iload_n (S := sX3_goingAt) 2 13 rfl dX3_goingAt_12 rfl rfl ?_
      refine gg_callVi (S := sX3_goingAt) (S' := sX3_begins) (cs := 0) (sl := 0) (As := [vi y1]) (st := [vi x1]) 16 rfl (fun b7 => lkX3_begins b7 y1) mwX3_begins rfl mlX3_45 dX3_goingAt_13 cfX3 ⟨by decide, by decide⟩ 0 0 ⟨rfl, rfl⟩ ⟨by decide, by decide⟩ (Nat.le_of_ble_eq_true rfl) (fun t3 => ?_)
      refine gg_isub (S := sX3_goingAt) 17 rfl dX3_goingAt_16 ?_
      refine gg_istore_n (S := sX3_goingAt) (L' := [(3, vi (x1 - t3)), (0, vr (some x0)), (1, vi x1), (2, vi y1)]) 18 rfl dX3_goingAt_17 rfl (by decide) rfl ?_
      refine gg_iload_n (S := sX3_goingAt) 0 19 rfl dX3_goingAt_18 rfl rfl ?_
      refine gg_if_lt (S := sX3_goingAt) (tgt := 38) 22 rfl dX3_goingAt_19 (by decide) ?_ ?_
      · refine gg_iinc (S := sX3_goingAt) (L' := [(2, vi (y1 + 1)), (3, vi (x1 - t3)), (0, vr (some x0)), (1, vi x1)]) 3 41 rfl dX3_goingAt_38 rfl (by decide) rfl ?_
        refine gg_goto (S := sX3_goingAt) (tgt := 2) dX3_goingAt_41 (by decide) ?_
        exact gg_pure (gg_sub [2, 3, 0] rfl (hr2 (y1 + 1)))
      · refine gg_iload_n (S := sX3_goingAt) 0 23 rfl dX3_goingAt_22 rfl rfl ?_
        refine gg_aload_n (S := sX3_goingAt) 1 24 rfl dX3_goingAt_23 rfl rfl ?_
        refine gg_iload_n (S := sX3_goingAt) 3 25 rfl dX3_goingAt_24 rfl rfl ?_
        refine gg_callVi (S := sX3_goingAt) (S' := sX3_going) (cs := 0) (sl := 0) (As := [vi y1]) (st := [vi (x1 - t3)]) 28 rfl (fun b6 => lkX3_going b6 y1) mwX3_going rfl mlX3_48 dX3_goingAt_25 cfX3 ⟨by decide, by decide⟩ 0 0 ⟨rfl, rfl⟩ ⟨by decide, by decide⟩ (Nat.le_of_ble_eq_true rfl) (fun t4 => ?_)
        refine gg_ic_ge (S := sX3_goingAt) (tgt := 38) 31 rfl dX3_goingAt_28 (by decide) ?_ ?_
        · refine gg_aload_n (S := sX3_goingAt) 1 32 rfl dX3_goingAt_31 rfl rfl ?_
          refine gg_iload_n (S := sX3_goingAt) 3 33 rfl dX3_goingAt_32 rfl rfl ?_
          refine gg_iload_n (S := sX3_goingAt) 0 34 rfl dX3_goingAt_33 rfl rfl ?_
          refine gg_callVi (S := sX3_goingAt) (S' := sX3_goingLine) (cs := 0) (sl := 0) (As := [vi y1, vi (x1 - t3)]) (st := []) 37 rfl (fun b5 => lkX3_goingLine b5 y1 (x1 - t3)) mwX3_goingLine rfl mlX3_89 dX3_goingAt_34 cfX3 ⟨by decide, by decide⟩ 0 0 ⟨rfl, rfl⟩ ⟨by decide, by decide⟩ (Nat.le_of_ble_eq_true rfl) (fun t5 => ?_)
          exact gg_pure (gg_iret (S := sX3_goingAt) rfl dX3_goingAt_37 (by decide) (by decide))
        · refine gg_iinc (S := sX3_goingAt) (L' := [(2, vi (y1 + 1)), (3, vi (x1 - t3)), (0, vr (some x0)), (1, vi x1)]) 3 41 rfl dX3_goingAt_38 rfl (by decide) rfl ?_
          refine gg_goto (S := sX3_goingAt) (tgt := 2) dX3_goingAt_41 (by decide) ?_
          exact gg_pure (gg_sub [2, 3, 0] rfl (hr2 (y1 + 1)))
    · refine gg_iconst (S := sX3_goingAt) 45 rfl dX3_goingAt_44 ?_
      exact gg_pure (gg_iret (S := sX3_goingAt) rfl dX3_goingAt_45 (by decide) (by decide))

set_option maxRecDepth 100000 in
set_option maxHeartbeats 4000000 in
theorem lkX0_addTaken (x0 : Option Nat) (x1 : Int) (x2 : Int) (x3 : Option Nat) : LK yX0_addTaken sX0_addTaken [vr x0, vi x1, vi x2, vr x3] en_v (X0_addTaken x0 x1 x2 x3) := by
  refine lk_go (L := [(0, vr x0), (1, vi x1), (2, vi x2), (3, vr x3)]) (by decide +kernel) rfl (fun h => by cases h) (Nat.le_of_ble_eq_true rfl) rfl ?_
  intro K
  unfold X0_addTaken
  refine gg_iload_n (S := sX0_addTaken) 1 1 rfl dX0_addTaken_0 rfl rfl ?_
  refine gg_istore (S := sX0_addTaken) (L' := [(4, vi x1), (0, vr x0), (1, vi x1), (2, vi x2), (3, vr x3)]) 3 rfl dX0_addTaken_1 (by decide) rfl ?_
  refine gg_sub [1, 3, 4, 0] rfl ?_
  refine gg_loopA (fun y1 => [(0, vr x0), (2, vi x2), (3, vr x3), (4, vi y1)]) (fun _ => []) 25 mo_N ?_ ?_ x1
  · intro κ3 hr3 he3
    intro y1
    dsimp only [X0_addTaken_L3]
    refine gg_iload (S := sX0_addTaken) 3 5 rfl dX0_addTaken_3 rfl ?_
    refine gg_iload_n (S := sX0_addTaken) 1 6 rfl dX0_addTaken_5 rfl rfl ?_
    refine gg_ic_ge (S := sX0_addTaken) (tgt := 25) 9 rfl dX0_addTaken_6 (by decide) ?_ ?_
    · refine gg_aload_n (S := sX0_addTaken) 2 10 rfl dX0_addTaken_9 rfl rfl ?_
      refine gg_aload_n (S := sX0_addTaken) 0 11 rfl dX0_addTaken_10 rfl rfl ?_
      refine gg_iload (S := sX0_addTaken) 3 13 rfl dX0_addTaken_11 rfl ?_
      refine gg_callVi (S := sX0_addTaken) (S' := sX3_goingAt) (cs := 0) (sl := 0) (As := [vi y1]) (st := [vr x3]) 16 rfl (fun b3 => lkX3_goingAt b3 y1) mwX3_goingAt rfl mlX0_22 dX0_addTaken_13 cfX3 ⟨by decide, by decide⟩ 0 0 ⟨rfl, rfl⟩ ⟨by decide, by decide⟩ (Nat.le_of_ble_eq_true rfl) (fun t2 => ?_)
      refine gg_callVv (S := sX0_addTaken) (S' := sX3_addGoing) (cs := 0) (sl := 0) (As := [vi t2]) (st := []) 19 rfl (fun b2 => lkX3_addGoing b2 t2) mwX3_addGoing rfl mlX0_114 dX0_addTaken_16 cfX3 ⟨by decide, by decide⟩ 0 0 ⟨rfl, rfl⟩ ⟨by decide, by decide⟩ (Nat.le_of_ble_eq_true rfl) (fun _ => ?_)
      refine gg_iinc (S := sX0_addTaken) (L' := [(4, vi (y1 + 1)), (0, vr x0), (2, vi x2), (3, vr x3)]) 3 22 rfl dX0_addTaken_19 rfl (by decide) rfl ?_
      refine gg_goto (S := sX0_addTaken) (tgt := 3) dX0_addTaken_22 (by decide) ?_
      exact gg_pure (gg_sub [1, 2, 3, 0] rfl (hr3 (y1 + 1)))
    · exact gg_pure (gg_sub [] rfl (he3 ()))
  · intro _
    exact gg_pure (gg_vret (S := sX0_addTaken) rfl dX0_addTaken_25 (by decide) (by decide))

set_option maxRecDepth 100000 in
set_option maxHeartbeats 4000000 in
theorem lkX3_hunks (x0 : Nat) : LK yX3_hunks sX3_hunks [vr (some x0)] en_i (X3_hunks x0) := by
  refine lk_go (L := [(0, vr (some x0))]) (by decide +kernel) rfl (fun h => by cases h) (Nat.le_of_ble_eq_true rfl) rfl ?_
  intro K
  unfold X3_hunks
  refine gg_aload_n (S := sX3_hunks) 0 1 rfl dX3_hunks_0 rfl rfl ?_
  refine gg_gi (S := sX3_hunks) cfX3 (by decide) (fun _ _ => rfl) 4 rfl flX3_33 dX3_hunks_1 (fun t1 => ?_)
  exact gg_pure (gg_iret (S := sX3_hunks) rfl dX3_hunks_4 (by decide) (by decide))

set_option maxRecDepth 100000 in
set_option maxHeartbeats 4000000 in
theorem lkX0_agree (x0 : Nat) (x1 : Option Nat) (x2 : Option Nat) : LK yX0_agree sX0_agree [vr (some x0), vr x1, vr x2] en_i (X0_agree x0 x1 x2) := by
  refine lk_go (L := [(0, vr (some x0)), (1, vr x1), (2, vr x2)]) (by decide +kernel) rfl (fun h => by cases h) (Nat.le_of_ble_eq_true rfl) rfl ?_
  intro K
  unfold X0_agree
  refine gg_iconst (S := sX0_agree) 1 rfl dX0_agree_0 ?_
  refine gg_istore_n (S := sX0_agree) (L' := [(3, vi 0), (0, vr (some x0)), (1, vr x1), (2, vr x2)]) 2 rfl dX0_agree_1 rfl (by decide) rfl ?_
  refine gg_sub [2, 3, 0] rfl ?_
  refine gg_loop (fun y1 => [(1, vr x1), (2, vr x2), (3, vi y1)]) mo_N ?_ 0
  · intro rec2 hr2
    intro y1
    dsimp only [X0_agree_L2]
    refine gg_iload_n (S := sX0_agree) 2 3 rfl dX0_agree_2 rfl rfl ?_
    refine gg_aload_n (S := sX0_agree) 0 4 rfl dX0_agree_3 rfl rfl ?_
    refine gg_callVi (S := sX0_agree) (S' := sX3_hunks) (cs := 0) (sl := 0) (As := []) (st := [vi y1]) 7 rfl (fun b11 => lkX3_hunks b11) mwX3_hunks rfl mlX0_9 dX0_agree_4 cfX3 ⟨by decide, by decide⟩ 0 0 ⟨rfl, rfl⟩ ⟨by decide, by decide⟩ (Nat.le_of_ble_eq_true rfl) (fun t2 => ?_)
    refine gg_ic_ge (S := sX0_agree) (tgt := 69) 10 rfl dX0_agree_7 (by decide) ?_ ?_
    · refine gg_iconst (S := sX0_agree) 11 rfl dX0_agree_10 ?_
      refine gg_istore (S := sX0_agree) (L' := [(4, vi 0), (1, vr x1), (2, vr x2), (3, vi y1)]) 13 rfl dX0_agree_11 (by decide) rfl ?_
      refine gg_sub [1, 2, 3, 0] rfl ?_
      refine gg_loop (fun y3 => [(1, vr x1), (2, vr x2), (3, vi y1), (4, vi y3)]) mo_N ?_ 0
      · intro rec13 hr13
        intro y3
        dsimp only [X0_agree_L13]
        refine gg_iload (S := sX0_agree) 3 15 rfl dX0_agree_13 rfl ?_
        refine gg_aload_n (S := sX0_agree) 0 16 rfl dX0_agree_15 rfl rfl ?_
        refine gg_iload_n (S := sX0_agree) 2 17 rfl dX0_agree_16 rfl rfl ?_
        refine gg_callVi (S := sX0_agree) (S' := sX3_coming) (cs := 0) (sl := 0) (As := [vi y1]) (st := [vi y3]) 20 rfl (fun b10 => lkX3_coming b10 y1) mwX3_coming rfl mlX0_15 dX0_agree_17 cfX3 ⟨by decide, by decide⟩ 0 0 ⟨rfl, rfl⟩ ⟨by decide, by decide⟩ (Nat.le_of_ble_eq_true rfl) (fun t4 => ?_)
        refine gg_ic_ge (S := sX0_agree) (tgt := 63) 23 rfl dX0_agree_20 (by decide) ?_ ?_
        · refine gg_aload_n (S := sX0_agree) 1 24 rfl dX0_agree_23 rfl rfl ?_
          refine gg_aload_n (S := sX0_agree) 0 25 rfl dX0_agree_24 rfl rfl ?_
          refine gg_iload_n (S := sX0_agree) 2 26 rfl dX0_agree_25 rfl rfl ?_
          refine gg_callVi (S := sX0_agree) (S' := sX3_beginsBehind) (cs := 0) (sl := 0) (As := [vi y1]) (st := [vr x2]) 29 rfl (fun b9 => lkX3_beginsBehind b9 y1) mwX3_beginsBehind rfl mlX0_19 dX0_agree_26 cfX3 ⟨by decide, by decide⟩ 0 0 ⟨rfl, rfl⟩ ⟨by decide, by decide⟩ (Nat.le_of_ble_eq_true rfl) (fun t5 => ?_)
          refine gg_iload (S := sX0_agree) 3 31 rfl dX0_agree_29 rfl ?_
          refine gg_iadd (S := sX0_agree) 32 rfl dX0_agree_31 ?_
          refine gg_callVi (S := sX0_agree) (S' := sX3_goingAt) (cs := 0) (sl := 0) (As := [vi (t5 + y3)]) (st := []) 35 rfl (fun b8 => lkX3_goingAt b8 (t5 + y3)) mwX3_goingAt rfl mlX0_22 dX0_agree_32 cfX3 ⟨by decide, by decide⟩ 0 0 ⟨rfl, rfl⟩ ⟨by decide, by decide⟩ (Nat.le_of_ble_eq_true rfl) (fun t6 => ?_)
          refine gg_istore (S := sX0_agree) (L' := [(5, vi t6), (1, vr x1), (2, vr x2), (3, vi y1), (4, vi y3)]) 37 rfl dX0_agree_35 (by decide) rfl ?_
          refine gg_iload (S := sX0_agree) 0 39 rfl dX0_agree_37 rfl ?_
          refine gg_iconst (S := sX0_agree) 40 rfl dX0_agree_39 ?_
          refine gg_ic_eq (S := sX0_agree) (tgt := 57) 43 rfl dX0_agree_40 (by decide) ?_ ?_
          · refine gg_iinc (S := sX0_agree) (L' := [(4, vi (y3 + 1)), (5, vi t6), (1, vr x1), (2, vr x2), (3, vi y1)]) 4 60 rfl dX0_agree_57 rfl (by decide) rfl ?_
            refine gg_goto (S := sX0_agree) (tgt := 13) dX0_agree_60 (by decide) ?_
            exact gg_pure (gg_sub [2, 3, 4, 0] rfl (hr13 (y3 + 1)))
          · refine gg_iload (S := sX0_agree) 0 45 rfl dX0_agree_43 rfl ?_
            refine gg_aload_n (S := sX0_agree) 1 46 rfl dX0_agree_45 rfl rfl ?_
            refine gg_iload_n (S := sX0_agree) 3 47 rfl dX0_agree_46 rfl rfl ?_
            refine gg_iload (S := sX0_agree) 4 49 rfl dX0_agree_47 rfl ?_
            refine gg_callVi (S := sX0_agree) (S' := sX3_comingLine) (cs := 0) (sl := 0) (As := [vi y1, vi y3]) (st := [vi t6]) 52 rfl (fun b7 => lkX3_comingLine b7 y1 y3) mwX3_comingLine rfl mlX0_25 dX0_agree_49 cfX3 ⟨by decide, by decide⟩ 0 0 ⟨rfl, rfl⟩ ⟨by decide, by decide⟩ (Nat.le_of_ble_eq_true rfl) (fun t7 => ?_)
            refine gg_ic_eq (S := sX0_agree) (tgt := 57) 55 rfl dX0_agree_52 (by decide) ?_ ?_
            · refine gg_iinc (S := sX0_agree) (L' := [(4, vi (y3 + 1)), (5, vi t6), (1, vr x1), (2, vr x2), (3, vi y1)]) 4 60 rfl dX0_agree_57 rfl (by decide) rfl ?_
              refine gg_goto (S := sX0_agree) (tgt := 13) dX0_agree_60 (by decide) ?_
              exact gg_pure (gg_sub [2, 3, 4, 0] rfl (hr13 (y3 + 1)))
            · refine gg_iconst (S := sX0_agree) 56 rfl dX0_agree_55 ?_
              exact gg_pure (gg_zretc (S := sX0_agree) (by decide) rfl dX0_agree_56 (by decide) (by decide))
        · refine gg_iinc (S := sX0_agree) (L' := [(3, vi (y1 + 1)), (1, vr x1), (2, vr x2), (4, vi y3)]) 2 66 rfl dX0_agree_63 rfl (by decide) rfl ?_
          refine gg_goto (S := sX0_agree) (tgt := 2) dX0_agree_66 (by decide) ?_
          exact gg_pure (gg_sub [1, 2, 0] rfl (hr2 (y1 + 1)))
    · refine gg_iconst (S := sX0_agree) 70 rfl dX0_agree_69 ?_
      exact gg_pure (gg_zretc (S := sX0_agree) (by decide) rfl dX0_agree_70 (by decide) (by decide))

set_option maxRecDepth 100000 in
set_option maxHeartbeats 4000000 in
theorem lkX3_endsBehind (x0 : Nat) (x1 : Int) : LK yX3_endsBehind sX3_endsBehind [vr (some x0), vi x1] en_i (X3_endsBehind x0 x1) := by
  refine lk_go (L := [(0, vr (some x0)), (1, vi x1)]) (by decide +kernel) rfl (fun h => by cases h) (Nat.le_of_ble_eq_true rfl) rfl ?_
  intro K
  unfold X3_endsBehind
  refine gg_aload_n (S := sX3_endsBehind) 0 1 rfl dX3_endsBehind_0 rfl rfl ?_
  refine gg_iload_n (S := sX3_endsBehind) 1 2 rfl dX3_endsBehind_1 rfl rfl ?_
  refine gg_callVi (S := sX3_endsBehind) (S' := sX3_beginsBehind) (cs := 0) (sl := 0) (As := [vi x1]) (st := []) 5 rfl (fun b3 => lkX3_beginsBehind b3 x1) mwX3_beginsBehind rfl mlX3_57 dX3_endsBehind_2 cfX3 ⟨by decide, by decide⟩ 0 0 ⟨rfl, rfl⟩ ⟨by decide, by decide⟩ (Nat.le_of_ble_eq_true rfl) (fun t1 => ?_)
  refine gg_aload_n (S := sX3_endsBehind) 0 6 rfl dX3_endsBehind_5 rfl rfl ?_
  refine gg_iload_n (S := sX3_endsBehind) 1 7 rfl dX3_endsBehind_6 rfl rfl ?_
  refine gg_callVi (S := sX3_endsBehind) (S' := sX3_coming) (cs := 0) (sl := 0) (As := [vi x1]) (st := [vi t1]) 10 rfl (fun b2 => lkX3_coming b2 x1) mwX3_coming rfl mlX3_51 dX3_endsBehind_7 cfX3 ⟨by decide, by decide⟩ 0 0 ⟨rfl, rfl⟩ ⟨by decide, by decide⟩ (Nat.le_of_ble_eq_true rfl) (fun t2 => ?_)
  refine gg_iadd (S := sX3_endsBehind) 11 rfl dX3_endsBehind_10 ?_
  exact gg_pure (gg_iret (S := sX3_endsBehind) rfl dX3_endsBehind_11 (by decide) (by decide))

set_option maxRecDepth 100000 in
set_option maxHeartbeats 4000000 in
theorem lkX3_ends (x0 : Nat) (x1 : Int) : LK yX3_ends sX3_ends [vr (some x0), vi x1] en_i (X3_ends x0 x1) := by
  refine lk_go (L := [(0, vr (some x0)), (1, vi x1)]) (by decide +kernel) rfl (fun h => by cases h) (Nat.le_of_ble_eq_true rfl) rfl ?_
  intro K
  unfold X3_ends
  refine gg_aload_n (S := sX3_ends) 0 1 rfl dX3_ends_0 rfl rfl ?_
  refine gg_iload_n (S := sX3_ends) 1 2 rfl dX3_ends_1 rfl rfl ?_
  refine gg_callVi (S := sX3_ends) (S' := sX3_begins) (cs := 0) (sl := 0) (As := [vi x1]) (st := []) 5 rfl (fun b3 => lkX3_begins b3 x1) mwX3_begins rfl mlX3_45 dX3_ends_2 cfX3 ⟨by decide, by decide⟩ 0 0 ⟨rfl, rfl⟩ ⟨by decide, by decide⟩ (Nat.le_of_ble_eq_true rfl) (fun t1 => ?_)
  refine gg_aload_n (S := sX3_ends) 0 6 rfl dX3_ends_5 rfl rfl ?_
  refine gg_iload_n (S := sX3_ends) 1 7 rfl dX3_ends_6 rfl rfl ?_
  refine gg_callVi (S := sX3_ends) (S' := sX3_going) (cs := 0) (sl := 0) (As := [vi x1]) (st := [vi t1]) 10 rfl (fun b2 => lkX3_going b2 x1) mwX3_going rfl mlX3_48 dX3_ends_7 cfX3 ⟨by decide, by decide⟩ 0 0 ⟨rfl, rfl⟩ ⟨by decide, by decide⟩ (Nat.le_of_ble_eq_true rfl) (fun t2 => ?_)
  refine gg_iadd (S := sX3_ends) 11 rfl dX3_ends_10 ?_
  exact gg_pure (gg_iret (S := sX3_ends) rfl dX3_ends_11 (by decide) (by decide))

set_option maxRecDepth 100000 in
set_option maxHeartbeats 4000000 in
theorem lkX3_touches (x0 : Nat) (x1 : Int) (x2 : Int) : LK yX3_touches sX3_touches [vr (some x0), vi x1, vi x2] en_i (X3_touches x0 x1 x2) := by
  refine lk_go (L := [(0, vr (some x0)), (1, vi x1), (2, vi x2)]) (by decide +kernel) rfl (fun h => by cases h) (Nat.le_of_ble_eq_true rfl) rfl ?_
  intro K
  unfold X3_touches
  refine gg_iconst (S := sX3_touches) 1 rfl dX3_touches_0 ?_
  refine gg_istore_n (S := sX3_touches) (L' := [(3, vi 0), (0, vr (some x0)), (1, vi x1), (2, vi x2)]) 2 rfl dX3_touches_1 rfl (by decide) rfl ?_
  refine gg_sub [1, 2, 3, 0] rfl ?_
  refine gg_loop (fun y1 => [(0, vr (some x0)), (1, vi x1), (2, vi x2), (3, vi y1)]) mo_N ?_ 0
  · intro rec2 hr2
    intro y1
    dsimp only [X3_touches_L2]
    refine gg_iload_n (S := sX3_touches) 3 3 rfl dX3_touches_2 rfl rfl ?_
    refine gg_aload_n (S := sX3_touches) 0 4 rfl dX3_touches_3 rfl rfl ?_
    refine gg_gi (S := sX3_touches) cfX3 (by decide) (fun _ _ => rfl) 7 rfl flX3_33 dX3_touches_4 (fun t2 => ?_)
    refine gg_ic_ge (S := sX3_touches) (tgt := 36) 10 rfl dX3_touches_7 (by decide) ?_ ?_
    · refine gg_aload_n (S := sX3_touches) 0 11 rfl dX3_touches_10 rfl rfl ?_
      refine gg_iload_n (S := sX3_touches) 3 12 rfl dX3_touches_11 rfl rfl ?_
      refine gg_callVi (S := sX3_touches) (S' := sX3_begins) (cs := 0) (sl := 0) (As := [vi y1]) (st := []) 15 rfl (fun b5 => lkX3_begins b5 y1) mwX3_begins rfl mlX3_45 dX3_touches_12 cfX3 ⟨by decide, by decide⟩ 0 0 ⟨rfl, rfl⟩ ⟨by decide, by decide⟩ (Nat.le_of_ble_eq_true rfl) (fun t3 => ?_)
      refine gg_iload_n (S := sX3_touches) 2 16 rfl dX3_touches_15 rfl rfl ?_
      refine gg_ic_gt (S := sX3_touches) (tgt := 30) 19 rfl dX3_touches_16 (by decide) ?_ ?_
      · refine gg_iload_n (S := sX3_touches) 1 20 rfl dX3_touches_19 rfl rfl ?_
        refine gg_aload_n (S := sX3_touches) 0 21 rfl dX3_touches_20 rfl rfl ?_
        refine gg_iload_n (S := sX3_touches) 3 22 rfl dX3_touches_21 rfl rfl ?_
        refine gg_callVi (S := sX3_touches) (S' := sX3_ends) (cs := 0) (sl := 0) (As := [vi y1]) (st := [vi x1]) 25 rfl (fun b4 => lkX3_ends b4 y1) mwX3_ends rfl mlX3_60 dX3_touches_22 cfX3 ⟨by decide, by decide⟩ 0 0 ⟨rfl, rfl⟩ ⟨by decide, by decide⟩ (Nat.le_of_ble_eq_true rfl) (fun t4 => ?_)
        refine gg_ic_gt (S := sX3_touches) (tgt := 30) 28 rfl dX3_touches_25 (by decide) ?_ ?_
        · refine gg_iconst (S := sX3_touches) 29 rfl dX3_touches_28 ?_
          exact gg_pure (gg_zretc (S := sX3_touches) (by decide) rfl dX3_touches_29 (by decide) (by decide))
        · refine gg_iinc (S := sX3_touches) (L' := [(3, vi (y1 + 1)), (0, vr (some x0)), (1, vi x1), (2, vi x2)]) 3 33 rfl dX3_touches_30 rfl (by decide) rfl ?_
          refine gg_goto (S := sX3_touches) (tgt := 2) dX3_touches_33 (by decide) ?_
          exact gg_pure (gg_sub [1, 2, 3, 0] rfl (hr2 (y1 + 1)))
      · refine gg_iinc (S := sX3_touches) (L' := [(3, vi (y1 + 1)), (0, vr (some x0)), (1, vi x1), (2, vi x2)]) 3 33 rfl dX3_touches_30 rfl (by decide) rfl ?_
        refine gg_goto (S := sX3_touches) (tgt := 2) dX3_touches_33 (by decide) ?_
        exact gg_pure (gg_sub [1, 2, 3, 0] rfl (hr2 (y1 + 1)))
    · refine gg_iconst (S := sX3_touches) 37 rfl dX3_touches_36 ?_
      exact gg_pure (gg_zretc (S := sX3_touches) (by decide) rfl dX3_touches_37 (by decide) (by decide))

set_option maxRecDepth 100000 in
set_option maxHeartbeats 4000000 in
theorem lkX0_anyTouch (x0 : Nat) (x1 : Option Nat) (x2 : Option Nat) : LK yX0_anyTouch sX0_anyTouch [vr (some x0), vr x1, vr x2] en_i (X0_anyTouch x0 x1 x2) := by
  refine lk_go (L := [(0, vr (some x0)), (1, vr x1), (2, vr x2)]) (by decide +kernel) rfl (fun h => by cases h) (Nat.le_of_ble_eq_true rfl) rfl ?_
  intro K
  unfold X0_anyTouch
  refine gg_iconst (S := sX0_anyTouch) 1 rfl dX0_anyTouch_0 ?_
  refine gg_istore_n (S := sX0_anyTouch) (L' := [(3, vi 0), (0, vr (some x0)), (1, vr x1), (2, vr x2)]) 2 rfl dX0_anyTouch_1 rfl (by decide) rfl ?_
  refine gg_sub [2, 3, 0] rfl ?_
  refine gg_loop (fun y1 => [(1, vr x1), (2, vr x2), (3, vi y1)]) mo_N ?_ 0
  · intro rec2 hr2
    intro y1
    dsimp only [X0_anyTouch_L2]
    refine gg_iload_n (S := sX0_anyTouch) 2 3 rfl dX0_anyTouch_2 rfl rfl ?_
    refine gg_aload_n (S := sX0_anyTouch) 0 4 rfl dX0_anyTouch_3 rfl rfl ?_
    refine gg_callVi (S := sX0_anyTouch) (S' := sX3_hunks) (cs := 0) (sl := 0) (As := []) (st := [vi y1]) 7 rfl (fun b8 => lkX3_hunks b8) mwX3_hunks rfl mlX0_9 dX0_anyTouch_4 cfX3 ⟨by decide, by decide⟩ 0 0 ⟨rfl, rfl⟩ ⟨by decide, by decide⟩ (Nat.le_of_ble_eq_true rfl) (fun t2 => ?_)
    refine gg_ic_ge (S := sX0_anyTouch) (tgt := 35) 10 rfl dX0_anyTouch_7 (by decide) ?_ ?_
    · refine gg_aload_n (S := sX0_anyTouch) 1 11 rfl dX0_anyTouch_10 rfl rfl ?_
      refine gg_aload_n (S := sX0_anyTouch) 0 12 rfl dX0_anyTouch_11 rfl rfl ?_
      refine gg_iload_n (S := sX0_anyTouch) 2 13 rfl dX0_anyTouch_12 rfl rfl ?_
      refine gg_callVi (S := sX0_anyTouch) (S' := sX3_beginsBehind) (cs := 0) (sl := 0) (As := [vi y1]) (st := [vr x2]) 16 rfl (fun b7 => lkX3_beginsBehind b7 y1) mwX3_beginsBehind rfl mlX0_19 dX0_anyTouch_13 cfX3 ⟨by decide, by decide⟩ 0 0 ⟨rfl, rfl⟩ ⟨by decide, by decide⟩ (Nat.le_of_ble_eq_true rfl) (fun t3 => ?_)
      refine gg_aload_n (S := sX0_anyTouch) 0 17 rfl dX0_anyTouch_16 rfl rfl ?_
      refine gg_iload_n (S := sX0_anyTouch) 2 18 rfl dX0_anyTouch_17 rfl rfl ?_
      refine gg_callVi (S := sX0_anyTouch) (S' := sX3_endsBehind) (cs := 0) (sl := 0) (As := [vi y1]) (st := [vi t3, vr x2]) 21 rfl (fun b6 => lkX3_endsBehind b6 y1) mwX3_endsBehind rfl mlX0_29 dX0_anyTouch_18 cfX3 ⟨by decide, by decide⟩ 0 0 ⟨rfl, rfl⟩ ⟨by decide, by decide⟩ (Nat.le_of_ble_eq_true rfl) (fun t4 => ?_)
      refine gg_callVi (S := sX0_anyTouch) (S' := sX3_touches) (cs := 0) (sl := 0) (As := [vi t3, vi t4]) (st := []) 24 rfl (fun b5 => lkX3_touches b5 t3 t4) mwX3_touches rfl mlX0_32 dX0_anyTouch_21 cfX3 ⟨by decide, by decide⟩ 0 0 ⟨rfl, rfl⟩ ⟨by decide, by decide⟩ (Nat.le_of_ble_eq_true rfl) (fun t5 => ?_)
      refine gg_if_eq (S := sX0_anyTouch) (tgt := 29) 27 rfl dX0_anyTouch_24 (by decide) ?_ ?_
      · refine gg_iinc (S := sX0_anyTouch) (L' := [(3, vi (y1 + 1)), (1, vr x1), (2, vr x2)]) 2 32 rfl dX0_anyTouch_29 rfl (by decide) rfl ?_
        refine gg_goto (S := sX0_anyTouch) (tgt := 2) dX0_anyTouch_32 (by decide) ?_
        exact gg_pure (gg_sub [1, 2, 0] rfl (hr2 (y1 + 1)))
      · refine gg_iconst (S := sX0_anyTouch) 28 rfl dX0_anyTouch_27 ?_
        exact gg_pure (gg_zretc (S := sX0_anyTouch) (by decide) rfl dX0_anyTouch_28 (by decide) (by decide))
    · refine gg_iconst (S := sX0_anyTouch) 36 rfl dX0_anyTouch_35 ?_
      exact gg_pure (gg_zretc (S := sX0_anyTouch) (by decide) rfl dX0_anyTouch_36 (by decide) (by decide))

set_option maxRecDepth 100000 in
set_option maxHeartbeats 4000000 in
theorem lkX0_gather (x0 : Nat) (x1 : Option Nat) (x2 : Option Nat) : LK yX0_gather sX0_gather [vr (some x0), vr x1, vr x2] en_v (X0_gather x0 x1 x2) := by
  refine lk_go (L := [(0, vr (some x0)), (1, vr x1), (2, vr x2)]) (by decide +kernel) rfl (fun h => by cases h) (Nat.le_of_ble_eq_true rfl) rfl ?_
  intro K
  unfold X0_gather
  refine gg_aload_n (S := sX0_gather) 0 1 rfl dX0_gather_0 rfl rfl ?_
  refine gg_aload_n (S := sX0_gather) 0 2 rfl dX0_gather_1 rfl rfl ?_
  refine gg_gi (S := sX0_gather) cfX0 (by decide) (fun _ _ => rfl) 5 rfl flX0_39 dX0_gather_2 (fun t1 => ?_)
  refine gg_si (S := sX0_gather) cfX0 (by decide) rfl (fun _ _ => rfl) rfl 8 rfl flX0_55 dX0_gather_5 ?_
  refine gg_aload_n (S := sX0_gather) 0 9 rfl dX0_gather_8 rfl rfl ?_
  refine gg_aload_n (S := sX0_gather) 0 10 rfl dX0_gather_9 rfl rfl ?_
  refine gg_gi (S := sX0_gather) cfX0 (by decide) (fun _ _ => rfl) 13 rfl flX0_45 dX0_gather_10 (fun t2 => ?_)
  refine gg_si (S := sX0_gather) cfX0 (by decide) rfl (fun _ _ => rfl) rfl 16 rfl flX0_86 dX0_gather_13 ?_
  refine gg_aload_n (S := sX0_gather) 0 17 rfl dX0_gather_16 rfl rfl ?_
  refine gg_gi (S := sX0_gather) cfX0 (by decide) (fun _ _ => rfl) 20 rfl flX0_55 dX0_gather_17 (fun t3 => ?_)
  refine gg_aload_n (S := sX0_gather) 1 21 rfl dX0_gather_20 rfl rfl ?_
  refine gg_callVi (S := sX0_gather) (S' := sX3_hunks) (cs := 0) (sl := 0) (As := []) (st := [vi t3]) 24 rfl (fun b48 => lkX3_hunks b48) mwX3_hunks rfl mlX0_9 dX0_gather_21 cfX3 ⟨by decide, by decide⟩ 0 0 ⟨rfl, rfl⟩ ⟨by decide, by decide⟩ (Nat.le_of_ble_eq_true rfl) (fun t4 => ?_)
  refine gg_join (fun t5 => [(0, vr (some x0)), (1, vr x1), (2, vr x2)]) (fun t5 => [vi t5]) 32 0 0 (fun κ24 hJ24 => ?_) ?_
  · refine gg_ic_ge (S := sX0_gather) (tgt := 31) 27 rfl dX0_gather_24 (by decide) ?_ ?_
    · refine gg_iconst (S := sX0_gather) 28 rfl dX0_gather_27 ?_
      refine gg_goto (S := sX0_gather) (tgt := 32) dX0_gather_28 (by decide) ?_
      exact gg_pure (gg_sub [0, 1, 2] rfl (hJ24 1))
    · refine gg_iconst (S := sX0_gather) 32 rfl dX0_gather_31 ?_
      exact gg_pure (gg_sub [0, 1, 2] rfl (hJ24 0))
  · intro t5
    refine gg_istore_n (S := sX0_gather) (L' := [(3, vi t5), (0, vr (some x0)), (1, vr x1), (2, vr x2)]) 33 rfl dX0_gather_32 rfl (by decide) rfl ?_
    refine gg_aload_n (S := sX0_gather) 1 34 rfl dX0_gather_33 rfl rfl ?_
    refine gg_gi (S := sX0_gather) cfX0 (by decide) (fun _ _ => rfl) 37 rfl flX0_86 dX0_gather_34 (fun t6 => ?_)
    refine gg_aload_n (S := sX0_gather) 3 38 rfl dX0_gather_37 rfl rfl ?_
    refine gg_callVi (S := sX0_gather) (S' := sX3_hunks) (cs := 0) (sl := 0) (As := []) (st := [vi t6]) 41 rfl (fun b47 => lkX3_hunks b47) mwX3_hunks rfl mlX0_9 dX0_gather_38 cfX3 ⟨by decide, by decide⟩ 0 0 ⟨rfl, rfl⟩ ⟨by decide, by decide⟩ (Nat.le_of_ble_eq_true rfl) (fun t7 => ?_)
    refine gg_join (fun t8 => [(0, vr (some x0)), (1, vr x1), (2, vr x2), (3, vi t5)]) (fun t8 => [vi t8]) 49 0 0 (fun κ41 hJ41 => ?_) ?_
    · refine gg_ic_ge (S := sX0_gather) (tgt := 48) 44 rfl dX0_gather_41 (by decide) ?_ ?_
      · refine gg_iconst (S := sX0_gather) 45 rfl dX0_gather_44 ?_
        refine gg_goto (S := sX0_gather) (tgt := 49) dX0_gather_45 (by decide) ?_
        exact gg_pure (gg_sub [1, 2, 3, 0] rfl (hJ41 1))
      · refine gg_iconst (S := sX0_gather) 49 rfl dX0_gather_48 ?_
        exact gg_pure (gg_sub [1, 2, 3, 0] rfl (hJ41 0))
    · intro t8
      refine gg_istore (S := sX0_gather) (L' := [(4, vi t8), (0, vr (some x0)), (1, vr x1), (2, vr x2), (3, vi t5)]) 51 rfl dX0_gather_49 (by decide) rfl ?_
      refine gg_aload_n (S := sX0_gather) 2 52 rfl dX0_gather_51 rfl rfl ?_
      refine gg_aload_n (S := sX0_gather) 1 53 rfl dX0_gather_52 rfl rfl ?_
      refine gg_gi (S := sX0_gather) cfX0 (by decide) (fun _ _ => rfl) 56 rfl flX0_55 dX0_gather_53 (fun t9 => ?_)
      refine gg_callVi (S := sX0_gather) (S' := sX3_beginsBehind) (cs := 0) (sl := 0) (As := [vi t9]) (st := []) 59 rfl (fun b46 => lkX3_beginsBehind b46 t9) mwX3_beginsBehind rfl mlX0_19 dX0_gather_56 cfX3 ⟨by decide, by decide⟩ 0 0 ⟨rfl, rfl⟩ ⟨by decide, by decide⟩ (Nat.le_of_ble_eq_true rfl) (fun t10 => ?_)
      refine gg_istore (S := sX0_gather) (L' := [(5, vi t10), (4, vi t8), (0, vr (some x0)), (1, vr x1), (2, vr x2), (3, vi t5)]) 61 rfl dX0_gather_59 (by decide) rfl ?_
      refine gg_aload_n (S := sX0_gather) 4 62 rfl dX0_gather_61 rfl rfl ?_
      refine gg_aload_n (S := sX0_gather) 2 63 rfl dX0_gather_62 rfl rfl ?_
      refine gg_gi (S := sX0_gather) cfX0 (by decide) (fun _ _ => rfl) 66 rfl flX0_86 dX0_gather_63 (fun t11 => ?_)
      refine gg_callVi (S := sX0_gather) (S' := sX3_begins) (cs := 0) (sl := 0) (As := [vi t11]) (st := []) 69 rfl (fun b45 => lkX3_begins b45 t11) mwX3_begins rfl mlX0_79 dX0_gather_66 cfX3 ⟨by decide, by decide⟩ 0 0 ⟨rfl, rfl⟩ ⟨by decide, by decide⟩ (Nat.le_of_ble_eq_true rfl) (fun t12 => ?_)
      refine gg_istore (S := sX0_gather) (L' := [(6, vi t12), (5, vi t10), (4, vi t8), (0, vr (some x0)), (1, vr x1), (2, vr x2), (3, vi t5)]) 71 rfl dX0_gather_69 (by decide) rfl ?_
      refine gg_aload_n (S := sX0_gather) 3 72 rfl dX0_gather_71 rfl rfl ?_
      refine gg_iload_n (S := sX0_gather) 6 73 rfl dX0_gather_72 rfl rfl ?_
      refine gg_join (fun t13 => [(0, vr (some x0)), (1, vr x1), (2, vr x2)]) (fun t13 => [vi t13, vr (some x0)]) 95 0 0 (fun κ73 hJ73 => ?_) ?_
      · refine gg_if_eq (S := sX0_gather) (tgt := 93) 76 rfl dX0_gather_73 (by decide) ?_ ?_
        · refine gg_iload (S := sX0_gather) 0 95 rfl dX0_gather_93 rfl ?_
          exact gg_pure (gg_sub [3, 4, 5] rfl (hJ73 t12))
        · refine gg_iload (S := sX0_gather) 2 78 rfl dX0_gather_76 rfl ?_
          refine gg_if_eq (S := sX0_gather) (tgt := 88) 81 rfl dX0_gather_78 (by decide) ?_ ?_
          · refine gg_iload (S := sX0_gather) 1 90 rfl dX0_gather_88 rfl ?_
            refine gg_goto (S := sX0_gather) (tgt := 95) dX0_gather_90 (by decide) ?_
            exact gg_pure (gg_sub [3, 4, 5] rfl (hJ73 t10))
          · refine gg_iload (S := sX0_gather) 1 83 rfl dX0_gather_81 rfl ?_
            refine gg_iload (S := sX0_gather) 0 85 rfl dX0_gather_83 rfl ?_
            refine gg_ic_gt (S := sX0_gather) (tgt := 93) 88 rfl dX0_gather_85 (by decide) ?_ ?_
            · refine gg_iload (S := sX0_gather) 1 90 rfl dX0_gather_88 rfl ?_
              refine gg_goto (S := sX0_gather) (tgt := 95) dX0_gather_90 (by decide) ?_
              exact gg_pure (gg_sub [3, 4, 5] rfl (hJ73 t10))
            · refine gg_iload (S := sX0_gather) 0 95 rfl dX0_gather_93 rfl ?_
              exact gg_pure (gg_sub [3, 4, 5] rfl (hJ73 t12))
      · intro t13
        refine gg_si (S := sX0_gather) cfX0 (by decide) rfl (fun _ _ => rfl) rfl 98 rfl flX0_52 dX0_gather_95 ?_
        refine gg_aload_n (S := sX0_gather) 0 99 rfl dX0_gather_98 rfl rfl ?_
        refine gg_aload_n (S := sX0_gather) 0 100 rfl dX0_gather_99 rfl rfl ?_
        refine gg_gi (S := sX0_gather) cfX0 (by decide) (fun _ _ => rfl) 103 rfl flX0_52 dX0_gather_100 (fun t14 => ?_)
        refine gg_si (S := sX0_gather) cfX0 (by decide) rfl (fun _ _ => rfl) rfl 106 rfl flX0_89 dX0_gather_103 ?_
        refine gg_iconst (S := sX0_gather) 107 rfl dX0_gather_106 ?_
        refine gg_istore (S := sX0_gather) (L' := [(7, vi 0), (0, vr (some x0)), (1, vr x1), (2, vr x2)]) 109 rfl dX0_gather_107 (by decide) rfl ?_
        refine gg_sub [1, 2, 3, 0] rfl ?_
        refine gg_loopA (fun y15 => [(0, vr (some x0)), (1, vr x1), (2, vr x2), (7, vi y15)]) (fun _ => []) 242 mo_N ?_ ?_ 0
        · intro κ109 hr109 he109
          intro y15
          dsimp only [X0_gather_L109]
          refine gg_iload (S := sX0_gather) 3 111 rfl dX0_gather_109 rfl ?_
          refine gg_aload_n (S := sX0_gather) 1 112 rfl dX0_gather_111 rfl rfl ?_
          refine gg_callVi (S := sX0_gather) (S' := sX3_hunks) (cs := 0) (sl := 0) (As := []) (st := [vi y15]) 115 rfl (fun b44 => lkX3_hunks b44) mwX3_hunks rfl mlX0_9 dX0_gather_112 cfX3 ⟨by decide, by decide⟩ 0 0 ⟨rfl, rfl⟩ ⟨by decide, by decide⟩ (Nat.le_of_ble_eq_true rfl) (fun t16 => ?_)
          refine gg_aload_n (S := sX0_gather) 2 116 rfl dX0_gather_115 rfl rfl ?_
          refine gg_callVi (S := sX0_gather) (S' := sX3_hunks) (cs := 0) (sl := 0) (As := []) (st := [vi t16, vi y15]) 119 rfl (fun b43 => lkX3_hunks b43) mwX3_hunks rfl mlX0_9 dX0_gather_116 cfX3 ⟨by decide, by decide⟩ 0 0 ⟨rfl, rfl⟩ ⟨by decide, by decide⟩ (Nat.le_of_ble_eq_true rfl) (fun t17 => ?_)
          refine gg_iadd (S := sX0_gather) 120 rfl dX0_gather_119 ?_
          refine gg_ic_ge (S := sX0_gather) (tgt := 242) 123 rfl dX0_gather_120 (by decide) ?_ ?_
          · refine gg_aload_n (S := sX0_gather) 0 124 rfl dX0_gather_123 rfl rfl ?_
            refine gg_gi (S := sX0_gather) cfX0 (by decide) (fun _ _ => rfl) 127 rfl flX0_39 dX0_gather_124 (fun t18 => ?_)
            refine gg_aload_n (S := sX0_gather) 1 128 rfl dX0_gather_127 rfl rfl ?_
            refine gg_callVi (S := sX0_gather) (S' := sX3_hunks) (cs := 0) (sl := 0) (As := []) (st := [vi t18]) 131 rfl (fun b42 => lkX3_hunks b42) mwX3_hunks rfl mlX0_9 dX0_gather_128 cfX3 ⟨by decide, by decide⟩ 0 0 ⟨rfl, rfl⟩ ⟨by decide, by decide⟩ (Nat.le_of_ble_eq_true rfl) (fun t19 => ?_)
            refine gg_join (fun _ => [(0, vr (some x0)), (1, vr x1), (2, vr x2), (7, vi y15)]) (fun _ => []) 236 0 0 (fun κ131 hJ131 => ?_) ?_
            · refine gg_cond [(0, vr (some x0)), (1, vr x1), (2, vr x2), (7, vi y15)] [(0, vr (some x0)), (1, vr x1), (2, vr x2), (7, vi y15)] [] 149 181 0 0 (fun κ131 hT131 hF131 => ?_) ?_ ?_
              · refine gg_ic_ge (S := sX0_gather) (tgt := 181) 134 rfl dX0_gather_131 (by decide) ?_ ?_
                · refine gg_aload_n (S := sX0_gather) 1 135 rfl dX0_gather_134 rfl rfl ?_
                  refine gg_aload_n (S := sX0_gather) 0 136 rfl dX0_gather_135 rfl rfl ?_
                  refine gg_gi (S := sX0_gather) cfX0 (by decide) (fun _ _ => rfl) 139 rfl flX0_39 dX0_gather_136 (fun t20 => ?_)
                  refine gg_callVi (S := sX0_gather) (S' := sX3_beginsBehind) (cs := 0) (sl := 0) (As := [vi t20]) (st := []) 142 rfl (fun b22 => lkX3_beginsBehind b22 t20) mwX3_beginsBehind rfl mlX0_19 dX0_gather_139 cfX3 ⟨by decide, by decide⟩ 0 0 ⟨rfl, rfl⟩ ⟨by decide, by decide⟩ (Nat.le_of_ble_eq_true rfl) (fun t21 => ?_)
                  refine gg_aload_n (S := sX0_gather) 0 143 rfl dX0_gather_142 rfl rfl ?_
                  refine gg_gi (S := sX0_gather) cfX0 (by decide) (fun _ _ => rfl) 146 rfl flX0_89 dX0_gather_143 (fun t22 => ?_)
                  refine gg_ic_gt (S := sX0_gather) (tgt := 181) 149 rfl dX0_gather_146 (by decide) ?_ ?_
                  · exact gg_pure (gg_sub [0, 1, 2, 3] rfl hT131)
                  · exact gg_pure (gg_sub [0, 1, 2, 3] rfl hF131)
                · exact gg_pure (gg_sub [0, 1, 2, 3] rfl hF131)
              · refine gg_aload_n (S := sX0_gather) 0 150 rfl dX0_gather_149 rfl rfl ?_
                refine gg_aload_n (S := sX0_gather) 0 151 rfl dX0_gather_150 rfl rfl ?_
                refine gg_gi (S := sX0_gather) cfX0 (by decide) (fun _ _ => rfl) 154 rfl flX0_89 dX0_gather_151 (fun t24 => ?_)
                refine gg_aload_n (S := sX0_gather) 1 155 rfl dX0_gather_154 rfl rfl ?_
                refine gg_aload_n (S := sX0_gather) 0 156 rfl dX0_gather_155 rfl rfl ?_
                refine gg_gi (S := sX0_gather) cfX0 (by decide) (fun _ _ => rfl) 159 rfl flX0_39 dX0_gather_156 (fun t25 => ?_)
                refine gg_callVi (S := sX0_gather) (S' := sX3_endsBehind) (cs := 0) (sl := 0) (As := [vi t25]) (st := [vi t24, vr (some x0)]) 162 rfl (fun b28 => lkX3_endsBehind b28 t25) mwX3_endsBehind rfl mlX0_29 dX0_gather_159 cfX3 ⟨by decide, by decide⟩ 0 0 ⟨rfl, rfl⟩ ⟨by decide, by decide⟩ (Nat.le_of_ble_eq_true rfl) (fun t26 => ?_)
                refine gg_mmax (S := sX0_gather) 165 rfl mlX0_92 ms_max iiJ9 mc_max dX0_gather_162 (by decide) (Nat.le_of_ble_eq_true rfl) (by decide) (by decide) (fun t27 => ?_)
                refine gg_si (S := sX0_gather) cfX0 (by decide) rfl (fun _ _ => rfl) rfl 168 rfl flX0_89 dX0_gather_165 ?_
                refine gg_aload_n (S := sX0_gather) 0 169 rfl dX0_gather_168 rfl rfl ?_
                refine gg_dup (S := sX0_gather) 170 rfl dX0_gather_169 rfl ?_
                refine gg_gi (S := sX0_gather) cfX0 (by decide) (fun _ _ => rfl) 173 rfl flX0_39 dX0_gather_170 (fun t28 => ?_)
                refine gg_iconst (S := sX0_gather) 174 rfl dX0_gather_173 ?_
                refine gg_iadd (S := sX0_gather) 175 rfl dX0_gather_174 ?_
                refine gg_si (S := sX0_gather) cfX0 (by decide) rfl (fun _ _ => rfl) rfl 178 rfl flX0_39 dX0_gather_175 ?_
                refine gg_goto (S := sX0_gather) (tgt := 236) dX0_gather_178 (by decide) ?_
                exact gg_pure (gg_sub [0, 1, 2, 3] rfl (hJ131 ()))
              · refine gg_aload_n (S := sX0_gather) 0 182 rfl dX0_gather_181 rfl rfl ?_
                refine gg_gi (S := sX0_gather) cfX0 (by decide) (fun _ _ => rfl) 185 rfl flX0_45 dX0_gather_182 (fun t30 => ?_)
                refine gg_aload_n (S := sX0_gather) 2 186 rfl dX0_gather_185 rfl rfl ?_
                refine gg_callVi (S := sX0_gather) (S' := sX3_hunks) (cs := 0) (sl := 0) (As := []) (st := [vi t30]) 189 rfl (fun b41 => lkX3_hunks b41) mwX3_hunks rfl mlX0_9 dX0_gather_186 cfX3 ⟨by decide, by decide⟩ 0 0 ⟨rfl, rfl⟩ ⟨by decide, by decide⟩ (Nat.le_of_ble_eq_true rfl) (fun t31 => ?_)
                refine gg_ic_ge (S := sX0_gather) (tgt := 236) 192 rfl dX0_gather_189 (by decide) ?_ ?_
                · refine gg_aload_n (S := sX0_gather) 2 193 rfl dX0_gather_192 rfl rfl ?_
                  refine gg_aload_n (S := sX0_gather) 0 194 rfl dX0_gather_193 rfl rfl ?_
                  refine gg_gi (S := sX0_gather) cfX0 (by decide) (fun _ _ => rfl) 197 rfl flX0_45 dX0_gather_194 (fun t32 => ?_)
                  refine gg_callVi (S := sX0_gather) (S' := sX3_begins) (cs := 0) (sl := 0) (As := [vi t32]) (st := []) 200 rfl (fun b40 => lkX3_begins b40 t32) mwX3_begins rfl mlX0_79 dX0_gather_197 cfX3 ⟨by decide, by decide⟩ 0 0 ⟨rfl, rfl⟩ ⟨by decide, by decide⟩ (Nat.le_of_ble_eq_true rfl) (fun t33 => ?_)
                  refine gg_aload_n (S := sX0_gather) 0 201 rfl dX0_gather_200 rfl rfl ?_
                  refine gg_gi (S := sX0_gather) cfX0 (by decide) (fun _ _ => rfl) 204 rfl flX0_89 dX0_gather_201 (fun t34 => ?_)
                  refine gg_ic_gt (S := sX0_gather) (tgt := 236) 207 rfl dX0_gather_204 (by decide) ?_ ?_
                  · refine gg_aload_n (S := sX0_gather) 0 208 rfl dX0_gather_207 rfl rfl ?_
                    refine gg_aload_n (S := sX0_gather) 0 209 rfl dX0_gather_208 rfl rfl ?_
                    refine gg_gi (S := sX0_gather) cfX0 (by decide) (fun _ _ => rfl) 212 rfl flX0_89 dX0_gather_209 (fun t35 => ?_)
                    refine gg_aload_n (S := sX0_gather) 2 213 rfl dX0_gather_212 rfl rfl ?_
                    refine gg_aload_n (S := sX0_gather) 0 214 rfl dX0_gather_213 rfl rfl ?_
                    refine gg_gi (S := sX0_gather) cfX0 (by decide) (fun _ _ => rfl) 217 rfl flX0_45 dX0_gather_214 (fun t36 => ?_)
                    refine gg_callVi (S := sX0_gather) (S' := sX3_ends) (cs := 0) (sl := 0) (As := [vi t36]) (st := [vi t35, vr (some x0)]) 220 rfl (fun b39 => lkX3_ends b39 t36) mwX3_ends rfl mlX0_97 dX0_gather_217 cfX3 ⟨by decide, by decide⟩ 0 0 ⟨rfl, rfl⟩ ⟨by decide, by decide⟩ (Nat.le_of_ble_eq_true rfl) (fun t37 => ?_)
                    refine gg_mmax (S := sX0_gather) 223 rfl mlX0_92 ms_max iiJ9 mc_max dX0_gather_220 (by decide) (Nat.le_of_ble_eq_true rfl) (by decide) (by decide) (fun t38 => ?_)
                    refine gg_si (S := sX0_gather) cfX0 (by decide) rfl (fun _ _ => rfl) rfl 226 rfl flX0_89 dX0_gather_223 ?_
                    refine gg_aload_n (S := sX0_gather) 0 227 rfl dX0_gather_226 rfl rfl ?_
                    refine gg_dup (S := sX0_gather) 228 rfl dX0_gather_227 rfl ?_
                    refine gg_gi (S := sX0_gather) cfX0 (by decide) (fun _ _ => rfl) 231 rfl flX0_45 dX0_gather_228 (fun t39 => ?_)
                    refine gg_iconst (S := sX0_gather) 232 rfl dX0_gather_231 ?_
                    refine gg_iadd (S := sX0_gather) 233 rfl dX0_gather_232 ?_
                    refine gg_si (S := sX0_gather) cfX0 (by decide) rfl (fun _ _ => rfl) rfl 236 rfl flX0_45 dX0_gather_233 ?_
                    exact gg_pure (gg_sub [0, 1, 2, 3] rfl (hJ131 ()))
                  · exact gg_pure (gg_sub [0, 1, 2, 3] rfl (hJ131 ()))
                · exact gg_pure (gg_sub [0, 1, 2, 3] rfl (hJ131 ()))
            · intro _
              refine gg_iinc (S := sX0_gather) (L' := [(7, vi (y15 + 1)), (0, vr (some x0)), (1, vr x1), (2, vr x2)]) 3 239 rfl dX0_gather_236 rfl (by decide) rfl ?_
              refine gg_goto (S := sX0_gather) (tgt := 109) dX0_gather_239 (by decide) ?_
              exact gg_pure (gg_sub [1, 2, 3, 0] rfl (hr109 (y15 + 1)))
          · exact gg_pure (gg_sub [] rfl (he109 ()))
        · intro _
          exact gg_pure (gg_vret (S := sX0_gather) rfl dX0_gather_242 (by decide) (by decide))

set_option maxRecDepth 100000 in
set_option maxHeartbeats 4000000 in
theorem lkX0_init (x0 : Nat) : LK yX0_init sX0_init [vr (some x0)] en_v (X0_init x0) := by
  refine lk_go (L := [(0, vr (some x0))]) (by decide +kernel) rfl (fun _ => rfl) (Nat.le_of_ble_eq_true rfl) rfl ?_
  intro K
  unfold X0_init
  refine gg_aload_n (S := sX0_init) 0 1 rfl dX0_init_0 rfl rfl ?_
  refine gg_objI (S := sX0_init) 4 rfl mlX0_3 oi_i oi_c dX0_init_1 (by decide) (Nat.le_of_ble_eq_true rfl) ?_
  exact gg_pure (gg_vret (S := sX0_init) rfl dX0_init_4 (by decide) (by decide))

set_option maxRecDepth 100000 in
set_option maxHeartbeats 4000000 in
theorem lkX3_addComingOf (x0 : Nat) (x1 : Option Nat) (x2 : Int) : LK yX3_addComingOf sX3_addComingOf [vr (some x0), vr x1, vi x2] en_v (X3_addComingOf x0 x1 x2) := by
  refine lk_go (L := [(0, vr (some x0)), (1, vr x1), (2, vi x2)]) (by decide +kernel) rfl (fun h => by cases h) (Nat.le_of_ble_eq_true rfl) rfl ?_
  intro K
  unfold X3_addComingOf
  refine gg_iconst (S := sX3_addComingOf) 1 rfl dX3_addComingOf_0 ?_
  refine gg_istore_n (S := sX3_addComingOf) (L' := [(3, vi 0), (0, vr (some x0)), (1, vr x1), (2, vi x2)]) 2 rfl dX3_addComingOf_1 rfl (by decide) rfl ?_
  refine gg_sub [1, 2, 3, 0] rfl ?_
  refine gg_loopA (fun y1 => [(0, vr (some x0)), (1, vr x1), (2, vi x2), (3, vi y1)]) (fun _ => []) 27 mo_N ?_ ?_ 0
  · intro κ2 hr2 he2
    intro y1
    dsimp only [X3_addComingOf_L2]
    refine gg_iload_n (S := sX3_addComingOf) 3 3 rfl dX3_addComingOf_2 rfl rfl ?_
    refine gg_aload_n (S := sX3_addComingOf) 1 4 rfl dX3_addComingOf_3 rfl rfl ?_
    refine gg_iload_n (S := sX3_addComingOf) 2 5 rfl dX3_addComingOf_4 rfl rfl ?_
    refine gg_callVi (S := sX3_addComingOf) (S' := sX3_coming) (cs := 0) (sl := 0) (As := [vi x2]) (st := [vi y1]) 8 rfl (fun b5 => lkX3_coming b5 x2) mwX3_coming rfl mlX3_51 dX3_addComingOf_5 cfX3 ⟨by decide, by decide⟩ 0 0 ⟨rfl, rfl⟩ ⟨by decide, by decide⟩ (Nat.le_of_ble_eq_true rfl) (fun t2 => ?_)
    refine gg_ic_ge (S := sX3_addComingOf) (tgt := 27) 11 rfl dX3_addComingOf_8 (by decide) ?_ ?_
    · refine gg_aload_n (S := sX3_addComingOf) 0 12 rfl dX3_addComingOf_11 rfl rfl ?_
      refine gg_aload_n (S := sX3_addComingOf) 1 13 rfl dX3_addComingOf_12 rfl rfl ?_
      refine gg_iload_n (S := sX3_addComingOf) 2 14 rfl dX3_addComingOf_13 rfl rfl ?_
      refine gg_iload_n (S := sX3_addComingOf) 3 15 rfl dX3_addComingOf_14 rfl rfl ?_
      refine gg_callVi (S := sX3_addComingOf) (S' := sX3_comingLine) (cs := 0) (sl := 0) (As := [vi x2, vi y1]) (st := [vr (some x0)]) 18 rfl (fun b4 => lkX3_comingLine b4 x2 y1) mwX3_comingLine rfl mlX3_92 dX3_addComingOf_15 cfX3 ⟨by decide, by decide⟩ 0 0 ⟨rfl, rfl⟩ ⟨by decide, by decide⟩ (Nat.le_of_ble_eq_true rfl) (fun t3 => ?_)
      refine gg_callVv (S := sX3_addComingOf) (S' := sX3_addComing) (cs := 0) (sl := 0) (As := [vi t3]) (st := []) 21 rfl (fun b3 => lkX3_addComing b3 t3) mwX3_addComing rfl mlX3_76 dX3_addComingOf_18 cfX3 ⟨by decide, by decide⟩ 0 0 ⟨rfl, rfl⟩ ⟨by decide, by decide⟩ (Nat.le_of_ble_eq_true rfl) (fun _ => ?_)
      refine gg_iinc (S := sX3_addComingOf) (L' := [(3, vi (y1 + 1)), (0, vr (some x0)), (1, vr x1), (2, vi x2)]) 3 24 rfl dX3_addComingOf_21 rfl (by decide) rfl ?_
      refine gg_goto (S := sX3_addComingOf) (tgt := 2) dX3_addComingOf_24 (by decide) ?_
      exact gg_pure (gg_sub [1, 2, 3, 0] rfl (hr2 (y1 + 1)))
    · exact gg_pure (gg_sub [] rfl (he2 ()))
  · intro _
    exact gg_pure (gg_vret (S := sX3_addComingOf) rfl dX3_addComingOf_27 (by decide) (by decide))

set_option maxRecDepth 100000 in
set_option maxHeartbeats 4000000 in
theorem lkX3_addGoingOf (x0 : Nat) (x1 : Option Nat) (x2 : Int) : LK yX3_addGoingOf sX3_addGoingOf [vr (some x0), vr x1, vi x2] en_v (X3_addGoingOf x0 x1 x2) := by
  refine lk_go (L := [(0, vr (some x0)), (1, vr x1), (2, vi x2)]) (by decide +kernel) rfl (fun h => by cases h) (Nat.le_of_ble_eq_true rfl) rfl ?_
  intro K
  unfold X3_addGoingOf
  refine gg_iconst (S := sX3_addGoingOf) 1 rfl dX3_addGoingOf_0 ?_
  refine gg_istore_n (S := sX3_addGoingOf) (L' := [(3, vi 0), (0, vr (some x0)), (1, vr x1), (2, vi x2)]) 2 rfl dX3_addGoingOf_1 rfl (by decide) rfl ?_
  refine gg_sub [1, 2, 3, 0] rfl ?_
  refine gg_loopA (fun y1 => [(0, vr (some x0)), (1, vr x1), (2, vi x2), (3, vi y1)]) (fun _ => []) 27 mo_N ?_ ?_ 0
  · intro κ2 hr2 he2
    intro y1
    dsimp only [X3_addGoingOf_L2]
    refine gg_iload_n (S := sX3_addGoingOf) 3 3 rfl dX3_addGoingOf_2 rfl rfl ?_
    refine gg_aload_n (S := sX3_addGoingOf) 1 4 rfl dX3_addGoingOf_3 rfl rfl ?_
    refine gg_iload_n (S := sX3_addGoingOf) 2 5 rfl dX3_addGoingOf_4 rfl rfl ?_
    refine gg_callVi (S := sX3_addGoingOf) (S' := sX3_going) (cs := 0) (sl := 0) (As := [vi x2]) (st := [vi y1]) 8 rfl (fun b5 => lkX3_going b5 x2) mwX3_going rfl mlX3_48 dX3_addGoingOf_5 cfX3 ⟨by decide, by decide⟩ 0 0 ⟨rfl, rfl⟩ ⟨by decide, by decide⟩ (Nat.le_of_ble_eq_true rfl) (fun t2 => ?_)
    refine gg_ic_ge (S := sX3_addGoingOf) (tgt := 27) 11 rfl dX3_addGoingOf_8 (by decide) ?_ ?_
    · refine gg_aload_n (S := sX3_addGoingOf) 0 12 rfl dX3_addGoingOf_11 rfl rfl ?_
      refine gg_aload_n (S := sX3_addGoingOf) 1 13 rfl dX3_addGoingOf_12 rfl rfl ?_
      refine gg_iload_n (S := sX3_addGoingOf) 2 14 rfl dX3_addGoingOf_13 rfl rfl ?_
      refine gg_iload_n (S := sX3_addGoingOf) 3 15 rfl dX3_addGoingOf_14 rfl rfl ?_
      refine gg_callVi (S := sX3_addGoingOf) (S' := sX3_goingLine) (cs := 0) (sl := 0) (As := [vi x2, vi y1]) (st := [vr (some x0)]) 18 rfl (fun b4 => lkX3_goingLine b4 x2 y1) mwX3_goingLine rfl mlX3_89 dX3_addGoingOf_15 cfX3 ⟨by decide, by decide⟩ 0 0 ⟨rfl, rfl⟩ ⟨by decide, by decide⟩ (Nat.le_of_ble_eq_true rfl) (fun t3 => ?_)
      refine gg_callVv (S := sX3_addGoingOf) (S' := sX3_addGoing) (cs := 0) (sl := 0) (As := [vi t3]) (st := []) 21 rfl (fun b3 => lkX3_addGoing b3 t3) mwX3_addGoing rfl mlX3_72 dX3_addGoingOf_18 cfX3 ⟨by decide, by decide⟩ 0 0 ⟨rfl, rfl⟩ ⟨by decide, by decide⟩ (Nat.le_of_ble_eq_true rfl) (fun _ => ?_)
      refine gg_iinc (S := sX3_addGoingOf) (L' := [(3, vi (y1 + 1)), (0, vr (some x0)), (1, vr x1), (2, vi x2)]) 3 24 rfl dX3_addGoingOf_21 rfl (by decide) rfl ?_
      refine gg_goto (S := sX3_addGoingOf) (tgt := 2) dX3_addGoingOf_24 (by decide) ?_
      exact gg_pure (gg_sub [1, 2, 3, 0] rfl (hr2 (y1 + 1)))
    · exact gg_pure (gg_sub [] rfl (he2 ()))
  · intro _
    exact gg_pure (gg_vret (S := sX3_addGoingOf) rfl dX3_addGoingOf_27 (by decide) (by decide))

set_option maxRecDepth 100000 in
set_option maxHeartbeats 4000000 in
theorem lkX3_begin (x0 : Nat) (x1 : Int) : LK yX3_begin sX3_begin [vr (some x0), vi x1] en_v (X3_begin x0 x1) := by
  refine lk_go (L := [(0, vr (some x0)), (1, vi x1)]) (by decide +kernel) rfl (fun h => by cases h) (Nat.le_of_ble_eq_true rfl) rfl ?_
  intro K
  unfold X3_begin
  refine gg_aload_n (S := sX3_begin) 0 1 rfl dX3_begin_0 rfl rfl ?_
  refine gg_gi (S := sX3_begin) cfX3 (by decide) (fun _ _ => rfl) 4 rfl flX3_33 dX3_begin_1 (fun t1 => ?_)
  refine gg_if_lt (S := sX3_begin) (tgt := 19) 7 rfl dX3_begin_4 (by decide) ?_ ?_
  · exact gg_pure (gg_vret (S := sX3_begin) rfl dX3_begin_19 (by decide) (by decide))
  · refine gg_aload_n (S := sX3_begin) 0 8 rfl dX3_begin_7 rfl rfl ?_
    refine gg_gi (S := sX3_begin) cfX3 (by decide) (fun _ _ => rfl) 11 rfl flX3_33 dX3_begin_8 (fun t2 => ?_)
    refine gg_aload_n (S := sX3_begin) 0 12 rfl dX3_begin_11 rfl rfl ?_
    refine gg_gr (S := sX3_begin) cfX3 (by decide) (fun _ _ => rfl) 15 rfl flX3_15 dX3_begin_12 (fun t3 => ?_)
    refine gg_alen (S := sX3_begin) 16 rfl dX3_begin_15 (fun t4 => ?_)
    refine gg_ic_lt (S := sX3_begin) (tgt := 20) 19 rfl dX3_begin_16 (by decide) ?_ ?_
    · refine gg_aload_n (S := sX3_begin) 0 21 rfl dX3_begin_20 rfl rfl ?_
      refine gg_gr (S := sX3_begin) cfX3 (by decide) (fun _ _ => rfl) 24 rfl flX3_15 dX3_begin_21 (fun t5 => ?_)
      refine gg_aload_n (S := sX3_begin) 0 25 rfl dX3_begin_24 rfl rfl ?_
      refine gg_gi (S := sX3_begin) cfX3 (by decide) (fun _ _ => rfl) 28 rfl flX3_33 dX3_begin_25 (fun t6 => ?_)
      refine gg_iload_n (S := sX3_begin) 1 29 rfl dX3_begin_28 rfl rfl ?_
      refine gg_st (S := sX3_begin) 30 rfl dX3_begin_29 ?_
      refine gg_aload_n (S := sX3_begin) 0 31 rfl dX3_begin_30 rfl rfl ?_
      refine gg_gr (S := sX3_begin) cfX3 (by decide) (fun _ _ => rfl) 34 rfl flX3_21 dX3_begin_31 (fun t7 => ?_)
      refine gg_aload_n (S := sX3_begin) 0 35 rfl dX3_begin_34 rfl rfl ?_
      refine gg_gi (S := sX3_begin) cfX3 (by decide) (fun _ _ => rfl) 38 rfl flX3_33 dX3_begin_35 (fun t8 => ?_)
      refine gg_iconst (S := sX3_begin) 39 rfl dX3_begin_38 ?_
      refine gg_iadd (S := sX3_begin) 40 rfl dX3_begin_39 ?_
      refine gg_aload_n (S := sX3_begin) 0 41 rfl dX3_begin_40 rfl rfl ?_
      refine gg_gr (S := sX3_begin) cfX3 (by decide) (fun _ _ => rfl) 44 rfl flX3_21 dX3_begin_41 (fun t9 => ?_)
      refine gg_aload_n (S := sX3_begin) 0 45 rfl dX3_begin_44 rfl rfl ?_
      refine gg_gi (S := sX3_begin) cfX3 (by decide) (fun _ _ => rfl) 48 rfl flX3_33 dX3_begin_45 (fun t10 => ?_)
      refine gg_ld (S := sX3_begin) 49 rfl dX3_begin_48 (fun t11 => ?_)
      refine gg_st (S := sX3_begin) 50 rfl dX3_begin_49 ?_
      refine gg_aload_n (S := sX3_begin) 0 51 rfl dX3_begin_50 rfl rfl ?_
      refine gg_gr (S := sX3_begin) cfX3 (by decide) (fun _ _ => rfl) 54 rfl flX3_24 dX3_begin_51 (fun t12 => ?_)
      refine gg_aload_n (S := sX3_begin) 0 55 rfl dX3_begin_54 rfl rfl ?_
      refine gg_gi (S := sX3_begin) cfX3 (by decide) (fun _ _ => rfl) 58 rfl flX3_33 dX3_begin_55 (fun t13 => ?_)
      refine gg_iconst (S := sX3_begin) 59 rfl dX3_begin_58 ?_
      refine gg_iadd (S := sX3_begin) 60 rfl dX3_begin_59 ?_
      refine gg_aload_n (S := sX3_begin) 0 61 rfl dX3_begin_60 rfl rfl ?_
      refine gg_gr (S := sX3_begin) cfX3 (by decide) (fun _ _ => rfl) 64 rfl flX3_24 dX3_begin_61 (fun t14 => ?_)
      refine gg_aload_n (S := sX3_begin) 0 65 rfl dX3_begin_64 rfl rfl ?_
      refine gg_gi (S := sX3_begin) cfX3 (by decide) (fun _ _ => rfl) 68 rfl flX3_33 dX3_begin_65 (fun t15 => ?_)
      refine gg_ld (S := sX3_begin) 69 rfl dX3_begin_68 (fun t16 => ?_)
      refine gg_st (S := sX3_begin) 70 rfl dX3_begin_69 ?_
      refine gg_aload_n (S := sX3_begin) 0 71 rfl dX3_begin_70 rfl rfl ?_
      refine gg_dup (S := sX3_begin) 72 rfl dX3_begin_71 rfl ?_
      refine gg_gi (S := sX3_begin) cfX3 (by decide) (fun _ _ => rfl) 75 rfl flX3_33 dX3_begin_72 (fun t17 => ?_)
      refine gg_iconst (S := sX3_begin) 76 rfl dX3_begin_75 ?_
      refine gg_iadd (S := sX3_begin) 77 rfl dX3_begin_76 ?_
      refine gg_si (S := sX3_begin) cfX3 (by decide) rfl (fun _ _ => rfl) rfl 80 rfl flX3_33 dX3_begin_77 ?_
      exact gg_pure (gg_vret (S := sX3_begin) rfl dX3_begin_80 (by decide) (by decide))
    · exact gg_pure (gg_vret (S := sX3_begin) rfl dX3_begin_19 (by decide) (by decide))

set_option maxRecDepth 100000 in
set_option maxHeartbeats 4000000 in
theorem lkX3_addHunk (x0 : Nat) (x1 : Option Nat) (x2 : Int) (x3 : Int) : LK yX3_addHunk sX3_addHunk [vr (some x0), vr x1, vi x2, vi x3] en_v (X3_addHunk x0 x1 x2 x3) := by
  refine lk_go (L := [(0, vr (some x0)), (1, vr x1), (2, vi x2), (3, vi x3)]) (by decide +kernel) rfl (fun h => by cases h) (Nat.le_of_ble_eq_true rfl) rfl ?_
  intro K
  unfold X3_addHunk
  refine gg_aload_n (S := sX3_addHunk) 0 1 rfl dX3_addHunk_0 rfl rfl ?_
  refine gg_iload_n (S := sX3_addHunk) 3 2 rfl dX3_addHunk_1 rfl rfl ?_
  refine gg_callVv (S := sX3_addHunk) (S' := sX3_begin) (cs := 0) (sl := 0) (As := [vi x3]) (st := []) 5 rfl (fun b2 => lkX3_begin b2 x3) mwX3_begin rfl mlX3_79 dX3_addHunk_2 cfX3 ⟨by decide, by decide⟩ 0 0 ⟨rfl, rfl⟩ ⟨by decide, by decide⟩ (Nat.le_of_ble_eq_true rfl) (fun _ => ?_)
  refine gg_aload_n (S := sX3_addHunk) 0 6 rfl dX3_addHunk_5 rfl rfl ?_
  refine gg_aload_n (S := sX3_addHunk) 1 7 rfl dX3_addHunk_6 rfl rfl ?_
  refine gg_iload_n (S := sX3_addHunk) 2 8 rfl dX3_addHunk_7 rfl rfl ?_
  refine gg_callVv (S := sX3_addHunk) (S' := sX3_addGoingOf) (cs := 0) (sl := 0) (As := [vr x1, vi x2]) (st := []) 11 rfl (fun b1 => lkX3_addGoingOf b1 x1 x2) mwX3_addGoingOf rfl mlX3_82 dX3_addHunk_8 cfX3 ⟨by decide, by decide⟩ 0 0 ⟨rfl, rfl⟩ ⟨by decide, by decide⟩ (Nat.le_of_ble_eq_true rfl) (fun _ => ?_)
  refine gg_aload_n (S := sX3_addHunk) 0 12 rfl dX3_addHunk_11 rfl rfl ?_
  refine gg_aload_n (S := sX3_addHunk) 1 13 rfl dX3_addHunk_12 rfl rfl ?_
  refine gg_iload_n (S := sX3_addHunk) 2 14 rfl dX3_addHunk_13 rfl rfl ?_
  refine gg_callVv (S := sX3_addHunk) (S' := sX3_addComingOf) (cs := 0) (sl := 0) (As := [vr x1, vi x2]) (st := []) 17 rfl (fun b0 => lkX3_addComingOf b0 x1 x2) mwX3_addComingOf rfl mlX3_86 dX3_addHunk_14 cfX3 ⟨by decide, by decide⟩ 0 0 ⟨rfl, rfl⟩ ⟨by decide, by decide⟩ (Nat.le_of_ble_eq_true rfl) (fun _ => ?_)
  exact gg_pure (gg_vret (S := sX3_addHunk) rfl dX3_addHunk_17 (by decide) (by decide))

set_option maxRecDepth 100000 in
set_option maxHeartbeats 4000000 in
theorem lkX0_moveAhead (x0 : Nat) (x1 : Option Nat) (x2 : Option Nat) (x3 : Option Nat) : LK yX0_moveAhead sX0_moveAhead [vr (some x0), vr x1, vr x2, vr x3] en_v (X0_moveAhead x0 x1 x2 x3) := by
  refine lk_go (L := [(0, vr (some x0)), (1, vr x1), (2, vr x2), (3, vr x3)]) (by decide +kernel) rfl (fun h => by cases h) (Nat.le_of_ble_eq_true rfl) rfl ?_
  intro K
  unfold X0_moveAhead
  refine gg_iconst (S := sX0_moveAhead) 1 rfl dX0_moveAhead_0 ?_
  refine gg_istore (S := sX0_moveAhead) (L' := [(4, vi 0), (0, vr (some x0)), (1, vr x1), (2, vr x2), (3, vr x3)]) 3 rfl dX0_moveAhead_1 (by decide) rfl ?_
  refine gg_sub [2, 3, 4, 0] rfl ?_
  refine gg_loopA (fun y1 => [(1, vr x1), (2, vr x2), (3, vr x3), (4, vi y1)]) (fun _ => []) 84 mo_N ?_ ?_ 0
  · intro κ3 hr3 he3
    intro y1
    dsimp only [X0_moveAhead_L3]
    refine gg_iload (S := sX0_moveAhead) 3 5 rfl dX0_moveAhead_3 rfl ?_
    refine gg_aload_n (S := sX0_moveAhead) 1 6 rfl dX0_moveAhead_5 rfl rfl ?_
    refine gg_callVi (S := sX0_moveAhead) (S' := sX3_hunks) (cs := 0) (sl := 0) (As := []) (st := [vi y1]) 9 rfl (fun b17 => lkX3_hunks b17) mwX3_hunks rfl mlX0_9 dX0_moveAhead_6 cfX3 ⟨by decide, by decide⟩ 0 0 ⟨rfl, rfl⟩ ⟨by decide, by decide⟩ (Nat.le_of_ble_eq_true rfl) (fun t2 => ?_)
    refine gg_ic_ge (S := sX0_moveAhead) (tgt := 84) 12 rfl dX0_moveAhead_9 (by decide) ?_ ?_
    · refine gg_iconst (S := sX0_moveAhead) 13 rfl dX0_moveAhead_12 ?_
      refine gg_istore (S := sX0_moveAhead) (L' := [(5, vi 0), (1, vr x1), (2, vr x2), (3, vr x3), (4, vi y1)]) 15 rfl dX0_moveAhead_13 (by decide) rfl ?_
      refine gg_iconst (S := sX0_moveAhead) 16 rfl dX0_moveAhead_15 ?_
      refine gg_istore (S := sX0_moveAhead) (L' := [(6, vi 0), (5, vi 0), (1, vr x1), (2, vr x2), (3, vr x3), (4, vi y1)]) 18 rfl dX0_moveAhead_16 (by decide) rfl ?_
      refine gg_sub [2, 3, 4, 5, 1, 0] rfl ?_
      refine gg_loopA (fun (y3, y4) => [(1, vr x1), (2, vr x2), (3, vr x3), (4, vi y1), (5, vi y3), (6, vi y4)]) (fun t12 => [(1, vr x1), (2, vr x2), (3, vr x3), (4, vi y1), (5, vi t12)]) 58 mo_N ?_ ?_ (0, 0)
      · intro κ18 hr18 he18
        rintro ⟨y3, y4⟩
        dsimp only [X0_moveAhead_L18]
        refine gg_iload (S := sX0_moveAhead) 5 20 rfl dX0_moveAhead_18 rfl ?_
        refine gg_aload_n (S := sX0_moveAhead) 0 21 rfl dX0_moveAhead_20 rfl rfl ?_
        refine gg_callVi (S := sX0_moveAhead) (S' := sX3_hunks) (cs := 0) (sl := 0) (As := []) (st := [vi y4]) 24 rfl (fun b10 => lkX3_hunks b10) mwX3_hunks rfl mlX0_9 dX0_moveAhead_21 cfX3 ⟨by decide, by decide⟩ 0 0 ⟨rfl, rfl⟩ ⟨by decide, by decide⟩ (Nat.le_of_ble_eq_true rfl) (fun t5 => ?_)
        refine gg_ic_ge (S := sX0_moveAhead) (tgt := 58) 27 rfl dX0_moveAhead_24 (by decide) ?_ ?_
        · refine gg_iload (S := sX0_moveAhead) 4 29 rfl dX0_moveAhead_27 rfl ?_
          refine gg_aload_n (S := sX0_moveAhead) 0 30 rfl dX0_moveAhead_29 rfl rfl ?_
          refine gg_iload (S := sX0_moveAhead) 5 32 rfl dX0_moveAhead_30 rfl ?_
          refine gg_callVi (S := sX0_moveAhead) (S' := sX3_beginsBehind) (cs := 0) (sl := 0) (As := [vi y4]) (st := [vi y3]) 35 rfl (fun b9 => lkX3_beginsBehind b9 y4) mwX3_beginsBehind rfl mlX0_19 dX0_moveAhead_32 cfX3 ⟨by decide, by decide⟩ 0 0 ⟨rfl, rfl⟩ ⟨by decide, by decide⟩ (Nat.le_of_ble_eq_true rfl) (fun t6 => ?_)
          refine gg_aload_n (S := sX0_moveAhead) 1 36 rfl dX0_moveAhead_35 rfl rfl ?_
          refine gg_iload (S := sX0_moveAhead) 3 38 rfl dX0_moveAhead_36 rfl ?_
          refine gg_callVi (S := sX0_moveAhead) (S' := sX3_begins) (cs := 0) (sl := 0) (As := [vi y1]) (st := [vi t6, vi y3]) 41 rfl (fun b8 => lkX3_begins b8 y1) mwX3_begins rfl mlX0_79 dX0_moveAhead_38 cfX3 ⟨by decide, by decide⟩ 0 0 ⟨rfl, rfl⟩ ⟨by decide, by decide⟩ (Nat.le_of_ble_eq_true rfl) (fun t7 => ?_)
          refine gg_join (fun t8 => [(1, vr x1), (2, vr x2), (3, vr x3), (4, vi y1), (6, vi y4)]) (fun t8 => [vi t8, vi y3]) 49 0 0 (fun κ41 hJ41 => ?_) ?_
          · refine gg_ic_ge (S := sX0_moveAhead) (tgt := 48) 44 rfl dX0_moveAhead_41 (by decide) ?_ ?_
            · refine gg_iconst (S := sX0_moveAhead) 45 rfl dX0_moveAhead_44 ?_
              refine gg_goto (S := sX0_moveAhead) (tgt := 49) dX0_moveAhead_45 (by decide) ?_
              exact gg_pure (gg_sub [0, 1, 2, 3, 5] rfl (hJ41 1))
            · refine gg_iconst (S := sX0_moveAhead) 49 rfl dX0_moveAhead_48 ?_
              exact gg_pure (gg_sub [0, 1, 2, 3, 5] rfl (hJ41 0))
          · intro t8
            refine gg_iadd (S := sX0_moveAhead) 50 rfl dX0_moveAhead_49 ?_
            refine gg_istore (S := sX0_moveAhead) (L' := [(5, vi (y3 + t8)), (1, vr x1), (2, vr x2), (3, vr x3), (4, vi y1), (6, vi y4)]) 52 rfl dX0_moveAhead_50 (by decide) rfl ?_
            refine gg_iinc (S := sX0_moveAhead) (L' := [(6, vi (y4 + 1)), (5, vi (y3 + t8)), (1, vr x1), (2, vr x2), (3, vr x3), (4, vi y1)]) 5 55 rfl dX0_moveAhead_52 rfl (by decide) rfl ?_
            refine gg_goto (S := sX0_moveAhead) (tgt := 18) dX0_moveAhead_55 (by decide) ?_
            exact gg_pure (gg_sub [2, 3, 4, 5, 1, 0] rfl (hr18 ((y3 + t8), (y4 + 1))))
        · exact gg_pure (gg_sub [0, 1, 2, 3, 4] rfl (he18 y3))
      · intro t12
        refine gg_aload_n (S := sX0_moveAhead) 2 59 rfl dX0_moveAhead_58 rfl rfl ?_
        refine gg_aload_n (S := sX0_moveAhead) 1 60 rfl dX0_moveAhead_59 rfl rfl ?_
        refine gg_iload (S := sX0_moveAhead) 3 62 rfl dX0_moveAhead_60 rfl ?_
        refine gg_aload_n (S := sX0_moveAhead) 1 63 rfl dX0_moveAhead_62 rfl rfl ?_
        refine gg_iload (S := sX0_moveAhead) 3 65 rfl dX0_moveAhead_63 rfl ?_
        refine gg_callVi (S := sX0_moveAhead) (S' := sX3_begins) (cs := 0) (sl := 0) (As := [vi y1]) (st := [vi y1, vr x2, vr x3]) 68 rfl (fun b16 => lkX3_begins b16 y1) mwX3_begins rfl mlX0_79 dX0_moveAhead_65 cfX3 ⟨by decide, by decide⟩ 0 0 ⟨rfl, rfl⟩ ⟨by decide, by decide⟩ (Nat.le_of_ble_eq_true rfl) (fun t13 => ?_)
        refine gg_aload_n (S := sX0_moveAhead) 0 69 rfl dX0_moveAhead_68 rfl rfl ?_
        refine gg_iload (S := sX0_moveAhead) 4 71 rfl dX0_moveAhead_69 rfl ?_
        refine gg_callVi (S := sX0_moveAhead) (S' := sX3_shiftBefore) (cs := 0) (sl := 0) (As := [vi t12]) (st := [vi t13, vi y1, vr x2, vr x3]) 74 rfl (fun b15 => lkX3_shiftBefore b15 t12) mwX3_shiftBefore rfl mlX0_58 dX0_moveAhead_71 cfX3 ⟨by decide, by decide⟩ 0 0 ⟨rfl, rfl⟩ ⟨by decide, by decide⟩ (Nat.le_of_ble_eq_true rfl) (fun t14 => ?_)
        refine gg_isub (S := sX0_moveAhead) 75 rfl dX0_moveAhead_74 ?_
        refine gg_callVv (S := sX0_moveAhead) (S' := sX3_addHunk) (cs := 0) (sl := 0) (As := [vr x2, vi y1, vi (t13 - t14)]) (st := []) 78 rfl (fun b14 => lkX3_addHunk b14 x2 y1 (t13 - t14)) mwX3_addHunk rfl mlX0_82 dX0_moveAhead_75 cfX3 ⟨by decide, by decide⟩ 0 0 ⟨rfl, rfl⟩ ⟨by decide, by decide⟩ (Nat.le_of_ble_eq_true rfl) (fun _ => ?_)
        refine gg_iinc (S := sX0_moveAhead) (L' := [(4, vi (y1 + 1)), (1, vr x1), (2, vr x2), (3, vr x3), (5, vi t12)]) 3 81 rfl dX0_moveAhead_78 rfl (by decide) rfl ?_
        refine gg_goto (S := sX0_moveAhead) (tgt := 3) dX0_moveAhead_81 (by decide) ?_
        exact gg_pure (gg_sub [1, 2, 3, 0] rfl (hr3 (y1 + 1)))
    · exact gg_pure (gg_sub [] rfl (he3 ()))
  · intro _
    exact gg_pure (gg_vret (S := sX0_moveAhead) rfl dX0_moveAhead_84 (by decide) (by decide))

set_option maxRecDepth 100000 in
set_option maxHeartbeats 4000000 in
theorem lkX0_moveBehind (x0 : Nat) (x1 : Option Nat) (x2 : Option Nat) (x3 : Option Nat) : LK yX0_moveBehind sX0_moveBehind [vr (some x0), vr x1, vr x2, vr x3] en_v (X0_moveBehind x0 x1 x2 x3) := by
  refine lk_go (L := [(0, vr (some x0)), (1, vr x1), (2, vr x2), (3, vr x3)]) (by decide +kernel) rfl (fun h => by cases h) (Nat.le_of_ble_eq_true rfl) rfl ?_
  intro K
  unfold X0_moveBehind
  refine gg_iconst (S := sX0_moveBehind) 1 rfl dX0_moveBehind_0 ?_
  refine gg_istore (S := sX0_moveBehind) (L' := [(4, vi 0), (0, vr (some x0)), (1, vr x1), (2, vr x2), (3, vr x3)]) 3 rfl dX0_moveBehind_1 (by decide) rfl ?_
  refine gg_sub [2, 3, 4, 0] rfl ?_
  refine gg_loopA (fun y1 => [(1, vr x1), (2, vr x2), (3, vr x3), (4, vi y1)]) (fun _ => []) 84 mo_N ?_ ?_ 0
  · intro κ3 hr3 he3
    intro y1
    dsimp only [X0_moveBehind_L3]
    refine gg_iload (S := sX0_moveBehind) 3 5 rfl dX0_moveBehind_3 rfl ?_
    refine gg_aload_n (S := sX0_moveBehind) 0 6 rfl dX0_moveBehind_5 rfl rfl ?_
    refine gg_callVi (S := sX0_moveBehind) (S' := sX3_hunks) (cs := 0) (sl := 0) (As := []) (st := [vi y1]) 9 rfl (fun b17 => lkX3_hunks b17) mwX3_hunks rfl mlX0_9 dX0_moveBehind_6 cfX3 ⟨by decide, by decide⟩ 0 0 ⟨rfl, rfl⟩ ⟨by decide, by decide⟩ (Nat.le_of_ble_eq_true rfl) (fun t2 => ?_)
    refine gg_ic_ge (S := sX0_moveBehind) (tgt := 84) 12 rfl dX0_moveBehind_9 (by decide) ?_ ?_
    · refine gg_iconst (S := sX0_moveBehind) 13 rfl dX0_moveBehind_12 ?_
      refine gg_istore (S := sX0_moveBehind) (L' := [(5, vi 0), (1, vr x1), (2, vr x2), (3, vr x3), (4, vi y1)]) 15 rfl dX0_moveBehind_13 (by decide) rfl ?_
      refine gg_iconst (S := sX0_moveBehind) 16 rfl dX0_moveBehind_15 ?_
      refine gg_istore (S := sX0_moveBehind) (L' := [(6, vi 0), (5, vi 0), (1, vr x1), (2, vr x2), (3, vr x3), (4, vi y1)]) 18 rfl dX0_moveBehind_16 (by decide) rfl ?_
      refine gg_sub [2, 3, 4, 5, 1, 0] rfl ?_
      refine gg_loopA (fun (y3, y4) => [(1, vr x1), (2, vr x2), (3, vr x3), (4, vi y1), (5, vi y3), (6, vi y4)]) (fun t12 => [(1, vr x1), (2, vr x2), (3, vr x3), (4, vi y1), (5, vi t12)]) 58 mo_N ?_ ?_ (0, 0)
      · intro κ18 hr18 he18
        rintro ⟨y3, y4⟩
        dsimp only [X0_moveBehind_L18]
        refine gg_iload (S := sX0_moveBehind) 5 20 rfl dX0_moveBehind_18 rfl ?_
        refine gg_aload_n (S := sX0_moveBehind) 1 21 rfl dX0_moveBehind_20 rfl rfl ?_
        refine gg_callVi (S := sX0_moveBehind) (S' := sX3_hunks) (cs := 0) (sl := 0) (As := []) (st := [vi y4]) 24 rfl (fun b10 => lkX3_hunks b10) mwX3_hunks rfl mlX0_9 dX0_moveBehind_21 cfX3 ⟨by decide, by decide⟩ 0 0 ⟨rfl, rfl⟩ ⟨by decide, by decide⟩ (Nat.le_of_ble_eq_true rfl) (fun t5 => ?_)
        refine gg_ic_ge (S := sX0_moveBehind) (tgt := 58) 27 rfl dX0_moveBehind_24 (by decide) ?_ ?_
        · refine gg_iload (S := sX0_moveBehind) 4 29 rfl dX0_moveBehind_27 rfl ?_
          refine gg_aload_n (S := sX0_moveBehind) 1 30 rfl dX0_moveBehind_29 rfl rfl ?_
          refine gg_iload (S := sX0_moveBehind) 5 32 rfl dX0_moveBehind_30 rfl ?_
          refine gg_callVi (S := sX0_moveBehind) (S' := sX3_begins) (cs := 0) (sl := 0) (As := [vi y4]) (st := [vi y3]) 35 rfl (fun b9 => lkX3_begins b9 y4) mwX3_begins rfl mlX0_79 dX0_moveBehind_32 cfX3 ⟨by decide, by decide⟩ 0 0 ⟨rfl, rfl⟩ ⟨by decide, by decide⟩ (Nat.le_of_ble_eq_true rfl) (fun t6 => ?_)
          refine gg_aload_n (S := sX0_moveBehind) 0 36 rfl dX0_moveBehind_35 rfl rfl ?_
          refine gg_iload (S := sX0_moveBehind) 3 38 rfl dX0_moveBehind_36 rfl ?_
          refine gg_callVi (S := sX0_moveBehind) (S' := sX3_beginsBehind) (cs := 0) (sl := 0) (As := [vi y1]) (st := [vi t6, vi y3]) 41 rfl (fun b8 => lkX3_beginsBehind b8 y1) mwX3_beginsBehind rfl mlX0_19 dX0_moveBehind_38 cfX3 ⟨by decide, by decide⟩ 0 0 ⟨rfl, rfl⟩ ⟨by decide, by decide⟩ (Nat.le_of_ble_eq_true rfl) (fun t7 => ?_)
          refine gg_join (fun t8 => [(1, vr x1), (2, vr x2), (3, vr x3), (4, vi y1), (6, vi y4)]) (fun t8 => [vi t8, vi y3]) 49 0 0 (fun κ41 hJ41 => ?_) ?_
          · refine gg_ic_ge (S := sX0_moveBehind) (tgt := 48) 44 rfl dX0_moveBehind_41 (by decide) ?_ ?_
            · refine gg_iconst (S := sX0_moveBehind) 45 rfl dX0_moveBehind_44 ?_
              refine gg_goto (S := sX0_moveBehind) (tgt := 49) dX0_moveBehind_45 (by decide) ?_
              exact gg_pure (gg_sub [0, 1, 2, 3, 5] rfl (hJ41 1))
            · refine gg_iconst (S := sX0_moveBehind) 49 rfl dX0_moveBehind_48 ?_
              exact gg_pure (gg_sub [0, 1, 2, 3, 5] rfl (hJ41 0))
          · intro t8
            refine gg_iadd (S := sX0_moveBehind) 50 rfl dX0_moveBehind_49 ?_
            refine gg_istore (S := sX0_moveBehind) (L' := [(5, vi (y3 + t8)), (1, vr x1), (2, vr x2), (3, vr x3), (4, vi y1), (6, vi y4)]) 52 rfl dX0_moveBehind_50 (by decide) rfl ?_
            refine gg_iinc (S := sX0_moveBehind) (L' := [(6, vi (y4 + 1)), (5, vi (y3 + t8)), (1, vr x1), (2, vr x2), (3, vr x3), (4, vi y1)]) 5 55 rfl dX0_moveBehind_52 rfl (by decide) rfl ?_
            refine gg_goto (S := sX0_moveBehind) (tgt := 18) dX0_moveBehind_55 (by decide) ?_
            exact gg_pure (gg_sub [2, 3, 4, 5, 1, 0] rfl (hr18 ((y3 + t8), (y4 + 1))))
        · exact gg_pure (gg_sub [0, 1, 2, 3, 4] rfl (he18 y3))
      · intro t12
        refine gg_aload_n (S := sX0_moveBehind) 2 59 rfl dX0_moveBehind_58 rfl rfl ?_
        refine gg_aload_n (S := sX0_moveBehind) 0 60 rfl dX0_moveBehind_59 rfl rfl ?_
        refine gg_iload (S := sX0_moveBehind) 3 62 rfl dX0_moveBehind_60 rfl ?_
        refine gg_aload_n (S := sX0_moveBehind) 0 63 rfl dX0_moveBehind_62 rfl rfl ?_
        refine gg_iload (S := sX0_moveBehind) 3 65 rfl dX0_moveBehind_63 rfl ?_
        refine gg_callVi (S := sX0_moveBehind) (S' := sX3_begins) (cs := 0) (sl := 0) (As := [vi y1]) (st := [vi y1, vr x1, vr x3]) 68 rfl (fun b16 => lkX3_begins b16 y1) mwX3_begins rfl mlX0_79 dX0_moveBehind_65 cfX3 ⟨by decide, by decide⟩ 0 0 ⟨rfl, rfl⟩ ⟨by decide, by decide⟩ (Nat.le_of_ble_eq_true rfl) (fun t13 => ?_)
        refine gg_aload_n (S := sX0_moveBehind) 1 69 rfl dX0_moveBehind_68 rfl rfl ?_
        refine gg_iload (S := sX0_moveBehind) 4 71 rfl dX0_moveBehind_69 rfl ?_
        refine gg_callVi (S := sX0_moveBehind) (S' := sX3_shiftBefore) (cs := 0) (sl := 0) (As := [vi t12]) (st := [vi t13, vi y1, vr x1, vr x3]) 74 rfl (fun b15 => lkX3_shiftBefore b15 t12) mwX3_shiftBefore rfl mlX0_58 dX0_moveBehind_71 cfX3 ⟨by decide, by decide⟩ 0 0 ⟨rfl, rfl⟩ ⟨by decide, by decide⟩ (Nat.le_of_ble_eq_true rfl) (fun t14 => ?_)
        refine gg_iadd (S := sX0_moveBehind) 75 rfl dX0_moveBehind_74 ?_
        refine gg_callVv (S := sX0_moveBehind) (S' := sX3_addHunk) (cs := 0) (sl := 0) (As := [vr x1, vi y1, vi (t13 + t14)]) (st := []) 78 rfl (fun b14 => lkX3_addHunk b14 x1 y1 (t13 + t14)) mwX3_addHunk rfl mlX0_82 dX0_moveBehind_75 cfX3 ⟨by decide, by decide⟩ 0 0 ⟨rfl, rfl⟩ ⟨by decide, by decide⟩ (Nat.le_of_ble_eq_true rfl) (fun _ => ?_)
        refine gg_iinc (S := sX0_moveBehind) (L' := [(4, vi (y1 + 1)), (1, vr x1), (2, vr x2), (3, vr x3), (5, vi t12)]) 3 81 rfl dX0_moveBehind_78 rfl (by decide) rfl ?_
        refine gg_goto (S := sX0_moveBehind) (tgt := 3) dX0_moveBehind_81 (by decide) ?_
        exact gg_pure (gg_sub [1, 2, 3, 0] rfl (hr3 (y1 + 1)))
    · exact gg_pure (gg_sub [] rfl (he3 ()))
  · intro _
    exact gg_pure (gg_vret (S := sX0_moveBehind) rfl dX0_moveBehind_84 (by decide) (by decide))

set_option maxRecDepth 100000 in
set_option maxHeartbeats 4000000 in
theorem lkX0_writeComing (x0 : Nat) (x1 : Option Nat) (x2 : Option Nat) (x3 : Option Nat) : LK yX0_writeComing sX0_writeComing [vr (some x0), vr x1, vr x2, vr x3] en_v (X0_writeComing x0 x1 x2 x3) := by
  refine lk_go (L := [(0, vr (some x0)), (1, vr x1), (2, vr x2), (3, vr x3)]) (by decide +kernel) rfl (fun h => by cases h) (Nat.le_of_ble_eq_true rfl) rfl ?_
  intro K
  unfold X0_writeComing
  refine gg_aload_n (S := sX0_writeComing) 0 1 rfl dX0_writeComing_0 rfl rfl ?_
  refine gg_gi (S := sX0_writeComing) cfX0 (by decide) (fun _ _ => rfl) 4 rfl flX0_52 dX0_writeComing_1 (fun t1 => ?_)
  refine gg_istore (S := sX0_writeComing) (L' := [(4, vi t1), (0, vr (some x0)), (1, vr x1), (2, vr x2), (3, vr x3)]) 6 rfl dX0_writeComing_4 (by decide) rfl ?_
  refine gg_aload_n (S := sX0_writeComing) 1 7 rfl dX0_writeComing_6 rfl rfl ?_
  refine gg_gi (S := sX0_writeComing) cfX0 (by decide) (fun _ _ => rfl) 10 rfl flX0_86 dX0_writeComing_7 (fun t2 => ?_)
  refine gg_istore (S := sX0_writeComing) (L' := [(5, vi t2), (4, vi t1), (0, vr (some x0)), (1, vr x1), (2, vr x2), (3, vr x3)]) 12 rfl dX0_writeComing_10 (by decide) rfl ?_
  refine gg_sub [2, 3, 4, 5, 1, 0] rfl ?_
  refine gg_loopA (fun (y3, y4) => [(0, vr (some x0)), (1, vr x1), (2, vr x2), (3, vr x3), (4, vi y3), (5, vi y4)]) (fun t12 => [(0, vr (some x0)), (1, vr x1), (3, vr x3), (4, vi t12)]) 55 mo_N ?_ ?_ (t1, t2)
  · intro κ12 hr12 he12
    rintro ⟨y3, y4⟩
    dsimp only [X0_writeComing_L12]
    refine gg_iload (S := sX0_writeComing) 5 14 rfl dX0_writeComing_12 rfl ?_
    refine gg_aload_n (S := sX0_writeComing) 0 15 rfl dX0_writeComing_14 rfl rfl ?_
    refine gg_gi (S := sX0_writeComing) cfX0 (by decide) (fun _ _ => rfl) 18 rfl flX0_45 dX0_writeComing_15 (fun t5 => ?_)
    refine gg_ic_ge (S := sX0_writeComing) (tgt := 55) 21 rfl dX0_writeComing_18 (by decide) ?_ ?_
    · refine gg_aload_n (S := sX0_writeComing) 1 22 rfl dX0_writeComing_21 rfl rfl ?_
      refine gg_iload (S := sX0_writeComing) 4 24 rfl dX0_writeComing_22 rfl ?_
      refine gg_aload_n (S := sX0_writeComing) 2 25 rfl dX0_writeComing_24 rfl rfl ?_
      refine gg_iload (S := sX0_writeComing) 5 27 rfl dX0_writeComing_25 rfl ?_
      refine gg_callVi (S := sX0_writeComing) (S' := sX3_begins) (cs := 0) (sl := 0) (As := [vi y4]) (st := [vi y3, vr x1]) 30 rfl (fun b10 => lkX3_begins b10 y4) mwX3_begins rfl mlX0_79 dX0_writeComing_27 cfX3 ⟨by decide, by decide⟩ 0 0 ⟨rfl, rfl⟩ ⟨by decide, by decide⟩ (Nat.le_of_ble_eq_true rfl) (fun t6 => ?_)
      refine gg_aload_n (S := sX0_writeComing) 3 31 rfl dX0_writeComing_30 rfl rfl ?_
      refine gg_callSv (S := sX0_writeComing) (S' := sX0_addBrought) (cs := 0) (sl := 0) (As := [vr x1, vi y3, vi t6, vr x3]) (st := []) 34 rfl (lkX0_addBrought x1 y3 t6 x3) mwX0_addBrought rfl mlX0_108 dX0_writeComing_31 ⟨by decide, by decide⟩ 0 0 ⟨rfl, rfl⟩ ⟨by decide, by decide⟩ (Nat.le_of_ble_eq_true rfl) (fun _ => ?_)
      refine gg_aload_n (S := sX0_writeComing) 3 35 rfl dX0_writeComing_34 rfl rfl ?_
      refine gg_aload_n (S := sX0_writeComing) 2 36 rfl dX0_writeComing_35 rfl rfl ?_
      refine gg_iload (S := sX0_writeComing) 5 38 rfl dX0_writeComing_36 rfl ?_
      refine gg_callVv (S := sX0_writeComing) (S' := sX3_addComingOf) (cs := 0) (sl := 0) (As := [vr x2, vi y4]) (st := []) 41 rfl (fun b8 => lkX3_addComingOf b8 x2 y4) mwX3_addComingOf rfl mlX0_111 dX0_writeComing_38 cfX3 ⟨by decide, by decide⟩ 0 0 ⟨rfl, rfl⟩ ⟨by decide, by decide⟩ (Nat.le_of_ble_eq_true rfl) (fun _ => ?_)
      refine gg_aload_n (S := sX0_writeComing) 2 42 rfl dX0_writeComing_41 rfl rfl ?_
      refine gg_iload (S := sX0_writeComing) 5 44 rfl dX0_writeComing_42 rfl ?_
      refine gg_callVi (S := sX0_writeComing) (S' := sX3_ends) (cs := 0) (sl := 0) (As := [vi y4]) (st := []) 47 rfl (fun b7 => lkX3_ends b7 y4) mwX3_ends rfl mlX0_97 dX0_writeComing_44 cfX3 ⟨by decide, by decide⟩ 0 0 ⟨rfl, rfl⟩ ⟨by decide, by decide⟩ (Nat.le_of_ble_eq_true rfl) (fun t7 => ?_)
      refine gg_istore (S := sX0_writeComing) (L' := [(4, vi t7), (0, vr (some x0)), (1, vr x1), (2, vr x2), (3, vr x3), (5, vi y4)]) 49 rfl dX0_writeComing_47 (by decide) rfl ?_
      refine gg_iinc (S := sX0_writeComing) (L' := [(5, vi (y4 + 1)), (4, vi t7), (0, vr (some x0)), (1, vr x1), (2, vr x2), (3, vr x3)]) 5 52 rfl dX0_writeComing_49 rfl (by decide) rfl ?_
      refine gg_goto (S := sX0_writeComing) (tgt := 12) dX0_writeComing_52 (by decide) ?_
      exact gg_pure (gg_sub [2, 3, 4, 5, 1, 0] rfl (hr12 (t7, (y4 + 1))))
    · exact gg_pure (gg_sub [0, 1, 3, 4] rfl (he12 y3))
  · intro t12
    refine gg_aload_n (S := sX0_writeComing) 1 56 rfl dX0_writeComing_55 rfl rfl ?_
    refine gg_iload (S := sX0_writeComing) 3 58 rfl dX0_writeComing_56 rfl ?_
    refine gg_aload_n (S := sX0_writeComing) 0 59 rfl dX0_writeComing_58 rfl rfl ?_
    refine gg_gi (S := sX0_writeComing) cfX0 (by decide) (fun _ _ => rfl) 62 rfl flX0_89 dX0_writeComing_59 (fun t13 => ?_)
    refine gg_aload_n (S := sX0_writeComing) 2 63 rfl dX0_writeComing_62 rfl rfl ?_
    refine gg_callSv (S := sX0_writeComing) (S' := sX0_addBrought) (cs := 0) (sl := 0) (As := [vr x1, vi t12, vi t13, vr x3]) (st := []) 66 rfl (lkX0_addBrought x1 t12 t13 x3) mwX0_addBrought rfl mlX0_108 dX0_writeComing_63 ⟨by decide, by decide⟩ 0 0 ⟨rfl, rfl⟩ ⟨by decide, by decide⟩ (Nat.le_of_ble_eq_true rfl) (fun _ => ?_)
    exact gg_pure (gg_vret (S := sX0_writeComing) rfl dX0_writeComing_66 (by decide) (by decide))

set_option maxRecDepth 100000 in
set_option maxHeartbeats 4000000 in
theorem lkX0_writeGoing (x0 : Nat) (x1 : Option Nat) (x2 : Option Nat) (x3 : Option Nat) : LK yX0_writeGoing sX0_writeGoing [vr (some x0), vr x1, vr x2, vr x3] en_v (X0_writeGoing x0 x1 x2 x3) := by
  refine lk_go (L := [(0, vr (some x0)), (1, vr x1), (2, vr x2), (3, vr x3)]) (by decide +kernel) rfl (fun h => by cases h) (Nat.le_of_ble_eq_true rfl) rfl ?_
  intro K
  unfold X0_writeGoing
  refine gg_aload_n (S := sX0_writeGoing) 0 1 rfl dX0_writeGoing_0 rfl rfl ?_
  refine gg_gi (S := sX0_writeGoing) cfX0 (by decide) (fun _ _ => rfl) 4 rfl flX0_52 dX0_writeGoing_1 (fun t1 => ?_)
  refine gg_istore (S := sX0_writeGoing) (L' := [(4, vi t1), (0, vr (some x0)), (1, vr x1), (2, vr x2), (3, vr x3)]) 6 rfl dX0_writeGoing_4 (by decide) rfl ?_
  refine gg_aload_n (S := sX0_writeGoing) 1 7 rfl dX0_writeGoing_6 rfl rfl ?_
  refine gg_gi (S := sX0_writeGoing) cfX0 (by decide) (fun _ _ => rfl) 10 rfl flX0_55 dX0_writeGoing_7 (fun t2 => ?_)
  refine gg_istore (S := sX0_writeGoing) (L' := [(5, vi t2), (4, vi t1), (0, vr (some x0)), (1, vr x1), (2, vr x2), (3, vr x3)]) 12 rfl dX0_writeGoing_10 (by decide) rfl ?_
  refine gg_sub [2, 3, 4, 5, 1, 0] rfl ?_
  refine gg_loopA (fun (y3, y4) => [(0, vr (some x0)), (1, vr x1), (2, vr x2), (3, vr x3), (4, vi y3), (5, vi y4)]) (fun t12 => [(0, vr (some x0)), (2, vr x2), (3, vr x3), (4, vi t12)]) 55 mo_N ?_ ?_ (t1, t2)
  · intro κ12 hr12 he12
    rintro ⟨y3, y4⟩
    dsimp only [X0_writeGoing_L12]
    refine gg_iload (S := sX0_writeGoing) 5 14 rfl dX0_writeGoing_12 rfl ?_
    refine gg_aload_n (S := sX0_writeGoing) 0 15 rfl dX0_writeGoing_14 rfl rfl ?_
    refine gg_gi (S := sX0_writeGoing) cfX0 (by decide) (fun _ _ => rfl) 18 rfl flX0_39 dX0_writeGoing_15 (fun t5 => ?_)
    refine gg_ic_ge (S := sX0_writeGoing) (tgt := 55) 21 rfl dX0_writeGoing_18 (by decide) ?_ ?_
    · refine gg_aload_n (S := sX0_writeGoing) 2 22 rfl dX0_writeGoing_21 rfl rfl ?_
      refine gg_iload (S := sX0_writeGoing) 4 24 rfl dX0_writeGoing_22 rfl ?_
      refine gg_aload_n (S := sX0_writeGoing) 1 25 rfl dX0_writeGoing_24 rfl rfl ?_
      refine gg_iload (S := sX0_writeGoing) 5 27 rfl dX0_writeGoing_25 rfl ?_
      refine gg_callVi (S := sX0_writeGoing) (S' := sX3_beginsBehind) (cs := 0) (sl := 0) (As := [vi y4]) (st := [vi y3, vr x2]) 30 rfl (fun b10 => lkX3_beginsBehind b10 y4) mwX3_beginsBehind rfl mlX0_19 dX0_writeGoing_27 cfX3 ⟨by decide, by decide⟩ 0 0 ⟨rfl, rfl⟩ ⟨by decide, by decide⟩ (Nat.le_of_ble_eq_true rfl) (fun t6 => ?_)
      refine gg_aload_n (S := sX0_writeGoing) 3 31 rfl dX0_writeGoing_30 rfl rfl ?_
      refine gg_callSv (S := sX0_writeGoing) (S' := sX0_addTaken) (cs := 0) (sl := 0) (As := [vr x2, vi y3, vi t6, vr x3]) (st := []) 34 rfl (lkX0_addTaken x2 y3 t6 x3) mwX0_addTaken rfl mlX0_100 dX0_writeGoing_31 ⟨by decide, by decide⟩ 0 0 ⟨rfl, rfl⟩ ⟨by decide, by decide⟩ (Nat.le_of_ble_eq_true rfl) (fun _ => ?_)
      refine gg_aload_n (S := sX0_writeGoing) 3 35 rfl dX0_writeGoing_34 rfl rfl ?_
      refine gg_aload_n (S := sX0_writeGoing) 1 36 rfl dX0_writeGoing_35 rfl rfl ?_
      refine gg_iload (S := sX0_writeGoing) 5 38 rfl dX0_writeGoing_36 rfl ?_
      refine gg_callVv (S := sX0_writeGoing) (S' := sX3_addGoingOf) (cs := 0) (sl := 0) (As := [vr x1, vi y4]) (st := []) 41 rfl (fun b8 => lkX3_addGoingOf b8 x1 y4) mwX3_addGoingOf rfl mlX0_104 dX0_writeGoing_38 cfX3 ⟨by decide, by decide⟩ 0 0 ⟨rfl, rfl⟩ ⟨by decide, by decide⟩ (Nat.le_of_ble_eq_true rfl) (fun _ => ?_)
      refine gg_aload_n (S := sX0_writeGoing) 1 42 rfl dX0_writeGoing_41 rfl rfl ?_
      refine gg_iload (S := sX0_writeGoing) 5 44 rfl dX0_writeGoing_42 rfl ?_
      refine gg_callVi (S := sX0_writeGoing) (S' := sX3_endsBehind) (cs := 0) (sl := 0) (As := [vi y4]) (st := []) 47 rfl (fun b7 => lkX3_endsBehind b7 y4) mwX3_endsBehind rfl mlX0_29 dX0_writeGoing_44 cfX3 ⟨by decide, by decide⟩ 0 0 ⟨rfl, rfl⟩ ⟨by decide, by decide⟩ (Nat.le_of_ble_eq_true rfl) (fun t7 => ?_)
      refine gg_istore (S := sX0_writeGoing) (L' := [(4, vi t7), (0, vr (some x0)), (1, vr x1), (2, vr x2), (3, vr x3), (5, vi y4)]) 49 rfl dX0_writeGoing_47 (by decide) rfl ?_
      refine gg_iinc (S := sX0_writeGoing) (L' := [(5, vi (y4 + 1)), (4, vi t7), (0, vr (some x0)), (1, vr x1), (2, vr x2), (3, vr x3)]) 5 52 rfl dX0_writeGoing_49 rfl (by decide) rfl ?_
      refine gg_goto (S := sX0_writeGoing) (tgt := 12) dX0_writeGoing_52 (by decide) ?_
      exact gg_pure (gg_sub [2, 3, 4, 5, 1, 0] rfl (hr12 (t7, (y4 + 1))))
    · exact gg_pure (gg_sub [0, 2, 3, 4] rfl (he12 y3))
  · intro t12
    refine gg_aload_n (S := sX0_writeGoing) 1 56 rfl dX0_writeGoing_55 rfl rfl ?_
    refine gg_iload (S := sX0_writeGoing) 3 58 rfl dX0_writeGoing_56 rfl ?_
    refine gg_aload_n (S := sX0_writeGoing) 0 59 rfl dX0_writeGoing_58 rfl rfl ?_
    refine gg_gi (S := sX0_writeGoing) cfX0 (by decide) (fun _ _ => rfl) 62 rfl flX0_89 dX0_writeGoing_59 (fun t13 => ?_)
    refine gg_aload_n (S := sX0_writeGoing) 2 63 rfl dX0_writeGoing_62 rfl rfl ?_
    refine gg_callSv (S := sX0_writeGoing) (S' := sX0_addTaken) (cs := 0) (sl := 0) (As := [vr x2, vi t12, vi t13, vr x3]) (st := []) 66 rfl (lkX0_addTaken x2 t12 t13 x3) mwX0_addTaken rfl mlX0_100 dX0_writeGoing_63 ⟨by decide, by decide⟩ 0 0 ⟨rfl, rfl⟩ ⟨by decide, by decide⟩ (Nat.le_of_ble_eq_true rfl) (fun _ => ?_)
    exact gg_pure (gg_vret (S := sX0_writeGoing) rfl dX0_writeGoing_66 (by decide) (by decide))

set_option maxRecDepth 100000 in
set_option maxHeartbeats 4000000 in
theorem lkX3_clear (x0 : Nat) : LK yX3_clear sX3_clear [vr (some x0)] en_v (X3_clear x0) := by
  refine lk_go (L := [(0, vr (some x0))]) (by decide +kernel) rfl (fun h => by cases h) (Nat.le_of_ble_eq_true rfl) rfl ?_
  intro K
  unfold X3_clear
  refine gg_aload_n (S := sX3_clear) 0 1 rfl dX3_clear_0 rfl rfl ?_
  refine gg_iconst (S := sX3_clear) 2 rfl dX3_clear_1 ?_
  refine gg_si (S := sX3_clear) cfX3 (by decide) rfl (fun _ _ => rfl) rfl 5 rfl flX3_33 dX3_clear_2 ?_
  exact gg_pure (gg_vret (S := sX3_clear) rfl dX3_clear_5 (by decide) (by decide))

set_option maxRecDepth 100000 in
set_option maxHeartbeats 4000000 in
theorem lkX3_lastIsIdle (x0 : Nat) : LK yX3_lastIsIdle sX3_lastIsIdle [vr (some x0)] en_i (X3_lastIsIdle x0) := by
  refine lk_go (L := [(0, vr (some x0))]) (by decide +kernel) rfl (fun h => by cases h) (Nat.le_of_ble_eq_true rfl) rfl ?_
  intro K
  unfold X3_lastIsIdle
  refine gg_aload_n (S := sX3_lastIsIdle) 0 1 rfl dX3_lastIsIdle_0 rfl rfl ?_
  refine gg_gi (S := sX3_lastIsIdle) cfX3 (by decide) (fun _ _ => rfl) 4 rfl flX3_33 dX3_lastIsIdle_1 (fun t1 => ?_)
  refine gg_iconst (S := sX3_lastIsIdle) 5 rfl dX3_lastIsIdle_4 ?_
  refine gg_isub (S := sX3_lastIsIdle) 6 rfl dX3_lastIsIdle_5 ?_
  refine gg_istore_n (S := sX3_lastIsIdle) (L' := [(1, vi (t1 - 1)), (0, vr (some x0))]) 7 rfl dX3_lastIsIdle_6 rfl (by decide) rfl ?_
  refine gg_aload_n (S := sX3_lastIsIdle) 1 8 rfl dX3_lastIsIdle_7 rfl rfl ?_
  refine gg_iload_n (S := sX3_lastIsIdle) 0 9 rfl dX3_lastIsIdle_8 rfl rfl ?_
  refine gg_callVi (S := sX3_lastIsIdle) (S' := sX3_going) (cs := 0) (sl := 0) (As := [vi (t1 - 1)]) (st := []) 12 rfl (fun b16 => lkX3_going b16 (t1 - 1)) mwX3_going rfl mlX3_48 dX3_lastIsIdle_9 cfX3 ⟨by decide, by decide⟩ 0 0 ⟨rfl, rfl⟩ ⟨by decide, by decide⟩ (Nat.le_of_ble_eq_true rfl) (fun t2 => ?_)
  refine gg_aload_n (S := sX3_lastIsIdle) 1 13 rfl dX3_lastIsIdle_12 rfl rfl ?_
  refine gg_iload_n (S := sX3_lastIsIdle) 0 14 rfl dX3_lastIsIdle_13 rfl rfl ?_
  refine gg_callVi (S := sX3_lastIsIdle) (S' := sX3_coming) (cs := 0) (sl := 0) (As := [vi (t1 - 1)]) (st := [vi t2]) 17 rfl (fun b15 => lkX3_coming b15 (t1 - 1)) mwX3_coming rfl mlX3_51 dX3_lastIsIdle_14 cfX3 ⟨by decide, by decide⟩ 0 0 ⟨rfl, rfl⟩ ⟨by decide, by decide⟩ (Nat.le_of_ble_eq_true rfl) (fun t3 => ?_)
  refine gg_join (fun t4 => [(0, vr (some x0)), (1, vi (t1 - 1))]) (fun t4 => [vi t4]) 25 0 0 (fun κ17 hJ17 => ?_) ?_
  · refine gg_ic_ne (S := sX3_lastIsIdle) (tgt := 24) 20 rfl dX3_lastIsIdle_17 (by decide) ?_ ?_
    · refine gg_iconst (S := sX3_lastIsIdle) 21 rfl dX3_lastIsIdle_20 ?_
      refine gg_goto (S := sX3_lastIsIdle) (tgt := 25) dX3_lastIsIdle_21 (by decide) ?_
      exact gg_pure (gg_sub [1, 0] rfl (hJ17 1))
    · refine gg_iconst (S := sX3_lastIsIdle) 25 rfl dX3_lastIsIdle_24 ?_
      exact gg_pure (gg_sub [1, 0] rfl (hJ17 0))
  · intro t4
    refine gg_istore_n (S := sX3_lastIsIdle) (L' := [(2, vi t4), (0, vr (some x0)), (1, vi (t1 - 1))]) 26 rfl dX3_lastIsIdle_25 rfl (by decide) rfl ?_
    refine gg_iconst (S := sX3_lastIsIdle) 27 rfl dX3_lastIsIdle_26 ?_
    refine gg_istore_n (S := sX3_lastIsIdle) (L' := [(3, vi 0), (2, vi t4), (0, vr (some x0)), (1, vi (t1 - 1))]) 28 rfl dX3_lastIsIdle_27 rfl (by decide) rfl ?_
    refine gg_sub [2, 3, 1, 0] rfl ?_
    refine gg_loopA (fun (y5, y6) => [(0, vr (some x0)), (1, vi (t1 - 1)), (2, vi y5), (3, vi y6)]) (fun t14 => [(2, vi t14)]) 68 mo_N ?_ ?_ (t4, 0)
    · intro κ28 hr28 he28
      rintro ⟨y5, y6⟩
      dsimp only [X3_lastIsIdle_L28]
      refine gg_iload_n (S := sX3_lastIsIdle) 3 29 rfl dX3_lastIsIdle_28 rfl rfl ?_
      refine gg_aload_n (S := sX3_lastIsIdle) 0 30 rfl dX3_lastIsIdle_29 rfl rfl ?_
      refine gg_iload_n (S := sX3_lastIsIdle) 1 31 rfl dX3_lastIsIdle_30 rfl rfl ?_
      refine gg_callVi (S := sX3_lastIsIdle) (S' := sX3_going) (cs := 0) (sl := 0) (As := [vi (t1 - 1)]) (st := [vi y6]) 34 rfl (fun b12 => lkX3_going b12 (t1 - 1)) mwX3_going rfl mlX3_48 dX3_lastIsIdle_31 cfX3 ⟨by decide, by decide⟩ 0 0 ⟨rfl, rfl⟩ ⟨by decide, by decide⟩ (Nat.le_of_ble_eq_true rfl) (fun t7 => ?_)
      refine gg_ic_ge (S := sX3_lastIsIdle) (tgt := 68) 37 rfl dX3_lastIsIdle_34 (by decide) ?_ ?_
      · refine gg_iload_n (S := sX3_lastIsIdle) 2 38 rfl dX3_lastIsIdle_37 rfl rfl ?_
        refine gg_join (fun t12 => [(0, vr (some x0)), (1, vi (t1 - 1)), (3, vi y6)]) (fun t12 => [vi t12]) 61 0 0 (fun κ38 hJ38 => ?_) ?_
        · refine gg_if_eq (S := sX3_lastIsIdle) (tgt := 60) 41 rfl dX3_lastIsIdle_38 (by decide) ?_ ?_
          · refine gg_iconst (S := sX3_lastIsIdle) 61 rfl dX3_lastIsIdle_60 ?_
            exact gg_pure (gg_sub [0, 1, 3] rfl (hJ38 0))
          · refine gg_aload_n (S := sX3_lastIsIdle) 0 42 rfl dX3_lastIsIdle_41 rfl rfl ?_
            refine gg_iload_n (S := sX3_lastIsIdle) 1 43 rfl dX3_lastIsIdle_42 rfl rfl ?_
            refine gg_iload_n (S := sX3_lastIsIdle) 3 44 rfl dX3_lastIsIdle_43 rfl rfl ?_
            refine gg_callVi (S := sX3_lastIsIdle) (S' := sX3_goingLine) (cs := 0) (sl := 0) (As := [vi (t1 - 1), vi y6]) (st := []) 47 rfl (fun b10 => lkX3_goingLine b10 (t1 - 1) y6) mwX3_goingLine rfl mlX3_89 dX3_lastIsIdle_44 cfX3 ⟨by decide, by decide⟩ 0 0 ⟨rfl, rfl⟩ ⟨by decide, by decide⟩ (Nat.le_of_ble_eq_true rfl) (fun t8 => ?_)
            refine gg_aload_n (S := sX3_lastIsIdle) 0 48 rfl dX3_lastIsIdle_47 rfl rfl ?_
            refine gg_iload_n (S := sX3_lastIsIdle) 1 49 rfl dX3_lastIsIdle_48 rfl rfl ?_
            refine gg_iload_n (S := sX3_lastIsIdle) 3 50 rfl dX3_lastIsIdle_49 rfl rfl ?_
            refine gg_callVi (S := sX3_lastIsIdle) (S' := sX3_comingLine) (cs := 0) (sl := 0) (As := [vi (t1 - 1), vi y6]) (st := [vi t8]) 53 rfl (fun b9 => lkX3_comingLine b9 (t1 - 1) y6) mwX3_comingLine rfl mlX3_92 dX3_lastIsIdle_50 cfX3 ⟨by decide, by decide⟩ 0 0 ⟨rfl, rfl⟩ ⟨by decide, by decide⟩ (Nat.le_of_ble_eq_true rfl) (fun t9 => ?_)
            refine gg_ic_ne (S := sX3_lastIsIdle) (tgt := 60) 56 rfl dX3_lastIsIdle_53 (by decide) ?_ ?_
            · refine gg_iconst (S := sX3_lastIsIdle) 57 rfl dX3_lastIsIdle_56 ?_
              refine gg_goto (S := sX3_lastIsIdle) (tgt := 61) dX3_lastIsIdle_57 (by decide) ?_
              exact gg_pure (gg_sub [0, 1, 3] rfl (hJ38 1))
            · refine gg_iconst (S := sX3_lastIsIdle) 61 rfl dX3_lastIsIdle_60 ?_
              exact gg_pure (gg_sub [0, 1, 3] rfl (hJ38 0))
        · intro t12
          refine gg_istore_n (S := sX3_lastIsIdle) (L' := [(2, vi t12), (0, vr (some x0)), (1, vi (t1 - 1)), (3, vi y6)]) 62 rfl dX3_lastIsIdle_61 rfl (by decide) rfl ?_
          refine gg_iinc (S := sX3_lastIsIdle) (L' := [(3, vi (y6 + 1)), (2, vi t12), (0, vr (some x0)), (1, vi (t1 - 1))]) 3 65 rfl dX3_lastIsIdle_62 rfl (by decide) rfl ?_
          refine gg_goto (S := sX3_lastIsIdle) (tgt := 28) dX3_lastIsIdle_65 (by decide) ?_
          exact gg_pure (gg_sub [2, 3, 1, 0] rfl (hr28 (t12, (y6 + 1))))
      · exact gg_pure (gg_sub [2] rfl (he28 y5))
    · intro t14
      refine gg_iload_n (S := sX3_lastIsIdle) 0 69 rfl dX3_lastIsIdle_68 rfl rfl ?_
      exact gg_zret (S := sX3_lastIsIdle) (fun _ => rfl) rfl dX3_lastIsIdle_69 (by decide) (by decide)

set_option maxRecDepth 100000 in
set_option maxHeartbeats 4000000 in
theorem lkX3_leaveOutLast (x0 : Nat) : LK yX3_leaveOutLast sX3_leaveOutLast [vr (some x0)] en_v (X3_leaveOutLast x0) := by
  refine lk_go (L := [(0, vr (some x0))]) (by decide +kernel) rfl (fun h => by cases h) (Nat.le_of_ble_eq_true rfl) rfl ?_
  intro K
  unfold X3_leaveOutLast
  refine gg_aload_n (S := sX3_leaveOutLast) 0 1 rfl dX3_leaveOutLast_0 rfl rfl ?_
  refine gg_aload_n (S := sX3_leaveOutLast) 0 2 rfl dX3_leaveOutLast_1 rfl rfl ?_
  refine gg_gi (S := sX3_leaveOutLast) cfX3 (by decide) (fun _ _ => rfl) 5 rfl flX3_33 dX3_leaveOutLast_2 (fun t1 => ?_)
  refine gg_iconst (S := sX3_leaveOutLast) 6 rfl dX3_leaveOutLast_5 ?_
  refine gg_isub (S := sX3_leaveOutLast) 7 rfl dX3_leaveOutLast_6 ?_
  refine gg_iconst (S := sX3_leaveOutLast) 8 rfl dX3_leaveOutLast_7 ?_
  refine gg_mmax (S := sX3_leaveOutLast) 11 rfl mlX3_9 ms_max iiJ9 mc_max dX3_leaveOutLast_8 (by decide) (Nat.le_of_ble_eq_true rfl) (by decide) (by decide) (fun t2 => ?_)
  refine gg_si (S := sX3_leaveOutLast) cfX3 (by decide) rfl (fun _ _ => rfl) rfl 14 rfl flX3_33 dX3_leaveOutLast_11 ?_
  exact gg_pure (gg_vret (S := sX3_leaveOutLast) rfl dX3_leaveOutLast_14 (by decide) (by decide))

set_option maxRecDepth 100000 in
set_option maxHeartbeats 4000000 in
theorem lkX0_putTogether (x0 : Nat) (x1 : Option Nat) (x2 : Option Nat) (x3 : Option Nat) : LK yX0_putTogether sX0_putTogether [vr (some x0), vr x1, vr x2, vr x3] en_v (X0_putTogether x0 x1 x2 x3) := by
  refine lk_go (L := [(0, vr (some x0)), (1, vr x1), (2, vr x2), (3, vr x3)]) (by decide +kernel) rfl (fun h => by cases h) (Nat.le_of_ble_eq_true rfl) rfl ?_
  intro K
  unfold X0_putTogether
  refine gg_aload_n (S := sX0_putTogether) 3 1 rfl dX0_putTogether_0 rfl rfl ?_
  refine gg_callVv (S := sX0_putTogether) (S' := sX3_clear) (cs := 0) (sl := 0) (As := []) (st := []) 4 rfl (fun b33 => lkX3_clear b33) mwX3_clear rfl mlX0_36 dX0_putTogether_1 cfX3 ⟨by decide, by decide⟩ 0 0 ⟨rfl, rfl⟩ ⟨by decide, by decide⟩ (Nat.le_of_ble_eq_true rfl) (fun _ => ?_)
  refine gg_aload_n (S := sX0_putTogether) 0 5 rfl dX0_putTogether_4 rfl rfl ?_
  refine gg_iconst (S := sX0_putTogether) 6 rfl dX0_putTogether_5 ?_
  refine gg_si (S := sX0_putTogether) cfX0 (by decide) rfl (fun _ _ => rfl) rfl 9 rfl flX0_39 dX0_putTogether_6 ?_
  refine gg_aload_n (S := sX0_putTogether) 0 10 rfl dX0_putTogether_9 rfl rfl ?_
  refine gg_iconst (S := sX0_putTogether) 11 rfl dX0_putTogether_10 ?_
  refine gg_si (S := sX0_putTogether) cfX0 (by decide) rfl (fun _ _ => rfl) rfl 14 rfl flX0_45 dX0_putTogether_11 ?_
  refine gg_iconst (S := sX0_putTogether) 15 rfl dX0_putTogether_14 ?_
  refine gg_istore (S := sX0_putTogether) (L' := [(4, vi 0), (0, vr (some x0)), (1, vr x1), (2, vr x2), (3, vr x3)]) 17 rfl dX0_putTogether_15 (by decide) rfl ?_
  refine gg_sub [1, 2, 3, 4, 0] rfl ?_
  refine gg_loopA (fun y1 => [(0, vr (some x0)), (1, vr x1), (2, vr x2), (3, vr x3), (4, vi y1)]) (fun _ => []) 107 mo_N ?_ ?_ 0
  · intro κ17 hr17 he17
    intro y1
    dsimp only [X0_putTogether_L17]
    refine gg_iload (S := sX0_putTogether) 4 19 rfl dX0_putTogether_17 rfl ?_
    refine gg_aload_n (S := sX0_putTogether) 1 20 rfl dX0_putTogether_19 rfl rfl ?_
    refine gg_callVi (S := sX0_putTogether) (S' := sX3_hunks) (cs := 0) (sl := 0) (As := []) (st := [vi y1]) 23 rfl (fun b32 => lkX3_hunks b32) mwX3_hunks rfl mlX0_9 dX0_putTogether_20 cfX3 ⟨by decide, by decide⟩ 0 0 ⟨rfl, rfl⟩ ⟨by decide, by decide⟩ (Nat.le_of_ble_eq_true rfl) (fun t2 => ?_)
    refine gg_aload_n (S := sX0_putTogether) 2 24 rfl dX0_putTogether_23 rfl rfl ?_
    refine gg_callVi (S := sX0_putTogether) (S' := sX3_hunks) (cs := 0) (sl := 0) (As := []) (st := [vi t2, vi y1]) 27 rfl (fun b31 => lkX3_hunks b31) mwX3_hunks rfl mlX0_9 dX0_putTogether_24 cfX3 ⟨by decide, by decide⟩ 0 0 ⟨rfl, rfl⟩ ⟨by decide, by decide⟩ (Nat.le_of_ble_eq_true rfl) (fun t3 => ?_)
    refine gg_iadd (S := sX0_putTogether) 28 rfl dX0_putTogether_27 ?_
    refine gg_ic_ge (S := sX0_putTogether) (tgt := 107) 31 rfl dX0_putTogether_28 (by decide) ?_ ?_
    · refine gg_aload_n (S := sX0_putTogether) 0 32 rfl dX0_putTogether_31 rfl rfl ?_
      refine gg_gi (S := sX0_putTogether) cfX0 (by decide) (fun _ _ => rfl) 35 rfl flX0_39 dX0_putTogether_32 (fun t4 => ?_)
      refine gg_aload_n (S := sX0_putTogether) 1 36 rfl dX0_putTogether_35 rfl rfl ?_
      refine gg_callVi (S := sX0_putTogether) (S' := sX3_hunks) (cs := 0) (sl := 0) (As := []) (st := [vi t4]) 39 rfl (fun b30 => lkX3_hunks b30) mwX3_hunks rfl mlX0_9 dX0_putTogether_36 cfX3 ⟨by decide, by decide⟩ 0 0 ⟨rfl, rfl⟩ ⟨by decide, by decide⟩ (Nat.le_of_ble_eq_true rfl) (fun t5 => ?_)
      refine gg_join (fun _ => [(0, vr (some x0)), (1, vr x1), (2, vr x2), (3, vr x3), (4, vi y1)]) (fun _ => []) 101 0 0 (fun κ39 hJ39 => ?_) ?_
      · refine gg_ic_lt (S := sX0_putTogether) (tgt := 53) 42 rfl dX0_putTogether_39 (by decide) ?_ ?_
        · refine gg_aload_n (S := sX0_putTogether) 0 54 rfl dX0_putTogether_53 rfl rfl ?_
          refine gg_aload_n (S := sX0_putTogether) 1 55 rfl dX0_putTogether_54 rfl rfl ?_
          refine gg_aload_n (S := sX0_putTogether) 2 56 rfl dX0_putTogether_55 rfl rfl ?_
          refine gg_callVv (S := sX0_putTogether) (S' := sX0_gather) (cs := 0) (sl := 0) (As := [vr x1, vr x2]) (st := []) 59 rfl (fun b15 => lkX0_gather b15 x1 x2) mwX0_gather rfl mlX0_48 dX0_putTogether_56 cfX0 ⟨by decide, by decide⟩ 0 0 ⟨rfl, rfl⟩ ⟨by decide, by decide⟩ (Nat.le_of_ble_eq_true rfl) (fun _ => ?_)
          refine gg_aload_n (S := sX0_putTogether) 3 60 rfl dX0_putTogether_59 rfl rfl ?_
          refine gg_aload_n (S := sX0_putTogether) 0 61 rfl dX0_putTogether_60 rfl rfl ?_
          refine gg_gi (S := sX0_putTogether) cfX0 (by decide) (fun _ _ => rfl) 64 rfl flX0_52 dX0_putTogether_61 (fun t6 => ?_)
          refine gg_aload_n (S := sX0_putTogether) 1 65 rfl dX0_putTogether_64 rfl rfl ?_
          refine gg_aload_n (S := sX0_putTogether) 0 66 rfl dX0_putTogether_65 rfl rfl ?_
          refine gg_gi (S := sX0_putTogether) cfX0 (by decide) (fun _ _ => rfl) 69 rfl flX0_55 dX0_putTogether_66 (fun t7 => ?_)
          refine gg_callVi (S := sX0_putTogether) (S' := sX3_shiftBefore) (cs := 0) (sl := 0) (As := [vi t7]) (st := [vi t6, vr x3]) 72 rfl (fun b14 => lkX3_shiftBefore b14 t7) mwX3_shiftBefore rfl mlX0_58 dX0_putTogether_69 cfX3 ⟨by decide, by decide⟩ 0 0 ⟨rfl, rfl⟩ ⟨by decide, by decide⟩ (Nat.le_of_ble_eq_true rfl) (fun t8 => ?_)
          refine gg_isub (S := sX0_putTogether) 73 rfl dX0_putTogether_72 ?_
          refine gg_callVv (S := sX0_putTogether) (S' := sX3_begin) (cs := 0) (sl := 0) (As := [vi (t6 - t8)]) (st := []) 76 rfl (fun b13 => lkX3_begin b13 (t6 - t8)) mwX3_begin rfl mlX0_61 dX0_putTogether_73 cfX3 ⟨by decide, by decide⟩ 0 0 ⟨rfl, rfl⟩ ⟨by decide, by decide⟩ (Nat.le_of_ble_eq_true rfl) (fun _ => ?_)
          refine gg_aload_n (S := sX0_putTogether) 0 77 rfl dX0_putTogether_76 rfl rfl ?_
          refine gg_aload_n (S := sX0_putTogether) 1 78 rfl dX0_putTogether_77 rfl rfl ?_
          refine gg_aload_n (S := sX0_putTogether) 2 79 rfl dX0_putTogether_78 rfl rfl ?_
          refine gg_aload_n (S := sX0_putTogether) 3 80 rfl dX0_putTogether_79 rfl rfl ?_
          refine gg_callVv (S := sX0_putTogether) (S' := sX0_writeGoing) (cs := 0) (sl := 0) (As := [vr x1, vr x2, vr x3]) (st := []) 83 rfl (fun b12 => lkX0_writeGoing b12 x1 x2 x3) mwX0_writeGoing rfl mlX0_65 dX0_putTogether_80 cfX0 ⟨by decide, by decide⟩ 0 0 ⟨rfl, rfl⟩ ⟨by decide, by decide⟩ (Nat.le_of_ble_eq_true rfl) (fun _ => ?_)
          refine gg_aload_n (S := sX0_putTogether) 0 84 rfl dX0_putTogether_83 rfl rfl ?_
          refine gg_aload_n (S := sX0_putTogether) 1 85 rfl dX0_putTogether_84 rfl rfl ?_
          refine gg_aload_n (S := sX0_putTogether) 2 86 rfl dX0_putTogether_85 rfl rfl ?_
          refine gg_aload_n (S := sX0_putTogether) 3 87 rfl dX0_putTogether_86 rfl rfl ?_
          refine gg_callVv (S := sX0_putTogether) (S' := sX0_writeComing) (cs := 0) (sl := 0) (As := [vr x1, vr x2, vr x3]) (st := []) 90 rfl (fun b11 => lkX0_writeComing b11 x1 x2 x3) mwX0_writeComing rfl mlX0_69 dX0_putTogether_87 cfX0 ⟨by decide, by decide⟩ 0 0 ⟨rfl, rfl⟩ ⟨by decide, by decide⟩ (Nat.le_of_ble_eq_true rfl) (fun _ => ?_)
          refine gg_aload_n (S := sX0_putTogether) 3 91 rfl dX0_putTogether_90 rfl rfl ?_
          refine gg_callVi (S := sX0_putTogether) (S' := sX3_lastIsIdle) (cs := 0) (sl := 0) (As := []) (st := []) 94 rfl (fun b10 => lkX3_lastIsIdle b10) mwX3_lastIsIdle rfl mlX0_72 dX0_putTogether_91 cfX3 ⟨by decide, by decide⟩ 0 0 ⟨rfl, rfl⟩ ⟨by decide, by decide⟩ (Nat.le_of_ble_eq_true rfl) (fun t9 => ?_)
          refine gg_if_eq (S := sX0_putTogether) (tgt := 101) 97 rfl dX0_putTogether_94 (by decide) ?_ ?_
          · exact gg_pure (gg_sub [0, 1, 2, 3, 4] rfl (hJ39 ()))
          · refine gg_aload_n (S := sX0_putTogether) 3 98 rfl dX0_putTogether_97 rfl rfl ?_
            refine gg_callVv (S := sX0_putTogether) (S' := sX3_leaveOutLast) (cs := 0) (sl := 0) (As := []) (st := []) 101 rfl (fun b9 => lkX3_leaveOutLast b9) mwX3_leaveOutLast rfl mlX0_76 dX0_putTogether_98 cfX3 ⟨by decide, by decide⟩ 0 0 ⟨rfl, rfl⟩ ⟨by decide, by decide⟩ (Nat.le_of_ble_eq_true rfl) (fun _ => ?_)
            exact gg_pure (gg_sub [0, 1, 2, 3, 4] rfl (hJ39 ()))
        · refine gg_aload_n (S := sX0_putTogether) 0 43 rfl dX0_putTogether_42 rfl rfl ?_
          refine gg_gi (S := sX0_putTogether) cfX0 (by decide) (fun _ _ => rfl) 46 rfl flX0_45 dX0_putTogether_43 (fun t17 => ?_)
          refine gg_aload_n (S := sX0_putTogether) 2 47 rfl dX0_putTogether_46 rfl rfl ?_
          refine gg_callVi (S := sX0_putTogether) (S' := sX3_hunks) (cs := 0) (sl := 0) (As := []) (st := [vi t17]) 50 rfl (fun b29 => lkX3_hunks b29) mwX3_hunks rfl mlX0_9 dX0_putTogether_47 cfX3 ⟨by decide, by decide⟩ 0 0 ⟨rfl, rfl⟩ ⟨by decide, by decide⟩ (Nat.le_of_ble_eq_true rfl) (fun t18 => ?_)
          refine gg_ic_ge (S := sX0_putTogether) (tgt := 101) 53 rfl dX0_putTogether_50 (by decide) ?_ ?_
          · refine gg_aload_n (S := sX0_putTogether) 0 54 rfl dX0_putTogether_53 rfl rfl ?_
            refine gg_aload_n (S := sX0_putTogether) 1 55 rfl dX0_putTogether_54 rfl rfl ?_
            refine gg_aload_n (S := sX0_putTogether) 2 56 rfl dX0_putTogether_55 rfl rfl ?_
            refine gg_callVv (S := sX0_putTogether) (S' := sX0_gather) (cs := 0) (sl := 0) (As := [vr x1, vr x2]) (st := []) 59 rfl (fun b28 => lkX0_gather b28 x1 x2) mwX0_gather rfl mlX0_48 dX0_putTogether_56 cfX0 ⟨by decide, by decide⟩ 0 0 ⟨rfl, rfl⟩ ⟨by decide, by decide⟩ (Nat.le_of_ble_eq_true rfl) (fun _ => ?_)
            refine gg_aload_n (S := sX0_putTogether) 3 60 rfl dX0_putTogether_59 rfl rfl ?_
            refine gg_aload_n (S := sX0_putTogether) 0 61 rfl dX0_putTogether_60 rfl rfl ?_
            refine gg_gi (S := sX0_putTogether) cfX0 (by decide) (fun _ _ => rfl) 64 rfl flX0_52 dX0_putTogether_61 (fun t19 => ?_)
            refine gg_aload_n (S := sX0_putTogether) 1 65 rfl dX0_putTogether_64 rfl rfl ?_
            refine gg_aload_n (S := sX0_putTogether) 0 66 rfl dX0_putTogether_65 rfl rfl ?_
            refine gg_gi (S := sX0_putTogether) cfX0 (by decide) (fun _ _ => rfl) 69 rfl flX0_55 dX0_putTogether_66 (fun t20 => ?_)
            refine gg_callVi (S := sX0_putTogether) (S' := sX3_shiftBefore) (cs := 0) (sl := 0) (As := [vi t20]) (st := [vi t19, vr x3]) 72 rfl (fun b27 => lkX3_shiftBefore b27 t20) mwX3_shiftBefore rfl mlX0_58 dX0_putTogether_69 cfX3 ⟨by decide, by decide⟩ 0 0 ⟨rfl, rfl⟩ ⟨by decide, by decide⟩ (Nat.le_of_ble_eq_true rfl) (fun t21 => ?_)
            refine gg_isub (S := sX0_putTogether) 73 rfl dX0_putTogether_72 ?_
            refine gg_callVv (S := sX0_putTogether) (S' := sX3_begin) (cs := 0) (sl := 0) (As := [vi (t19 - t21)]) (st := []) 76 rfl (fun b26 => lkX3_begin b26 (t19 - t21)) mwX3_begin rfl mlX0_61 dX0_putTogether_73 cfX3 ⟨by decide, by decide⟩ 0 0 ⟨rfl, rfl⟩ ⟨by decide, by decide⟩ (Nat.le_of_ble_eq_true rfl) (fun _ => ?_)
            refine gg_aload_n (S := sX0_putTogether) 0 77 rfl dX0_putTogether_76 rfl rfl ?_
            refine gg_aload_n (S := sX0_putTogether) 1 78 rfl dX0_putTogether_77 rfl rfl ?_
            refine gg_aload_n (S := sX0_putTogether) 2 79 rfl dX0_putTogether_78 rfl rfl ?_
            refine gg_aload_n (S := sX0_putTogether) 3 80 rfl dX0_putTogether_79 rfl rfl ?_
            refine gg_callVv (S := sX0_putTogether) (S' := sX0_writeGoing) (cs := 0) (sl := 0) (As := [vr x1, vr x2, vr x3]) (st := []) 83 rfl (fun b25 => lkX0_writeGoing b25 x1 x2 x3) mwX0_writeGoing rfl mlX0_65 dX0_putTogether_80 cfX0 ⟨by decide, by decide⟩ 0 0 ⟨rfl, rfl⟩ ⟨by decide, by decide⟩ (Nat.le_of_ble_eq_true rfl) (fun _ => ?_)
            refine gg_aload_n (S := sX0_putTogether) 0 84 rfl dX0_putTogether_83 rfl rfl ?_
            refine gg_aload_n (S := sX0_putTogether) 1 85 rfl dX0_putTogether_84 rfl rfl ?_
            refine gg_aload_n (S := sX0_putTogether) 2 86 rfl dX0_putTogether_85 rfl rfl ?_
            refine gg_aload_n (S := sX0_putTogether) 3 87 rfl dX0_putTogether_86 rfl rfl ?_
            refine gg_callVv (S := sX0_putTogether) (S' := sX0_writeComing) (cs := 0) (sl := 0) (As := [vr x1, vr x2, vr x3]) (st := []) 90 rfl (fun b24 => lkX0_writeComing b24 x1 x2 x3) mwX0_writeComing rfl mlX0_69 dX0_putTogether_87 cfX0 ⟨by decide, by decide⟩ 0 0 ⟨rfl, rfl⟩ ⟨by decide, by decide⟩ (Nat.le_of_ble_eq_true rfl) (fun _ => ?_)
            refine gg_aload_n (S := sX0_putTogether) 3 91 rfl dX0_putTogether_90 rfl rfl ?_
            refine gg_callVi (S := sX0_putTogether) (S' := sX3_lastIsIdle) (cs := 0) (sl := 0) (As := []) (st := []) 94 rfl (fun b23 => lkX3_lastIsIdle b23) mwX3_lastIsIdle rfl mlX0_72 dX0_putTogether_91 cfX3 ⟨by decide, by decide⟩ 0 0 ⟨rfl, rfl⟩ ⟨by decide, by decide⟩ (Nat.le_of_ble_eq_true rfl) (fun t22 => ?_)
            refine gg_if_eq (S := sX0_putTogether) (tgt := 101) 97 rfl dX0_putTogether_94 (by decide) ?_ ?_
            · exact gg_pure (gg_sub [0, 1, 2, 3, 4] rfl (hJ39 ()))
            · refine gg_aload_n (S := sX0_putTogether) 3 98 rfl dX0_putTogether_97 rfl rfl ?_
              refine gg_callVv (S := sX0_putTogether) (S' := sX3_leaveOutLast) (cs := 0) (sl := 0) (As := []) (st := []) 101 rfl (fun b22 => lkX3_leaveOutLast b22) mwX3_leaveOutLast rfl mlX0_76 dX0_putTogether_98 cfX3 ⟨by decide, by decide⟩ 0 0 ⟨rfl, rfl⟩ ⟨by decide, by decide⟩ (Nat.le_of_ble_eq_true rfl) (fun _ => ?_)
              exact gg_pure (gg_sub [0, 1, 2, 3, 4] rfl (hJ39 ()))
          · exact gg_pure (gg_sub [0, 1, 2, 3, 4] rfl (hJ39 ()))
      · intro _
        refine gg_iinc (S := sX0_putTogether) (L' := [(4, vi (y1 + 1)), (0, vr (some x0)), (1, vr x1), (2, vr x2), (3, vr x3)]) 4 104 rfl dX0_putTogether_101 rfl (by decide) rfl ?_
        refine gg_goto (S := sX0_putTogether) (tgt := 17) dX0_putTogether_104 (by decide) ?_
        exact gg_pure (gg_sub [1, 2, 3, 4, 0] rfl (hr17 (y1 + 1)))
    · exact gg_pure (gg_sub [] rfl (he17 ()))
  · intro _
    exact gg_pure (gg_vret (S := sX0_putTogether) rfl dX0_putTogether_107 (by decide) (by decide))

set_option maxRecDepth 100000 in
set_option maxHeartbeats 4000000 in
theorem lkX1_mostFrom (x0 : Nat) (x1 : Int) (x2 : Int) : LK yX1_mostFrom sX1_mostFrom [vr (some x0), vi x1, vi x2] en_i (X1_mostFrom x0 x1 x2) := by
  refine lk_go (L := [(0, vr (some x0)), (1, vi x1), (2, vi x2)]) (by decide +kernel) rfl (fun h => by cases h) (Nat.le_of_ble_eq_true rfl) rfl ?_
  intro K
  unfold X1_mostFrom
  refine gg_iload_n (S := sX1_mostFrom) 1 1 rfl dX1_mostFrom_0 rfl rfl ?_
  refine gg_bipush (S := sX1_mostFrom) 3 rfl dX1_mostFrom_1 (by decide) ?_
  refine gg_imul (S := sX1_mostFrom) 4 rfl dX1_mostFrom_3 ?_
  refine gg_iload_n (S := sX1_mostFrom) 2 5 rfl dX1_mostFrom_4 rfl rfl ?_
  refine gg_iadd (S := sX1_mostFrom) 6 rfl dX1_mostFrom_5 ?_
  refine gg_istore_n (S := sX1_mostFrom) (L' := [(3, vi ((x1 * 15) + x2)), (0, vr (some x0)), (1, vi x1), (2, vi x2)]) 7 rfl dX1_mostFrom_6 rfl (by decide) rfl ?_
  refine gg_iload_n (S := sX1_mostFrom) 0 8 rfl dX1_mostFrom_7 rfl rfl ?_
  refine gg_if_lt (S := sX1_mostFrom) (tgt := 29) 11 rfl dX1_mostFrom_8 (by decide) ?_ ?_
  · refine gg_iconst (S := sX1_mostFrom) 30 rfl dX1_mostFrom_29 ?_
    exact gg_pure (gg_iret (S := sX1_mostFrom) rfl dX1_mostFrom_30 (by decide) (by decide))
  · refine gg_iload_n (S := sX1_mostFrom) 0 12 rfl dX1_mostFrom_11 rfl rfl ?_
    refine gg_aload_n (S := sX1_mostFrom) 1 13 rfl dX1_mostFrom_12 rfl rfl ?_
    refine gg_gr (S := sX1_mostFrom) cfX1 (by decide) (fun _ _ => rfl) 16 rfl flX1_11 dX1_mostFrom_13 (fun t1 => ?_)
    refine gg_alen (S := sX1_mostFrom) 17 rfl dX1_mostFrom_16 (fun t2 => ?_)
    refine gg_ic_ge (S := sX1_mostFrom) (tgt := 29) 20 rfl dX1_mostFrom_17 (by decide) ?_ ?_
    · refine gg_aload_n (S := sX1_mostFrom) 1 21 rfl dX1_mostFrom_20 rfl rfl ?_
      refine gg_gr (S := sX1_mostFrom) cfX1 (by decide) (fun _ _ => rfl) 24 rfl flX1_11 dX1_mostFrom_21 (fun t3 => ?_)
      refine gg_iload_n (S := sX1_mostFrom) 0 25 rfl dX1_mostFrom_24 rfl rfl ?_
      refine gg_ld (S := sX1_mostFrom) 26 rfl dX1_mostFrom_25 (fun t4 => ?_)
      refine gg_goto (S := sX1_mostFrom) (tgt := 30) dX1_mostFrom_26 (by decide) ?_
      exact gg_pure (gg_iret (S := sX1_mostFrom) rfl dX1_mostFrom_30 (by decide) (by decide))
    · refine gg_iconst (S := sX1_mostFrom) 30 rfl dX1_mostFrom_29 ?_
      exact gg_pure (gg_iret (S := sX1_mostFrom) rfl dX1_mostFrom_30 (by decide) (by decide))

set_option maxRecDepth 100000 in
set_option maxHeartbeats 4000000 in
theorem lkX4_at (x0 : Nat) (x1 : Int) : LK yX4_at sX4_at [vr (some x0), vi x1] en_i (X4_at x0 x1) := by
  refine lk_go (L := [(0, vr (some x0)), (1, vi x1)]) (by decide +kernel) rfl (fun h => by cases h) (Nat.le_of_ble_eq_true rfl) rfl ?_
  intro K
  unfold X4_at
  refine gg_iload_n (S := sX4_at) 1 1 rfl dX4_at_0 rfl rfl ?_
  refine gg_if_lt (S := sX4_at) (tgt := 30) 4 rfl dX4_at_1 (by decide) ?_ ?_
  · refine gg_iconst (S := sX4_at) 31 rfl dX4_at_30 ?_
    exact gg_pure (gg_iret (S := sX4_at) rfl dX4_at_31 (by decide) (by decide))
  · refine gg_iload_n (S := sX4_at) 1 5 rfl dX4_at_4 rfl rfl ?_
    refine gg_aload_n (S := sX4_at) 0 6 rfl dX4_at_5 rfl rfl ?_
    refine gg_gi (S := sX4_at) cfX4 (by decide) (fun _ _ => rfl) 9 rfl flX4_21 dX4_at_6 (fun t1 => ?_)
    refine gg_ic_ge (S := sX4_at) (tgt := 30) 12 rfl dX4_at_9 (by decide) ?_ ?_
    · refine gg_iload_n (S := sX4_at) 1 13 rfl dX4_at_12 rfl rfl ?_
      refine gg_aload_n (S := sX4_at) 0 14 rfl dX4_at_13 rfl rfl ?_
      refine gg_gr (S := sX4_at) cfX4 (by decide) (fun _ _ => rfl) 17 rfl flX4_15 dX4_at_14 (fun t2 => ?_)
      refine gg_alen (S := sX4_at) 18 rfl dX4_at_17 (fun t3 => ?_)
      refine gg_ic_ge (S := sX4_at) (tgt := 30) 21 rfl dX4_at_18 (by decide) ?_ ?_
      · refine gg_aload_n (S := sX4_at) 0 22 rfl dX4_at_21 rfl rfl ?_
        refine gg_gr (S := sX4_at) cfX4 (by decide) (fun _ _ => rfl) 25 rfl flX4_15 dX4_at_22 (fun t4 => ?_)
        refine gg_iload_n (S := sX4_at) 1 26 rfl dX4_at_25 rfl rfl ?_
        refine gg_ld (S := sX4_at) 27 rfl dX4_at_26 (fun t5 => ?_)
        refine gg_goto (S := sX4_at) (tgt := 31) dX4_at_27 (by decide) ?_
        exact gg_pure (gg_iret (S := sX4_at) rfl dX4_at_31 (by decide) (by decide))
      · refine gg_iconst (S := sX4_at) 31 rfl dX4_at_30 ?_
        exact gg_pure (gg_iret (S := sX4_at) rfl dX4_at_31 (by decide) (by decide))
    · refine gg_iconst (S := sX4_at) 31 rfl dX4_at_30 ?_
      exact gg_pure (gg_iret (S := sX4_at) rfl dX4_at_31 (by decide) (by decide))

set_option maxRecDepth 100000 in
set_option maxHeartbeats 4000000 in
theorem lkX4_size (x0 : Nat) : LK yX4_size sX4_size [vr (some x0)] en_i (X4_size x0) := by
  refine lk_go (L := [(0, vr (some x0))]) (by decide +kernel) rfl (fun h => by cases h) (Nat.le_of_ble_eq_true rfl) rfl ?_
  intro K
  unfold X4_size
  refine gg_aload_n (S := sX4_size) 0 1 rfl dX4_size_0 rfl rfl ?_
  refine gg_gi (S := sX4_size) cfX4 (by decide) (fun _ _ => rfl) 4 rfl flX4_21 dX4_size_1 (fun t1 => ?_)
  exact gg_pure (gg_iret (S := sX4_size) rfl dX4_size_4 (by decide) (by decide))

set_option maxRecDepth 100000 in
set_option maxHeartbeats 4000000 in
theorem lkX1_reckonMost (x0 : Nat) (x1 : Option Nat) (x2 : Int) (x3 : Option Nat) (x4 : Int) : LK yX1_reckonMost sX1_reckonMost [vr (some x0), vr x1, vi x2, vr x3, vi x4] en_i (X1_reckonMost x0 x1 x2 x3 x4) := by
  refine lk_go (L := [(0, vr (some x0)), (1, vr x1), (2, vi x2), (3, vr x3), (4, vi x4)]) (by decide +kernel) rfl (fun h => by cases h) (Nat.le_of_ble_eq_true rfl) rfl ?_
  intro K
  unfold X1_reckonMost
  refine gg_iload_n (S := sX1_reckonMost) 2 1 rfl dX1_reckonMost_0 rfl rfl ?_
  refine gg_aload_n (S := sX1_reckonMost) 1 2 rfl dX1_reckonMost_1 rfl rfl ?_
  refine gg_callVi (S := sX1_reckonMost) (S' := sX4_size) (cs := 0) (sl := 0) (As := []) (st := [vi x2]) 5 rfl (fun b14 => lkX4_size b14) mwX4_size rfl mlX1_18 dX1_reckonMost_2 cfX4 ⟨by decide, by decide⟩ 0 0 ⟨rfl, rfl⟩ ⟨by decide, by decide⟩ (Nat.le_of_ble_eq_true rfl) (fun t1 => ?_)
  refine gg_ic_ge (S := sX1_reckonMost) (tgt := 17) 8 rfl dX1_reckonMost_5 (by decide) ?_ ?_
  · refine gg_iload (S := sX1_reckonMost) 4 10 rfl dX1_reckonMost_8 rfl ?_
    refine gg_aload_n (S := sX1_reckonMost) 3 11 rfl dX1_reckonMost_10 rfl rfl ?_
    refine gg_callVi (S := sX1_reckonMost) (S' := sX4_size) (cs := 0) (sl := 0) (As := []) (st := [vi x4]) 14 rfl (fun b13 => lkX4_size b13) mwX4_size rfl mlX1_18 dX1_reckonMost_11 cfX4 ⟨by decide, by decide⟩ 0 0 ⟨rfl, rfl⟩ ⟨by decide, by decide⟩ (Nat.le_of_ble_eq_true rfl) (fun t2 => ?_)
    refine gg_ic_lt (S := sX1_reckonMost) (tgt := 19) 17 rfl dX1_reckonMost_14 (by decide) ?_ ?_
    · refine gg_aload_n (S := sX1_reckonMost) 1 20 rfl dX1_reckonMost_19 rfl rfl ?_
      refine gg_iload_n (S := sX1_reckonMost) 2 21 rfl dX1_reckonMost_20 rfl rfl ?_
      refine gg_callVi (S := sX1_reckonMost) (S' := sX4_at) (cs := 0) (sl := 0) (As := [vi x2]) (st := []) 24 rfl (fun b12 => lkX4_at b12 x2) mwX4_at rfl mlX1_56 dX1_reckonMost_21 cfX4 ⟨by decide, by decide⟩ 0 0 ⟨rfl, rfl⟩ ⟨by decide, by decide⟩ (Nat.le_of_ble_eq_true rfl) (fun t3 => ?_)
      refine gg_aload_n (S := sX1_reckonMost) 3 25 rfl dX1_reckonMost_24 rfl rfl ?_
      refine gg_iload (S := sX1_reckonMost) 4 27 rfl dX1_reckonMost_25 rfl ?_
      refine gg_callVi (S := sX1_reckonMost) (S' := sX4_at) (cs := 0) (sl := 0) (As := [vi x4]) (st := [vi t3]) 30 rfl (fun b11 => lkX4_at b11 x4) mwX4_at rfl mlX1_56 dX1_reckonMost_27 cfX4 ⟨by decide, by decide⟩ 0 0 ⟨rfl, rfl⟩ ⟨by decide, by decide⟩ (Nat.le_of_ble_eq_true rfl) (fun t4 => ?_)
      refine gg_ic_ne (S := sX1_reckonMost) (tgt := 47) 33 rfl dX1_reckonMost_30 (by decide) ?_ ?_
      · refine gg_aload_n (S := sX1_reckonMost) 0 34 rfl dX1_reckonMost_33 rfl rfl ?_
        refine gg_iload_n (S := sX1_reckonMost) 2 35 rfl dX1_reckonMost_34 rfl rfl ?_
        refine gg_iconst (S := sX1_reckonMost) 36 rfl dX1_reckonMost_35 ?_
        refine gg_iadd (S := sX1_reckonMost) 37 rfl dX1_reckonMost_36 ?_
        refine gg_iload (S := sX1_reckonMost) 4 39 rfl dX1_reckonMost_37 rfl ?_
        refine gg_iconst (S := sX1_reckonMost) 40 rfl dX1_reckonMost_39 ?_
        refine gg_iadd (S := sX1_reckonMost) 41 rfl dX1_reckonMost_40 ?_
        refine gg_callVi (S := sX1_reckonMost) (S' := sX1_mostFrom) (cs := 0) (sl := 0) (As := [vi (x2 + 1), vi (x4 + 1)]) (st := []) 44 rfl (fun b10 => lkX1_mostFrom b10 (x2 + 1) (x4 + 1)) mwX1_mostFrom rfl mlX1_59 dX1_reckonMost_41 cfX1 ⟨by decide, by decide⟩ 0 0 ⟨rfl, rfl⟩ ⟨by decide, by decide⟩ (Nat.le_of_ble_eq_true rfl) (fun t10 => ?_)
        refine gg_iconst (S := sX1_reckonMost) 45 rfl dX1_reckonMost_44 ?_
        refine gg_iadd (S := sX1_reckonMost) 46 rfl dX1_reckonMost_45 ?_
        exact gg_pure (gg_iret (S := sX1_reckonMost) rfl dX1_reckonMost_46 (by decide) (by decide))
      · refine gg_aload_n (S := sX1_reckonMost) 0 48 rfl dX1_reckonMost_47 rfl rfl ?_
        refine gg_iload_n (S := sX1_reckonMost) 2 49 rfl dX1_reckonMost_48 rfl rfl ?_
        refine gg_iconst (S := sX1_reckonMost) 50 rfl dX1_reckonMost_49 ?_
        refine gg_iadd (S := sX1_reckonMost) 51 rfl dX1_reckonMost_50 ?_
        refine gg_iload (S := sX1_reckonMost) 4 53 rfl dX1_reckonMost_51 rfl ?_
        refine gg_callVi (S := sX1_reckonMost) (S' := sX1_mostFrom) (cs := 0) (sl := 0) (As := [vi (x2 + 1), vi x4]) (st := []) 56 rfl (fun b8 => lkX1_mostFrom b8 (x2 + 1) x4) mwX1_mostFrom rfl mlX1_59 dX1_reckonMost_53 cfX1 ⟨by decide, by decide⟩ 0 0 ⟨rfl, rfl⟩ ⟨by decide, by decide⟩ (Nat.le_of_ble_eq_true rfl) (fun t5 => ?_)
        refine gg_aload_n (S := sX1_reckonMost) 0 57 rfl dX1_reckonMost_56 rfl rfl ?_
        refine gg_iload_n (S := sX1_reckonMost) 2 58 rfl dX1_reckonMost_57 rfl rfl ?_
        refine gg_iload (S := sX1_reckonMost) 4 60 rfl dX1_reckonMost_58 rfl ?_
        refine gg_iconst (S := sX1_reckonMost) 61 rfl dX1_reckonMost_60 ?_
        refine gg_iadd (S := sX1_reckonMost) 62 rfl dX1_reckonMost_61 ?_
        refine gg_callVi (S := sX1_reckonMost) (S' := sX1_mostFrom) (cs := 0) (sl := 0) (As := [vi x2, vi (x4 + 1)]) (st := [vi t5]) 65 rfl (fun b7 => lkX1_mostFrom b7 x2 (x4 + 1)) mwX1_mostFrom rfl mlX1_59 dX1_reckonMost_62 cfX1 ⟨by decide, by decide⟩ 0 0 ⟨rfl, rfl⟩ ⟨by decide, by decide⟩ (Nat.le_of_ble_eq_true rfl) (fun t6 => ?_)
        refine gg_mmax (S := sX1_reckonMost) 68 rfl mlX1_63 ms_max iiJ9 mc_max dX1_reckonMost_65 (by decide) (Nat.le_of_ble_eq_true rfl) (by decide) (by decide) (fun t7 => ?_)
        exact gg_pure (gg_iret (S := sX1_reckonMost) rfl dX1_reckonMost_68 (by decide) (by decide))
    · refine gg_iconst (S := sX1_reckonMost) 18 rfl dX1_reckonMost_17 ?_
      exact gg_pure (gg_iret (S := sX1_reckonMost) rfl dX1_reckonMost_18 (by decide) (by decide))
  · refine gg_iconst (S := sX1_reckonMost) 18 rfl dX1_reckonMost_17 ?_
    exact gg_pure (gg_iret (S := sX1_reckonMost) rfl dX1_reckonMost_18 (by decide) (by decide))

set_option maxRecDepth 100000 in
set_option maxHeartbeats 4000000 in
theorem lkX1_setMost (x0 : Nat) (x1 : Int) (x2 : Int) (x3 : Int) : LK yX1_setMost sX1_setMost [vr (some x0), vi x1, vi x2, vi x3] en_v (X1_setMost x0 x1 x2 x3) := by
  refine lk_go (L := [(0, vr (some x0)), (1, vi x1), (2, vi x2), (3, vi x3)]) (by decide +kernel) rfl (fun h => by cases h) (Nat.le_of_ble_eq_true rfl) rfl ?_
  intro K
  unfold X1_setMost
  refine gg_iload_n (S := sX1_setMost) 1 1 rfl dX1_setMost_0 rfl rfl ?_
  refine gg_bipush (S := sX1_setMost) 3 rfl dX1_setMost_1 (by decide) ?_
  refine gg_imul (S := sX1_setMost) 4 rfl dX1_setMost_3 ?_
  refine gg_iload_n (S := sX1_setMost) 2 5 rfl dX1_setMost_4 rfl rfl ?_
  refine gg_iadd (S := sX1_setMost) 6 rfl dX1_setMost_5 ?_
  refine gg_istore (S := sX1_setMost) (L' := [(4, vi ((x1 * 15) + x2)), (0, vr (some x0)), (1, vi x1), (2, vi x2), (3, vi x3)]) 8 rfl dX1_setMost_6 (by decide) rfl ?_
  refine gg_iload (S := sX1_setMost) 0 10 rfl dX1_setMost_8 rfl ?_
  refine gg_if_lt (S := sX1_setMost) (tgt := 31) 13 rfl dX1_setMost_10 (by decide) ?_ ?_
  · exact gg_pure (gg_vret (S := sX1_setMost) rfl dX1_setMost_31 (by decide) (by decide))
  · refine gg_iload (S := sX1_setMost) 0 15 rfl dX1_setMost_13 rfl ?_
    refine gg_aload_n (S := sX1_setMost) 1 16 rfl dX1_setMost_15 rfl rfl ?_
    refine gg_gr (S := sX1_setMost) cfX1 (by decide) (fun _ _ => rfl) 19 rfl flX1_11 dX1_setMost_16 (fun t1 => ?_)
    refine gg_alen (S := sX1_setMost) 20 rfl dX1_setMost_19 (fun t2 => ?_)
    refine gg_ic_ge (S := sX1_setMost) (tgt := 31) 23 rfl dX1_setMost_20 (by decide) ?_ ?_
    · refine gg_aload_n (S := sX1_setMost) 1 24 rfl dX1_setMost_23 rfl rfl ?_
      refine gg_gr (S := sX1_setMost) cfX1 (by decide) (fun _ _ => rfl) 27 rfl flX1_11 dX1_setMost_24 (fun t3 => ?_)
      refine gg_iload (S := sX1_setMost) 0 29 rfl dX1_setMost_27 rfl ?_
      refine gg_iload_n (S := sX1_setMost) 4 30 rfl dX1_setMost_29 rfl rfl ?_
      refine gg_st (S := sX1_setMost) 31 rfl dX1_setMost_30 ?_
      exact gg_pure (gg_vret (S := sX1_setMost) rfl dX1_setMost_31 (by decide) (by decide))
    · exact gg_pure (gg_vret (S := sX1_setMost) rfl dX1_setMost_31 (by decide) (by decide))

set_option maxRecDepth 100000 in
set_option maxHeartbeats 4000000 in
theorem lkX1_setMate (x0 : Nat) (x1 : Int) (x2 : Int) : LK yX1_setMate sX1_setMate [vr (some x0), vi x1, vi x2] en_v (X1_setMate x0 x1 x2) := by
  refine lk_go (L := [(0, vr (some x0)), (1, vi x1), (2, vi x2)]) (by decide +kernel) rfl (fun h => by cases h) (Nat.le_of_ble_eq_true rfl) rfl ?_
  intro K
  unfold X1_setMate
  refine gg_iload_n (S := sX1_setMate) 1 1 rfl dX1_setMate_0 rfl rfl ?_
  refine gg_if_lt (S := sX1_setMate) (tgt := 20) 4 rfl dX1_setMate_1 (by decide) ?_ ?_
  · exact gg_pure (gg_vret (S := sX1_setMate) rfl dX1_setMate_20 (by decide) (by decide))
  · refine gg_iload_n (S := sX1_setMate) 1 5 rfl dX1_setMate_4 rfl rfl ?_
    refine gg_aload_n (S := sX1_setMate) 0 6 rfl dX1_setMate_5 rfl rfl ?_
    refine gg_gr (S := sX1_setMate) cfX1 (by decide) (fun _ _ => rfl) 9 rfl flX1_15 dX1_setMate_6 (fun t1 => ?_)
    refine gg_alen (S := sX1_setMate) 10 rfl dX1_setMate_9 (fun t2 => ?_)
    refine gg_ic_ge (S := sX1_setMate) (tgt := 20) 13 rfl dX1_setMate_10 (by decide) ?_ ?_
    · refine gg_aload_n (S := sX1_setMate) 0 14 rfl dX1_setMate_13 rfl rfl ?_
      refine gg_gr (S := sX1_setMate) cfX1 (by decide) (fun _ _ => rfl) 17 rfl flX1_15 dX1_setMate_14 (fun t3 => ?_)
      refine gg_iload_n (S := sX1_setMate) 1 18 rfl dX1_setMate_17 rfl rfl ?_
      refine gg_iload_n (S := sX1_setMate) 2 19 rfl dX1_setMate_18 rfl rfl ?_
      refine gg_st (S := sX1_setMate) 20 rfl dX1_setMate_19 ?_
      exact gg_pure (gg_vret (S := sX1_setMate) rfl dX1_setMate_20 (by decide) (by decide))
    · exact gg_pure (gg_vret (S := sX1_setMate) rfl dX1_setMate_20 (by decide) (by decide))

set_option maxRecDepth 100000 in
set_option maxHeartbeats 4000000 in
theorem lkX1_trace (x0 : Nat) (x1 : Option Nat) (x2 : Option Nat) : LK yX1_trace sX1_trace [vr (some x0), vr x1, vr x2] en_v (X1_trace x0 x1 x2) := by
  refine lk_go (L := [(0, vr (some x0)), (1, vr x1), (2, vr x2)]) (by decide +kernel) rfl (fun h => by cases h) (Nat.le_of_ble_eq_true rfl) rfl ?_
  intro K
  unfold X1_trace
  refine gg_iconst (S := sX1_trace) 1 rfl dX1_trace_0 ?_
  refine gg_istore_n (S := sX1_trace) (L' := [(3, vi 0), (0, vr (some x0)), (1, vr x1), (2, vr x2)]) 2 rfl dX1_trace_1 rfl (by decide) rfl ?_
  refine gg_iconst (S := sX1_trace) 3 rfl dX1_trace_2 ?_
  refine gg_istore (S := sX1_trace) (L' := [(4, vi 0), (3, vi 0), (0, vr (some x0)), (1, vr x1), (2, vr x2)]) 5 rfl dX1_trace_3 (by decide) rfl ?_
  refine gg_iconst (S := sX1_trace) 6 rfl dX1_trace_5 ?_
  refine gg_istore (S := sX1_trace) (L' := [(5, vi 0), (4, vi 0), (3, vi 0), (0, vr (some x0)), (1, vr x1), (2, vr x2)]) 8 rfl dX1_trace_6 (by decide) rfl ?_
  refine gg_sub [3, 4, 5, 2, 1, 0] rfl ?_
  refine gg_loopA (fun (y1, y2, y3) => [(0, vr (some x0)), (1, vr x1), (2, vr x2), (3, vi y1), (4, vi y2), (5, vi y3)]) (fun _ => []) 119 mo_N ?_ ?_ (0, 0, 0)
  · intro κ8 hr8 he8
    rintro ⟨y1, y2, y3⟩
    dsimp only [X1_trace_L8]
    refine gg_iload (S := sX1_trace) 5 10 rfl dX1_trace_8 rfl ?_
    refine gg_bipush (S := sX1_trace) 12 rfl dX1_trace_10 (by decide) ?_
    refine gg_ic_ge (S := sX1_trace) (tgt := 119) 15 rfl dX1_trace_12 (by decide) ?_ ?_
    · refine gg_iload_n (S := sX1_trace) 3 16 rfl dX1_trace_15 rfl rfl ?_
      refine gg_aload_n (S := sX1_trace) 1 17 rfl dX1_trace_16 rfl rfl ?_
      refine gg_callVi (S := sX1_trace) (S' := sX4_size) (cs := 0) (sl := 0) (As := []) (st := [vi y1]) 20 rfl (fun b20 => lkX4_size b20) mwX4_size rfl mlX1_18 dX1_trace_17 cfX4 ⟨by decide, by decide⟩ 0 0 ⟨rfl, rfl⟩ ⟨by decide, by decide⟩ (Nat.le_of_ble_eq_true rfl) (fun t4 => ?_)
      refine gg_ic_ge (S := sX1_trace) (tgt := 119) 23 rfl dX1_trace_20 (by decide) ?_ ?_
      · refine gg_iload (S := sX1_trace) 4 25 rfl dX1_trace_23 rfl ?_
        refine gg_aload_n (S := sX1_trace) 2 26 rfl dX1_trace_25 rfl rfl ?_
        refine gg_callVi (S := sX1_trace) (S' := sX4_size) (cs := 0) (sl := 0) (As := []) (st := [vi y2]) 29 rfl (fun b19 => lkX4_size b19) mwX4_size rfl mlX1_18 dX1_trace_26 cfX4 ⟨by decide, by decide⟩ 0 0 ⟨rfl, rfl⟩ ⟨by decide, by decide⟩ (Nat.le_of_ble_eq_true rfl) (fun t5 => ?_)
        refine gg_join (fun t6 => [(0, vr (some x0)), (1, vr x1), (2, vr x2), (3, vi y1), (4, vi y2), (5, vi y3)]) (fun t6 => [vi t6]) 37 0 0 (fun κ29 hJ29 => ?_) ?_
        · refine gg_ic_ge (S := sX1_trace) (tgt := 36) 32 rfl dX1_trace_29 (by decide) ?_ ?_
          · refine gg_iconst (S := sX1_trace) 33 rfl dX1_trace_32 ?_
            refine gg_goto (S := sX1_trace) (tgt := 37) dX1_trace_33 (by decide) ?_
            exact gg_pure (gg_sub [0, 1, 2, 3, 4, 5] rfl (hJ29 1))
          · refine gg_iconst (S := sX1_trace) 37 rfl dX1_trace_36 ?_
            exact gg_pure (gg_sub [0, 1, 2, 3, 4, 5] rfl (hJ29 0))
        · intro t6
          refine gg_istore (S := sX1_trace) (L' := [(6, vi t6), (0, vr (some x0)), (1, vr x1), (2, vr x2), (3, vi y1), (4, vi y2), (5, vi y3)]) 39 rfl dX1_trace_37 (by decide) rfl ?_
          refine gg_iload (S := sX1_trace) 0 41 rfl dX1_trace_39 rfl ?_
          refine gg_join (fun (t18, t19) => [(0, vr (some x0)), (1, vr x1), (2, vr x2), (3, vi t18), (4, vi t19), (5, vi y3)]) (fun (t18, t19) => []) 113 0 0 (fun κ41 hJ41 => ?_) ?_
          · refine gg_cond [(0, vr (some x0)), (1, vr x1), (2, vr x2), (3, vi y1), (4, vi y2), (5, vi y3)] [(0, vr (some x0)), (1, vr x1), (2, vr x2), (3, vi y1), (4, vi y2), (5, vi y3), (6, vi t6)] [] 58 74 0 0 (fun κ41 hT41 hF41 => ?_) ?_ ?_
            · refine gg_if_eq (S := sX1_trace) (tgt := 74) 44 rfl dX1_trace_41 (by decide) ?_ ?_
              · exact gg_pure (gg_sub [1, 2, 3, 4, 5, 6, 0] rfl hF41)
              · refine gg_aload_n (S := sX1_trace) 2 45 rfl dX1_trace_44 rfl rfl ?_
                refine gg_iload_n (S := sX1_trace) 4 46 rfl dX1_trace_45 rfl rfl ?_
                refine gg_callVi (S := sX1_trace) (S' := sX4_at) (cs := 0) (sl := 0) (As := [vi y1]) (st := []) 49 rfl (fun b9 => lkX4_at b9 y1) mwX4_at rfl mlX1_56 dX1_trace_46 cfX4 ⟨by decide, by decide⟩ 0 0 ⟨rfl, rfl⟩ ⟨by decide, by decide⟩ (Nat.le_of_ble_eq_true rfl) (fun t7 => ?_)
                refine gg_aload_n (S := sX1_trace) 3 50 rfl dX1_trace_49 rfl rfl ?_
                refine gg_iload (S := sX1_trace) 5 52 rfl dX1_trace_50 rfl ?_
                refine gg_callVi (S := sX1_trace) (S' := sX4_at) (cs := 0) (sl := 0) (As := [vi y2]) (st := [vi t7]) 55 rfl (fun b8 => lkX4_at b8 y2) mwX4_at rfl mlX1_56 dX1_trace_52 cfX4 ⟨by decide, by decide⟩ 0 0 ⟨rfl, rfl⟩ ⟨by decide, by decide⟩ (Nat.le_of_ble_eq_true rfl) (fun t8 => ?_)
                refine gg_ic_ne (S := sX1_trace) (tgt := 74) 58 rfl dX1_trace_55 (by decide) ?_ ?_
                · exact gg_pure (gg_sub [1, 2, 3, 4, 5, 6] rfl hT41)
                · exact gg_pure (gg_sub [1, 2, 3, 4, 5, 6, 0] rfl hF41)
            · refine gg_aload_n (S := sX1_trace) 0 59 rfl dX1_trace_58 rfl rfl ?_
              refine gg_iload_n (S := sX1_trace) 3 60 rfl dX1_trace_59 rfl rfl ?_
              refine gg_iload (S := sX1_trace) 4 62 rfl dX1_trace_60 rfl ?_
              refine gg_callVv (S := sX1_trace) (S' := sX1_setMate) (cs := 0) (sl := 0) (As := [vi y1, vi y2]) (st := []) 65 rfl (fun b10 => lkX1_setMate b10 y1 y2) mwX1_setMate rfl mlX1_68 dX1_trace_62 cfX1 ⟨by decide, by decide⟩ 0 0 ⟨rfl, rfl⟩ ⟨by decide, by decide⟩ (Nat.le_of_ble_eq_true rfl) (fun _ => ?_)
              refine gg_iinc (S := sX1_trace) (L' := [(3, vi (y1 + 1)), (0, vr (some x0)), (1, vr x1), (2, vr x2), (4, vi y2), (5, vi y3)]) 3 68 rfl dX1_trace_65 rfl (by decide) rfl ?_
              refine gg_iinc (S := sX1_trace) (L' := [(4, vi (y2 + 1)), (3, vi (y1 + 1)), (0, vr (some x0)), (1, vr x1), (2, vr x2), (5, vi y3)]) 4 71 rfl dX1_trace_68 rfl (by decide) rfl ?_
              refine gg_goto (S := sX1_trace) (tgt := 113) dX1_trace_71 (by decide) ?_
              exact gg_pure (gg_sub [2, 3, 4, 1, 0, 5] rfl (hJ41 ((y1 + 1), (y2 + 1))))
            · refine gg_iload (S := sX1_trace) 6 76 rfl dX1_trace_74 rfl ?_
              refine gg_if_eq (S := sX1_trace) (tgt := 98) 79 rfl dX1_trace_76 (by decide) ?_ ?_
              · refine gg_aload_n (S := sX1_trace) 0 99 rfl dX1_trace_98 rfl rfl ?_
                refine gg_iload_n (S := sX1_trace) 3 100 rfl dX1_trace_99 rfl rfl ?_
                refine gg_iconst (S := sX1_trace) 101 rfl dX1_trace_100 ?_
                refine gg_callVv (S := sX1_trace) (S' := sX1_setMate) (cs := 0) (sl := 0) (As := [vi y1, vi (-1)]) (st := []) 104 rfl (fun b11 => lkX1_setMate b11 y1 (-1)) mwX1_setMate rfl mlX1_68 dX1_trace_101 cfX1 ⟨by decide, by decide⟩ 0 0 ⟨rfl, rfl⟩ ⟨by decide, by decide⟩ (Nat.le_of_ble_eq_true rfl) (fun _ => ?_)
                refine gg_iinc (S := sX1_trace) (L' := [(3, vi (y1 + 1)), (0, vr (some x0)), (1, vr x1), (2, vr x2), (4, vi y2), (5, vi y3), (6, vi t6)]) 3 107 rfl dX1_trace_104 rfl (by decide) rfl ?_
                refine gg_goto (S := sX1_trace) (tgt := 113) dX1_trace_107 (by decide) ?_
                exact gg_pure (gg_sub [1, 2, 3, 0, 4, 5] rfl (hJ41 ((y1 + 1), y2)))
              · refine gg_aload_n (S := sX1_trace) 0 80 rfl dX1_trace_79 rfl rfl ?_
                refine gg_iload_n (S := sX1_trace) 3 81 rfl dX1_trace_80 rfl rfl ?_
                refine gg_iconst (S := sX1_trace) 82 rfl dX1_trace_81 ?_
                refine gg_iadd (S := sX1_trace) 83 rfl dX1_trace_82 ?_
                refine gg_iload (S := sX1_trace) 4 85 rfl dX1_trace_83 rfl ?_
                refine gg_callVi (S := sX1_trace) (S' := sX1_mostFrom) (cs := 0) (sl := 0) (As := [vi (y1 + 1), vi y2]) (st := []) 88 rfl (fun b16 => lkX1_mostFrom b16 (y1 + 1) y2) mwX1_mostFrom rfl mlX1_59 dX1_trace_85 cfX1 ⟨by decide, by decide⟩ 0 0 ⟨rfl, rfl⟩ ⟨by decide, by decide⟩ (Nat.le_of_ble_eq_true rfl) (fun t13 => ?_)
                refine gg_aload_n (S := sX1_trace) 0 89 rfl dX1_trace_88 rfl rfl ?_
                refine gg_iload_n (S := sX1_trace) 3 90 rfl dX1_trace_89 rfl rfl ?_
                refine gg_iload (S := sX1_trace) 4 92 rfl dX1_trace_90 rfl ?_
                refine gg_callVi (S := sX1_trace) (S' := sX1_mostFrom) (cs := 0) (sl := 0) (As := [vi y1, vi y2]) (st := [vi t13]) 95 rfl (fun b15 => lkX1_mostFrom b15 y1 y2) mwX1_mostFrom rfl mlX1_59 dX1_trace_92 cfX1 ⟨by decide, by decide⟩ 0 0 ⟨rfl, rfl⟩ ⟨by decide, by decide⟩ (Nat.le_of_ble_eq_true rfl) (fun t14 => ?_)
                refine gg_ic_ne (S := sX1_trace) (tgt := 110) 98 rfl dX1_trace_95 (by decide) ?_ ?_
                · refine gg_aload_n (S := sX1_trace) 0 99 rfl dX1_trace_98 rfl rfl ?_
                  refine gg_iload_n (S := sX1_trace) 3 100 rfl dX1_trace_99 rfl rfl ?_
                  refine gg_iconst (S := sX1_trace) 101 rfl dX1_trace_100 ?_
                  refine gg_callVv (S := sX1_trace) (S' := sX1_setMate) (cs := 0) (sl := 0) (As := [vi y1, vi (-1)]) (st := []) 104 rfl (fun b14 => lkX1_setMate b14 y1 (-1)) mwX1_setMate rfl mlX1_68 dX1_trace_101 cfX1 ⟨by decide, by decide⟩ 0 0 ⟨rfl, rfl⟩ ⟨by decide, by decide⟩ (Nat.le_of_ble_eq_true rfl) (fun _ => ?_)
                  refine gg_iinc (S := sX1_trace) (L' := [(3, vi (y1 + 1)), (0, vr (some x0)), (1, vr x1), (2, vr x2), (4, vi y2), (5, vi y3), (6, vi t6)]) 3 107 rfl dX1_trace_104 rfl (by decide) rfl ?_
                  refine gg_goto (S := sX1_trace) (tgt := 113) dX1_trace_107 (by decide) ?_
                  exact gg_pure (gg_sub [1, 2, 3, 0, 4, 5] rfl (hJ41 ((y1 + 1), y2)))
                · refine gg_iinc (S := sX1_trace) (L' := [(4, vi (y2 + 1)), (0, vr (some x0)), (1, vr x1), (2, vr x2), (3, vi y1), (5, vi y3), (6, vi t6)]) 4 113 rfl dX1_trace_110 rfl (by decide) rfl ?_
                  exact gg_pure (gg_sub [1, 2, 3, 4, 0, 5] rfl (hJ41 (y1, (y2 + 1))))
          · rintro ⟨t18, t19⟩
            dsimp only
            refine gg_iinc (S := sX1_trace) (L' := [(5, vi (y3 + 1)), (0, vr (some x0)), (1, vr x1), (2, vr x2), (3, vi t18), (4, vi t19)]) 5 116 rfl dX1_trace_113 rfl (by decide) rfl ?_
            refine gg_goto (S := sX1_trace) (tgt := 8) dX1_trace_116 (by decide) ?_
            exact gg_pure (gg_sub [1, 2, 3, 4, 5, 0] rfl (hr8 (t18, t19, (y3 + 1))))
      · exact gg_pure (gg_sub [] rfl (he8 ()))
    · exact gg_pure (gg_sub [] rfl (he8 ()))
  · intro _
    exact gg_pure (gg_vret (S := sX1_trace) rfl dX1_trace_119 (by decide) (by decide))

set_option maxRecDepth 100000 in
set_option maxHeartbeats 4000000 in
theorem lkX1_find (x0 : Nat) (x1 : Option Nat) (x2 : Option Nat) : LK yX1_find sX1_find [vr (some x0), vr x1, vr x2] en_v (X1_find x0 x1 x2) := by
  refine lk_go (L := [(0, vr (some x0)), (1, vr x1), (2, vr x2)]) (by decide +kernel) rfl (fun h => by cases h) (Nat.le_of_ble_eq_true rfl) rfl ?_
  intro K
  unfold X1_find
  refine gg_aload_n (S := sX1_find) 1 1 rfl dX1_find_0 rfl rfl ?_
  refine gg_callVi (S := sX1_find) (S' := sX4_size) (cs := 0) (sl := 0) (As := []) (st := []) 4 rfl (fun b9 => lkX4_size b9) mwX4_size rfl mlX1_18 dX1_find_1 cfX4 ⟨by decide, by decide⟩ 0 0 ⟨rfl, rfl⟩ ⟨by decide, by decide⟩ (Nat.le_of_ble_eq_true rfl) (fun t1 => ?_)
  refine gg_istore_n (S := sX1_find) (L' := [(3, vi t1), (0, vr (some x0)), (1, vr x1), (2, vr x2)]) 5 rfl dX1_find_4 rfl (by decide) rfl ?_
  refine gg_sub [1, 2, 3, 0] rfl ?_
  refine gg_loopA (fun y2 => [(0, vr (some x0)), (1, vr x1), (2, vr x2), (3, vi y2)]) (fun _ => [(0, vr (some x0)), (1, vr x1), (2, vr x2)]) 48 mo_N ?_ ?_ t1
  · intro κ5 hr5 he5
    intro y2
    dsimp only [X1_find_L5]
    refine gg_iload_n (S := sX1_find) 3 6 rfl dX1_find_5 rfl rfl ?_
    refine gg_if_lt (S := sX1_find) (tgt := 48) 9 rfl dX1_find_6 (by decide) ?_ ?_
    · exact gg_pure (gg_sub [0, 1, 2] rfl (he5 ()))
    · refine gg_aload_n (S := sX1_find) 2 10 rfl dX1_find_9 rfl rfl ?_
      refine gg_callVi (S := sX1_find) (S' := sX4_size) (cs := 0) (sl := 0) (As := []) (st := []) 13 rfl (fun b7 => lkX4_size b7) mwX4_size rfl mlX1_18 dX1_find_10 cfX4 ⟨by decide, by decide⟩ 0 0 ⟨rfl, rfl⟩ ⟨by decide, by decide⟩ (Nat.le_of_ble_eq_true rfl) (fun t3 => ?_)
      refine gg_istore (S := sX1_find) (L' := [(4, vi t3), (0, vr (some x0)), (1, vr x1), (2, vr x2), (3, vi y2)]) 15 rfl dX1_find_13 (by decide) rfl ?_
      refine gg_sub [1, 2, 3, 4, 0] rfl ?_
      refine gg_loopA (fun y4 => [(0, vr (some x0)), (1, vr x1), (2, vr x2), (3, vi y2), (4, vi y4)]) (fun _ => [(0, vr (some x0)), (1, vr x1), (2, vr x2), (3, vi y2)]) 42 mo_N ?_ ?_ t3
      · intro κ15 hr15 he15
        intro y4
        dsimp only [X1_find_L15]
        refine gg_iload (S := sX1_find) 4 17 rfl dX1_find_15 rfl ?_
        refine gg_if_lt (S := sX1_find) (tgt := 42) 20 rfl dX1_find_17 (by decide) ?_ ?_
        · exact gg_pure (gg_sub [0, 1, 2, 3] rfl (he15 ()))
        · refine gg_aload_n (S := sX1_find) 0 21 rfl dX1_find_20 rfl rfl ?_
          refine gg_iload_n (S := sX1_find) 3 22 rfl dX1_find_21 rfl rfl ?_
          refine gg_iload (S := sX1_find) 4 24 rfl dX1_find_22 rfl ?_
          refine gg_aload_n (S := sX1_find) 0 25 rfl dX1_find_24 rfl rfl ?_
          refine gg_aload_n (S := sX1_find) 1 26 rfl dX1_find_25 rfl rfl ?_
          refine gg_iload_n (S := sX1_find) 3 27 rfl dX1_find_26 rfl rfl ?_
          refine gg_aload_n (S := sX1_find) 2 28 rfl dX1_find_27 rfl rfl ?_
          refine gg_iload (S := sX1_find) 4 30 rfl dX1_find_28 rfl ?_
          refine gg_callVi (S := sX1_find) (S' := sX1_reckonMost) (cs := 0) (sl := 0) (As := [vr x1, vi y2, vr x2, vi y4]) (st := [vi y4, vi y2, vr (some x0)]) 33 rfl (fun b6 => lkX1_reckonMost b6 x1 y2 x2 y4) mwX1_reckonMost rfl mlX1_24 dX1_find_30 cfX1 ⟨by decide, by decide⟩ 0 0 ⟨rfl, rfl⟩ ⟨by decide, by decide⟩ (Nat.le_of_ble_eq_true rfl) (fun t5 => ?_)
          refine gg_callVv (S := sX1_find) (S' := sX1_setMost) (cs := 0) (sl := 0) (As := [vi y2, vi y4, vi t5]) (st := []) 36 rfl (fun b5 => lkX1_setMost b5 y2 y4 t5) mwX1_setMost rfl mlX1_28 dX1_find_33 cfX1 ⟨by decide, by decide⟩ 0 0 ⟨rfl, rfl⟩ ⟨by decide, by decide⟩ (Nat.le_of_ble_eq_true rfl) (fun _ => ?_)
          refine gg_iinc (S := sX1_find) (L' := [(4, vi (y4 + (-1))), (0, vr (some x0)), (1, vr x1), (2, vr x2), (3, vi y2)]) 4 39 rfl dX1_find_36 rfl (by decide) rfl ?_
          refine gg_goto (S := sX1_find) (tgt := 15) dX1_find_39 (by decide) ?_
          exact gg_pure (gg_sub [1, 2, 3, 4, 0] rfl (hr15 (y4 + (-1))))
      · intro _
        refine gg_iinc (S := sX1_find) (L' := [(3, vi (y2 + (-1))), (0, vr (some x0)), (1, vr x1), (2, vr x2)]) 3 45 rfl dX1_find_42 rfl (by decide) rfl ?_
        refine gg_goto (S := sX1_find) (tgt := 5) dX1_find_45 (by decide) ?_
        exact gg_pure (gg_sub [1, 2, 3, 0] rfl (hr5 (y2 + (-1))))
  · intro _
    refine gg_aload_n (S := sX1_find) 0 49 rfl dX1_find_48 rfl rfl ?_
    refine gg_aload_n (S := sX1_find) 1 50 rfl dX1_find_49 rfl rfl ?_
    refine gg_aload_n (S := sX1_find) 2 51 rfl dX1_find_50 rfl rfl ?_
    refine gg_callVv (S := sX1_find) (S' := sX1_trace) (cs := 0) (sl := 0) (As := [vr x1, vr x2]) (st := []) 54 rfl (fun b8 => lkX1_trace b8 x1 x2) mwX1_trace rfl mlX1_32 dX1_find_51 cfX1 ⟨by decide, by decide⟩ 0 0 ⟨rfl, rfl⟩ ⟨by decide, by decide⟩ (Nat.le_of_ble_eq_true rfl) (fun _ => ?_)
    exact gg_pure (gg_vret (S := sX1_find) rfl dX1_find_54 (by decide) (by decide))

set_option maxRecDepth 100000 in
set_option maxHeartbeats 4000000 in
theorem lkX1_init (x0 : Nat) : LK yX1_init sX1_init [vr (some x0)] en_v (X1_init x0) := by
  refine lk_go (L := [(0, vr (some x0))]) (by decide +kernel) rfl (fun _ => rfl) (Nat.le_of_ble_eq_true rfl) rfl ?_
  intro K
  unfold X1_init
  refine gg_aload_n (S := sX1_init) 0 1 rfl dX1_init_0 rfl rfl ?_
  refine gg_objI (S := sX1_init) 4 rfl mlX1_3 oi_i oi_c dX1_init_1 (by decide) (Nat.le_of_ble_eq_true rfl) ?_
  refine gg_aload_n (S := sX1_init) 0 5 rfl dX1_init_4 rfl rfl ?_
  refine gg_sipush (S := sX1_init) 8 rfl dX1_init_5 (by decide) ?_
  refine gg_ni (S := sX1_init) (cap := 225) (cs := 0) (sl := 0) 10 rfl ac_I dX1_init_8 (by decide) 1 225 ⟨rfl, rfl⟩ (by decide) (by decide) (fun t1 => ?_)
  refine gg_srF (S := sX1_init) cfX1 (by decide) (Or.inl ⟨_, rfl⟩) (fun _ _ => rfl) rfl rfl rfl 13 rfl flX1_11 dX1_init_10 ?_
  refine gg_aload_n (S := sX1_init) 0 14 rfl dX1_init_13 rfl rfl ?_
  refine gg_bipush (S := sX1_init) 16 rfl dX1_init_14 (by decide) ?_
  refine gg_ni (S := sX1_init) (cap := 14) (cs := 1) (sl := 225) 18 rfl ac_I dX1_init_16 (by decide) 2 239 ⟨rfl, rfl⟩ (by decide) (by decide) (fun t2 => ?_)
  refine gg_srF (S := sX1_init) cfX1 (by decide) (Or.inl ⟨_, rfl⟩) (fun _ _ => rfl) rfl rfl rfl 21 rfl flX1_15 dX1_init_18 ?_
  exact gg_pure (gg_vret (S := sX1_init) rfl dX1_init_21 (by decide) (by decide))

set_option maxRecDepth 100000 in
set_option maxHeartbeats 4000000 in
theorem lkX1_mate (x0 : Nat) (x1 : Int) : LK yX1_mate sX1_mate [vr (some x0), vi x1] en_i (X1_mate x0 x1) := by
  refine lk_go (L := [(0, vr (some x0)), (1, vi x1)]) (by decide +kernel) rfl (fun h => by cases h) (Nat.le_of_ble_eq_true rfl) rfl ?_
  intro K
  unfold X1_mate
  refine gg_iload_n (S := sX1_mate) 1 1 rfl dX1_mate_0 rfl rfl ?_
  refine gg_if_lt (S := sX1_mate) (tgt := 22) 4 rfl dX1_mate_1 (by decide) ?_ ?_
  · refine gg_iconst (S := sX1_mate) 23 rfl dX1_mate_22 ?_
    exact gg_pure (gg_iret (S := sX1_mate) rfl dX1_mate_23 (by decide) (by decide))
  · refine gg_iload_n (S := sX1_mate) 1 5 rfl dX1_mate_4 rfl rfl ?_
    refine gg_aload_n (S := sX1_mate) 0 6 rfl dX1_mate_5 rfl rfl ?_
    refine gg_gr (S := sX1_mate) cfX1 (by decide) (fun _ _ => rfl) 9 rfl flX1_15 dX1_mate_6 (fun t1 => ?_)
    refine gg_alen (S := sX1_mate) 10 rfl dX1_mate_9 (fun t2 => ?_)
    refine gg_ic_ge (S := sX1_mate) (tgt := 22) 13 rfl dX1_mate_10 (by decide) ?_ ?_
    · refine gg_aload_n (S := sX1_mate) 0 14 rfl dX1_mate_13 rfl rfl ?_
      refine gg_gr (S := sX1_mate) cfX1 (by decide) (fun _ _ => rfl) 17 rfl flX1_15 dX1_mate_14 (fun t3 => ?_)
      refine gg_iload_n (S := sX1_mate) 1 18 rfl dX1_mate_17 rfl rfl ?_
      refine gg_ld (S := sX1_mate) 19 rfl dX1_mate_18 (fun t4 => ?_)
      refine gg_goto (S := sX1_mate) (tgt := 23) dX1_mate_19 (by decide) ?_
      exact gg_pure (gg_iret (S := sX1_mate) rfl dX1_mate_23 (by decide) (by decide))
    · refine gg_iconst (S := sX1_mate) 23 rfl dX1_mate_22 ?_
      exact gg_pure (gg_iret (S := sX1_mate) rfl dX1_mate_23 (by decide) (by decide))

set_option maxRecDepth 100000 in
set_option maxHeartbeats 4000000 in
theorem lkX3_addComingPart (x0 : Nat) (x1 : Option Nat) (x2 : Int) (x3 : Int) : LK yX3_addComingPart sX3_addComingPart [vr (some x0), vr x1, vi x2, vi x3] en_v (X3_addComingPart x0 x1 x2 x3) := by
  refine lk_go (L := [(0, vr (some x0)), (1, vr x1), (2, vi x2), (3, vi x3)]) (by decide +kernel) rfl (fun h => by cases h) (Nat.le_of_ble_eq_true rfl) rfl ?_
  intro K
  unfold X3_addComingPart
  refine gg_iload_n (S := sX3_addComingPart) 2 1 rfl dX3_addComingPart_0 rfl rfl ?_
  refine gg_istore (S := sX3_addComingPart) (L' := [(4, vi x2), (0, vr (some x0)), (1, vr x1), (2, vi x2), (3, vi x3)]) 3 rfl dX3_addComingPart_1 (by decide) rfl ?_
  refine gg_sub [1, 2, 4, 0] rfl ?_
  refine gg_loopA (fun y1 => [(0, vr (some x0)), (1, vr x1), (3, vi x3), (4, vi y1)]) (fun _ => []) 25 mo_N ?_ ?_ x2
  · intro κ3 hr3 he3
    intro y1
    dsimp only [X3_addComingPart_L3]
    refine gg_iload (S := sX3_addComingPart) 3 5 rfl dX3_addComingPart_3 rfl ?_
    refine gg_iload_n (S := sX3_addComingPart) 2 6 rfl dX3_addComingPart_5 rfl rfl ?_
    refine gg_ic_ge (S := sX3_addComingPart) (tgt := 25) 9 rfl dX3_addComingPart_6 (by decide) ?_ ?_
    · refine gg_aload_n (S := sX3_addComingPart) 0 10 rfl dX3_addComingPart_9 rfl rfl ?_
      refine gg_aload_n (S := sX3_addComingPart) 1 11 rfl dX3_addComingPart_10 rfl rfl ?_
      refine gg_iload (S := sX3_addComingPart) 3 13 rfl dX3_addComingPart_11 rfl ?_
      refine gg_callVi (S := sX3_addComingPart) (S' := sX4_at) (cs := 0) (sl := 0) (As := [vi y1]) (st := [vr (some x0)]) 16 rfl (fun b3 => lkX4_at b3 y1) mwX4_at rfl mlX3_67 dX3_addComingPart_13 cfX4 ⟨by decide, by decide⟩ 0 0 ⟨rfl, rfl⟩ ⟨by decide, by decide⟩ (Nat.le_of_ble_eq_true rfl) (fun t2 => ?_)
      refine gg_callVv (S := sX3_addComingPart) (S' := sX3_addComing) (cs := 0) (sl := 0) (As := [vi t2]) (st := []) 19 rfl (fun b2 => lkX3_addComing b2 t2) mwX3_addComing rfl mlX3_76 dX3_addComingPart_16 cfX3 ⟨by decide, by decide⟩ 0 0 ⟨rfl, rfl⟩ ⟨by decide, by decide⟩ (Nat.le_of_ble_eq_true rfl) (fun _ => ?_)
      refine gg_iinc (S := sX3_addComingPart) (L' := [(4, vi (y1 + 1)), (0, vr (some x0)), (1, vr x1), (3, vi x3)]) 3 22 rfl dX3_addComingPart_19 rfl (by decide) rfl ?_
      refine gg_goto (S := sX3_addComingPart) (tgt := 3) dX3_addComingPart_22 (by decide) ?_
      exact gg_pure (gg_sub [1, 2, 3, 0] rfl (hr3 (y1 + 1)))
    · exact gg_pure (gg_sub [] rfl (he3 ()))
  · intro _
    exact gg_pure (gg_vret (S := sX3_addComingPart) rfl dX3_addComingPart_25 (by decide) (by decide))

set_option maxRecDepth 100000 in
set_option maxHeartbeats 4000000 in
theorem lkX3_addGoingPart (x0 : Nat) (x1 : Option Nat) (x2 : Int) (x3 : Int) : LK yX3_addGoingPart sX3_addGoingPart [vr (some x0), vr x1, vi x2, vi x3] en_v (X3_addGoingPart x0 x1 x2 x3) := by
  refine lk_go (L := [(0, vr (some x0)), (1, vr x1), (2, vi x2), (3, vi x3)]) (by decide +kernel) rfl (fun h => by cases h) (Nat.le_of_ble_eq_true rfl) rfl ?_
  intro K
  unfold X3_addGoingPart
  refine gg_iload_n (S := sX3_addGoingPart) 2 1 rfl dX3_addGoingPart_0 rfl rfl ?_
  refine gg_istore (S := sX3_addGoingPart) (L' := [(4, vi x2), (0, vr (some x0)), (1, vr x1), (2, vi x2), (3, vi x3)]) 3 rfl dX3_addGoingPart_1 (by decide) rfl ?_
  refine gg_sub [1, 2, 4, 0] rfl ?_
  refine gg_loopA (fun y1 => [(0, vr (some x0)), (1, vr x1), (3, vi x3), (4, vi y1)]) (fun _ => []) 25 mo_N ?_ ?_ x2
  · intro κ3 hr3 he3
    intro y1
    dsimp only [X3_addGoingPart_L3]
    refine gg_iload (S := sX3_addGoingPart) 3 5 rfl dX3_addGoingPart_3 rfl ?_
    refine gg_iload_n (S := sX3_addGoingPart) 2 6 rfl dX3_addGoingPart_5 rfl rfl ?_
    refine gg_ic_ge (S := sX3_addGoingPart) (tgt := 25) 9 rfl dX3_addGoingPart_6 (by decide) ?_ ?_
    · refine gg_aload_n (S := sX3_addGoingPart) 0 10 rfl dX3_addGoingPart_9 rfl rfl ?_
      refine gg_aload_n (S := sX3_addGoingPart) 1 11 rfl dX3_addGoingPart_10 rfl rfl ?_
      refine gg_iload (S := sX3_addGoingPart) 3 13 rfl dX3_addGoingPart_11 rfl ?_
      refine gg_callVi (S := sX3_addGoingPart) (S' := sX4_at) (cs := 0) (sl := 0) (As := [vi y1]) (st := [vr (some x0)]) 16 rfl (fun b3 => lkX4_at b3 y1) mwX4_at rfl mlX3_67 dX3_addGoingPart_13 cfX4 ⟨by decide, by decide⟩ 0 0 ⟨rfl, rfl⟩ ⟨by decide, by decide⟩ (Nat.le_of_ble_eq_true rfl) (fun t2 => ?_)
      refine gg_callVv (S := sX3_addGoingPart) (S' := sX3_addGoing) (cs := 0) (sl := 0) (As := [vi t2]) (st := []) 19 rfl (fun b2 => lkX3_addGoing b2 t2) mwX3_addGoing rfl mlX3_72 dX3_addGoingPart_16 cfX3 ⟨by decide, by decide⟩ 0 0 ⟨rfl, rfl⟩ ⟨by decide, by decide⟩ (Nat.le_of_ble_eq_true rfl) (fun _ => ?_)
      refine gg_iinc (S := sX3_addGoingPart) (L' := [(4, vi (y1 + 1)), (0, vr (some x0)), (1, vr x1), (3, vi x3)]) 3 22 rfl dX3_addGoingPart_19 rfl (by decide) rfl ?_
      refine gg_goto (S := sX3_addGoingPart) (tgt := 3) dX3_addGoingPart_22 (by decide) ?_
      exact gg_pure (gg_sub [1, 2, 3, 0] rfl (hr3 (y1 + 1)))
    · exact gg_pure (gg_sub [] rfl (he3 ()))
  · intro _
    exact gg_pure (gg_vret (S := sX3_addGoingPart) rfl dX3_addGoingPart_25 (by decide) (by decide))

set_option maxRecDepth 100000 in
set_option maxHeartbeats 4000000 in
theorem lkX1_writeHunks (x0 : Nat) (x1 : Option Nat) (x2 : Option Nat) (x3 : Option Nat) : LK yX1_writeHunks sX1_writeHunks [vr (some x0), vr x1, vr x2, vr x3] en_v (X1_writeHunks x0 x1 x2 x3) := by
  refine lk_go (L := [(0, vr (some x0)), (1, vr x1), (2, vr x2), (3, vr x3)]) (by decide +kernel) rfl (fun h => by cases h) (Nat.le_of_ble_eq_true rfl) rfl ?_
  intro K
  unfold X1_writeHunks
  refine gg_iconst (S := sX1_writeHunks) 1 rfl dX1_writeHunks_0 ?_
  refine gg_istore (S := sX1_writeHunks) (L' := [(4, vi 0), (0, vr (some x0)), (1, vr x1), (2, vr x2), (3, vr x3)]) 3 rfl dX1_writeHunks_1 (by decide) rfl ?_
  refine gg_iconst (S := sX1_writeHunks) 4 rfl dX1_writeHunks_3 ?_
  refine gg_istore (S := sX1_writeHunks) (L' := [(5, vi 0), (4, vi 0), (0, vr (some x0)), (1, vr x1), (2, vr x2), (3, vr x3)]) 6 rfl dX1_writeHunks_4 (by decide) rfl ?_
  refine gg_aload_n (S := sX1_writeHunks) 5 7 rfl dX1_writeHunks_6 rfl rfl ?_
  refine gg_callVv (S := sX1_writeHunks) (S' := sX3_clear) (cs := 0) (sl := 0) (As := []) (st := []) 10 rfl (fun b17 => lkX3_clear b17) mwX3_clear rfl mlX1_36 dX1_writeHunks_7 cfX3 ⟨by decide, by decide⟩ 0 0 ⟨rfl, rfl⟩ ⟨by decide, by decide⟩ (Nat.le_of_ble_eq_true rfl) (fun _ => ?_)
  refine gg_iconst (S := sX1_writeHunks) 11 rfl dX1_writeHunks_10 ?_
  refine gg_istore (S := sX1_writeHunks) (L' := [(6, vi 0), (5, vi 0), (4, vi 0), (0, vr (some x0)), (1, vr x1), (2, vr x2), (3, vr x3)]) 13 rfl dX1_writeHunks_11 (by decide) rfl ?_
  refine gg_sub [3, 4, 5, 6, 2, 1, 0] rfl ?_
  refine gg_loopA (fun (y1, y2, y3) => [(0, vr (some x0)), (1, vr x1), (2, vr x2), (3, vr x3), (4, vi y1), (5, vi y2), (6, vi y3)]) (fun _ => []) 111 mo_N ?_ ?_ (0, 0, 0)
  · intro κ13 hr13 he13
    rintro ⟨y1, y2, y3⟩
    dsimp only [X1_writeHunks_L13]
    refine gg_iload (S := sX1_writeHunks) 6 15 rfl dX1_writeHunks_13 rfl ?_
    refine gg_aload_n (S := sX1_writeHunks) 1 16 rfl dX1_writeHunks_15 rfl rfl ?_
    refine gg_callVi (S := sX1_writeHunks) (S' := sX4_size) (cs := 0) (sl := 0) (As := []) (st := [vi y3]) 19 rfl (fun b16 => lkX4_size b16) mwX4_size rfl mlX1_18 dX1_writeHunks_16 cfX4 ⟨by decide, by decide⟩ 0 0 ⟨rfl, rfl⟩ ⟨by decide, by decide⟩ (Nat.le_of_ble_eq_true rfl) (fun t4 => ?_)
    refine gg_ic_gt (S := sX1_writeHunks) (tgt := 111) 22 rfl dX1_writeHunks_19 (by decide) ?_ ?_
    · refine gg_iload (S := sX1_writeHunks) 6 24 rfl dX1_writeHunks_22 rfl ?_
      refine gg_aload_n (S := sX1_writeHunks) 1 25 rfl dX1_writeHunks_24 rfl rfl ?_
      refine gg_callVi (S := sX1_writeHunks) (S' := sX4_size) (cs := 0) (sl := 0) (As := []) (st := [vi y3]) 28 rfl (fun b15 => lkX4_size b15) mwX4_size rfl mlX1_18 dX1_writeHunks_25 cfX4 ⟨by decide, by decide⟩ 0 0 ⟨rfl, rfl⟩ ⟨by decide, by decide⟩ (Nat.le_of_ble_eq_true rfl) (fun t5 => ?_)
      refine gg_join (fun t10 => [(0, vr (some x0)), (1, vr x1), (2, vr x2), (3, vr x3), (4, vi y1), (5, vi y2), (6, vi y3)]) (fun t10 => [vi t10]) 44 0 0 (fun κ28 hJ28 => ?_) ?_
      · refine gg_ic_ge (S := sX1_writeHunks) (tgt := 40) 31 rfl dX1_writeHunks_28 (by decide) ?_ ?_
        · refine gg_aload_n (S := sX1_writeHunks) 0 32 rfl dX1_writeHunks_31 rfl rfl ?_
          refine gg_iload (S := sX1_writeHunks) 6 34 rfl dX1_writeHunks_32 rfl ?_
          refine gg_callVi (S := sX1_writeHunks) (S' := sX1_mate) (cs := 0) (sl := 0) (As := [vi y3]) (st := []) 37 rfl (fun b8 => lkX1_mate b8 y3) mwX1_mate rfl mlX1_41 dX1_writeHunks_34 cfX1 ⟨by decide, by decide⟩ 0 0 ⟨rfl, rfl⟩ ⟨by decide, by decide⟩ (Nat.le_of_ble_eq_true rfl) (fun t8 => ?_)
          refine gg_goto (S := sX1_writeHunks) (tgt := 44) dX1_writeHunks_37 (by decide) ?_
          exact gg_pure (gg_sub [0, 1, 2, 3, 4, 5, 6] rfl (hJ28 t8))
        · refine gg_aload_n (S := sX1_writeHunks) 2 41 rfl dX1_writeHunks_40 rfl rfl ?_
          refine gg_callVi (S := sX1_writeHunks) (S' := sX4_size) (cs := 0) (sl := 0) (As := []) (st := []) 44 rfl (fun b6 => lkX4_size b6) mwX4_size rfl mlX1_18 dX1_writeHunks_41 cfX4 ⟨by decide, by decide⟩ 0 0 ⟨rfl, rfl⟩ ⟨by decide, by decide⟩ (Nat.le_of_ble_eq_true rfl) (fun t6 => ?_)
          exact gg_pure (gg_sub [0, 1, 2, 3, 4, 5, 6] rfl (hJ28 t6))
      · intro t10
        refine gg_istore (S := sX1_writeHunks) (L' := [(7, vi t10), (0, vr (some x0)), (1, vr x1), (2, vr x2), (3, vr x3), (4, vi y1), (5, vi y2), (6, vi y3)]) 46 rfl dX1_writeHunks_44 (by decide) rfl ?_
        refine gg_iload (S := sX1_writeHunks) 0 48 rfl dX1_writeHunks_46 rfl ?_
        refine gg_iconst (S := sX1_writeHunks) 49 rfl dX1_writeHunks_48 ?_
        refine gg_join (fun (t14, t15) => [(0, vr (some x0)), (1, vr x1), (2, vr x2), (3, vr x3), (4, vi t14), (5, vi t15), (6, vi y3)]) (fun (t14, t15) => []) 105 0 0 (fun κ49 hJ49 => ?_) ?_
        · refine gg_ic_ne (S := sX1_writeHunks) (tgt := 55) 52 rfl dX1_writeHunks_49 (by decide) ?_ ?_
          · refine gg_goto (S := sX1_writeHunks) (tgt := 105) dX1_writeHunks_52 (by decide) ?_
            exact gg_pure (gg_sub [1, 2, 3, 4, 5, 6, 7] rfl (hJ49 (y1, y2)))
          · refine gg_iload (S := sX1_writeHunks) 5 57 rfl dX1_writeHunks_55 rfl ?_
            refine gg_iload (S := sX1_writeHunks) 7 59 rfl dX1_writeHunks_57 rfl ?_
            refine gg_join (fun _ => [(0, vr (some x0)), (1, vr x1), (2, vr x2), (3, vr x3), (6, vi y3), (7, vi t10)]) (fun _ => []) 93 0 0 (fun κ59 hJ59 => ?_) ?_
            · refine gg_cond [(0, vr (some x0)), (1, vr x1), (2, vr x2), (3, vr x3), (4, vi y1), (5, vi y2), (6, vi y3), (7, vi t10)] [(0, vr (some x0)), (1, vr x1), (2, vr x2), (3, vr x3), (6, vi y3), (7, vi t10)] [] 69 93 0 0 (fun κ59 hT59 hF59 => ?_) ?_ ?_
              · refine gg_ic_lt (S := sX1_writeHunks) (tgt := 69) 62 rfl dX1_writeHunks_59 (by decide) ?_ ?_
                · exact gg_pure (gg_sub [1, 2, 3, 4, 5, 6, 7, 0] rfl hT59)
                · refine gg_iload (S := sX1_writeHunks) 6 64 rfl dX1_writeHunks_62 rfl ?_
                  refine gg_iload (S := sX1_writeHunks) 0 66 rfl dX1_writeHunks_64 rfl ?_
                  refine gg_ic_ge (S := sX1_writeHunks) (tgt := 93) 69 rfl dX1_writeHunks_66 (by decide) ?_ ?_
                  · exact gg_pure (gg_sub [1, 2, 3, 4, 5, 6, 7, 0] rfl hT59)
                  · exact gg_pure (gg_sub [1, 2, 3, 4, 7, 0] rfl hF59)
              · refine gg_aload_n (S := sX1_writeHunks) 3 70 rfl dX1_writeHunks_69 rfl rfl ?_
                refine gg_iload (S := sX1_writeHunks) 4 72 rfl dX1_writeHunks_70 rfl ?_
                refine gg_callVv (S := sX1_writeHunks) (S' := sX3_begin) (cs := 0) (sl := 0) (As := [vi y1]) (st := []) 75 rfl (fun b12 => lkX3_begin b12 y1) mwX3_begin rfl mlX1_45 dX1_writeHunks_72 cfX3 ⟨by decide, by decide⟩ 0 0 ⟨rfl, rfl⟩ ⟨by decide, by decide⟩ (Nat.le_of_ble_eq_true rfl) (fun _ => ?_)
                refine gg_aload_n (S := sX1_writeHunks) 3 76 rfl dX1_writeHunks_75 rfl rfl ?_
                refine gg_aload_n (S := sX1_writeHunks) 1 77 rfl dX1_writeHunks_76 rfl rfl ?_
                refine gg_iload (S := sX1_writeHunks) 4 79 rfl dX1_writeHunks_77 rfl ?_
                refine gg_iload (S := sX1_writeHunks) 6 81 rfl dX1_writeHunks_79 rfl ?_
                refine gg_callVv (S := sX1_writeHunks) (S' := sX3_addGoingPart) (cs := 0) (sl := 0) (As := [vr x1, vi y1, vi y3]) (st := []) 84 rfl (fun b11 => lkX3_addGoingPart b11 x1 y1 y3) mwX3_addGoingPart rfl mlX1_49 dX1_writeHunks_81 cfX3 ⟨by decide, by decide⟩ 0 0 ⟨rfl, rfl⟩ ⟨by decide, by decide⟩ (Nat.le_of_ble_eq_true rfl) (fun _ => ?_)
                refine gg_aload_n (S := sX1_writeHunks) 3 85 rfl dX1_writeHunks_84 rfl rfl ?_
                refine gg_aload_n (S := sX1_writeHunks) 2 86 rfl dX1_writeHunks_85 rfl rfl ?_
                refine gg_iload (S := sX1_writeHunks) 5 88 rfl dX1_writeHunks_86 rfl ?_
                refine gg_iload (S := sX1_writeHunks) 7 90 rfl dX1_writeHunks_88 rfl ?_
                refine gg_callVv (S := sX1_writeHunks) (S' := sX3_addComingPart) (cs := 0) (sl := 0) (As := [vr x2, vi y2, vi t10]) (st := []) 93 rfl (fun b10 => lkX3_addComingPart b10 x2 y2 t10) mwX3_addComingPart rfl mlX1_53 dX1_writeHunks_90 cfX3 ⟨by decide, by decide⟩ 0 0 ⟨rfl, rfl⟩ ⟨by decide, by decide⟩ (Nat.le_of_ble_eq_true rfl) (fun _ => ?_)
                exact gg_pure (gg_sub [0, 1, 2, 3, 6, 7] rfl (hJ59 ()))
              · exact gg_pure (gg_sub [0, 1, 2, 3, 4, 5] rfl (hJ59 ()))
            · intro _
              refine gg_iload (S := sX1_writeHunks) 4 95 rfl dX1_writeHunks_93 rfl ?_
              refine gg_iconst (S := sX1_writeHunks) 96 rfl dX1_writeHunks_95 ?_
              refine gg_iadd (S := sX1_writeHunks) 97 rfl dX1_writeHunks_96 ?_
              refine gg_istore (S := sX1_writeHunks) (L' := [(4, vi (y3 + 1)), (0, vr (some x0)), (1, vr x1), (2, vr x2), (3, vr x3), (6, vi y3), (7, vi t10)]) 99 rfl dX1_writeHunks_97 (by decide) rfl ?_
              refine gg_iload (S := sX1_writeHunks) 6 101 rfl dX1_writeHunks_99 rfl ?_
              refine gg_iconst (S := sX1_writeHunks) 102 rfl dX1_writeHunks_101 ?_
              refine gg_iadd (S := sX1_writeHunks) 103 rfl dX1_writeHunks_102 ?_
              refine gg_istore (S := sX1_writeHunks) (L' := [(5, vi (t10 + 1)), (4, vi (y3 + 1)), (0, vr (some x0)), (1, vr x1), (2, vr x2), (3, vr x3), (6, vi y3), (7, vi t10)]) 105 rfl dX1_writeHunks_103 (by decide) rfl ?_
              exact gg_pure (gg_sub [2, 3, 4, 5, 1, 0, 6] rfl (hJ49 ((y3 + 1), (t10 + 1))))
        · rintro ⟨t14, t15⟩
          dsimp only
          refine gg_iinc (S := sX1_writeHunks) (L' := [(6, vi (y3 + 1)), (0, vr (some x0)), (1, vr x1), (2, vr x2), (3, vr x3), (4, vi t14), (5, vi t15)]) 6 108 rfl dX1_writeHunks_105 rfl (by decide) rfl ?_
          refine gg_goto (S := sX1_writeHunks) (tgt := 13) dX1_writeHunks_108 (by decide) ?_
          exact gg_pure (gg_sub [1, 2, 3, 4, 5, 6, 0] rfl (hr13 (t14, t15, (y3 + 1))))
    · exact gg_pure (gg_sub [] rfl (he13 ()))
  · intro _
    exact gg_pure (gg_vret (S := sX1_writeHunks) rfl dX1_writeHunks_111 (by decide) (by decide))

set_option maxRecDepth 100000 in
set_option maxHeartbeats 4000000 in
theorem lkX2_pieceRoom (x0 : Nat) (x1 : Int) (x2 : Int) : LK yX2_pieceRoom sX2_pieceRoom [vr (some x0), vi x1, vi x2] en_i (X2_pieceRoom x0 x1 x2) := by
  refine lk_go (L := [(0, vr (some x0)), (1, vi x1), (2, vi x2)]) (by decide +kernel) rfl (fun h => by cases h) (Nat.le_of_ble_eq_true rfl) rfl ?_
  intro K
  unfold X2_pieceRoom
  refine gg_iload_n (S := sX2_pieceRoom) 1 1 rfl dX2_pieceRoom_0 rfl rfl ?_
  refine gg_if_lt (S := sX2_pieceRoom) (tgt := 10) 4 rfl dX2_pieceRoom_1 (by decide) ?_ ?_
  · refine gg_iconst (S := sX2_pieceRoom) 11 rfl dX2_pieceRoom_10 ?_
    exact gg_pure (gg_iret (S := sX2_pieceRoom) rfl dX2_pieceRoom_11 (by decide) (by decide))
  · refine gg_iload_n (S := sX2_pieceRoom) 1 5 rfl dX2_pieceRoom_4 rfl rfl ?_
    refine gg_bipush (S := sX2_pieceRoom) 7 rfl dX2_pieceRoom_5 (by decide) ?_
    refine gg_ic_lt (S := sX2_pieceRoom) (tgt := 12) 10 rfl dX2_pieceRoom_7 (by decide) ?_ ?_
    · refine gg_iload_n (S := sX2_pieceRoom) 2 13 rfl dX2_pieceRoom_12 rfl rfl ?_
      refine gg_if_lt (S := sX2_pieceRoom) (tgt := 36) 16 rfl dX2_pieceRoom_13 (by decide) ?_ ?_
      · refine gg_aload_n (S := sX2_pieceRoom) 0 37 rfl dX2_pieceRoom_36 rfl rfl ?_
        refine gg_gr (S := sX2_pieceRoom) cfX2 (by decide) (fun _ _ => rfl) 40 rfl flX2_9 dX2_pieceRoom_37 (fun t1 => ?_)
        refine gg_iload_n (S := sX2_pieceRoom) 1 41 rfl dX2_pieceRoom_40 rfl rfl ?_
        refine gg_ld (S := sX2_pieceRoom) 42 rfl dX2_pieceRoom_41 (fun t2 => ?_)
        exact gg_pure (gg_iret (S := sX2_pieceRoom) rfl dX2_pieceRoom_42 (by decide) (by decide))
      · refine gg_iload_n (S := sX2_pieceRoom) 2 17 rfl dX2_pieceRoom_16 rfl rfl ?_
        refine gg_bipush (S := sX2_pieceRoom) 19 rfl dX2_pieceRoom_17 (by decide) ?_
        refine gg_ic_ge (S := sX2_pieceRoom) (tgt := 36) 22 rfl dX2_pieceRoom_19 (by decide) ?_ ?_
        · refine gg_aload_n (S := sX2_pieceRoom) 0 23 rfl dX2_pieceRoom_22 rfl rfl ?_
          refine gg_gr (S := sX2_pieceRoom) cfX2 (by decide) (fun _ _ => rfl) 26 rfl flX2_15 dX2_pieceRoom_23 (fun t5 => ?_)
          refine gg_iload_n (S := sX2_pieceRoom) 2 27 rfl dX2_pieceRoom_26 rfl rfl ?_
          refine gg_bipush (S := sX2_pieceRoom) 29 rfl dX2_pieceRoom_27 (by decide) ?_
          refine gg_imul (S := sX2_pieceRoom) 30 rfl dX2_pieceRoom_29 ?_
          refine gg_iload_n (S := sX2_pieceRoom) 1 31 rfl dX2_pieceRoom_30 rfl rfl ?_
          refine gg_iadd (S := sX2_pieceRoom) 32 rfl dX2_pieceRoom_31 ?_
          refine gg_ld (S := sX2_pieceRoom) 33 rfl dX2_pieceRoom_32 (fun t6 => ?_)
          refine gg_goto (S := sX2_pieceRoom) (tgt := 42) dX2_pieceRoom_33 (by decide) ?_
          exact gg_pure (gg_iret (S := sX2_pieceRoom) rfl dX2_pieceRoom_42 (by decide) (by decide))
        · refine gg_aload_n (S := sX2_pieceRoom) 0 37 rfl dX2_pieceRoom_36 rfl rfl ?_
          refine gg_gr (S := sX2_pieceRoom) cfX2 (by decide) (fun _ _ => rfl) 40 rfl flX2_9 dX2_pieceRoom_37 (fun t3 => ?_)
          refine gg_iload_n (S := sX2_pieceRoom) 1 41 rfl dX2_pieceRoom_40 rfl rfl ?_
          refine gg_ld (S := sX2_pieceRoom) 42 rfl dX2_pieceRoom_41 (fun t4 => ?_)
          exact gg_pure (gg_iret (S := sX2_pieceRoom) rfl dX2_pieceRoom_42 (by decide) (by decide))
    · refine gg_iconst (S := sX2_pieceRoom) 11 rfl dX2_pieceRoom_10 ?_
      exact gg_pure (gg_iret (S := sX2_pieceRoom) rfl dX2_pieceRoom_11 (by decide) (by decide))

set_option maxRecDepth 100000 in
set_option maxHeartbeats 4000000 in
theorem lkX2_bestPieceRoom (x0 : Nat) (x1 : Int) : LK yX2_bestPieceRoom sX2_bestPieceRoom [vr (some x0), vi x1] en_i (X2_bestPieceRoom x0 x1) := by
  refine lk_go (L := [(0, vr (some x0)), (1, vi x1)]) (by decide +kernel) rfl (fun h => by cases h) (Nat.le_of_ble_eq_true rfl) rfl ?_
  intro K
  unfold X2_bestPieceRoom
  refine gg_iload_n (S := sX2_bestPieceRoom) 1 1 rfl dX2_bestPieceRoom_0 rfl rfl ?_
  refine gg_if_lt (S := sX2_bestPieceRoom) (tgt := 24) 4 rfl dX2_bestPieceRoom_1 (by decide) ?_ ?_
  · refine gg_iconst (S := sX2_bestPieceRoom) 25 rfl dX2_bestPieceRoom_24 ?_
    exact gg_pure (gg_iret (S := sX2_bestPieceRoom) rfl dX2_bestPieceRoom_25 (by decide) (by decide))
  · refine gg_iload_n (S := sX2_bestPieceRoom) 1 5 rfl dX2_bestPieceRoom_4 rfl rfl ?_
    refine gg_bipush (S := sX2_bestPieceRoom) 7 rfl dX2_bestPieceRoom_5 (by decide) ?_
    refine gg_ic_ge (S := sX2_bestPieceRoom) (tgt := 24) 10 rfl dX2_bestPieceRoom_7 (by decide) ?_ ?_
    · refine gg_aload_n (S := sX2_bestPieceRoom) 0 11 rfl dX2_bestPieceRoom_10 rfl rfl ?_
      refine gg_iload_n (S := sX2_bestPieceRoom) 1 12 rfl dX2_bestPieceRoom_11 rfl rfl ?_
      refine gg_aload_n (S := sX2_bestPieceRoom) 0 13 rfl dX2_bestPieceRoom_12 rfl rfl ?_
      refine gg_gr (S := sX2_bestPieceRoom) cfX2 (by decide) (fun _ _ => rfl) 16 rfl flX2_30 dX2_bestPieceRoom_13 (fun t1 => ?_)
      refine gg_iload_n (S := sX2_bestPieceRoom) 1 17 rfl dX2_bestPieceRoom_16 rfl rfl ?_
      refine gg_ld (S := sX2_bestPieceRoom) 18 rfl dX2_bestPieceRoom_17 (fun t2 => ?_)
      refine gg_callVi (S := sX2_bestPieceRoom) (S' := sX2_pieceRoom) (cs := 0) (sl := 0) (As := [vi x1, vi t2]) (st := []) 21 rfl (fun b3 => lkX2_pieceRoom b3 x1 t2) mwX2_pieceRoom rfl mlX2_90 dX2_bestPieceRoom_18 cfX2 ⟨by decide, by decide⟩ 0 0 ⟨rfl, rfl⟩ ⟨by decide, by decide⟩ (Nat.le_of_ble_eq_true rfl) (fun t3 => ?_)
      refine gg_goto (S := sX2_bestPieceRoom) (tgt := 25) dX2_bestPieceRoom_21 (by decide) ?_
      exact gg_pure (gg_iret (S := sX2_bestPieceRoom) rfl dX2_bestPieceRoom_25 (by decide) (by decide))
    · refine gg_iconst (S := sX2_bestPieceRoom) 25 rfl dX2_bestPieceRoom_24 ?_
      exact gg_pure (gg_iret (S := sX2_bestPieceRoom) rfl dX2_bestPieceRoom_25 (by decide) (by decide))

set_option maxRecDepth 100000 in
set_option maxHeartbeats 4000000 in
theorem lkX2_isRemadeBy (x0 : Nat) (x1 : Int) (x2 : Int) : LK yX2_isRemadeBy sX2_isRemadeBy [vr (some x0), vi x1, vi x2] en_i (X2_isRemadeBy x0 x1 x2) := by
  refine lk_go (L := [(0, vr (some x0)), (1, vi x1), (2, vi x2)]) (by decide +kernel) rfl (fun h => by cases h) (Nat.le_of_ble_eq_true rfl) rfl ?_
  intro K
  unfold X2_isRemadeBy
  refine gg_iload_n (S := sX2_isRemadeBy) 1 1 rfl dX2_isRemadeBy_0 rfl rfl ?_
  refine gg_istore_n (S := sX2_isRemadeBy) (L' := [(3, vi x1), (0, vr (some x0)), (1, vi x1), (2, vi x2)]) 2 rfl dX2_isRemadeBy_1 rfl (by decide) rfl ?_
  refine gg_iconst (S := sX2_isRemadeBy) 3 rfl dX2_isRemadeBy_2 ?_
  refine gg_istore (S := sX2_isRemadeBy) (L' := [(4, vi 0), (3, vi x1), (0, vr (some x0)), (1, vi x1), (2, vi x2)]) 5 rfl dX2_isRemadeBy_3 (by decide) rfl ?_
  refine gg_sub [2, 4, 1, 0] rfl ?_
  refine gg_loop (fun (y1, y2) => [(0, vr (some x0)), (2, vi x2), (3, vi y1), (4, vi y2)]) mo_N ?_ (x1, 0)
  · intro rec5 hr5
    rintro ⟨y1, y2⟩
    dsimp only [X2_isRemadeBy_L5]
    refine gg_iload (S := sX2_isRemadeBy) 3 7 rfl dX2_isRemadeBy_5 rfl ?_
    refine gg_aload_n (S := sX2_isRemadeBy) 0 8 rfl dX2_isRemadeBy_7 rfl rfl ?_
    refine gg_gi (S := sX2_isRemadeBy) cfX2 (by decide) (fun _ _ => rfl) 11 rfl flX2_42 dX2_isRemadeBy_8 (fun t3 => ?_)
    refine gg_ic_ge (S := sX2_isRemadeBy) (tgt := 44) 14 rfl dX2_isRemadeBy_11 (by decide) ?_ ?_
    · refine gg_iload_n (S := sX2_isRemadeBy) 2 15 rfl dX2_isRemadeBy_14 rfl rfl ?_
      refine gg_if_lt (S := sX2_isRemadeBy) (tgt := 44) 18 rfl dX2_isRemadeBy_15 (by decide) ?_ ?_
      · refine gg_iconst (S := sX2_isRemadeBy) 45 rfl dX2_isRemadeBy_44 ?_
        exact gg_pure (gg_zretc (S := sX2_isRemadeBy) (by decide) rfl dX2_isRemadeBy_45 (by decide) (by decide))
      · refine gg_iload_n (S := sX2_isRemadeBy) 2 19 rfl dX2_isRemadeBy_18 rfl rfl ?_
        refine gg_bipush (S := sX2_isRemadeBy) 21 rfl dX2_isRemadeBy_19 (by decide) ?_
        refine gg_ic_ge (S := sX2_isRemadeBy) (tgt := 44) 24 rfl dX2_isRemadeBy_21 (by decide) ?_ ?_
        · refine gg_iload_n (S := sX2_isRemadeBy) 2 25 rfl dX2_isRemadeBy_24 rfl rfl ?_
          refine gg_iload_n (S := sX2_isRemadeBy) 1 26 rfl dX2_isRemadeBy_25 rfl rfl ?_
          refine gg_ic_ne (S := sX2_isRemadeBy) (tgt := 31) 29 rfl dX2_isRemadeBy_26 (by decide) ?_ ?_
          · refine gg_iconst (S := sX2_isRemadeBy) 30 rfl dX2_isRemadeBy_29 ?_
            exact gg_pure (gg_zretc (S := sX2_isRemadeBy) (by decide) rfl dX2_isRemadeBy_30 (by decide) (by decide))
          · refine gg_aload_n (S := sX2_isRemadeBy) 0 32 rfl dX2_isRemadeBy_31 rfl rfl ?_
            refine gg_gr (S := sX2_isRemadeBy) cfX2 (by decide) (fun _ _ => rfl) 35 rfl flX2_30 dX2_isRemadeBy_32 (fun t4 => ?_)
            refine gg_iload_n (S := sX2_isRemadeBy) 2 36 rfl dX2_isRemadeBy_35 rfl rfl ?_
            refine gg_ld (S := sX2_isRemadeBy) 37 rfl dX2_isRemadeBy_36 (fun t5 => ?_)
            refine gg_istore_n (S := sX2_isRemadeBy) (L' := [(3, vi t5), (0, vr (some x0)), (2, vi x2), (4, vi y2)]) 38 rfl dX2_isRemadeBy_37 rfl (by decide) rfl ?_
            refine gg_iinc (S := sX2_isRemadeBy) (L' := [(4, vi (y2 + 1)), (3, vi t5), (0, vr (some x0)), (2, vi x2)]) 3 41 rfl dX2_isRemadeBy_38 rfl (by decide) rfl ?_
            refine gg_goto (S := sX2_isRemadeBy) (tgt := 5) dX2_isRemadeBy_41 (by decide) ?_
            exact gg_pure (gg_sub [2, 3, 1, 0] rfl (hr5 (t5, (y2 + 1))))
        · refine gg_iconst (S := sX2_isRemadeBy) 45 rfl dX2_isRemadeBy_44 ?_
          exact gg_pure (gg_zretc (S := sX2_isRemadeBy) (by decide) rfl dX2_isRemadeBy_45 (by decide) (by decide))
    · refine gg_iconst (S := sX2_isRemadeBy) 45 rfl dX2_isRemadeBy_44 ?_
      exact gg_pure (gg_zretc (S := sX2_isRemadeBy) (by decide) rfl dX2_isRemadeBy_45 (by decide) (by decide))

set_option maxRecDepth 100000 in
set_option maxHeartbeats 4000000 in
theorem lkX2_lostWith (x0 : Nat) (x1 : Int) : LK yX2_lostWith sX2_lostWith [vr (some x0), vi x1] en_i (X2_lostWith x0 x1) := by
  refine lk_go (L := [(0, vr (some x0)), (1, vi x1)]) (by decide +kernel) rfl (fun h => by cases h) (Nat.le_of_ble_eq_true rfl) rfl ?_
  intro K
  unfold X2_lostWith
  refine gg_iconst (S := sX2_lostWith) 1 rfl dX2_lostWith_0 ?_
  refine gg_istore_n (S := sX2_lostWith) (L' := [(2, vi 0), (0, vr (some x0)), (1, vi x1)]) 2 rfl dX2_lostWith_1 rfl (by decide) rfl ?_
  refine gg_iconst (S := sX2_lostWith) 3 rfl dX2_lostWith_2 ?_
  refine gg_istore_n (S := sX2_lostWith) (L' := [(3, vi 0), (2, vi 0), (0, vr (some x0)), (1, vi x1)]) 4 rfl dX2_lostWith_3 rfl (by decide) rfl ?_
  refine gg_sub [2, 3, 1, 0] rfl ?_
  refine gg_loopA (fun (y1, y2) => [(0, vr (some x0)), (1, vi x1), (2, vi y1), (3, vi y2)]) (fun t9 => [(2, vi t9)]) 40 mo_N ?_ ?_ (0, 0)
  · intro κ4 hr4 he4
    rintro ⟨y1, y2⟩
    dsimp only [X2_lostWith_L4]
    refine gg_iload_n (S := sX2_lostWith) 3 5 rfl dX2_lostWith_4 rfl rfl ?_
    refine gg_aload_n (S := sX2_lostWith) 0 6 rfl dX2_lostWith_5 rfl rfl ?_
    refine gg_gi (S := sX2_lostWith) cfX2 (by decide) (fun _ _ => rfl) 9 rfl flX2_42 dX2_lostWith_6 (fun t3 => ?_)
    refine gg_ic_ge (S := sX2_lostWith) (tgt := 40) 12 rfl dX2_lostWith_9 (by decide) ?_ ?_
    · refine gg_iload_n (S := sX2_lostWith) 2 13 rfl dX2_lostWith_12 rfl rfl ?_
      refine gg_aload_n (S := sX2_lostWith) 0 14 rfl dX2_lostWith_13 rfl rfl ?_
      refine gg_iload_n (S := sX2_lostWith) 3 15 rfl dX2_lostWith_14 rfl rfl ?_
      refine gg_iload_n (S := sX2_lostWith) 1 16 rfl dX2_lostWith_15 rfl rfl ?_
      refine gg_callVi (S := sX2_lostWith) (S' := sX2_isRemadeBy) (cs := 0) (sl := 0) (As := [vi y2, vi x1]) (st := [vi y1]) 19 rfl (fun b7 => lkX2_isRemadeBy b7 y2 x1) mwX2_isRemadeBy rfl mlX2_70 dX2_lostWith_16 cfX2 ⟨by decide, by decide⟩ 0 0 ⟨rfl, rfl⟩ ⟨by decide, by decide⟩ (Nat.le_of_ble_eq_true rfl) (fun t4 => ?_)
      refine gg_join (fun t7 => [(0, vr (some x0)), (1, vi x1), (3, vi y2)]) (fun t7 => [vi t7, vi y1]) 32 0 0 (fun κ19 hJ19 => ?_) ?_
      · refine gg_if_eq (S := sX2_lostWith) (tgt := 31) 22 rfl dX2_lostWith_19 (by decide) ?_ ?_
        · refine gg_iconst (S := sX2_lostWith) 32 rfl dX2_lostWith_31 ?_
          exact gg_pure (gg_sub [0, 1, 3] rfl (hJ19 0))
        · refine gg_aload_n (S := sX2_lostWith) 0 23 rfl dX2_lostWith_22 rfl rfl ?_
          refine gg_gr (S := sX2_lostWith) cfX2 (by decide) (fun _ _ => rfl) 26 rfl flX2_18 dX2_lostWith_23 (fun t5 => ?_)
          refine gg_iload_n (S := sX2_lostWith) 3 27 rfl dX2_lostWith_26 rfl rfl ?_
          refine gg_ld (S := sX2_lostWith) 28 rfl dX2_lostWith_27 (fun t6 => ?_)
          refine gg_goto (S := sX2_lostWith) (tgt := 32) dX2_lostWith_28 (by decide) ?_
          exact gg_pure (gg_sub [0, 1, 3] rfl (hJ19 t6))
      · intro t7
        refine gg_iadd (S := sX2_lostWith) 33 rfl dX2_lostWith_32 ?_
        refine gg_istore_n (S := sX2_lostWith) (L' := [(2, vi (y1 + t7)), (0, vr (some x0)), (1, vi x1), (3, vi y2)]) 34 rfl dX2_lostWith_33 rfl (by decide) rfl ?_
        refine gg_iinc (S := sX2_lostWith) (L' := [(3, vi (y2 + 1)), (2, vi (y1 + t7)), (0, vr (some x0)), (1, vi x1)]) 3 37 rfl dX2_lostWith_34 rfl (by decide) rfl ?_
        refine gg_goto (S := sX2_lostWith) (tgt := 4) dX2_lostWith_37 (by decide) ?_
        exact gg_pure (gg_sub [2, 3, 1, 0] rfl (hr4 ((y1 + t7), (y2 + 1))))
    · exact gg_pure (gg_sub [2] rfl (he4 y1))
  · intro t9
    refine gg_iload_n (S := sX2_lostWith) 0 41 rfl dX2_lostWith_40 rfl rfl ?_
    exact gg_pure (gg_iret (S := sX2_lostWith) rfl dX2_lostWith_41 (by decide) (by decide))

set_option maxRecDepth 100000 in
set_option maxHeartbeats 4000000 in
theorem lkX2_worstPiece (x0 : Nat) (x1 : Int) : LK yX2_worstPiece sX2_worstPiece [vr (some x0), vi x1] en_i (X2_worstPiece x0 x1) := by
  refine lk_go (L := [(0, vr (some x0)), (1, vi x1)]) (by decide +kernel) rfl (fun h => by cases h) (Nat.le_of_ble_eq_true rfl) rfl ?_
  intro K
  unfold X2_worstPiece
  refine gg_iconst (S := sX2_worstPiece) 1 rfl dX2_worstPiece_0 ?_
  refine gg_istore_n (S := sX2_worstPiece) (L' := [(2, vi (-1)), (0, vr (some x0)), (1, vi x1)]) 2 rfl dX2_worstPiece_1 rfl (by decide) rfl ?_
  refine gg_iconst (S := sX2_worstPiece) 3 rfl dX2_worstPiece_2 ?_
  refine gg_istore_n (S := sX2_worstPiece) (L' := [(3, vi 0), (2, vi (-1)), (0, vr (some x0)), (1, vi x1)]) 4 rfl dX2_worstPiece_3 rfl (by decide) rfl ?_
  refine gg_sub [2, 3, 1, 0] rfl ?_
  refine gg_loopA (fun (y1, y2) => [(0, vr (some x0)), (1, vi x1), (2, vi y1), (3, vi y2)]) (fun t10 => [(2, vi t10)]) 50 mo_N ?_ ?_ ((-1), 0)
  · intro κ4 hr4 he4
    rintro ⟨y1, y2⟩
    dsimp only [X2_worstPiece_L4]
    refine gg_aload_n (S := sX2_worstPiece) 0 5 rfl dX2_worstPiece_4 rfl rfl ?_
    refine gg_gi (S := sX2_worstPiece) cfX2 (by decide) (fun _ _ => rfl) 8 rfl flX2_49 dX2_worstPiece_5 (fun t3 => ?_)
    refine gg_if_eq (S := sX2_worstPiece) (tgt := 50) 11 rfl dX2_worstPiece_8 (by decide) ?_ ?_
    · exact gg_pure (gg_sub [2] rfl (he4 y1))
    · refine gg_iload_n (S := sX2_worstPiece) 3 12 rfl dX2_worstPiece_11 rfl rfl ?_
      refine gg_aload_n (S := sX2_worstPiece) 0 13 rfl dX2_worstPiece_12 rfl rfl ?_
      refine gg_gi (S := sX2_worstPiece) cfX2 (by decide) (fun _ _ => rfl) 16 rfl flX2_42 dX2_worstPiece_13 (fun t4 => ?_)
      refine gg_ic_ge (S := sX2_worstPiece) (tgt := 50) 19 rfl dX2_worstPiece_16 (by decide) ?_ ?_
      · refine gg_iload_n (S := sX2_worstPiece) 3 20 rfl dX2_worstPiece_19 rfl rfl ?_
        refine gg_iload_n (S := sX2_worstPiece) 1 21 rfl dX2_worstPiece_20 rfl rfl ?_
        refine gg_join (fun t9 => [(0, vr (some x0)), (1, vi x1), (2, vi t9), (3, vi y2)]) (fun t9 => []) 44 0 0 (fun κ21 hJ21 => ?_) ?_
        · refine gg_ic_eq (S := sX2_worstPiece) (tgt := 44) 24 rfl dX2_worstPiece_21 (by decide) ?_ ?_
          · exact gg_pure (gg_sub [0, 1, 2, 3] rfl (hJ21 y1))
          · refine gg_iload_n (S := sX2_worstPiece) 2 25 rfl dX2_worstPiece_24 rfl rfl ?_
            refine gg_iconst (S := sX2_worstPiece) 26 rfl dX2_worstPiece_25 ?_
            refine gg_ic_eq (S := sX2_worstPiece) (tgt := 42) 29 rfl dX2_worstPiece_26 (by decide) ?_ ?_
            · refine gg_iload_n (S := sX2_worstPiece) 3 43 rfl dX2_worstPiece_42 rfl rfl ?_
              refine gg_istore_n (S := sX2_worstPiece) (L' := [(2, vi y2), (0, vr (some x0)), (1, vi x1), (3, vi y2)]) 44 rfl dX2_worstPiece_43 rfl (by decide) rfl ?_
              exact gg_pure (gg_sub [1, 2, 0, 3] rfl (hJ21 y2))
            · refine gg_aload_n (S := sX2_worstPiece) 0 30 rfl dX2_worstPiece_29 rfl rfl ?_
              refine gg_iload_n (S := sX2_worstPiece) 3 31 rfl dX2_worstPiece_30 rfl rfl ?_
              refine gg_callVi (S := sX2_worstPiece) (S' := sX2_lostWith) (cs := 0) (sl := 0) (As := [vi y2]) (st := []) 34 rfl (fun b7 => lkX2_lostWith b7 y2) mwX2_lostWith rfl mlX2_74 dX2_worstPiece_31 cfX2 ⟨by decide, by decide⟩ 0 0 ⟨rfl, rfl⟩ ⟨by decide, by decide⟩ (Nat.le_of_ble_eq_true rfl) (fun t5 => ?_)
              refine gg_aload_n (S := sX2_worstPiece) 0 35 rfl dX2_worstPiece_34 rfl rfl ?_
              refine gg_iload_n (S := sX2_worstPiece) 2 36 rfl dX2_worstPiece_35 rfl rfl ?_
              refine gg_callVi (S := sX2_worstPiece) (S' := sX2_lostWith) (cs := 0) (sl := 0) (As := [vi y1]) (st := [vi t5]) 39 rfl (fun b6 => lkX2_lostWith b6 y1) mwX2_lostWith rfl mlX2_74 dX2_worstPiece_36 cfX2 ⟨by decide, by decide⟩ 0 0 ⟨rfl, rfl⟩ ⟨by decide, by decide⟩ (Nat.le_of_ble_eq_true rfl) (fun t6 => ?_)
              refine gg_ic_le (S := sX2_worstPiece) (tgt := 44) 42 rfl dX2_worstPiece_39 (by decide) ?_ ?_
              · exact gg_pure (gg_sub [0, 1, 2, 3] rfl (hJ21 y1))
              · refine gg_iload_n (S := sX2_worstPiece) 3 43 rfl dX2_worstPiece_42 rfl rfl ?_
                refine gg_istore_n (S := sX2_worstPiece) (L' := [(2, vi y2), (0, vr (some x0)), (1, vi x1), (3, vi y2)]) 44 rfl dX2_worstPiece_43 rfl (by decide) rfl ?_
                exact gg_pure (gg_sub [1, 2, 0, 3] rfl (hJ21 y2))
        · intro t9
          refine gg_iinc (S := sX2_worstPiece) (L' := [(3, vi (y2 + 1)), (0, vr (some x0)), (1, vi x1), (2, vi t9)]) 3 47 rfl dX2_worstPiece_44 rfl (by decide) rfl ?_
          refine gg_goto (S := sX2_worstPiece) (tgt := 4) dX2_worstPiece_47 (by decide) ?_
          exact gg_pure (gg_sub [1, 2, 3, 0] rfl (hr4 (t9, (y2 + 1))))
      · exact gg_pure (gg_sub [2] rfl (he4 y1))
  · intro t10
    refine gg_iload_n (S := sX2_worstPiece) 0 51 rfl dX2_worstPiece_50 rfl rfl ?_
    exact gg_pure (gg_iret (S := sX2_worstPiece) rfl dX2_worstPiece_51 (by decide) (by decide))

set_option maxRecDepth 100000 in
set_option maxHeartbeats 4000000 in
theorem lkX2_worstLossBut (x0 : Nat) (x1 : Int) : LK yX2_worstLossBut sX2_worstLossBut [vr (some x0), vi x1] en_i (X2_worstLossBut x0 x1) := by
  refine lk_go (L := [(0, vr (some x0)), (1, vi x1)]) (by decide +kernel) rfl (fun h => by cases h) (Nat.le_of_ble_eq_true rfl) rfl ?_
  intro K
  unfold X2_worstLossBut
  refine gg_aload_n (S := sX2_worstLossBut) 0 1 rfl dX2_worstLossBut_0 rfl rfl ?_
  refine gg_iload_n (S := sX2_worstLossBut) 1 2 rfl dX2_worstLossBut_1 rfl rfl ?_
  refine gg_callVi (S := sX2_worstLossBut) (S' := sX2_worstPiece) (cs := 0) (sl := 0) (As := [vi x1]) (st := []) 5 rfl (fun b3 => lkX2_worstPiece b3 x1) mwX2_worstPiece rfl mlX2_78 dX2_worstLossBut_2 cfX2 ⟨by decide, by decide⟩ 0 0 ⟨rfl, rfl⟩ ⟨by decide, by decide⟩ (Nat.le_of_ble_eq_true rfl) (fun t1 => ?_)
  refine gg_istore_n (S := sX2_worstLossBut) (L' := [(2, vi t1), (0, vr (some x0)), (1, vi x1)]) 6 rfl dX2_worstLossBut_5 rfl (by decide) rfl ?_
  refine gg_iload_n (S := sX2_worstLossBut) 0 7 rfl dX2_worstLossBut_6 rfl rfl ?_
  refine gg_iconst (S := sX2_worstLossBut) 8 rfl dX2_worstLossBut_7 ?_
  refine gg_ic_ne (S := sX2_worstLossBut) (tgt := 15) 11 rfl dX2_worstLossBut_8 (by decide) ?_ ?_
  · refine gg_iconst (S := sX2_worstLossBut) 12 rfl dX2_worstLossBut_11 ?_
    refine gg_goto (S := sX2_worstLossBut) (tgt := 20) dX2_worstLossBut_12 (by decide) ?_
    exact gg_pure (gg_iret (S := sX2_worstLossBut) rfl dX2_worstLossBut_20 (by decide) (by decide))
  · refine gg_aload_n (S := sX2_worstLossBut) 1 16 rfl dX2_worstLossBut_15 rfl rfl ?_
    refine gg_iload_n (S := sX2_worstLossBut) 0 17 rfl dX2_worstLossBut_16 rfl rfl ?_
    refine gg_callVi (S := sX2_worstLossBut) (S' := sX2_lostWith) (cs := 0) (sl := 0) (As := [vi t1]) (st := []) 20 rfl (fun b2 => lkX2_lostWith b2 t1) mwX2_lostWith rfl mlX2_74 dX2_worstLossBut_17 cfX2 ⟨by decide, by decide⟩ 0 0 ⟨rfl, rfl⟩ ⟨by decide, by decide⟩ (Nat.le_of_ble_eq_true rfl) (fun t2 => ?_)
    exact gg_pure (gg_iret (S := sX2_worstLossBut) rfl dX2_worstLossBut_20 (by decide) (by decide))

set_option maxRecDepth 100000 in
set_option maxHeartbeats 4000000 in
theorem lkX2_isBetterCopy (x0 : Nat) (x1 : Int) (x2 : Int) : LK yX2_isBetterCopy sX2_isBetterCopy [vr (some x0), vi x1, vi x2] en_i (X2_isBetterCopy x0 x1 x2) := by
  refine lk_go (L := [(0, vr (some x0)), (1, vi x1), (2, vi x2)]) (by decide +kernel) rfl (fun h => by cases h) (Nat.le_of_ble_eq_true rfl) rfl ?_
  intro K
  unfold X2_isBetterCopy
  refine gg_aload_n (S := sX2_isBetterCopy) 0 1 rfl dX2_isBetterCopy_0 rfl rfl ?_
  refine gg_iload_n (S := sX2_isBetterCopy) 1 2 rfl dX2_isBetterCopy_1 rfl rfl ?_
  refine gg_callVi (S := sX2_isBetterCopy) (S' := sX2_worstLossBut) (cs := 0) (sl := 0) (As := [vi x1]) (st := []) 5 rfl (fun b7 => lkX2_worstLossBut b7 x1) mwX2_worstLossBut rfl mlX2_87 dX2_isBetterCopy_2 cfX2 ⟨by decide, by decide⟩ 0 0 ⟨rfl, rfl⟩ ⟨by decide, by decide⟩ (Nat.le_of_ble_eq_true rfl) (fun t1 => ?_)
  refine gg_istore_n (S := sX2_isBetterCopy) (L' := [(3, vi t1), (0, vr (some x0)), (1, vi x1), (2, vi x2)]) 6 rfl dX2_isBetterCopy_5 rfl (by decide) rfl ?_
  refine gg_aload_n (S := sX2_isBetterCopy) 1 7 rfl dX2_isBetterCopy_6 rfl rfl ?_
  refine gg_iload_n (S := sX2_isBetterCopy) 3 8 rfl dX2_isBetterCopy_7 rfl rfl ?_
  refine gg_callVi (S := sX2_isBetterCopy) (S' := sX2_worstLossBut) (cs := 0) (sl := 0) (As := [vi x2]) (st := []) 11 rfl (fun b6 => lkX2_worstLossBut b6 x2) mwX2_worstLossBut rfl mlX2_87 dX2_isBetterCopy_8 cfX2 ⟨by decide, by decide⟩ 0 0 ⟨rfl, rfl⟩ ⟨by decide, by decide⟩ (Nat.le_of_ble_eq_true rfl) (fun t2 => ?_)
  refine gg_istore (S := sX2_isBetterCopy) (L' := [(4, vi t2), (3, vi t1), (0, vr (some x0)), (1, vi x1), (2, vi x2)]) 13 rfl dX2_isBetterCopy_11 (by decide) rfl ?_
  refine gg_iload_n (S := sX2_isBetterCopy) 1 14 rfl dX2_isBetterCopy_13 rfl rfl ?_
  refine gg_iload (S := sX2_isBetterCopy) 0 16 rfl dX2_isBetterCopy_14 rfl ?_
  refine gg_ic_lt (S := sX2_isBetterCopy) (tgt := 38) 19 rfl dX2_isBetterCopy_16 (by decide) ?_ ?_
  · refine gg_iconst (S := sX2_isBetterCopy) 39 rfl dX2_isBetterCopy_38 ?_
    refine gg_goto (S := sX2_isBetterCopy) (tgt := 43) dX2_isBetterCopy_39 (by decide) ?_
    exact gg_pure (gg_zretc (S := sX2_isBetterCopy) (by decide) rfl dX2_isBetterCopy_43 (by decide) (by decide))
  · refine gg_iload_n (S := sX2_isBetterCopy) 1 20 rfl dX2_isBetterCopy_19 rfl rfl ?_
    refine gg_iload (S := sX2_isBetterCopy) 0 22 rfl dX2_isBetterCopy_20 rfl ?_
    refine gg_ic_ne (S := sX2_isBetterCopy) (tgt := 42) 25 rfl dX2_isBetterCopy_22 (by decide) ?_ ?_
    · refine gg_aload_n (S := sX2_isBetterCopy) 2 26 rfl dX2_isBetterCopy_25 rfl rfl ?_
      refine gg_iload_n (S := sX2_isBetterCopy) 3 27 rfl dX2_isBetterCopy_26 rfl rfl ?_
      refine gg_callVi (S := sX2_isBetterCopy) (S' := sX2_bestPieceRoom) (cs := 0) (sl := 0) (As := [vi x1]) (st := []) 30 rfl (fun b5 => lkX2_bestPieceRoom b5 x1) mwX2_bestPieceRoom rfl mlX2_81 dX2_isBetterCopy_27 cfX2 ⟨by decide, by decide⟩ 0 0 ⟨rfl, rfl⟩ ⟨by decide, by decide⟩ (Nat.le_of_ble_eq_true rfl) (fun t3 => ?_)
      refine gg_aload_n (S := sX2_isBetterCopy) 2 31 rfl dX2_isBetterCopy_30 rfl rfl ?_
      refine gg_iload_n (S := sX2_isBetterCopy) 4 32 rfl dX2_isBetterCopy_31 rfl rfl ?_
      refine gg_callVi (S := sX2_isBetterCopy) (S' := sX2_bestPieceRoom) (cs := 0) (sl := 0) (As := [vi x2]) (st := [vi t3]) 35 rfl (fun b4 => lkX2_bestPieceRoom b4 x2) mwX2_bestPieceRoom rfl mlX2_81 dX2_isBetterCopy_32 cfX2 ⟨by decide, by decide⟩ 0 0 ⟨rfl, rfl⟩ ⟨by decide, by decide⟩ (Nat.le_of_ble_eq_true rfl) (fun t4 => ?_)
      refine gg_ic_ge (S := sX2_isBetterCopy) (tgt := 42) 38 rfl dX2_isBetterCopy_35 (by decide) ?_ ?_
      · refine gg_iconst (S := sX2_isBetterCopy) 39 rfl dX2_isBetterCopy_38 ?_
        refine gg_goto (S := sX2_isBetterCopy) (tgt := 43) dX2_isBetterCopy_39 (by decide) ?_
        exact gg_pure (gg_zretc (S := sX2_isBetterCopy) (by decide) rfl dX2_isBetterCopy_43 (by decide) (by decide))
      · refine gg_iconst (S := sX2_isBetterCopy) 43 rfl dX2_isBetterCopy_42 ?_
        exact gg_pure (gg_zretc (S := sX2_isBetterCopy) (by decide) rfl dX2_isBetterCopy_43 (by decide) (by decide))
    · refine gg_iconst (S := sX2_isBetterCopy) 43 rfl dX2_isBetterCopy_42 ?_
      exact gg_pure (gg_zretc (S := sX2_isBetterCopy) (by decide) rfl dX2_isBetterCopy_43 (by decide) (by decide))

set_option maxRecDepth 100000 in
set_option maxHeartbeats 4000000 in
theorem lkX2_bestCopy (x0 : Nat) (x1 : Int) : LK yX2_bestCopy sX2_bestCopy [vr (some x0), vi x1] en_i (X2_bestCopy x0 x1) := by
  refine lk_go (L := [(0, vr (some x0)), (1, vi x1)]) (by decide +kernel) rfl (fun h => by cases h) (Nat.le_of_ble_eq_true rfl) rfl ?_
  intro K
  unfold X2_bestCopy
  refine gg_iconst (S := sX2_bestCopy) 1 rfl dX2_bestCopy_0 ?_
  refine gg_istore_n (S := sX2_bestCopy) (L' := [(2, vi (-1)), (0, vr (some x0)), (1, vi x1)]) 2 rfl dX2_bestCopy_1 rfl (by decide) rfl ?_
  refine gg_iconst (S := sX2_bestCopy) 3 rfl dX2_bestCopy_2 ?_
  refine gg_istore_n (S := sX2_bestCopy) (L' := [(3, vi 0), (2, vi (-1)), (0, vr (some x0)), (1, vi x1)]) 4 rfl dX2_bestCopy_3 rfl (by decide) rfl ?_
  refine gg_sub [2, 3, 1, 0] rfl ?_
  refine gg_loopA (fun (y1, y2) => [(0, vr (some x0)), (1, vi x1), (2, vi y1), (3, vi y2)]) (fun t10 => [(2, vi t10)]) 50 mo_N ?_ ?_ ((-1), 0)
  · intro κ4 hr4 he4
    rintro ⟨y1, y2⟩
    dsimp only [X2_bestCopy_L4]
    refine gg_aload_n (S := sX2_bestCopy) 0 5 rfl dX2_bestCopy_4 rfl rfl ?_
    refine gg_gi (S := sX2_bestCopy) cfX2 (by decide) (fun _ _ => rfl) 8 rfl flX2_49 dX2_bestCopy_5 (fun t3 => ?_)
    refine gg_if_eq (S := sX2_bestCopy) (tgt := 50) 11 rfl dX2_bestCopy_8 (by decide) ?_ ?_
    · exact gg_pure (gg_sub [2] rfl (he4 y1))
    · refine gg_iload_n (S := sX2_bestCopy) 3 12 rfl dX2_bestCopy_11 rfl rfl ?_
      refine gg_aload_n (S := sX2_bestCopy) 0 13 rfl dX2_bestCopy_12 rfl rfl ?_
      refine gg_gi (S := sX2_bestCopy) cfX2 (by decide) (fun _ _ => rfl) 16 rfl flX2_42 dX2_bestCopy_13 (fun t4 => ?_)
      refine gg_ic_ge (S := sX2_bestCopy) (tgt := 50) 19 rfl dX2_bestCopy_16 (by decide) ?_ ?_
      · refine gg_aload_n (S := sX2_bestCopy) 0 20 rfl dX2_bestCopy_19 rfl rfl ?_
        refine gg_iload_n (S := sX2_bestCopy) 3 21 rfl dX2_bestCopy_20 rfl rfl ?_
        refine gg_callVi (S := sX2_bestCopy) (S' := sX2_bestPieceRoom) (cs := 0) (sl := 0) (As := [vi y2]) (st := []) 24 rfl (fun b8 => lkX2_bestPieceRoom b8 y2) mwX2_bestPieceRoom rfl mlX2_81 dX2_bestCopy_21 cfX2 ⟨by decide, by decide⟩ 0 0 ⟨rfl, rfl⟩ ⟨by decide, by decide⟩ (Nat.le_of_ble_eq_true rfl) (fun t5 => ?_)
        refine gg_iload_n (S := sX2_bestCopy) 1 25 rfl dX2_bestCopy_24 rfl rfl ?_
        refine gg_join (fun t8 => [(0, vr (some x0)), (1, vi x1), (2, vi t8), (3, vi y2)]) (fun t8 => []) 44 0 0 (fun κ25 hJ25 => ?_) ?_
        · refine gg_ic_gt (S := sX2_bestCopy) (tgt := 44) 28 rfl dX2_bestCopy_25 (by decide) ?_ ?_
          · refine gg_iload_n (S := sX2_bestCopy) 2 29 rfl dX2_bestCopy_28 rfl rfl ?_
            refine gg_iconst (S := sX2_bestCopy) 30 rfl dX2_bestCopy_29 ?_
            refine gg_ic_eq (S := sX2_bestCopy) (tgt := 42) 33 rfl dX2_bestCopy_30 (by decide) ?_ ?_
            · refine gg_iload_n (S := sX2_bestCopy) 3 43 rfl dX2_bestCopy_42 rfl rfl ?_
              refine gg_istore_n (S := sX2_bestCopy) (L' := [(2, vi y2), (0, vr (some x0)), (1, vi x1), (3, vi y2)]) 44 rfl dX2_bestCopy_43 rfl (by decide) rfl ?_
              exact gg_pure (gg_sub [1, 2, 0, 3] rfl (hJ25 y2))
            · refine gg_aload_n (S := sX2_bestCopy) 0 34 rfl dX2_bestCopy_33 rfl rfl ?_
              refine gg_iload_n (S := sX2_bestCopy) 3 35 rfl dX2_bestCopy_34 rfl rfl ?_
              refine gg_iload_n (S := sX2_bestCopy) 2 36 rfl dX2_bestCopy_35 rfl rfl ?_
              refine gg_callVi (S := sX2_bestCopy) (S' := sX2_isBetterCopy) (cs := 0) (sl := 0) (As := [vi y2, vi y1]) (st := []) 39 rfl (fun b6 => lkX2_isBetterCopy b6 y2 y1) mwX2_isBetterCopy rfl mlX2_84 dX2_bestCopy_36 cfX2 ⟨by decide, by decide⟩ 0 0 ⟨rfl, rfl⟩ ⟨by decide, by decide⟩ (Nat.le_of_ble_eq_true rfl) (fun t6 => ?_)
              refine gg_if_eq (S := sX2_bestCopy) (tgt := 44) 42 rfl dX2_bestCopy_39 (by decide) ?_ ?_
              · exact gg_pure (gg_sub [0, 1, 2, 3] rfl (hJ25 y1))
              · refine gg_iload_n (S := sX2_bestCopy) 3 43 rfl dX2_bestCopy_42 rfl rfl ?_
                refine gg_istore_n (S := sX2_bestCopy) (L' := [(2, vi y2), (0, vr (some x0)), (1, vi x1), (3, vi y2)]) 44 rfl dX2_bestCopy_43 rfl (by decide) rfl ?_
                exact gg_pure (gg_sub [1, 2, 0, 3] rfl (hJ25 y2))
          · exact gg_pure (gg_sub [0, 1, 2, 3] rfl (hJ25 y1))
        · intro t8
          refine gg_iinc (S := sX2_bestCopy) (L' := [(3, vi (y2 + 1)), (0, vr (some x0)), (1, vi x1), (2, vi t8)]) 3 47 rfl dX2_bestCopy_44 rfl (by decide) rfl ?_
          refine gg_goto (S := sX2_bestCopy) (tgt := 4) dX2_bestCopy_47 (by decide) ?_
          exact gg_pure (gg_sub [1, 2, 3, 0] rfl (hr4 (t8, (y2 + 1))))
      · exact gg_pure (gg_sub [2] rfl (he4 y1))
  · intro t10
    refine gg_iload_n (S := sX2_bestCopy) 0 51 rfl dX2_bestCopy_50 rfl rfl ?_
    exact gg_pure (gg_iret (S := sX2_bestCopy) rfl dX2_bestCopy_51 (by decide) (by decide))

set_option maxRecDepth 100000 in
set_option maxHeartbeats 4000000 in
theorem lkX2_clear (x0 : Nat) (x1 : Int) (x2 : Int) : LK yX2_clear sX2_clear [vr (some x0), vi x1, vi x2] en_v (X2_clear x0 x1 x2) := by
  refine lk_go (L := [(0, vr (some x0)), (1, vi x1), (2, vi x2)]) (by decide +kernel) rfl (fun h => by cases h) (Nat.le_of_ble_eq_true rfl) rfl ?_
  intro K
  unfold X2_clear
  refine gg_aload_n (S := sX2_clear) 0 1 rfl dX2_clear_0 rfl rfl ?_
  refine gg_iconst (S := sX2_clear) 2 rfl dX2_clear_1 ?_
  refine gg_iload_n (S := sX2_clear) 1 3 rfl dX2_clear_2 rfl rfl ?_
  refine gg_bipush (S := sX2_clear) 5 rfl dX2_clear_3 (by decide) ?_
  refine gg_mmin (S := sX2_clear) 8 rfl mlX2_33 ms_min iiJ9 mc_min dX2_clear_5 (by decide) (Nat.le_of_ble_eq_true rfl) (by decide) (by decide) (fun t1 => ?_)
  refine gg_mmax (S := sX2_clear) 11 rfl mlX2_39 ms_max iiJ9 mc_max dX2_clear_8 (by decide) (Nat.le_of_ble_eq_true rfl) (by decide) (by decide) (fun t2 => ?_)
  refine gg_si (S := sX2_clear) cfX2 (by decide) rfl (fun _ _ => rfl) rfl 14 rfl flX2_42 dX2_clear_11 ?_
  refine gg_aload_n (S := sX2_clear) 0 15 rfl dX2_clear_14 rfl rfl ?_
  refine gg_iload_n (S := sX2_clear) 2 16 rfl dX2_clear_15 rfl rfl ?_
  refine gg_si (S := sX2_clear) cfX2 (by decide) rfl (fun _ _ => rfl) rfl 19 rfl flX2_46 dX2_clear_16 ?_
  refine gg_aload_n (S := sX2_clear) 0 20 rfl dX2_clear_19 rfl rfl ?_
  refine gg_iconst (S := sX2_clear) 21 rfl dX2_clear_20 ?_
  refine gg_sz (S := sX2_clear) cfX2 (by decide) rfl (fun _ _ => rfl) rfl 24 rfl flX2_49 dX2_clear_21 ?_
  refine gg_aload_n (S := sX2_clear) 0 25 rfl dX2_clear_24 rfl rfl ?_
  refine gg_iconst (S := sX2_clear) 26 rfl dX2_clear_25 ?_
  refine gg_si (S := sX2_clear) cfX2 (by decide) rfl (fun _ _ => rfl) rfl 29 rfl flX2_53 dX2_clear_26 ?_
  refine gg_aload_n (S := sX2_clear) 0 30 rfl dX2_clear_29 rfl rfl ?_
  refine gg_iconst (S := sX2_clear) 31 rfl dX2_clear_30 ?_
  refine gg_si (S := sX2_clear) cfX2 (by decide) rfl (fun _ _ => rfl) rfl 34 rfl flX2_56 dX2_clear_31 ?_
  exact gg_pure (gg_vret (S := sX2_clear) rfl dX2_clear_34 (by decide) (by decide))

set_option maxRecDepth 100000 in
set_option maxHeartbeats 4000000 in
theorem lkX2_reckonLeastFrom (x0 : Nat) : LK yX2_reckonLeastFrom sX2_reckonLeastFrom [vr (some x0)] en_v (X2_reckonLeastFrom x0) := by
  refine lk_go (L := [(0, vr (some x0))]) (by decide +kernel) rfl (fun h => by cases h) (Nat.le_of_ble_eq_true rfl) rfl ?_
  intro K
  unfold X2_reckonLeastFrom
  refine gg_aload_n (S := sX2_reckonLeastFrom) 0 1 rfl dX2_reckonLeastFrom_0 rfl rfl ?_
  refine gg_gr (S := sX2_reckonLeastFrom) cfX2 (by decide) (fun _ _ => rfl) 4 rfl flX2_21 dX2_reckonLeastFrom_1 (fun t1 => ?_)
  refine gg_aload_n (S := sX2_reckonLeastFrom) 0 5 rfl dX2_reckonLeastFrom_4 rfl rfl ?_
  refine gg_gi (S := sX2_reckonLeastFrom) cfX2 (by decide) (fun _ _ => rfl) 8 rfl flX2_42 dX2_reckonLeastFrom_5 (fun t2 => ?_)
  refine gg_iconst (S := sX2_reckonLeastFrom) 9 rfl dX2_reckonLeastFrom_8 ?_
  refine gg_st (S := sX2_reckonLeastFrom) 10 rfl dX2_reckonLeastFrom_9 ?_
  refine gg_aload_n (S := sX2_reckonLeastFrom) 0 11 rfl dX2_reckonLeastFrom_10 rfl rfl ?_
  refine gg_gr (S := sX2_reckonLeastFrom) cfX2 (by decide) (fun _ _ => rfl) 14 rfl flX2_24 dX2_reckonLeastFrom_11 (fun t3 => ?_)
  refine gg_aload_n (S := sX2_reckonLeastFrom) 0 15 rfl dX2_reckonLeastFrom_14 rfl rfl ?_
  refine gg_gi (S := sX2_reckonLeastFrom) cfX2 (by decide) (fun _ _ => rfl) 18 rfl flX2_42 dX2_reckonLeastFrom_15 (fun t4 => ?_)
  refine gg_iconst (S := sX2_reckonLeastFrom) 19 rfl dX2_reckonLeastFrom_18 ?_
  refine gg_st (S := sX2_reckonLeastFrom) 20 rfl dX2_reckonLeastFrom_19 ?_
  refine gg_aload_n (S := sX2_reckonLeastFrom) 0 21 rfl dX2_reckonLeastFrom_20 rfl rfl ?_
  refine gg_gi (S := sX2_reckonLeastFrom) cfX2 (by decide) (fun _ _ => rfl) 24 rfl flX2_42 dX2_reckonLeastFrom_21 (fun t5 => ?_)
  refine gg_iconst (S := sX2_reckonLeastFrom) 25 rfl dX2_reckonLeastFrom_24 ?_
  refine gg_isub (S := sX2_reckonLeastFrom) 26 rfl dX2_reckonLeastFrom_25 ?_
  refine gg_istore_n (S := sX2_reckonLeastFrom) (L' := [(1, vi (t5 - 1)), (0, vr (some x0))]) 27 rfl dX2_reckonLeastFrom_26 rfl (by decide) rfl ?_
  refine gg_sub [1, 0] rfl ?_
  refine gg_loopA (fun y6 => [(0, vr (some x0)), (1, vi y6)]) (fun _ => []) 124 mo_N ?_ ?_ (t5 - 1)
  · intro κ27 hr27 he27
    intro y6
    dsimp only [X2_reckonLeastFrom_L27]
    refine gg_iload_n (S := sX2_reckonLeastFrom) 1 28 rfl dX2_reckonLeastFrom_27 rfl rfl ?_
    refine gg_if_lt (S := sX2_reckonLeastFrom) (tgt := 124) 31 rfl dX2_reckonLeastFrom_28 (by decide) ?_ ?_
    · exact gg_pure (gg_sub [] rfl (he27 ()))
    · refine gg_aload_n (S := sX2_reckonLeastFrom) 0 32 rfl dX2_reckonLeastFrom_31 rfl rfl ?_
      refine gg_gr (S := sX2_reckonLeastFrom) cfX2 (by decide) (fun _ _ => rfl) 35 rfl flX2_9 dX2_reckonLeastFrom_32 (fun t7 => ?_)
      refine gg_iload_n (S := sX2_reckonLeastFrom) 1 36 rfl dX2_reckonLeastFrom_35 rfl rfl ?_
      refine gg_ld (S := sX2_reckonLeastFrom) 37 rfl dX2_reckonLeastFrom_36 (fun t8 => ?_)
      refine gg_istore_n (S := sX2_reckonLeastFrom) (L' := [(2, vi t8), (0, vr (some x0)), (1, vi y6)]) 38 rfl dX2_reckonLeastFrom_37 rfl (by decide) rfl ?_
      refine gg_iconst (S := sX2_reckonLeastFrom) 39 rfl dX2_reckonLeastFrom_38 ?_
      refine gg_istore_n (S := sX2_reckonLeastFrom) (L' := [(3, vi 0), (2, vi t8), (0, vr (some x0)), (1, vi y6)]) 40 rfl dX2_reckonLeastFrom_39 rfl (by decide) rfl ?_
      refine gg_sub [2, 3, 1, 0] rfl ?_
      refine gg_loopA (fun (y9, y10) => [(0, vr (some x0)), (1, vi y6), (2, vi y9), (3, vi y10)]) (fun t16 => [(0, vr (some x0)), (1, vi y6), (2, vi t16)]) 74 mo_N ?_ ?_ (t8, 0)
      · intro κ40 hr40 he40
        rintro ⟨y9, y10⟩
        dsimp only [X2_reckonLeastFrom_L40]
        refine gg_iload_n (S := sX2_reckonLeastFrom) 3 41 rfl dX2_reckonLeastFrom_40 rfl rfl ?_
        refine gg_aload_n (S := sX2_reckonLeastFrom) 0 42 rfl dX2_reckonLeastFrom_41 rfl rfl ?_
        refine gg_gi (S := sX2_reckonLeastFrom) cfX2 (by decide) (fun _ _ => rfl) 45 rfl flX2_42 dX2_reckonLeastFrom_42 (fun t11 => ?_)
        refine gg_ic_ge (S := sX2_reckonLeastFrom) (tgt := 74) 48 rfl dX2_reckonLeastFrom_45 (by decide) ?_ ?_
        · refine gg_iload_n (S := sX2_reckonLeastFrom) 3 49 rfl dX2_reckonLeastFrom_48 rfl rfl ?_
          refine gg_iload_n (S := sX2_reckonLeastFrom) 1 50 rfl dX2_reckonLeastFrom_49 rfl rfl ?_
          refine gg_join (fun t15 => [(0, vr (some x0)), (1, vi y6), (3, vi y10)]) (fun t15 => [vi t15]) 67 0 0 (fun κ50 hJ50 => ?_) ?_
          · refine gg_ic_ne (S := sX2_reckonLeastFrom) (tgt := 57) 53 rfl dX2_reckonLeastFrom_50 (by decide) ?_ ?_
            · refine gg_iload_n (S := sX2_reckonLeastFrom) 2 54 rfl dX2_reckonLeastFrom_53 rfl rfl ?_
              refine gg_goto (S := sX2_reckonLeastFrom) (tgt := 67) dX2_reckonLeastFrom_54 (by decide) ?_
              exact gg_pure (gg_sub [0, 1, 3] rfl (hJ50 y9))
            · refine gg_iload_n (S := sX2_reckonLeastFrom) 2 58 rfl dX2_reckonLeastFrom_57 rfl rfl ?_
              refine gg_aload_n (S := sX2_reckonLeastFrom) 0 59 rfl dX2_reckonLeastFrom_58 rfl rfl ?_
              refine gg_iload_n (S := sX2_reckonLeastFrom) 1 60 rfl dX2_reckonLeastFrom_59 rfl rfl ?_
              refine gg_iload_n (S := sX2_reckonLeastFrom) 3 61 rfl dX2_reckonLeastFrom_60 rfl rfl ?_
              refine gg_callVi (S := sX2_reckonLeastFrom) (S' := sX2_pieceRoom) (cs := 0) (sl := 0) (As := [vi y6, vi y10]) (st := [vi y9]) 64 rfl (fun b13 => lkX2_pieceRoom b13 y6 y10) mwX2_pieceRoom rfl mlX2_90 dX2_reckonLeastFrom_61 cfX2 ⟨by decide, by decide⟩ 0 0 ⟨rfl, rfl⟩ ⟨by decide, by decide⟩ (Nat.le_of_ble_eq_true rfl) (fun t12 => ?_)
              refine gg_mmin (S := sX2_reckonLeastFrom) 67 rfl mlX2_33 ms_min iiJ9 mc_min dX2_reckonLeastFrom_64 (by decide) (Nat.le_of_ble_eq_true rfl) (by decide) (by decide) (fun t13 => ?_)
              exact gg_pure (gg_sub [0, 1, 3] rfl (hJ50 t13))
          · intro t15
            refine gg_istore_n (S := sX2_reckonLeastFrom) (L' := [(2, vi t15), (0, vr (some x0)), (1, vi y6), (3, vi y10)]) 68 rfl dX2_reckonLeastFrom_67 rfl (by decide) rfl ?_
            refine gg_iinc (S := sX2_reckonLeastFrom) (L' := [(3, vi (y10 + 1)), (2, vi t15), (0, vr (some x0)), (1, vi y6)]) 3 71 rfl dX2_reckonLeastFrom_68 rfl (by decide) rfl ?_
            refine gg_goto (S := sX2_reckonLeastFrom) (tgt := 40) dX2_reckonLeastFrom_71 (by decide) ?_
            exact gg_pure (gg_sub [2, 3, 1, 0] rfl (hr40 (t15, (y10 + 1))))
        · exact gg_pure (gg_sub [0, 1, 2] rfl (he40 y9))
      · intro t16
        refine gg_aload_n (S := sX2_reckonLeastFrom) 0 75 rfl dX2_reckonLeastFrom_74 rfl rfl ?_
        refine gg_gr (S := sX2_reckonLeastFrom) cfX2 (by decide) (fun _ _ => rfl) 78 rfl flX2_21 dX2_reckonLeastFrom_75 (fun t17 => ?_)
        refine gg_iload_n (S := sX2_reckonLeastFrom) 1 79 rfl dX2_reckonLeastFrom_78 rfl rfl ?_
        refine gg_aload_n (S := sX2_reckonLeastFrom) 0 80 rfl dX2_reckonLeastFrom_79 rfl rfl ?_
        refine gg_gr (S := sX2_reckonLeastFrom) cfX2 (by decide) (fun _ _ => rfl) 83 rfl flX2_21 dX2_reckonLeastFrom_80 (fun t18 => ?_)
        refine gg_iload_n (S := sX2_reckonLeastFrom) 1 84 rfl dX2_reckonLeastFrom_83 rfl rfl ?_
        refine gg_iconst (S := sX2_reckonLeastFrom) 85 rfl dX2_reckonLeastFrom_84 ?_
        refine gg_iadd (S := sX2_reckonLeastFrom) 86 rfl dX2_reckonLeastFrom_85 ?_
        refine gg_ld (S := sX2_reckonLeastFrom) 87 rfl dX2_reckonLeastFrom_86 (fun t19 => ?_)
        refine gg_iload_n (S := sX2_reckonLeastFrom) 2 88 rfl dX2_reckonLeastFrom_87 rfl rfl ?_
        refine gg_iadd (S := sX2_reckonLeastFrom) 89 rfl dX2_reckonLeastFrom_88 ?_
        refine gg_st (S := sX2_reckonLeastFrom) 90 rfl dX2_reckonLeastFrom_89 ?_
        refine gg_aload_n (S := sX2_reckonLeastFrom) 0 91 rfl dX2_reckonLeastFrom_90 rfl rfl ?_
        refine gg_gr (S := sX2_reckonLeastFrom) cfX2 (by decide) (fun _ _ => rfl) 94 rfl flX2_24 dX2_reckonLeastFrom_91 (fun t20 => ?_)
        refine gg_iload_n (S := sX2_reckonLeastFrom) 1 95 rfl dX2_reckonLeastFrom_94 rfl rfl ?_
        refine gg_aload_n (S := sX2_reckonLeastFrom) 0 96 rfl dX2_reckonLeastFrom_95 rfl rfl ?_
        refine gg_gr (S := sX2_reckonLeastFrom) cfX2 (by decide) (fun _ _ => rfl) 99 rfl flX2_24 dX2_reckonLeastFrom_96 (fun t21 => ?_)
        refine gg_iload_n (S := sX2_reckonLeastFrom) 1 100 rfl dX2_reckonLeastFrom_99 rfl rfl ?_
        refine gg_iconst (S := sX2_reckonLeastFrom) 101 rfl dX2_reckonLeastFrom_100 ?_
        refine gg_iadd (S := sX2_reckonLeastFrom) 102 rfl dX2_reckonLeastFrom_101 ?_
        refine gg_ld (S := sX2_reckonLeastFrom) 103 rfl dX2_reckonLeastFrom_102 (fun t22 => ?_)
        refine gg_aload_n (S := sX2_reckonLeastFrom) 0 104 rfl dX2_reckonLeastFrom_103 rfl rfl ?_
        refine gg_gr (S := sX2_reckonLeastFrom) cfX2 (by decide) (fun _ _ => rfl) 107 rfl flX2_18 dX2_reckonLeastFrom_104 (fun t23 => ?_)
        refine gg_iload_n (S := sX2_reckonLeastFrom) 1 108 rfl dX2_reckonLeastFrom_107 rfl rfl ?_
        refine gg_ld (S := sX2_reckonLeastFrom) 109 rfl dX2_reckonLeastFrom_108 (fun t24 => ?_)
        refine gg_aload_n (S := sX2_reckonLeastFrom) 0 110 rfl dX2_reckonLeastFrom_109 rfl rfl ?_
        refine gg_gr (S := sX2_reckonLeastFrom) cfX2 (by decide) (fun _ _ => rfl) 113 rfl flX2_9 dX2_reckonLeastFrom_110 (fun t25 => ?_)
        refine gg_iload_n (S := sX2_reckonLeastFrom) 1 114 rfl dX2_reckonLeastFrom_113 rfl rfl ?_
        refine gg_ld (S := sX2_reckonLeastFrom) 115 rfl dX2_reckonLeastFrom_114 (fun t26 => ?_)
        refine gg_imul (S := sX2_reckonLeastFrom) 116 rfl dX2_reckonLeastFrom_115 ?_
        refine gg_iadd (S := sX2_reckonLeastFrom) 117 rfl dX2_reckonLeastFrom_116 ?_
        refine gg_st (S := sX2_reckonLeastFrom) 118 rfl dX2_reckonLeastFrom_117 ?_
        refine gg_iinc (S := sX2_reckonLeastFrom) (L' := [(1, vi (y6 + (-1))), (0, vr (some x0)), (2, vi t16)]) 1 121 rfl dX2_reckonLeastFrom_118 rfl (by decide) rfl ?_
        refine gg_goto (S := sX2_reckonLeastFrom) (tgt := 27) dX2_reckonLeastFrom_121 (by decide) ?_
        exact gg_pure (gg_sub [1, 0] rfl (hr27 (y6 + (-1))))
  · intro _
    exact gg_pure (gg_vret (S := sX2_reckonLeastFrom) rfl dX2_reckonLeastFrom_124 (by decide) (by decide))

set_option maxRecDepth 100000 in
set_option maxHeartbeats 4000000 in
theorem lkX2_isLess (x0 : Nat) (x1 : Int) (x2 : Int) : LK yX2_isLess sX2_isLess [vr (some x0), vi x1, vi x2] en_i (X2_isLess x0 x1 x2) := by
  refine lk_go (L := [(0, vr (some x0)), (1, vi x1), (2, vi x2)]) (by decide +kernel) rfl (fun h => by cases h) (Nat.le_of_ble_eq_true rfl) rfl ?_
  intro K
  unfold X2_isLess
  refine gg_aload_n (S := sX2_isLess) 0 1 rfl dX2_isLess_0 rfl rfl ?_
  refine gg_gi (S := sX2_isLess) cfX2 (by decide) (fun _ _ => rfl) 4 rfl flX2_49 dX2_isLess_1 (fun t1 => ?_)
  refine gg_if_eq (S := sX2_isLess) (tgt := 31) 7 rfl dX2_isLess_4 (by decide) ?_ ?_
  · refine gg_iconst (S := sX2_isLess) 32 rfl dX2_isLess_31 ?_
    refine gg_goto (S := sX2_isLess) (tgt := 36) dX2_isLess_32 (by decide) ?_
    exact gg_pure (gg_zretc (S := sX2_isLess) (by decide) rfl dX2_isLess_36 (by decide) (by decide))
  · refine gg_iload_n (S := sX2_isLess) 1 8 rfl dX2_isLess_7 rfl rfl ?_
    refine gg_aload_n (S := sX2_isLess) 0 9 rfl dX2_isLess_8 rfl rfl ?_
    refine gg_gi (S := sX2_isLess) cfX2 (by decide) (fun _ _ => rfl) 12 rfl flX2_53 dX2_isLess_9 (fun t2 => ?_)
    refine gg_ic_lt (S := sX2_isLess) (tgt := 31) 15 rfl dX2_isLess_12 (by decide) ?_ ?_
    · refine gg_iconst (S := sX2_isLess) 32 rfl dX2_isLess_31 ?_
      refine gg_goto (S := sX2_isLess) (tgt := 36) dX2_isLess_32 (by decide) ?_
      exact gg_pure (gg_zretc (S := sX2_isLess) (by decide) rfl dX2_isLess_36 (by decide) (by decide))
    · refine gg_iload_n (S := sX2_isLess) 1 16 rfl dX2_isLess_15 rfl rfl ?_
      refine gg_aload_n (S := sX2_isLess) 0 17 rfl dX2_isLess_16 rfl rfl ?_
      refine gg_gi (S := sX2_isLess) cfX2 (by decide) (fun _ _ => rfl) 20 rfl flX2_53 dX2_isLess_17 (fun t3 => ?_)
      refine gg_ic_ne (S := sX2_isLess) (tgt := 35) 23 rfl dX2_isLess_20 (by decide) ?_ ?_
      · refine gg_iload_n (S := sX2_isLess) 2 24 rfl dX2_isLess_23 rfl rfl ?_
        refine gg_aload_n (S := sX2_isLess) 0 25 rfl dX2_isLess_24 rfl rfl ?_
        refine gg_gi (S := sX2_isLess) cfX2 (by decide) (fun _ _ => rfl) 28 rfl flX2_56 dX2_isLess_25 (fun t4 => ?_)
        refine gg_ic_ge (S := sX2_isLess) (tgt := 35) 31 rfl dX2_isLess_28 (by decide) ?_ ?_
        · refine gg_iconst (S := sX2_isLess) 32 rfl dX2_isLess_31 ?_
          refine gg_goto (S := sX2_isLess) (tgt := 36) dX2_isLess_32 (by decide) ?_
          exact gg_pure (gg_zretc (S := sX2_isLess) (by decide) rfl dX2_isLess_36 (by decide) (by decide))
        · refine gg_iconst (S := sX2_isLess) 36 rfl dX2_isLess_35 ?_
          exact gg_pure (gg_zretc (S := sX2_isLess) (by decide) rfl dX2_isLess_36 (by decide) (by decide))
      · refine gg_iconst (S := sX2_isLess) 36 rfl dX2_isLess_35 ?_
        exact gg_pure (gg_zretc (S := sX2_isLess) (by decide) rfl dX2_isLess_36 (by decide) (by decide))

set_option maxRecDepth 100000 in
set_option maxHeartbeats 4000000 in
theorem lkX2_leadsTo (x0 : Nat) (x1 : Int) (x2 : Int) : LK yX2_leadsTo sX2_leadsTo [vr (some x0), vi x1, vi x2] en_i (X2_leadsTo x0 x1 x2) := by
  refine lk_go (L := [(0, vr (some x0)), (1, vi x1), (2, vi x2)]) (by decide +kernel) rfl (fun h => by cases h) (Nat.le_of_ble_eq_true rfl) rfl ?_
  intro K
  unfold X2_leadsTo
  refine gg_iload_n (S := sX2_leadsTo) 1 1 rfl dX2_leadsTo_0 rfl rfl ?_
  refine gg_istore_n (S := sX2_leadsTo) (L' := [(3, vi x1), (0, vr (some x0)), (1, vi x1), (2, vi x2)]) 2 rfl dX2_leadsTo_1 rfl (by decide) rfl ?_
  refine gg_iconst (S := sX2_leadsTo) 3 rfl dX2_leadsTo_2 ?_
  refine gg_istore (S := sX2_leadsTo) (L' := [(4, vi 0), (3, vi x1), (0, vr (some x0)), (1, vi x1), (2, vi x2)]) 5 rfl dX2_leadsTo_3 (by decide) rfl ?_
  refine gg_sub [2, 4, 1, 0] rfl ?_
  refine gg_loopA (fun (y1, y2) => [(0, vr (some x0)), (2, vi x2), (3, vi y1), (4, vi y2)]) (fun t6 => [(2, vi x2), (3, vi t6)]) 42 mo_N ?_ ?_ (x1, 0)
  · intro κ5 hr5 he5
    rintro ⟨y1, y2⟩
    dsimp only [X2_leadsTo_L5]
    refine gg_iload (S := sX2_leadsTo) 3 7 rfl dX2_leadsTo_5 rfl ?_
    refine gg_aload_n (S := sX2_leadsTo) 0 8 rfl dX2_leadsTo_7 rfl rfl ?_
    refine gg_gi (S := sX2_leadsTo) cfX2 (by decide) (fun _ _ => rfl) 11 rfl flX2_42 dX2_leadsTo_8 (fun t3 => ?_)
    refine gg_ic_ge (S := sX2_leadsTo) (tgt := 42) 14 rfl dX2_leadsTo_11 (by decide) ?_ ?_
    · refine gg_iload_n (S := sX2_leadsTo) 2 15 rfl dX2_leadsTo_14 rfl rfl ?_
      refine gg_if_lt (S := sX2_leadsTo) (tgt := 42) 18 rfl dX2_leadsTo_15 (by decide) ?_ ?_
      · exact gg_pure (gg_sub [1, 2] rfl (he5 y1))
      · refine gg_iload_n (S := sX2_leadsTo) 2 19 rfl dX2_leadsTo_18 rfl rfl ?_
        refine gg_iload_n (S := sX2_leadsTo) 1 20 rfl dX2_leadsTo_19 rfl rfl ?_
        refine gg_ic_ge (S := sX2_leadsTo) (tgt := 42) 23 rfl dX2_leadsTo_20 (by decide) ?_ ?_
        · refine gg_iload_n (S := sX2_leadsTo) 2 24 rfl dX2_leadsTo_23 rfl rfl ?_
          refine gg_bipush (S := sX2_leadsTo) 26 rfl dX2_leadsTo_24 (by decide) ?_
          refine gg_ic_ge (S := sX2_leadsTo) (tgt := 42) 29 rfl dX2_leadsTo_26 (by decide) ?_ ?_
          · refine gg_aload_n (S := sX2_leadsTo) 0 30 rfl dX2_leadsTo_29 rfl rfl ?_
            refine gg_gr (S := sX2_leadsTo) cfX2 (by decide) (fun _ _ => rfl) 33 rfl flX2_27 dX2_leadsTo_30 (fun t4 => ?_)
            refine gg_iload_n (S := sX2_leadsTo) 2 34 rfl dX2_leadsTo_33 rfl rfl ?_
            refine gg_ld (S := sX2_leadsTo) 35 rfl dX2_leadsTo_34 (fun t5 => ?_)
            refine gg_istore_n (S := sX2_leadsTo) (L' := [(3, vi t5), (0, vr (some x0)), (2, vi x2), (4, vi y2)]) 36 rfl dX2_leadsTo_35 rfl (by decide) rfl ?_
            refine gg_iinc (S := sX2_leadsTo) (L' := [(4, vi (y2 + 1)), (3, vi t5), (0, vr (some x0)), (2, vi x2)]) 3 39 rfl dX2_leadsTo_36 rfl (by decide) rfl ?_
            refine gg_goto (S := sX2_leadsTo) (tgt := 5) dX2_leadsTo_39 (by decide) ?_
            exact gg_pure (gg_sub [2, 3, 1, 0] rfl (hr5 (t5, (y2 + 1))))
          · exact gg_pure (gg_sub [1, 2] rfl (he5 y1))
        · exact gg_pure (gg_sub [1, 2] rfl (he5 y1))
    · exact gg_pure (gg_sub [1, 2] rfl (he5 y1))
  · intro t6
    refine gg_iload_n (S := sX2_leadsTo) 1 43 rfl dX2_leadsTo_42 rfl rfl ?_
    refine gg_iload_n (S := sX2_leadsTo) 0 44 rfl dX2_leadsTo_43 rfl rfl ?_
    refine gg_ic_ne (S := sX2_leadsTo) (tgt := 51) 47 rfl dX2_leadsTo_44 (by decide) ?_ ?_
    · refine gg_iconst (S := sX2_leadsTo) 48 rfl dX2_leadsTo_47 ?_
      refine gg_goto (S := sX2_leadsTo) (tgt := 52) dX2_leadsTo_48 (by decide) ?_
      exact gg_pure (gg_zretc (S := sX2_leadsTo) (by decide) rfl dX2_leadsTo_52 (by decide) (by decide))
    · refine gg_iconst (S := sX2_leadsTo) 52 rfl dX2_leadsTo_51 ?_
      exact gg_pure (gg_zretc (S := sX2_leadsTo) (by decide) rfl dX2_leadsTo_52 (by decide) (by decide))

set_option maxRecDepth 100000 in
set_option maxHeartbeats 4000000 in
theorem lkX2_remadeAtLeast (x0 : Nat) (x1 : Int) (x2 : Int) : LK yX2_remadeAtLeast sX2_remadeAtLeast [vr (some x0), vi x1, vi x2] en_i (X2_remadeAtLeast x0 x1 x2) := by
  refine lk_go (L := [(0, vr (some x0)), (1, vi x1), (2, vi x2)]) (by decide +kernel) rfl (fun h => by cases h) (Nat.le_of_ble_eq_true rfl) rfl ?_
  intro K
  unfold X2_remadeAtLeast
  refine gg_iload_n (S := sX2_remadeAtLeast) 2 1 rfl dX2_remadeAtLeast_0 rfl rfl ?_
  refine gg_join (fun t1 => [(0, vr (some x0)), (1, vi x1), (2, vi x2)]) (fun t1 => [vi t1]) 15 0 0 (fun κ1 hJ1 => ?_) ?_
  · refine gg_if_lt (S := sX2_remadeAtLeast) (tgt := 14) 4 rfl dX2_remadeAtLeast_1 (by decide) ?_ ?_
    · refine gg_iconst (S := sX2_remadeAtLeast) 15 rfl dX2_remadeAtLeast_14 ?_
      exact gg_pure (gg_sub [0, 1, 2] rfl (hJ1 0))
    · refine gg_iload_n (S := sX2_remadeAtLeast) 2 5 rfl dX2_remadeAtLeast_4 rfl rfl ?_
      refine gg_bipush (S := sX2_remadeAtLeast) 7 rfl dX2_remadeAtLeast_5 (by decide) ?_
      refine gg_ic_ge (S := sX2_remadeAtLeast) (tgt := 14) 10 rfl dX2_remadeAtLeast_7 (by decide) ?_ ?_
      · refine gg_iconst (S := sX2_remadeAtLeast) 11 rfl dX2_remadeAtLeast_10 ?_
        refine gg_goto (S := sX2_remadeAtLeast) (tgt := 15) dX2_remadeAtLeast_11 (by decide) ?_
        exact gg_pure (gg_sub [0, 1, 2] rfl (hJ1 1))
      · refine gg_iconst (S := sX2_remadeAtLeast) 15 rfl dX2_remadeAtLeast_14 ?_
        exact gg_pure (gg_sub [0, 1, 2] rfl (hJ1 0))
  · intro t1
    refine gg_istore_n (S := sX2_remadeAtLeast) (L' := [(3, vi t1), (0, vr (some x0)), (1, vi x1), (2, vi x2)]) 16 rfl dX2_remadeAtLeast_15 rfl (by decide) rfl ?_
    refine gg_aload_n (S := sX2_remadeAtLeast) 1 17 rfl dX2_remadeAtLeast_16 rfl rfl ?_
    refine gg_iload_n (S := sX2_remadeAtLeast) 2 18 rfl dX2_remadeAtLeast_17 rfl rfl ?_
    refine gg_iload_n (S := sX2_remadeAtLeast) 3 19 rfl dX2_remadeAtLeast_18 rfl rfl ?_
    refine gg_callVi (S := sX2_remadeAtLeast) (S' := sX2_pieceRoom) (cs := 0) (sl := 0) (As := [vi x1, vi x2]) (st := []) 22 rfl (fun b5 => lkX2_pieceRoom b5 x1 x2) mwX2_pieceRoom rfl mlX2_90 dX2_remadeAtLeast_19 cfX2 ⟨by decide, by decide⟩ 0 0 ⟨rfl, rfl⟩ ⟨by decide, by decide⟩ (Nat.le_of_ble_eq_true rfl) (fun t2 => ?_)
    refine gg_iload_n (S := sX2_remadeAtLeast) 0 23 rfl dX2_remadeAtLeast_22 rfl rfl ?_
    refine gg_join (fun t5 => []) (fun t5 => [vi t5, vi t2]) 36 0 0 (fun κ23 hJ23 => ?_) ?_
    · refine gg_if_eq (S := sX2_remadeAtLeast) (tgt := 35) 26 rfl dX2_remadeAtLeast_23 (by decide) ?_ ?_
      · refine gg_iconst (S := sX2_remadeAtLeast) 36 rfl dX2_remadeAtLeast_35 ?_
        exact gg_pure (gg_sub [] rfl (hJ23 0))
      · refine gg_aload_n (S := sX2_remadeAtLeast) 1 27 rfl dX2_remadeAtLeast_26 rfl rfl ?_
        refine gg_gr (S := sX2_remadeAtLeast) cfX2 (by decide) (fun _ _ => rfl) 30 rfl flX2_9 dX2_remadeAtLeast_27 (fun t3 => ?_)
        refine gg_iload_n (S := sX2_remadeAtLeast) 3 31 rfl dX2_remadeAtLeast_30 rfl rfl ?_
        refine gg_ld (S := sX2_remadeAtLeast) 32 rfl dX2_remadeAtLeast_31 (fun t4 => ?_)
        refine gg_goto (S := sX2_remadeAtLeast) (tgt := 36) dX2_remadeAtLeast_32 (by decide) ?_
        exact gg_pure (gg_sub [] rfl (hJ23 t4))
    · intro t5
      refine gg_iadd (S := sX2_remadeAtLeast) 37 rfl dX2_remadeAtLeast_36 ?_
      exact gg_pure (gg_iret (S := sX2_remadeAtLeast) rfl dX2_remadeAtLeast_37 (by decide) (by decide))

set_option maxRecDepth 100000 in
set_option maxHeartbeats 4000000 in
theorem lkX2_remadeBy (x0 : Nat) (x1 : Option Nat) (x2 : Int) : LK yX2_remadeBy sX2_remadeBy [vr (some x0), vr x1, vi x2] en_i (X2_remadeBy x0 x1 x2) := by
  refine lk_go (L := [(0, vr (some x0)), (1, vr x1), (2, vi x2)]) (by decide +kernel) rfl (fun h => by cases h) (Nat.le_of_ble_eq_true rfl) rfl ?_
  intro K
  unfold X2_remadeBy
  refine gg_iconst (S := sX2_remadeBy) 1 rfl dX2_remadeBy_0 ?_
  refine gg_istore_n (S := sX2_remadeBy) (L' := [(3, vi 0), (0, vr (some x0)), (1, vr x1), (2, vi x2)]) 2 rfl dX2_remadeBy_1 rfl (by decide) rfl ?_
  refine gg_iload_n (S := sX2_remadeBy) 3 3 rfl dX2_remadeBy_2 rfl rfl ?_
  refine gg_istore (S := sX2_remadeBy) (L' := [(4, vi x2), (3, vi 0), (0, vr (some x0)), (1, vr x1), (2, vi x2)]) 5 rfl dX2_remadeBy_3 (by decide) rfl ?_
  refine gg_iconst (S := sX2_remadeBy) 6 rfl dX2_remadeBy_5 ?_
  refine gg_istore (S := sX2_remadeBy) (L' := [(5, vi 0), (4, vi x2), (3, vi 0), (0, vr (some x0)), (1, vr x1), (2, vi x2)]) 8 rfl dX2_remadeBy_6 (by decide) rfl ?_
  refine gg_sub [3, 4, 2, 1, 0] rfl ?_
  refine gg_loopA (fun (y1, y2, y3) => [(0, vr (some x0)), (1, vr x1), (3, vi y1), (4, vi y2), (5, vi y3)]) (fun t10 => [(3, vi t10)]) 54 mo_N ?_ ?_ (0, x2, 0)
  · intro κ8 hr8 he8
    rintro ⟨y1, y2, y3⟩
    dsimp only [X2_remadeBy_L8]
    refine gg_iload (S := sX2_remadeBy) 4 10 rfl dX2_remadeBy_8 rfl ?_
    refine gg_aload_n (S := sX2_remadeBy) 0 11 rfl dX2_remadeBy_10 rfl rfl ?_
    refine gg_gi (S := sX2_remadeBy) cfX2 (by decide) (fun _ _ => rfl) 14 rfl flX2_42 dX2_remadeBy_11 (fun t4 => ?_)
    refine gg_ic_ge (S := sX2_remadeBy) (tgt := 54) 17 rfl dX2_remadeBy_14 (by decide) ?_ ?_
    · refine gg_iload (S := sX2_remadeBy) 3 19 rfl dX2_remadeBy_17 rfl ?_
      refine gg_if_lt (S := sX2_remadeBy) (tgt := 54) 22 rfl dX2_remadeBy_19 (by decide) ?_ ?_
      · exact gg_pure (gg_sub [2] rfl (he8 y1))
      · refine gg_iload (S := sX2_remadeBy) 3 24 rfl dX2_remadeBy_22 rfl ?_
        refine gg_aload_n (S := sX2_remadeBy) 1 25 rfl dX2_remadeBy_24 rfl rfl ?_
        refine gg_alen (S := sX2_remadeBy) 26 rfl dX2_remadeBy_25 (fun t5 => ?_)
        refine gg_ic_ge (S := sX2_remadeBy) (tgt := 54) 29 rfl dX2_remadeBy_26 (by decide) ?_ ?_
        · refine gg_iload_n (S := sX2_remadeBy) 2 30 rfl dX2_remadeBy_29 rfl rfl ?_
          refine gg_aload_n (S := sX2_remadeBy) 0 31 rfl dX2_remadeBy_30 rfl rfl ?_
          refine gg_iload (S := sX2_remadeBy) 3 33 rfl dX2_remadeBy_31 rfl ?_
          refine gg_aload_n (S := sX2_remadeBy) 1 34 rfl dX2_remadeBy_33 rfl rfl ?_
          refine gg_iload (S := sX2_remadeBy) 3 36 rfl dX2_remadeBy_34 rfl ?_
          refine gg_ld (S := sX2_remadeBy) 37 rfl dX2_remadeBy_36 (fun t6 => ?_)
          refine gg_callVi (S := sX2_remadeBy) (S' := sX2_pieceRoom) (cs := 0) (sl := 0) (As := [vi y2, vi t6]) (st := [vi y1]) 40 rfl (fun b8 => lkX2_pieceRoom b8 y2 t6) mwX2_pieceRoom rfl mlX2_90 dX2_remadeBy_37 cfX2 ⟨by decide, by decide⟩ 0 0 ⟨rfl, rfl⟩ ⟨by decide, by decide⟩ (Nat.le_of_ble_eq_true rfl) (fun t7 => ?_)
          refine gg_iadd (S := sX2_remadeBy) 41 rfl dX2_remadeBy_40 ?_
          refine gg_istore_n (S := sX2_remadeBy) (L' := [(3, vi (y1 + t7)), (0, vr (some x0)), (1, vr x1), (4, vi y2), (5, vi y3)]) 42 rfl dX2_remadeBy_41 rfl (by decide) rfl ?_
          refine gg_aload_n (S := sX2_remadeBy) 2 43 rfl dX2_remadeBy_42 rfl rfl ?_
          refine gg_iload (S := sX2_remadeBy) 3 45 rfl dX2_remadeBy_43 rfl ?_
          refine gg_ld (S := sX2_remadeBy) 46 rfl dX2_remadeBy_45 (fun t8 => ?_)
          refine gg_istore (S := sX2_remadeBy) (L' := [(4, vi t8), (3, vi (y1 + t7)), (0, vr (some x0)), (1, vr x1), (5, vi y3)]) 48 rfl dX2_remadeBy_46 (by decide) rfl ?_
          refine gg_iinc (S := sX2_remadeBy) (L' := [(5, vi (y3 + 1)), (4, vi t8), (3, vi (y1 + t7)), (0, vr (some x0)), (1, vr x1)]) 4 51 rfl dX2_remadeBy_48 rfl (by decide) rfl ?_
          refine gg_goto (S := sX2_remadeBy) (tgt := 8) dX2_remadeBy_51 (by decide) ?_
          exact gg_pure (gg_sub [3, 4, 2, 1, 0] rfl (hr8 ((y1 + t7), t8, (y3 + 1))))
        · exact gg_pure (gg_sub [2] rfl (he8 y1))
    · exact gg_pure (gg_sub [2] rfl (he8 y1))
  · intro t10
    refine gg_iload_n (S := sX2_remadeBy) 0 55 rfl dX2_remadeBy_54 rfl rfl ?_
    exact gg_pure (gg_iret (S := sX2_remadeBy) rfl dX2_remadeBy_55 (by decide) (by decide))

set_option maxRecDepth 100000 in
set_option maxHeartbeats 4000000 in
theorem lkX2_takeIfLess (x0 : Nat) (x1 : Int) : LK yX2_takeIfLess sX2_takeIfLess [vr (some x0), vi x1] en_v (X2_takeIfLess x0 x1) := by
  refine lk_go (L := [(0, vr (some x0)), (1, vi x1)]) (by decide +kernel) rfl (fun h => by cases h) (Nat.le_of_ble_eq_true rfl) rfl ?_
  intro K
  unfold X2_takeIfLess
  refine gg_iconst (S := sX2_takeIfLess) 1 rfl dX2_takeIfLess_0 ?_
  refine gg_istore_n (S := sX2_takeIfLess) (L' := [(2, vi 0), (0, vr (some x0)), (1, vi x1)]) 2 rfl dX2_takeIfLess_1 rfl (by decide) rfl ?_
  refine gg_iconst (S := sX2_takeIfLess) 3 rfl dX2_takeIfLess_2 ?_
  refine gg_istore_n (S := sX2_takeIfLess) (L' := [(3, vi 0), (2, vi 0), (0, vr (some x0)), (1, vi x1)]) 4 rfl dX2_takeIfLess_3 rfl (by decide) rfl ?_
  refine gg_sub [2, 3, 1, 0] rfl ?_
  refine gg_loop (fun (y1, y2) => [(0, vr (some x0)), (1, vi x1), (2, vi y1), (3, vi y2)]) mo_N ?_ (0, 0)
  · intro rec4 hr4
    rintro ⟨y1, y2⟩
    dsimp only [X2_takeIfLess_L4]
    refine gg_iload_n (S := sX2_takeIfLess) 3 5 rfl dX2_takeIfLess_4 rfl rfl ?_
    refine gg_aload_n (S := sX2_takeIfLess) 0 6 rfl dX2_takeIfLess_5 rfl rfl ?_
    refine gg_gi (S := sX2_takeIfLess) cfX2 (by decide) (fun _ _ => rfl) 9 rfl flX2_42 dX2_takeIfLess_6 (fun t3 => ?_)
    refine gg_ic_ge (S := sX2_takeIfLess) (tgt := 51) 12 rfl dX2_takeIfLess_9 (by decide) ?_ ?_
    · refine gg_aload_n (S := sX2_takeIfLess) 0 13 rfl dX2_takeIfLess_12 rfl rfl ?_
      refine gg_aload_n (S := sX2_takeIfLess) 0 14 rfl dX2_takeIfLess_13 rfl rfl ?_
      refine gg_gr (S := sX2_takeIfLess) cfX2 (by decide) (fun _ _ => rfl) 17 rfl flX2_27 dX2_takeIfLess_14 (fun t11 => ?_)
      refine gg_iload_n (S := sX2_takeIfLess) 3 18 rfl dX2_takeIfLess_17 rfl rfl ?_
      refine gg_callVi (S := sX2_takeIfLess) (S' := sX2_remadeBy) (cs := 0) (sl := 0) (As := [vr t11, vi y2]) (st := []) 21 rfl (fun b15 => lkX2_remadeBy b15 t11 y2) mwX2_remadeBy rfl mlX2_66 dX2_takeIfLess_18 cfX2 ⟨by decide, by decide⟩ 0 0 ⟨rfl, rfl⟩ ⟨by decide, by decide⟩ (Nat.le_of_ble_eq_true rfl) (fun t12 => ?_)
      refine gg_istore (S := sX2_takeIfLess) (L' := [(4, vi t12), (0, vr (some x0)), (1, vi x1), (2, vi y1), (3, vi y2)]) 23 rfl dX2_takeIfLess_21 (by decide) rfl ?_
      refine gg_iload (S := sX2_takeIfLess) 0 25 rfl dX2_takeIfLess_23 rfl ?_
      refine gg_aload_n (S := sX2_takeIfLess) 1 26 rfl dX2_takeIfLess_25 rfl rfl ?_
      refine gg_gi (S := sX2_takeIfLess) cfX2 (by decide) (fun _ _ => rfl) 29 rfl flX2_46 dX2_takeIfLess_26 (fun t13 => ?_)
      refine gg_ic_le (S := sX2_takeIfLess) (tgt := 33) 32 rfl dX2_takeIfLess_29 (by decide) ?_ ?_
      · refine gg_iload_n (S := sX2_takeIfLess) 3 34 rfl dX2_takeIfLess_33 rfl rfl ?_
        refine gg_aload_n (S := sX2_takeIfLess) 1 35 rfl dX2_takeIfLess_34 rfl rfl ?_
        refine gg_gr (S := sX2_takeIfLess) cfX2 (by decide) (fun _ _ => rfl) 38 rfl flX2_18 dX2_takeIfLess_35 (fun t14 => ?_)
        refine gg_iload_n (S := sX2_takeIfLess) 4 39 rfl dX2_takeIfLess_38 rfl rfl ?_
        refine gg_ld (S := sX2_takeIfLess) 40 rfl dX2_takeIfLess_39 (fun t15 => ?_)
        refine gg_iload (S := sX2_takeIfLess) 0 42 rfl dX2_takeIfLess_40 rfl ?_
        refine gg_imul (S := sX2_takeIfLess) 43 rfl dX2_takeIfLess_42 ?_
        refine gg_iadd (S := sX2_takeIfLess) 44 rfl dX2_takeIfLess_43 ?_
        refine gg_istore_n (S := sX2_takeIfLess) (L' := [(2, vi (y1 + (t15 * t12))), (4, vi t12), (0, vr (some x0)), (1, vi x1), (3, vi y2)]) 45 rfl dX2_takeIfLess_44 rfl (by decide) rfl ?_
        refine gg_iinc (S := sX2_takeIfLess) (L' := [(3, vi (y2 + 1)), (2, vi (y1 + (t15 * t12))), (4, vi t12), (0, vr (some x0)), (1, vi x1)]) 4 48 rfl dX2_takeIfLess_45 rfl (by decide) rfl ?_
        refine gg_goto (S := sX2_takeIfLess) (tgt := 4) dX2_takeIfLess_48 (by decide) ?_
        exact gg_pure (gg_sub [3, 4, 1, 0] rfl (hr4 ((y1 + (t15 * t12)), (y2 + 1))))
      · exact gg_pure (gg_vret (S := sX2_takeIfLess) rfl dX2_takeIfLess_32 (by decide) (by decide))
    · refine gg_aload_n (S := sX2_takeIfLess) 0 52 rfl dX2_takeIfLess_51 rfl rfl ?_
      refine gg_iload_n (S := sX2_takeIfLess) 1 53 rfl dX2_takeIfLess_52 rfl rfl ?_
      refine gg_iload_n (S := sX2_takeIfLess) 2 54 rfl dX2_takeIfLess_53 rfl rfl ?_
      refine gg_callVi (S := sX2_takeIfLess) (S' := sX2_isLess) (cs := 0) (sl := 0) (As := [vi x1, vi y1]) (st := []) 57 rfl (fun b9 => lkX2_isLess b9 x1 y1) mwX2_isLess rfl mlX2_103 dX2_takeIfLess_54 cfX2 ⟨by decide, by decide⟩ 0 0 ⟨rfl, rfl⟩ ⟨by decide, by decide⟩ (Nat.le_of_ble_eq_true rfl) (fun t4 => ?_)
      refine gg_if_ne (S := sX2_takeIfLess) (tgt := 61) 60 rfl dX2_takeIfLess_57 (by decide) ?_ ?_
      · exact gg_pure (gg_vret (S := sX2_takeIfLess) rfl dX2_takeIfLess_60 (by decide) (by decide))
      · refine gg_aload_n (S := sX2_takeIfLess) 0 62 rfl dX2_takeIfLess_61 rfl rfl ?_
        refine gg_iconst (S := sX2_takeIfLess) 63 rfl dX2_takeIfLess_62 ?_
        refine gg_sz (S := sX2_takeIfLess) cfX2 (by decide) rfl (fun _ _ => rfl) rfl 66 rfl flX2_49 dX2_takeIfLess_63 ?_
        refine gg_aload_n (S := sX2_takeIfLess) 0 67 rfl dX2_takeIfLess_66 rfl rfl ?_
        refine gg_iload_n (S := sX2_takeIfLess) 1 68 rfl dX2_takeIfLess_67 rfl rfl ?_
        refine gg_si (S := sX2_takeIfLess) cfX2 (by decide) rfl (fun _ _ => rfl) rfl 71 rfl flX2_53 dX2_takeIfLess_68 ?_
        refine gg_aload_n (S := sX2_takeIfLess) 0 72 rfl dX2_takeIfLess_71 rfl rfl ?_
        refine gg_iload_n (S := sX2_takeIfLess) 2 73 rfl dX2_takeIfLess_72 rfl rfl ?_
        refine gg_si (S := sX2_takeIfLess) cfX2 (by decide) rfl (fun _ _ => rfl) rfl 76 rfl flX2_56 dX2_takeIfLess_73 ?_
        refine gg_iconst (S := sX2_takeIfLess) 77 rfl dX2_takeIfLess_76 ?_
        refine gg_istore_n (S := sX2_takeIfLess) (L' := [(3, vi 0), (0, vr (some x0)), (1, vi x1), (2, vi y1)]) 78 rfl dX2_takeIfLess_77 rfl (by decide) rfl ?_
        refine gg_sub [1, 0] rfl ?_
        refine gg_loopA (fun y5 => [(0, vr (some x0)), (3, vi y5)]) (fun _ => []) 104 mo_N ?_ ?_ 0
        · intro κ78 hr78 he78
          intro y5
          dsimp only [X2_takeIfLess_L78]
          refine gg_iload_n (S := sX2_takeIfLess) 1 79 rfl dX2_takeIfLess_78 rfl rfl ?_
          refine gg_aload_n (S := sX2_takeIfLess) 0 80 rfl dX2_takeIfLess_79 rfl rfl ?_
          refine gg_gi (S := sX2_takeIfLess) cfX2 (by decide) (fun _ _ => rfl) 83 rfl flX2_42 dX2_takeIfLess_80 (fun t6 => ?_)
          refine gg_ic_ge (S := sX2_takeIfLess) (tgt := 104) 86 rfl dX2_takeIfLess_83 (by decide) ?_ ?_
          · refine gg_aload_n (S := sX2_takeIfLess) 0 87 rfl dX2_takeIfLess_86 rfl rfl ?_
            refine gg_gr (S := sX2_takeIfLess) cfX2 (by decide) (fun _ _ => rfl) 90 rfl flX2_30 dX2_takeIfLess_87 (fun t7 => ?_)
            refine gg_iload_n (S := sX2_takeIfLess) 1 91 rfl dX2_takeIfLess_90 rfl rfl ?_
            refine gg_aload_n (S := sX2_takeIfLess) 0 92 rfl dX2_takeIfLess_91 rfl rfl ?_
            refine gg_gr (S := sX2_takeIfLess) cfX2 (by decide) (fun _ _ => rfl) 95 rfl flX2_27 dX2_takeIfLess_92 (fun t8 => ?_)
            refine gg_iload_n (S := sX2_takeIfLess) 1 96 rfl dX2_takeIfLess_95 rfl rfl ?_
            refine gg_ld (S := sX2_takeIfLess) 97 rfl dX2_takeIfLess_96 (fun t9 => ?_)
            refine gg_st (S := sX2_takeIfLess) 98 rfl dX2_takeIfLess_97 ?_
            refine gg_iinc (S := sX2_takeIfLess) (L' := [(3, vi (y5 + 1)), (0, vr (some x0))]) 1 101 rfl dX2_takeIfLess_98 rfl (by decide) rfl ?_
            refine gg_goto (S := sX2_takeIfLess) (tgt := 78) dX2_takeIfLess_101 (by decide) ?_
            exact gg_pure (gg_sub [1, 0] rfl (hr78 (y5 + 1)))
          · exact gg_pure (gg_sub [] rfl (he78 ()))
        · intro _
          exact gg_pure (gg_vret (S := sX2_takeIfLess) rfl dX2_takeIfLess_104 (by decide) (by decide))
