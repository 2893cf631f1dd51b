set_option maxRecDepth 100000 in
set_option maxHeartbeats 4000000 in
theorem lkX3_addLine (x0 : Nat) (x1 : Option Nat) (x2 : Option Nat) (x3 : Int) : LK yX3_addLine sX3_addLine [vr (some x0), vr x1, vr x2, vi x3] en_v (X3_addLine x0 x1 x2 x3) := by
  refine lk_go (L := [(0, vr (some x0)), (1, vr x1), (2, vr x2), (3, vi x3)]) (by decide +kernel) rfl (fun h => by cases h) (Nat.le_of_ble_eq_true rfl) rfl ?_
  intro K
  unfold X3_addLine
  refine gg_aload_n 0 1 rfl dX3_addLine_0 rfl rfl ?_
  refine gg_gi cfX3 (by decide) (fun _ _ => rfl) 4 rfl flX3_33 dX3_addLine_1 (fun t1 => ?_)
  refine gg_if_le (tgt := 16) 7 rfl dX3_addLine_4 (by decide) ?_ ?_
  · exact gg_pure (gg_vret rfl dX3_addLine_16 (by decide) (by decide))
  · refine gg_aload_n 0 8 rfl dX3_addLine_7 rfl rfl ?_
    refine gg_gi cfX3 (by decide) (fun _ _ => rfl) 11 rfl flX3_33 dX3_addLine_8 (fun t2 => ?_)
    refine gg_aload_n 1 12 rfl dX3_addLine_11 rfl rfl ?_
    refine gg_alen 13 rfl dX3_addLine_12 (fun t3 => ?_)
    refine gg_ic_lt (tgt := 17) 16 rfl dX3_addLine_13 (by decide) ?_ ?_
    · refine gg_aload_n 1 18 rfl dX3_addLine_17 rfl rfl ?_
      refine gg_aload_n 0 19 rfl dX3_addLine_18 rfl rfl ?_
      refine gg_gi cfX3 (by decide) (fun _ _ => rfl) 22 rfl flX3_33 dX3_addLine_19 (fun t4 => ?_)
      refine gg_ld 23 rfl dX3_addLine_22 (fun t5 => ?_)
      refine gg_istore (L' := [(4, vi t5), (0, vr (some x0)), (1, vr x1), (2, vr x2), (3, vi x3)]) 25 rfl dX3_addLine_23 (by decide) rfl ?_
      refine gg_iload 0 27 rfl dX3_addLine_25 rfl ?_
      refine gg_if_lt (tgt := 52) 30 rfl dX3_addLine_27 (by decide) ?_ ?_
      · exact gg_pure (gg_vret rfl dX3_addLine_52 (by decide) (by decide))
      · refine gg_iload 0 32 rfl dX3_addLine_30 rfl ?_
        refine gg_aload_n 3 33 rfl dX3_addLine_32 rfl rfl ?_
        refine gg_alen 34 rfl dX3_addLine_33 (fun t6 => ?_)
        refine gg_ic_ge (tgt := 52) 37 rfl dX3_addLine_34 (by decide) ?_ ?_
        · refine gg_aload_n 3 38 rfl dX3_addLine_37 rfl rfl ?_
          refine gg_iload 0 40 rfl dX3_addLine_38 rfl ?_
          refine gg_iload_n 4 41 rfl dX3_addLine_40 rfl rfl ?_
          refine gg_st 42 rfl dX3_addLine_41 ?_
          refine gg_aload_n 2 43 rfl dX3_addLine_42 rfl rfl ?_
          refine gg_aload_n 1 44 rfl dX3_addLine_43 rfl rfl ?_
          refine gg_gi cfX3 (by decide) (fun _ _ => rfl) 47 rfl flX3_33 dX3_addLine_44 (fun t7 => ?_)
          refine gg_iload 0 49 rfl dX3_addLine_47 rfl ?_
          refine gg_iconst 50 rfl dX3_addLine_49 ?_
          refine gg_iadd 51 rfl dX3_addLine_50 ?_
          refine gg_st 52 rfl dX3_addLine_51 ?_
          exact gg_pure (gg_vret rfl dX3_addLine_52 (by decide) (by decide))
        · exact gg_pure (gg_vret rfl dX3_addLine_52 (by decide) (by decide))
    · exact gg_pure (gg_vret rfl dX3_addLine_16 (by decide) (by decide))

set_option maxRecDepth 100000 in
set_option maxHeartbeats 4000000 in
theorem lkX3_addComing (x0 : Nat) (x1 : Int) : LK yX3_addComing sX3_addComing [vr (some x0), vi x1] en_v (X3_addComing x0 x1) := by
  refine lk_go (L := [(0, vr (some x0)), (1, vi x1)]) (by decide +kernel) rfl (fun h => by cases h) (Nat.le_of_ble_eq_true rfl) rfl ?_
  intro K
  unfold X3_addComing
  refine gg_aload_n 0 1 rfl dX3_addComing_0 rfl rfl ?_
  refine gg_aload_n 0 2 rfl dX3_addComing_1 rfl rfl ?_
  refine gg_gr cfX3 (by decide) (fun _ _ => rfl) 5 rfl flX3_24 dX3_addComing_2 (fun t1 => ?_)
  refine gg_aload_n 0 6 rfl dX3_addComing_5 rfl rfl ?_
  refine gg_gr cfX3 (by decide) (fun _ _ => rfl) 9 rfl flX3_30 dX3_addComing_6 (fun t2 => ?_)
  refine gg_iload_n 1 10 rfl dX3_addComing_9 rfl rfl ?_
  refine gg_callVv (S' := sX3_addLine) (As := [vr t1, vr t2, vi x1]) (st := []) 13 rfl (fun b2 => lkX3_addLine b2 t1 t2 x1) mwX3_addLine rfl mlX3_63 dX3_addComing_10 cfX3 ⟨by decide, by decide⟩ 0 0 ⟨rfl, rfl⟩ ⟨by decide, by decide⟩ (Nat.le_of_ble_eq_true rfl) (fun _ => ?_)
  exact gg_pure (gg_vret rfl dX3_addComing_13 (by decide) (by decide))

set_option maxRecDepth 100000 in
set_option maxHeartbeats 4000000 in
theorem lkX3_begins (x0 : Nat) (x1 : Int) : LK yX3_begins sX3_begins [vr (some x0), vi x1] en_i (X3_begins x0 x1) := by
  refine lk_go (L := [(0, vr (some x0)), (1, vi x1)]) (by decide +kernel) rfl (fun h => by cases h) (Nat.le_of_ble_eq_true rfl) rfl ?_
  intro K
  unfold X3_begins
  refine gg_iload_n 1 1 rfl dX3_begins_0 rfl rfl ?_
  refine gg_if_lt (tgt := 30) 4 rfl dX3_begins_1 (by decide) ?_ ?_
  · refine gg_iconst 31 rfl dX3_begins_30 ?_
    exact gg_pure (gg_iret rfl dX3_begins_31 (by decide) (by decide))
  · refine gg_iload_n 1 5 rfl dX3_begins_4 rfl rfl ?_
    refine gg_aload_n 0 6 rfl dX3_begins_5 rfl rfl ?_
    refine gg_gi cfX3 (by decide) (fun _ _ => rfl) 9 rfl flX3_33 dX3_begins_6 (fun t1 => ?_)
    refine gg_ic_ge (tgt := 30) 12 rfl dX3_begins_9 (by decide) ?_ ?_
    · refine gg_iload_n 1 13 rfl dX3_begins_12 rfl rfl ?_
      refine gg_aload_n 0 14 rfl dX3_begins_13 rfl rfl ?_
      refine gg_gr cfX3 (by decide) (fun _ _ => rfl) 17 rfl flX3_15 dX3_begins_14 (fun t2 => ?_)
      refine gg_alen 18 rfl dX3_begins_17 (fun t3 => ?_)
      refine gg_ic_ge (tgt := 30) 21 rfl dX3_begins_18 (by decide) ?_ ?_
      · refine gg_aload_n 0 22 rfl dX3_begins_21 rfl rfl ?_
        refine gg_gr cfX3 (by decide) (fun _ _ => rfl) 25 rfl flX3_15 dX3_begins_22 (fun t4 => ?_)
        refine gg_iload_n 1 26 rfl dX3_begins_25 rfl rfl ?_
        refine gg_ld 27 rfl dX3_begins_26 (fun t5 => ?_)
        refine gg_goto (tgt := 31) dX3_begins_27 (by decide) ?_
        exact gg_pure (gg_iret rfl dX3_begins_31 (by decide) (by decide))
      · refine gg_iconst 31 rfl dX3_begins_30 ?_
        exact gg_pure (gg_iret rfl dX3_begins_31 (by decide) (by decide))
    · refine gg_iconst 31 rfl dX3_begins_30 ?_
      exact gg_pure (gg_iret rfl dX3_begins_31 (by decide) (by decide))

set_option maxRecDepth 100000 in
set_option maxHeartbeats 4000000 in
theorem lkX3_shiftBefore (x0 : Nat) (x1 : Int) : LK yX3_shiftBefore sX3_shiftBefore [vr (some x0), vi x1] en_i (X3_shiftBefore x0 x1) := by
  refine lk_go (L := [(0, vr (some x0)), (1, vi x1)]) (by decide +kernel) rfl (fun h => by cases h) (Nat.le_of_ble_eq_true rfl) rfl ?_
  intro K
  unfold X3_shiftBefore
  refine gg_iload_n 1 1 rfl dX3_shiftBefore_0 rfl rfl ?_
  refine gg_join (fun t5 => [(0, vr (some x0)), (1, vi x1)]) (fun t5 => [vi t5]) 27 0 0 (fun κ1 hJ1 => ?_) ?_
  · refine gg_if_lt (tgt := 26) 4 rfl dX3_shiftBefore_1 (by decide) ?_ ?_
    · refine gg_iconst 27 rfl dX3_shiftBefore_26 ?_
      exact gg_pure (gg_sub [0, 1] rfl (hJ1 0))
    · refine gg_iload_n 1 5 rfl dX3_shiftBefore_4 rfl rfl ?_
      refine gg_aload_n 0 6 rfl dX3_shiftBefore_5 rfl rfl ?_
      refine gg_gr cfX3 (by decide) (fun _ _ => rfl) 9 rfl flX3_24 dX3_shiftBefore_6 (fun t1 => ?_)
      refine gg_alen 10 rfl dX3_shiftBefore_9 (fun t2 => ?_)
      refine gg_ic_ge (tgt := 26) 13 rfl dX3_shiftBefore_10 (by decide) ?_ ?_
      · refine gg_iload_n 1 14 rfl dX3_shiftBefore_13 rfl rfl ?_
        refine gg_aload_n 0 15 rfl dX3_shiftBefore_14 rfl rfl ?_
        refine gg_gr cfX3 (by decide) (fun _ _ => rfl) 18 rfl flX3_21 dX3_shiftBefore_15 (fun t3 => ?_)
        refine gg_alen 19 rfl dX3_shiftBefore_18 (fun t4 => ?_)
        refine gg_ic_ge (tgt := 26) 22 rfl dX3_shiftBefore_19 (by decide) ?_ ?_
        · refine gg_iconst 23 rfl dX3_shiftBefore_22 ?_
          refine gg_goto (tgt := 27) dX3_shiftBefore_23 (by decide) ?_
          exact gg_pure (gg_sub [0, 1] rfl (hJ1 1))
        · refine gg_iconst 27 rfl dX3_shiftBefore_26 ?_
          exact gg_pure (gg_sub [0, 1] rfl (hJ1 0))
      · refine gg_iconst 27 rfl dX3_shiftBefore_26 ?_
        exact gg_pure (gg_sub [0, 1] rfl (hJ1 0))
  · intro t5
    refine gg_istore_n (L' := [(2, vi t5), (0, vr (some x0)), (1, vi x1)]) 28 rfl dX3_shiftBefore_27 rfl (by decide) rfl ?_
    refine gg_iload_n 0 29 rfl dX3_shiftBefore_28 rfl rfl ?_
    refine gg_if_eq (tgt := 48) 32 rfl dX3_shiftBefore_29 (by decide) ?_ ?_
    · refine gg_iconst 49 rfl dX3_shiftBefore_48 ?_
      exact gg_pure (gg_iret rfl dX3_shiftBefore_49 (by decide) (by decide))
    · refine gg_aload_n 1 33 rfl dX3_shiftBefore_32 rfl rfl ?_
      refine gg_gr cfX3 (by decide) (fun _ _ => rfl) 36 rfl flX3_24 dX3_shiftBefore_33 (fun t6 => ?_)
      refine gg_iload_n 2 37 rfl dX3_shiftBefore_36 rfl rfl ?_
      refine gg_ld 38 rfl dX3_shiftBefore_37 (fun t7 => ?_)
      refine gg_aload_n 1 39 rfl dX3_shiftBefore_38 rfl rfl ?_
      refine gg_gr cfX3 (by decide) (fun _ _ => rfl) 42 rfl flX3_21 dX3_shiftBefore_39 (fun t8 => ?_)
      refine gg_iload_n 2 43 rfl dX3_shiftBefore_42 rfl rfl ?_
      refine gg_ld 44 rfl dX3_shiftBefore_43 (fun t9 => ?_)
      refine gg_isub 45 rfl dX3_shiftBefore_44 ?_
      refine gg_goto (tgt := 49) dX3_shiftBefore_45 (by decide) ?_
      exact gg_pure (gg_iret rfl dX3_shiftBefore_49 (by decide) (by decide))

set_option maxRecDepth 100000 in
set_option maxHeartbeats 4000000 in
theorem lkX3_beginsBehind (x0 : Nat) (x1 : Int) : LK yX3_beginsBehind sX3_beginsBehind [vr (some x0), vi x1] en_i (X3_beginsBehind x0 x1) := by
  refine lk_go (L := [(0, vr (some x0)), (1, vi x1)]) (by decide +kernel) rfl (fun h => by cases h) (Nat.le_of_ble_eq_true rfl) rfl ?_
  intro K
  unfold X3_beginsBehind
  refine gg_aload_n 0 1 rfl dX3_beginsBehind_0 rfl rfl ?_
  refine gg_iload_n 1 2 rfl dX3_beginsBehind_1 rfl rfl ?_
  refine gg_callVi (S' := sX3_begins) (As := [vi x1]) (st := []) 5 rfl (fun b3 => lkX3_begins b3 x1) mwX3_begins rfl mlX3_45 dX3_beginsBehind_2 cfX3 ⟨by decide, by decide⟩ 0 0 ⟨rfl, rfl⟩ ⟨by decide, by decide⟩ (Nat.le_of_ble_eq_true rfl) (fun t1 => ?_)
  refine gg_aload_n 0 6 rfl dX3_beginsBehind_5 rfl rfl ?_
  refine gg_iload_n 1 7 rfl dX3_beginsBehind_6 rfl rfl ?_
  refine gg_callVi (S' := sX3_shiftBefore) (As := [vi x1]) (st := [vi t1]) 10 rfl (fun b2 => lkX3_shiftBefore b2 x1) mwX3_shiftBefore rfl mlX3_54 dX3_beginsBehind_7 cfX3 ⟨by decide, by decide⟩ 0 0 ⟨rfl, rfl⟩ ⟨by decide, by decide⟩ (Nat.le_of_ble_eq_true rfl) (fun t2 => ?_)
  refine gg_iadd 11 rfl dX3_beginsBehind_10 ?_
  exact gg_pure (gg_iret rfl dX3_beginsBehind_11 (by decide) (by decide))

set_option maxRecDepth 100000 in
set_option maxHeartbeats 4000000 in
theorem lkX3_coming (x0 : Nat) (x1 : Int) : LK yX3_coming sX3_coming [vr (some x0), vi x1] en_i (X3_coming x0 x1) := by
  refine lk_go (L := [(0, vr (some x0)), (1, vi x1)]) (by decide +kernel) rfl (fun h => by cases h) (Nat.le_of_ble_eq_true rfl) rfl ?_
  intro K
  unfold X3_coming
  refine gg_iload_n 1 1 rfl dX3_coming_0 rfl rfl ?_
  refine gg_if_lt (tgt := 41) 4 rfl dX3_coming_1 (by decide) ?_ ?_
  · refine gg_iconst 42 rfl dX3_coming_41 ?_
    exact gg_pure (gg_iret rfl dX3_coming_42 (by decide) (by decide))
  · refine gg_iload_n 1 5 rfl dX3_coming_4 rfl rfl ?_
    refine gg_aload_n 0 6 rfl dX3_coming_5 rfl rfl ?_
    refine gg_gi cfX3 (by decide) (fun _ _ => rfl) 9 rfl flX3_33 dX3_coming_6 (fun t1 => ?_)
    refine gg_ic_ge (tgt := 41) 12 rfl dX3_coming_9 (by decide) ?_ ?_
    · refine gg_iload_n 1 13 rfl dX3_coming_12 rfl rfl ?_
      refine gg_iconst 14 rfl dX3_coming_13 ?_
      refine gg_iadd 15 rfl dX3_coming_14 ?_
      refine gg_aload_n 0 16 rfl dX3_coming_15 rfl rfl ?_
      refine gg_gr cfX3 (by decide) (fun _ _ => rfl) 19 rfl flX3_24 dX3_coming_16 (fun t2 => ?_)
      refine gg_alen 20 rfl dX3_coming_19 (fun t3 => ?_)
      refine gg_ic_ge (tgt := 41) 23 rfl dX3_coming_20 (by decide) ?_ ?_
      · refine gg_aload_n 0 24 rfl dX3_coming_23 rfl rfl ?_
        refine gg_gr cfX3 (by decide) (fun _ _ => rfl) 27 rfl flX3_24 dX3_coming_24 (fun t4 => ?_)
        refine gg_iload_n 1 28 rfl dX3_coming_27 rfl rfl ?_
        refine gg_iconst 29 rfl dX3_coming_28 ?_
        refine gg_iadd 30 rfl dX3_coming_29 ?_
        refine gg_ld 31 rfl dX3_coming_30 (fun t5 => ?_)
        refine gg_aload_n 0 32 rfl dX3_coming_31 rfl rfl ?_
        refine gg_gr cfX3 (by decide) (fun _ _ => rfl) 35 rfl flX3_24 dX3_coming_32 (fun t6 => ?_)
        refine gg_iload_n 1 36 rfl dX3_coming_35 rfl rfl ?_
        refine gg_ld 37 rfl dX3_coming_36 (fun t7 => ?_)
        refine gg_isub 38 rfl dX3_coming_37 ?_
        refine gg_goto (tgt := 42) dX3_coming_38 (by decide) ?_
        exact gg_pure (gg_iret rfl dX3_coming_42 (by decide) (by decide))
      · refine gg_iconst 42 rfl dX3_coming_41 ?_
        exact gg_pure (gg_iret rfl dX3_coming_42 (by decide) (by decide))
    · refine gg_iconst 42 rfl dX3_coming_41 ?_
      exact gg_pure (gg_iret rfl dX3_coming_42 (by decide) (by decide))

set_option maxRecDepth 100000 in
set_option maxHeartbeats 4000000 in
theorem lkX3_start (x0 : Option Nat) (x1 : Int) : LK yX3_start sX3_start [vr x0, vi x1] en_i (X3_start x0 x1) := by
  refine lk_go (L := [(0, vr x0), (1, vi x1)]) (by decide +kernel) rfl (fun h => by cases h) (Nat.le_of_ble_eq_true rfl) rfl ?_
  intro K
  unfold X3_start
  refine gg_iload_n 1 1 rfl dX3_start_0 rfl rfl ?_
  refine gg_if_lt (tgt := 16) 4 rfl dX3_start_1 (by decide) ?_ ?_
  · refine gg_iconst 17 rfl dX3_start_16 ?_
    exact gg_pure (gg_iret rfl dX3_start_17 (by decide) (by decide))
  · refine gg_iload_n 1 5 rfl dX3_start_4 rfl rfl ?_
    refine gg_aload_n 0 6 rfl dX3_start_5 rfl rfl ?_
    refine gg_alen 7 rfl dX3_start_6 (fun t1 => ?_)
    refine gg_ic_ge (tgt := 16) 10 rfl dX3_start_7 (by decide) ?_ ?_
    · refine gg_aload_n 0 11 rfl dX3_start_10 rfl rfl ?_
      refine gg_iload_n 1 12 rfl dX3_start_11 rfl rfl ?_
      refine gg_ld 13 rfl dX3_start_12 (fun t2 => ?_)
      refine gg_goto (tgt := 17) dX3_start_13 (by decide) ?_
      exact gg_pure (gg_iret rfl dX3_start_17 (by decide) (by decide))
    · refine gg_iconst 17 rfl dX3_start_16 ?_
      exact gg_pure (gg_iret rfl dX3_start_17 (by decide) (by decide))

set_option maxRecDepth 100000 in
set_option maxHeartbeats 4000000 in
theorem lkX3_comingLine (x0 : Nat) (x1 : Int) (x2 : Int) : LK yX3_comingLine sX3_comingLine [vr (some x0), vi x1, vi x2] en_i (X3_comingLine x0 x1 x2) := by
  refine lk_go (L := [(0, vr (some x0)), (1, vi x1), (2, vi x2)]) (by decide +kernel) rfl (fun h => by cases h) (Nat.le_of_ble_eq_true rfl) rfl ?_
  intro K
  unfold X3_comingLine
  refine gg_aload_n 0 1 rfl dX3_comingLine_0 rfl rfl ?_
  refine gg_gr cfX3 (by decide) (fun _ _ => rfl) 4 rfl flX3_24 dX3_comingLine_1 (fun t1 => ?_)
  refine gg_iload_n 1 5 rfl dX3_comingLine_4 rfl rfl ?_
  refine gg_callSi (S' := sX3_start) (As := [vr t1, vi x1]) (st := []) 8 rfl (lkX3_start t1 x1) mwX3_start rfl mlX3_37 dX3_comingLine_5 ⟨by decide, by decide⟩ 0 0 ⟨rfl, rfl⟩ ⟨by decide, by decide⟩ (Nat.le_of_ble_eq_true rfl) (fun t2 => ?_)
  refine gg_iload_n 2 9 rfl dX3_comingLine_8 rfl rfl ?_
  refine gg_iadd 10 rfl dX3_comingLine_9 ?_
  refine gg_istore_n (L' := [(3, vi (t2 + x2)), (0, vr (some x0)), (1, vi x1), (2, vi x2)]) 11 rfl dX3_comingLine_10 rfl (by decide) rfl ?_
  refine gg_iload_n 3 12 rfl dX3_comingLine_11 rfl rfl ?_
  refine gg_if_lt (tgt := 42) 15 rfl dX3_comingLine_12 (by decide) ?_ ?_
  · refine gg_iconst 43 rfl dX3_comingLine_42 ?_
    exact gg_pure (gg_iret rfl dX3_comingLine_43 (by decide) (by decide))
  · refine gg_iload_n 3 16 rfl dX3_comingLine_15 rfl rfl ?_
    refine gg_aload_n 1 17 rfl dX3_comingLine_16 rfl rfl ?_
    refine gg_iload_n 2 18 rfl dX3_comingLine_17 rfl rfl ?_
    refine gg_callVi (S' := sX3_coming) (As := [vi x1]) (st := [vi x2]) 21 rfl (fun b7 => lkX3_coming b7 x1) mwX3_coming rfl mlX3_51 dX3_comingLine_18 cfX3 ⟨by decide, by decide⟩ 0 0 ⟨rfl, rfl⟩ ⟨by decide, by decide⟩ (Nat.le_of_ble_eq_true rfl) (fun t3 => ?_)
    refine gg_ic_ge (tgt := 42) 24 rfl dX3_comingLine_21 (by decide) ?_ ?_
    · refine gg_iload_n 0 25 rfl dX3_comingLine_24 rfl rfl ?_
      refine gg_aload_n 1 26 rfl dX3_comingLine_25 rfl rfl ?_
      refine gg_gr cfX3 (by decide) (fun _ _ => rfl) 29 rfl flX3_30 dX3_comingLine_26 (fun t4 => ?_)
      refine gg_alen 30 rfl dX3_comingLine_29 (fun t5 => ?_)
      refine gg_ic_ge (tgt := 42) 33 rfl dX3_comingLine_30 (by decide) ?_ ?_
      · refine gg_aload_n 1 34 rfl dX3_comingLine_33 rfl rfl ?_
        refine gg_gr cfX3 (by decide) (fun _ _ => rfl) 37 rfl flX3_30 dX3_comingLine_34 (fun t6 => ?_)
        refine gg_iload_n 0 38 rfl dX3_comingLine_37 rfl rfl ?_
        refine gg_ld 39 rfl dX3_comingLine_38 (fun t7 => ?_)
        refine gg_goto (tgt := 43) dX3_comingLine_39 (by decide) ?_
        exact gg_pure (gg_iret rfl dX3_comingLine_43 (by decide) (by decide))
      · refine gg_iconst 43 rfl dX3_comingLine_42 ?_
        exact gg_pure (gg_iret rfl dX3_comingLine_43 (by decide) (by decide))
    · refine gg_iconst 43 rfl dX3_comingLine_42 ?_
      exact gg_pure (gg_iret rfl dX3_comingLine_43 (by decide) (by decide))

set_option maxRecDepth 100000 in
set_option maxHeartbeats 4000000 in
theorem lkX3_comingAt (x0 : Nat) (x1 : Int) : LK yX3_comingAt sX3_comingAt [vr (some x0), vi x1] en_i (X3_comingAt x0 x1) := by
  refine lk_go (L := [(0, vr (some x0)), (1, vi x1)]) (by decide +kernel) rfl (fun h => by cases h) (Nat.le_of_ble_eq_true rfl) rfl ?_
  intro K
  unfold X3_comingAt
  refine gg_iconst 1 rfl dX3_comingAt_0 ?_
  refine gg_istore_n (L' := [(2, vi 0), (0, vr (some x0)), (1, vi x1)]) 2 rfl dX3_comingAt_1 rfl (by decide) rfl ?_
  refine gg_sub [1, 2, 0] rfl ?_
  refine gg_loop (fun y1 => [(0, vr (some x0)), (1, vi x1), (2, vi y1)]) mo_N ?_ 0
  · intro rec2 hr2
    intro y1
    dsimp only [X3_comingAt_L2]
    refine gg_iload_n 2 3 rfl dX3_comingAt_2 rfl rfl ?_
    refine gg_aload_n 0 4 rfl dX3_comingAt_3 rfl rfl ?_
    refine gg_gi cfX3 (by decide) (fun _ _ => rfl) 7 rfl flX3_33 dX3_comingAt_4 (fun t2 => ?_)
    refine gg_ic_ge (tgt := 44) 10 rfl dX3_comingAt_7 (by decide) ?_ ?_
    · refine gg_iload_n 1 11 rfl dX3_comingAt_10 rfl rfl ?_
      refine gg_aload_n 0 12 rfl dX3_comingAt_11 rfl rfl ?_
      refine gg_iload_n 2 13 rfl dX3_comingAt_12 rfl rfl ?_
      refine gg_callVi (S' := sX3_beginsBehind) (As := [vi y1]) (st := [vi x1]) 16 rfl (fun b7 => lkX3_beginsBehind b7 y1) mwX3_beginsBehind rfl mlX3_57 dX3_comingAt_13 cfX3 ⟨by decide, by decide⟩ 0 0 ⟨rfl, rfl⟩ ⟨by decide, by decide⟩ (Nat.le_of_ble_eq_true rfl) (fun t3 => ?_)
      refine gg_isub 17 rfl dX3_comingAt_16 ?_
      refine gg_istore_n (L' := [(3, vi (x1 - t3)), (0, vr (some x0)), (1, vi x1), (2, vi y1)]) 18 rfl dX3_comingAt_17 rfl (by decide) rfl ?_
      refine gg_iload_n 0 19 rfl dX3_comingAt_18 rfl rfl ?_
      refine gg_if_lt (tgt := 38) 22 rfl dX3_comingAt_19 (by decide) ?_ ?_
      · refine gg_iinc (L' := [(2, vi (y1 + 1)), (3, vi (x1 - t3)), (0, vr (some x0)), (1, vi x1)]) 3 41 rfl dX3_comingAt_38 rfl (by decide) rfl ?_
        refine gg_goto (tgt := 2) dX3_comingAt_41 (by decide) ?_
        exact gg_pure (gg_sub [2, 3, 0] rfl (hr2 (y1 + 1)))
      · refine gg_iload_n 0 23 rfl dX3_comingAt_22 rfl rfl ?_
        refine gg_aload_n 1 24 rfl dX3_comingAt_23 rfl rfl ?_
        refine gg_iload_n 3 25 rfl dX3_comingAt_24 rfl rfl ?_
        refine gg_callVi (S' := sX3_coming) (As := [vi y1]) (st := [vi (x1 - t3)]) 28 rfl (fun b6 => lkX3_coming b6 y1) mwX3_coming rfl mlX3_51 dX3_comingAt_25 cfX3 ⟨by decide, by decide⟩ 0 0 ⟨rfl, rfl⟩ ⟨by decide, by decide⟩ (Nat.le_of_ble_eq_true rfl) (fun t4 => ?_)
        refine gg_ic_ge (tgt := 38) 31 rfl dX3_comingAt_28 (by decide) ?_ ?_
        · refine gg_aload_n 1 32 rfl dX3_comingAt_31 rfl rfl ?_
          refine gg_iload_n 3 33 rfl dX3_comingAt_32 rfl rfl ?_
          refine gg_iload_n 0 34 rfl dX3_comingAt_33 rfl rfl ?_
          refine gg_callVi (S' := sX3_comingLine) (As := [vi y1, vi (x1 - t3)]) (st := []) 37 rfl (fun b5 => lkX3_comingLine b5 y1 (x1 - t3)) mwX3_comingLine rfl mlX3_92 dX3_comingAt_34 cfX3 ⟨by decide, by decide⟩ 0 0 ⟨rfl, rfl⟩ ⟨by decide, by decide⟩ (Nat.le_of_ble_eq_true rfl) (fun t5 => ?_)
          exact gg_pure (gg_iret rfl dX3_comingAt_37 (by decide) (by decide))
        · refine gg_iinc (L' := [(2, vi (y1 + 1)), (3, vi (x1 - t3)), (0, vr (some x0)), (1, vi x1)]) 3 41 rfl dX3_comingAt_38 rfl (by decide) rfl ?_
          refine gg_goto (tgt := 2) dX3_comingAt_41 (by decide) ?_
          exact gg_pure (gg_sub [2, 3, 0] rfl (hr2 (y1 + 1)))
    · refine gg_iconst 45 rfl dX3_comingAt_44 ?_
      exact gg_pure (gg_iret rfl dX3_comingAt_45 (by decide) (by decide))

set_option maxRecDepth 100000 in
set_option maxHeartbeats 4000000 in
theorem lkX0_addBrought (x0 : Option Nat) (x1 : Int) (x2 : Int) (x3 : Option Nat) : LK yX0_addBrought sX0_addBrought [vr x0, vi x1, vi x2, vr x3] en_v (X0_addBrought x0 x1 x2 x3) := by
  refine lk_go (L := [(0, vr x0), (1, vi x1), (2, vi x2), (3, vr x3)]) (by decide +kernel) rfl (fun h => by cases h) (Nat.le_of_ble_eq_true rfl) rfl ?_
  intro K
  unfold X0_addBrought
  refine gg_iload_n 1 1 rfl dX0_addBrought_0 rfl rfl ?_
  refine gg_istore (L' := [(4, vi x1), (0, vr x0), (1, vi x1), (2, vi x2), (3, vr x3)]) 3 rfl dX0_addBrought_1 (by decide) rfl ?_
  refine gg_sub [1, 3, 4, 0] rfl ?_
  refine gg_loopA (fun y1 => [(0, vr x0), (2, vi x2), (3, vr x3), (4, vi y1)]) (fun _ => []) 25 mo_N ?_ ?_ x1
  · intro κ3 hr3 he3
    intro y1
    dsimp only [X0_addBrought_L3]
    refine gg_iload 3 5 rfl dX0_addBrought_3 rfl ?_
    refine gg_iload_n 1 6 rfl dX0_addBrought_5 rfl rfl ?_
    refine gg_ic_ge (tgt := 25) 9 rfl dX0_addBrought_6 (by decide) ?_ ?_
    · refine gg_aload_n 2 10 rfl dX0_addBrought_9 rfl rfl ?_
      refine gg_aload_n 0 11 rfl dX0_addBrought_10 rfl rfl ?_
      refine gg_iload 3 13 rfl dX0_addBrought_11 rfl ?_
      refine gg_callVi (S' := sX3_comingAt) (As := [vi y1]) (st := [vr x3]) 16 rfl (fun b3 => lkX3_comingAt b3 y1) mwX3_comingAt rfl mlX0_117 dX0_addBrought_13 cfX3 ⟨by decide, by decide⟩ 0 0 ⟨rfl, rfl⟩ ⟨by decide, by decide⟩ (Nat.le_of_ble_eq_true rfl) (fun t2 => ?_)
      refine gg_callVv (S' := sX3_addComing) (As := [vi t2]) (st := []) 19 rfl (fun b2 => lkX3_addComing b2 t2) mwX3_addComing rfl mlX0_120 dX0_addBrought_16 cfX3 ⟨by decide, by decide⟩ 0 0 ⟨rfl, rfl⟩ ⟨by decide, by decide⟩ (Nat.le_of_ble_eq_true rfl) (fun _ => ?_)
      refine gg_iinc (L' := [(4, vi (y1 + 1)), (0, vr x0), (2, vi x2), (3, vr x3)]) 3 22 rfl dX0_addBrought_19 rfl (by decide) rfl ?_
      refine gg_goto (tgt := 3) dX0_addBrought_22 (by decide) ?_
      exact gg_pure (gg_sub [1, 2, 3, 0] rfl (hr3 (y1 + 1)))
    · exact gg_pure (gg_sub [] rfl (he3 ()))
  · intro _
    exact gg_pure (gg_vret rfl dX0_addBrought_25 (by decide) (by decide))

set_option maxRecDepth 100000 in
set_option maxHeartbeats 4000000 in
theorem lkX3_addGoing (x0 : Nat) (x1 : Int) : LK yX3_addGoing sX3_addGoing [vr (some x0), vi x1] en_v (X3_addGoing x0 x1) := by
  refine lk_go (L := [(0, vr (some x0)), (1, vi x1)]) (by decide +kernel) rfl (fun h => by cases h) (Nat.le_of_ble_eq_true rfl) rfl ?_
  intro K
  unfold X3_addGoing
  refine gg_aload_n 0 1 rfl dX3_addGoing_0 rfl rfl ?_
  refine gg_aload_n 0 2 rfl dX3_addGoing_1 rfl rfl ?_
  refine gg_gr cfX3 (by decide) (fun _ _ => rfl) 5 rfl flX3_21 dX3_addGoing_2 (fun t1 => ?_)
  refine gg_aload_n 0 6 rfl dX3_addGoing_5 rfl rfl ?_
  refine gg_gr cfX3 (by decide) (fun _ _ => rfl) 9 rfl flX3_27 dX3_addGoing_6 (fun t2 => ?_)
  refine gg_iload_n 1 10 rfl dX3_addGoing_9 rfl rfl ?_
  refine gg_callVv (S' := sX3_addLine) (As := [vr t1, vr t2, vi x1]) (st := []) 13 rfl (fun b2 => lkX3_addLine b2 t1 t2 x1) mwX3_addLine rfl mlX3_63 dX3_addGoing_10 cfX3 ⟨by decide, by decide⟩ 0 0 ⟨rfl, rfl⟩ ⟨by decide, by decide⟩ (Nat.le_of_ble_eq_true rfl) (fun _ => ?_)
  exact gg_pure (gg_vret rfl dX3_addGoing_13 (by decide) (by decide))

set_option maxRecDepth 100000 in
set_option maxHeartbeats 4000000 in
theorem lkX3_going (x0 : Nat) (x1 : Int) : LK yX3_going sX3_going [vr (some x0), vi x1] en_i (X3_going x0 x1) := by
  refine lk_go (L := [(0, vr (some x0)), (1, vi x1)]) (by decide +kernel) rfl (fun h => by cases h) (Nat.le_of_ble_eq_true rfl) rfl ?_
  intro K
  unfold X3_going
  refine gg_iload_n 1 1 rfl dX3_going_0 rfl rfl ?_
  refine gg_if_lt (tgt := 41) 4 rfl dX3_going_1 (by decide) ?_ ?_
  · refine gg_iconst 42 rfl dX3_going_41 ?_
    exact gg_pure (gg_iret rfl dX3_going_42 (by decide) (by decide))
  · refine gg_iload_n 1 5 rfl dX3_going_4 rfl rfl ?_
    refine gg_aload_n 0 6 rfl dX3_going_5 rfl rfl ?_
    refine gg_gi cfX3 (by decide) (fun _ _ => rfl) 9 rfl flX3_33 dX3_going_6 (fun t1 => ?_)
    refine gg_ic_ge (tgt := 41) 12 rfl dX3_going_9 (by decide) ?_ ?_
    · refine gg_iload_n 1 13 rfl dX3_going_12 rfl rfl ?_
      refine gg_iconst 14 rfl dX3_going_13 ?_
      refine gg_iadd 15 rfl dX3_going_14 ?_
      refine gg_aload_n 0 16 rfl dX3_going_15 rfl rfl ?_
      refine gg_gr cfX3 (by decide) (fun _ _ => rfl) 19 rfl flX3_21 dX3_going_16 (fun t2 => ?_)
      refine gg_alen 20 rfl dX3_going_19 (fun t3 => ?_)
      refine gg_ic_ge (tgt := 41) 23 rfl dX3_going_20 (by decide) ?_ ?_
      · refine gg_aload_n 0 24 rfl dX3_going_23 rfl rfl ?_
        refine gg_gr cfX3 (by decide) (fun _ _ => rfl) 27 rfl flX3_21 dX3_going_24 (fun t4 => ?_)
        refine gg_iload_n 1 28 rfl dX3_going_27 rfl rfl ?_
        refine gg_iconst 29 rfl dX3_going_28 ?_
        refine gg_iadd 30 rfl dX3_going_29 ?_
        refine gg_ld 31 rfl dX3_going_30 (fun t5 => ?_)
        refine gg_aload_n 0 32 rfl dX3_going_31 rfl rfl ?_
        refine gg_gr cfX3 (by decide) (fun _ _ => rfl) 35 rfl flX3_21 dX3_going_32 (fun t6 => ?_)
        refine gg_iload_n 1 36 rfl dX3_going_35 rfl rfl ?_
        refine gg_ld 37 rfl dX3_going_36 (fun t7 => ?_)
        refine gg_isub 38 rfl dX3_going_37 ?_
        refine gg_goto (tgt := 42) dX3_going_38 (by decide) ?_
        exact gg_pure (gg_iret rfl dX3_going_42 (by decide) (by decide))
      · refine gg_iconst 42 rfl dX3_going_41 ?_
        exact gg_pure (gg_iret rfl dX3_going_42 (by decide) (by decide))
    · refine gg_iconst 42 rfl dX3_going_41 ?_
      exact gg_pure (gg_iret rfl dX3_going_42 (by decide) (by decide))

set_option maxRecDepth 100000 in
set_option maxHeartbeats 4000000 in
theorem lkX3_goingLine (x0 : Nat) (x1 : Int) (x2 : Int) : LK yX3_goingLine sX3_goingLine [vr (some x0), vi x1, vi x2] en_i (X3_goingLine x0 x1 x2) := by
  refine lk_go (L := [(0, vr (some x0)), (1, vi x1), (2, vi x2)]) (by decide +kernel) rfl (fun h => by cases h) (Nat.le_of_ble_eq_true rfl) rfl ?_
  intro K
  unfold X3_goingLine
  refine gg_aload_n 0 1 rfl dX3_goingLine_0 rfl rfl ?_
  refine gg_gr cfX3 (by decide) (fun _ _ => rfl) 4 rfl flX3_21 dX3_goingLine_1 (fun t1 => ?_)
  refine gg_iload_n 1 5 rfl dX3_goingLine_4 rfl rfl ?_
  refine gg_callSi (S' := sX3_start) (As := [vr t1, vi x1]) (st := []) 8 rfl (lkX3_start t1 x1) mwX3_start rfl mlX3_37 dX3_goingLine_5 ⟨by decide, by decide⟩ 0 0 ⟨rfl, rfl⟩ ⟨by decide, by decide⟩ (Nat.le_of_ble_eq_true rfl) (fun t2 => ?_)
  refine gg_iload_n 2 9 rfl dX3_goingLine_8 rfl rfl ?_
  refine gg_iadd 10 rfl dX3_goingLine_9 ?_
  refine gg_istore_n (L' := [(3, vi (t2 + x2)), (0, vr (some x0)), (1, vi x1), (2, vi x2)]) 11 rfl dX3_goingLine_10 rfl (by decide) rfl ?_
  refine gg_iload_n 3 12 rfl dX3_goingLine_11 rfl rfl ?_
  refine gg_if_lt (tgt := 42) 15 rfl dX3_goingLine_12 (by decide) ?_ ?_
  · refine gg_iconst 43 rfl dX3_goingLine_42 ?_
    exact gg_pure (gg_iret rfl dX3_goingLine_43 (by decide) (by decide))
  · refine gg_iload_n 3 16 rfl dX3_goingLine_15 rfl rfl ?_
    refine gg_aload_n 1 17 rfl dX3_goingLine_16 rfl rfl ?_
    refine gg_iload_n 2 18 rfl dX3_goingLine_17 rfl rfl ?_
    refine gg_callVi (S' := sX3_going) (As := [vi x1]) (st := [vi x2]) 21 rfl (fun b7 => lkX3_going b7 x1) mwX3_going rfl mlX3_48 dX3_goingLine_18 cfX3 ⟨by decide, by decide⟩ 0 0 ⟨rfl, rfl⟩ ⟨by decide, by decide⟩ (Nat.le_of_ble_eq_true rfl) (fun t3 => ?_)
    refine gg_ic_ge (tgt := 42) 24 rfl dX3_goingLine_21 (by decide) ?_ ?_
    · refine gg_iload_n 0 25 rfl dX3_goingLine_24 rfl rfl ?_
      refine gg_aload_n 1 26 rfl dX3_goingLine_25 rfl rfl ?_
      refine gg_gr cfX3 (by decide) (fun _ _ => rfl) 29 rfl flX3_27 dX3_goingLine_26 (fun t4 => ?_)
      refine gg_alen 30 rfl dX3_goingLine_29 (fun t5 => ?_)
      refine gg_ic_ge (tgt := 42) 33 rfl dX3_goingLine_30 (by decide) ?_ ?_
      · refine gg_aload_n 1 34 rfl dX3_goingLine_33 rfl rfl ?_
        refine gg_gr cfX3 (by decide) (fun _ _ => rfl) 37 rfl flX3_27 dX3_goingLine_34 (fun t6 => ?_)
        refine gg_iload_n 0 38 rfl dX3_goingLine_37 rfl rfl ?_
        refine gg_ld 39 rfl dX3_goingLine_38 (fun t7 => ?_)
        refine gg_goto (tgt := 43) dX3_goingLine_39 (by decide) ?_
        exact gg_pure (gg_iret rfl dX3_goingLine_43 (by decide) (by decide))
      · refine gg_iconst 43 rfl dX3_goingLine_42 ?_
        exact gg_pure (gg_iret rfl dX3_goingLine_43 (by decide) (by decide))
    · refine gg_iconst 43 rfl dX3_goingLine_42 ?_
      exact gg_pure (gg_iret rfl dX3_goingLine_43 (by decide) (by decide))

set_option maxRecDepth 100000 in
set_option maxHeartbeats 4000000 in
theorem lkX3_goingAt (x0 : Nat) (x1 : Int) : LK yX3_goingAt sX3_goingAt [vr (some x0), vi x1] en_i (X3_goingAt x0 x1) := by
  refine lk_go (L := [(0, vr (some x0)), (1, vi x1)]) (by decide +kernel) rfl (fun h => by cases h) (Nat.le_of_ble_eq_true rfl) rfl ?_
  intro K
  unfold X3_goingAt
  refine gg_iconst 1 rfl dX3_goingAt_0 ?_
  refine gg_istore_n (L' := [(2, vi 0), (0, vr (some x0)), (1, vi x1)]) 2 rfl dX3_goingAt_1 rfl (by decide) rfl ?_
  refine gg_sub [1, 2, 0] rfl ?_
  refine gg_loop (fun y1 => [(0, vr (some x0)), (1, vi x1), (2, vi y1)]) mo_N ?_ 0
  · intro rec2 hr2
    intro y1
    dsimp only [X3_goingAt_L2]
    refine gg_iload_n 2 3 rfl dX3_goingAt_2 rfl rfl ?_
    refine gg_aload_n 0 4 rfl dX3_goingAt_3 rfl rfl ?_
    refine gg_gi cfX3 (by decide) (fun _ _ => rfl) 7 rfl flX3_33 dX3_goingAt_4 (fun t2 => ?_)
    refine gg_ic_ge (tgt := 44) 10 rfl dX3_goingAt_7 (by decide) ?_ ?_
    · refine gg_iload_n 1 11 rfl dX3_goingAt_10 rfl rfl ?_
      refine gg_aload_n 0 12 rfl dX3_goingAt_11 rfl rfl ?_
      refine gg_iload_n 2 13 rfl dX3_goingAt_12 rfl rfl ?_
      refine gg_callVi (S' := sX3_begins) (As := [vi y1]) (st := [vi x1]) 16 rfl (fun b7 => lkX3_begins b7 y1) mwX3_begins rfl mlX3_45 dX3_goingAt_13 cfX3 ⟨by decide, by decide⟩ 0 0 ⟨rfl, rfl⟩ ⟨by decide, by decide⟩ (Nat.le_of_ble_eq_true rfl) (fun t3 => ?_)
      refine gg_isub 17 rfl dX3_goingAt_16 ?_
      refine gg_istore_n (L' := [(3, vi (x1 - t3)), (0, vr (some x0)), (1, vi x1), (2, vi y1)]) 18 rfl dX3_goingAt_17 rfl (by decide) rfl ?_
      refine gg_iload_n 0 19 rfl dX3_goingAt_18 rfl rfl ?_
      refine gg_if_lt (tgt := 38) 22 rfl dX3_goingAt_19 (by decide) ?_ ?_
      · refine gg_iinc (L' := [(2, vi (y1 + 1)), (3, vi (x1 - t3)), (0, vr (some x0)), (1, vi x1)]) 3 41 rfl dX3_goingAt_38 rfl (by decide) rfl ?_
        refine gg_goto (tgt := 2) dX3_goingAt_41 (by decide) ?_
        exact gg_pure (gg_sub [2, 3, 0] rfl (hr2 (y1 + 1)))
      · refine gg_iload_n 0 23 rfl dX3_goingAt_22 rfl rfl ?_
        refine gg_aload_n 1 24 rfl dX3_goingAt_23 rfl rfl ?_
        refine gg_iload_n 3 25 rfl dX3_goingAt_24 rfl rfl ?_
        refine gg_callVi (S' := sX3_going) (As := [vi y1]) (st := [vi (x1 - t3)]) 28 rfl (fun b6 => lkX3_going b6 y1) mwX3_going rfl mlX3_48 dX3_goingAt_25 cfX3 ⟨by decide, by decide⟩ 0 0 ⟨rfl, rfl⟩ ⟨by decide, by decide⟩ (Nat.le_of_ble_eq_true rfl) (fun t4 => ?_)
        refine gg_ic_ge (tgt := 38) 31 rfl dX3_goingAt_28 (by decide) ?_ ?_
        · refine gg_aload_n 1 32 rfl dX3_goingAt_31 rfl rfl ?_
          refine gg_iload_n 3 33 rfl dX3_goingAt_32 rfl rfl ?_
          refine gg_iload_n 0 34 rfl dX3_goingAt_33 rfl rfl ?_
          refine gg_callVi (S' := sX3_goingLine) (As := [vi y1, vi (x1 - t3)]) (st := []) 37 rfl (fun b5 => lkX3_goingLine b5 y1 (x1 - t3)) mwX3_goingLine rfl mlX3_89 dX3_goingAt_34 cfX3 ⟨by decide, by decide⟩ 0 0 ⟨rfl, rfl⟩ ⟨by decide, by decide⟩ (Nat.le_of_ble_eq_true rfl) (fun t5 => ?_)
          exact gg_pure (gg_iret rfl dX3_goingAt_37 (by decide) (by decide))
        · refine gg_iinc (L' := [(2, vi (y1 + 1)), (3, vi (x1 - t3)), (0, vr (some x0)), (1, vi x1)]) 3 41 rfl dX3_goingAt_38 rfl (by decide) rfl ?_
          refine gg_goto (tgt := 2) dX3_goingAt_41 (by decide) ?_
          exact gg_pure (gg_sub [2, 3, 0] rfl (hr2 (y1 + 1)))
    · refine gg_iconst 45 rfl dX3_goingAt_44 ?_
      exact gg_pure (gg_iret rfl dX3_goingAt_45 (by decide) (by decide))

set_option maxRecDepth 100000 in
set_option maxHeartbeats 4000000 in
theorem lkX0_addTaken (x0 : Option Nat) (x1 : Int) (x2 : Int) (x3 : Option Nat) : LK yX0_addTaken sX0_addTaken [vr x0, vi x1, vi x2, vr x3] en_v (X0_addTaken x0 x1 x2 x3) := by
  refine lk_go (L := [(0, vr x0), (1, vi x1), (2, vi x2), (3, vr x3)]) (by decide +kernel) rfl (fun h => by cases h) (Nat.le_of_ble_eq_true rfl) rfl ?_
  intro K
  unfold X0_addTaken
  refine gg_iload_n 1 1 rfl dX0_addTaken_0 rfl rfl ?_
  refine gg_istore (L' := [(4, vi x1), (0, vr x0), (1, vi x1), (2, vi x2), (3, vr x3)]) 3 rfl dX0_addTaken_1 (by decide) rfl ?_
  refine gg_sub [1, 3, 4, 0] rfl ?_
  refine gg_loopA (fun y1 => [(0, vr x0), (2, vi x2), (3, vr x3), (4, vi y1)]) (fun _ => []) 25 mo_N ?_ ?_ x1
  · intro κ3 hr3 he3
    intro y1
    dsimp only [X0_addTaken_L3]
    refine gg_iload 3 5 rfl dX0_addTaken_3 rfl ?_
    refine gg_iload_n 1 6 rfl dX0_addTaken_5 rfl rfl ?_
    refine gg_ic_ge (tgt := 25) 9 rfl dX0_addTaken_6 (by decide) ?_ ?_
    · refine gg_aload_n 2 10 rfl dX0_addTaken_9 rfl rfl ?_
      refine gg_aload_n 0 11 rfl dX0_addTaken_10 rfl rfl ?_
      refine gg_iload 3 13 rfl dX0_addTaken_11 rfl ?_
      refine gg_callVi (S' := sX3_goingAt) (As := [vi y1]) (st := [vr x3]) 16 rfl (fun b3 => lkX3_goingAt b3 y1) mwX3_goingAt rfl mlX0_22 dX0_addTaken_13 cfX3 ⟨by decide, by decide⟩ 0 0 ⟨rfl, rfl⟩ ⟨by decide, by decide⟩ (Nat.le_of_ble_eq_true rfl) (fun t2 => ?_)
      refine gg_callVv (S' := sX3_addGoing) (As := [vi t2]) (st := []) 19 rfl (fun b2 => lkX3_addGoing b2 t2) mwX3_addGoing rfl mlX0_114 dX0_addTaken_16 cfX3 ⟨by decide, by decide⟩ 0 0 ⟨rfl, rfl⟩ ⟨by decide, by decide⟩ (Nat.le_of_ble_eq_true rfl) (fun _ => ?_)
      refine gg_iinc (L' := [(4, vi (y1 + 1)), (0, vr x0), (2, vi x2), (3, vr x3)]) 3 22 rfl dX0_addTaken_19 rfl (by decide) rfl ?_
      refine gg_goto (tgt := 3) dX0_addTaken_22 (by decide) ?_
      exact gg_pure (gg_sub [1, 2, 3, 0] rfl (hr3 (y1 + 1)))
    · exact gg_pure (gg_sub [] rfl (he3 ()))
  · intro _
    exact gg_pure (gg_vret rfl dX0_addTaken_25 (by decide) (by decide))

set_option maxRecDepth 100000 in
set_option maxHeartbeats 4000000 in
theorem lkX3_hunks (x0 : Nat) : LK yX3_hunks sX3_hunks [vr (some x0)] en_i (X3_hunks x0) := by
  refine lk_go (L := [(0, vr (some x0))]) (by decide +kernel) rfl (fun h => by cases h) (Nat.le_of_ble_eq_true rfl) rfl ?_
  intro K
  unfold X3_hunks
  refine gg_aload_n 0 1 rfl dX3_hunks_0 rfl rfl ?_
  refine gg_gi cfX3 (by decide) (fun _ _ => rfl) 4 rfl flX3_33 dX3_hunks_1 (fun t1 => ?_)
  exact gg_pure (gg_iret rfl dX3_hunks_4 (by decide) (by decide))

set_option maxRecDepth 100000 in
set_option maxHeartbeats 4000000 in
theorem lkX0_agree (x0 : Nat) (x1 : Option Nat) (x2 : Option Nat) : LK yX0_agree sX0_agree [vr (some x0), vr x1, vr x2] en_i (X0_agree x0 x1 x2) := by
  refine lk_go (L := [(0, vr (some x0)), (1, vr x1), (2, vr x2)]) (by decide +kernel) rfl (fun h => by cases h) (Nat.le_of_ble_eq_true rfl) rfl ?_
  intro K
  unfold X0_agree
  refine gg_iconst 1 rfl dX0_agree_0 ?_
  refine gg_istore_n (L' := [(3, vi 0), (0, vr (some x0)), (1, vr x1), (2, vr x2)]) 2 rfl dX0_agree_1 rfl (by decide) rfl ?_
  refine gg_sub [2, 3, 0] rfl ?_
  refine gg_loop (fun y1 => [(1, vr x1), (2, vr x2), (3, vi y1)]) mo_N ?_ 0
  · intro rec2 hr2
    intro y1
    dsimp only [X0_agree_L2]
    refine gg_iload_n 2 3 rfl dX0_agree_2 rfl rfl ?_
    refine gg_aload_n 0 4 rfl dX0_agree_3 rfl rfl ?_
    refine gg_callVi (S' := sX3_hunks) (As := []) (st := [vi y1]) 7 rfl (fun b11 => lkX3_hunks b11) mwX3_hunks rfl mlX0_9 dX0_agree_4 cfX3 ⟨by decide, by decide⟩ 0 0 ⟨rfl, rfl⟩ ⟨by decide, by decide⟩ (Nat.le_of_ble_eq_true rfl) (fun t2 => ?_)
    refine gg_ic_ge (tgt := 69) 10 rfl dX0_agree_7 (by decide) ?_ ?_
    · refine gg_iconst 11 rfl dX0_agree_10 ?_
      refine gg_istore (L' := [(4, vi 0), (1, vr x1), (2, vr x2), (3, vi y1)]) 13 rfl dX0_agree_11 (by decide) rfl ?_
      refine gg_sub [1, 2, 3, 0] rfl ?_
      refine gg_loop (fun y3 => [(1, vr x1), (2, vr x2), (3, vi y1), (4, vi y3)]) mo_N ?_ 0
      · intro rec13 hr13
        intro y3
        dsimp only [X0_agree_L13]
        refine gg_iload 3 15 rfl dX0_agree_13 rfl ?_
        refine gg_aload_n 0 16 rfl dX0_agree_15 rfl rfl ?_
        refine gg_iload_n 2 17 rfl dX0_agree_16 rfl rfl ?_
        refine gg_callVi (S' := sX3_coming) (As := [vi y1]) (st := [vi y3]) 20 rfl (fun b10 => lkX3_coming b10 y1) mwX3_coming rfl mlX0_15 dX0_agree_17 cfX3 ⟨by decide, by decide⟩ 0 0 ⟨rfl, rfl⟩ ⟨by decide, by decide⟩ (Nat.le_of_ble_eq_true rfl) (fun t4 => ?_)
        refine gg_ic_ge (tgt := 63) 23 rfl dX0_agree_20 (by decide) ?_ ?_
        · refine gg_aload_n 1 24 rfl dX0_agree_23 rfl rfl ?_
          refine gg_aload_n 0 25 rfl dX0_agree_24 rfl rfl ?_
          refine gg_iload_n 2 26 rfl dX0_agree_25 rfl rfl ?_
          refine gg_callVi (S' := sX3_beginsBehind) (As := [vi y1]) (st := [vr x2]) 29 rfl (fun b9 => lkX3_beginsBehind b9 y1) mwX3_beginsBehind rfl mlX0_19 dX0_agree_26 cfX3 ⟨by decide, by decide⟩ 0 0 ⟨rfl, rfl⟩ ⟨by decide, by decide⟩ (Nat.le_of_ble_eq_true rfl) (fun t5 => ?_)
          refine gg_iload 3 31 rfl dX0_agree_29 rfl ?_
          refine gg_iadd 32 rfl dX0_agree_31 ?_
          refine gg_callVi (S' := sX3_goingAt) (As := [vi (t5 + y3)]) (st := []) 35 rfl (fun b8 => lkX3_goingAt b8 (t5 + y3)) mwX3_goingAt rfl mlX0_22 dX0_agree_32 cfX3 ⟨by decide, by decide⟩ 0 0 ⟨rfl, rfl⟩ ⟨by decide, by decide⟩ (Nat.le_of_ble_eq_true rfl) (fun t6 => ?_)
          refine gg_istore (L' := [(5, vi t6), (1, vr x1), (2, vr x2), (3, vi y1), (4, vi y3)]) 37 rfl dX0_agree_35 (by decide) rfl ?_
          refine gg_iload 0 39 rfl dX0_agree_37 rfl ?_
          refine gg_iconst 40 rfl dX0_agree_39 ?_
          refine gg_ic_eq (tgt := 57) 43 rfl dX0_agree_40 (by decide) ?_ ?_
          · refine gg_iinc (L' := [(4, vi (y3 + 1)), (5, vi t6), (1, vr x1), (2, vr x2), (3, vi y1)]) 4 60 rfl dX0_agree_57 rfl (by decide) rfl ?_
            refine gg_goto (tgt := 13) dX0_agree_60 (by decide) ?_
            exact gg_pure (gg_sub [2, 3, 4, 0] rfl (hr13 (y3 + 1)))
          · refine gg_iload 0 45 rfl dX0_agree_43 rfl ?_
            refine gg_aload_n 1 46 rfl dX0_agree_45 rfl rfl ?_
            refine gg_iload_n 3 47 rfl dX0_agree_46 rfl rfl ?_
            refine gg_iload 4 49 rfl dX0_agree_47 rfl ?_
            refine gg_callVi (S' := sX3_comingLine) (As := [vi y1, vi y3]) (st := [vi t6]) 52 rfl (fun b7 => lkX3_comingLine b7 y1 y3) mwX3_comingLine rfl mlX0_25 dX0_agree_49 cfX3 ⟨by decide, by decide⟩ 0 0 ⟨rfl, rfl⟩ ⟨by decide, by decide⟩ (Nat.le_of_ble_eq_true rfl) (fun t7 => ?_)
            refine gg_ic_eq (tgt := 57) 55 rfl dX0_agree_52 (by decide) ?_ ?_
            · refine gg_iinc (L' := [(4, vi (y3 + 1)), (5, vi t6), (1, vr x1), (2, vr x2), (3, vi y1)]) 4 60 rfl dX0_agree_57 rfl (by decide) rfl ?_
              refine gg_goto (tgt := 13) dX0_agree_60 (by decide) ?_
              exact gg_pure (gg_sub [2, 3, 4, 0] rfl (hr13 (y3 + 1)))
            · refine gg_iconst 56 rfl dX0_agree_55 ?_
              exact gg_pure (gg_zretc (by decide) rfl dX0_agree_56 (by decide) (by decide))
        · refine gg_iinc (L' := [(3, vi (y1 + 1)), (1, vr x1), (2, vr x2), (4, vi y3)]) 2 66 rfl dX0_agree_63 rfl (by decide) rfl ?_
          refine gg_goto (tgt := 2) dX0_agree_66 (by decide) ?_
          exact gg_pure (gg_sub [1, 2, 0] rfl (hr2 (y1 + 1)))
    · refine gg_iconst 70 rfl dX0_agree_69 ?_
      exact gg_pure (gg_zretc (by decide) rfl dX0_agree_70 (by decide) (by decide))

set_option maxRecDepth 100000 in
set_option maxHeartbeats 4000000 in
theorem lkX3_endsBehind (x0 : Nat) (x1 : Int) : LK yX3_endsBehind sX3_endsBehind [vr (some x0), vi x1] en_i (X3_endsBehind x0 x1) := by
  refine lk_go (L := [(0, vr (some x0)), (1, vi x1)]) (by decide +kernel) rfl (fun h => by cases h) (Nat.le_of_ble_eq_true rfl) rfl ?_
  intro K
  unfold X3_endsBehind
  refine gg_aload_n 0 1 rfl dX3_endsBehind_0 rfl rfl ?_
  refine gg_iload_n 1 2 rfl dX3_endsBehind_1 rfl rfl ?_
  refine gg_callVi (S' := sX3_beginsBehind) (As := [vi x1]) (st := []) 5 rfl (fun b3 => lkX3_beginsBehind b3 x1) mwX3_beginsBehind rfl mlX3_57 dX3_endsBehind_2 cfX3 ⟨by decide, by decide⟩ 0 0 ⟨rfl, rfl⟩ ⟨by decide, by decide⟩ (Nat.le_of_ble_eq_true rfl) (fun t1 => ?_)
  refine gg_aload_n 0 6 rfl dX3_endsBehind_5 rfl rfl ?_
  refine gg_iload_n 1 7 rfl dX3_endsBehind_6 rfl rfl ?_
  refine gg_callVi (S' := sX3_coming) (As := [vi x1]) (st := [vi t1]) 10 rfl (fun b2 => lkX3_coming b2 x1) mwX3_coming rfl mlX3_51 dX3_endsBehind_7 cfX3 ⟨by decide, by decide⟩ 0 0 ⟨rfl, rfl⟩ ⟨by decide, by decide⟩ (Nat.le_of_ble_eq_true rfl) (fun t2 => ?_)
  refine gg_iadd 11 rfl dX3_endsBehind_10 ?_
  exact gg_pure (gg_iret rfl dX3_endsBehind_11 (by decide) (by decide))

set_option maxRecDepth 100000 in
set_option maxHeartbeats 4000000 in
theorem lkX3_ends (x0 : Nat) (x1 : Int) : LK yX3_ends sX3_ends [vr (some x0), vi x1] en_i (X3_ends x0 x1) := by
  refine lk_go (L := [(0, vr (some x0)), (1, vi x1)]) (by decide +kernel) rfl (fun h => by cases h) (Nat.le_of_ble_eq_true rfl) rfl ?_
  intro K
  unfold X3_ends
  refine gg_aload_n 0 1 rfl dX3_ends_0 rfl rfl ?_
  refine gg_iload_n 1 2 rfl dX3_ends_1 rfl rfl ?_
  refine gg_callVi (S' := sX3_begins) (As := [vi x1]) (st := []) 5 rfl (fun b3 => lkX3_begins b3 x1) mwX3_begins rfl mlX3_45 dX3_ends_2 cfX3 ⟨by decide, by decide⟩ 0 0 ⟨rfl, rfl⟩ ⟨by decide, by decide⟩ (Nat.le_of_ble_eq_true rfl) (fun t1 => ?_)
  refine gg_aload_n 0 6 rfl dX3_ends_5 rfl rfl ?_
  refine gg_iload_n 1 7 rfl dX3_ends_6 rfl rfl ?_
  refine gg_callVi (S' := sX3_going) (As := [vi x1]) (st := [vi t1]) 10 rfl (fun b2 => lkX3_going b2 x1) mwX3_going rfl mlX3_48 dX3_ends_7 cfX3 ⟨by decide, by decide⟩ 0 0 ⟨rfl, rfl⟩ ⟨by decide, by decide⟩ (Nat.le_of_ble_eq_true rfl) (fun t2 => ?_)
  refine gg_iadd 11 rfl dX3_ends_10 ?_
  exact gg_pure (gg_iret rfl dX3_ends_11 (by decide) (by decide))

set_option maxRecDepth 100000 in
set_option maxHeartbeats 4000000 in
theorem lkX3_touches (x0 : Nat) (x1 : Int) (x2 : Int) : LK yX3_touches sX3_touches [vr (some x0), vi x1, vi x2] en_i (X3_touches x0 x1 x2) := by
  refine lk_go (L := [(0, vr (some x0)), (1, vi x1), (2, vi x2)]) (by decide +kernel) rfl (fun h => by cases h) (Nat.le_of_ble_eq_true rfl) rfl ?_
  intro K
  unfold X3_touches
  refine gg_iconst 1 rfl dX3_touches_0 ?_
  refine gg_istore_n (L' := [(3, vi 0), (0, vr (some x0)), (1, vi x1), (2, vi x2)]) 2 rfl dX3_touches_1 rfl (by decide) rfl ?_
  refine gg_sub [1, 2, 3, 0] rfl ?_
  refine gg_loop (fun y1 => [(0, vr (some x0)), (1, vi x1), (2, vi x2), (3, vi y1)]) mo_N ?_ 0
  · intro rec2 hr2
    intro y1
    dsimp only [X3_touches_L2]
    refine gg_iload_n 3 3 rfl dX3_touches_2 rfl rfl ?_
    refine gg_aload_n 0 4 rfl dX3_touches_3 rfl rfl ?_
    refine gg_gi cfX3 (by decide) (fun _ _ => rfl) 7 rfl flX3_33 dX3_touches_4 (fun t2 => ?_)
    refine gg_ic_ge (tgt := 36) 10 rfl dX3_touches_7 (by decide) ?_ ?_
    · refine gg_aload_n 0 11 rfl dX3_touches_10 rfl rfl ?_
      refine gg_iload_n 3 12 rfl dX3_touches_11 rfl rfl ?_
      refine gg_callVi (S' := sX3_begins) (As := [vi y1]) (st := []) 15 rfl (fun b5 => lkX3_begins b5 y1) mwX3_begins rfl mlX3_45 dX3_touches_12 cfX3 ⟨by decide, by decide⟩ 0 0 ⟨rfl, rfl⟩ ⟨by decide, by decide⟩ (Nat.le_of_ble_eq_true rfl) (fun t3 => ?_)
      refine gg_iload_n 2 16 rfl dX3_touches_15 rfl rfl ?_
      refine gg_ic_gt (tgt := 30) 19 rfl dX3_touches_16 (by decide) ?_ ?_
      · refine gg_iload_n 1 20 rfl dX3_touches_19 rfl rfl ?_
        refine gg_aload_n 0 21 rfl dX3_touches_20 rfl rfl ?_
        refine gg_iload_n 3 22 rfl dX3_touches_21 rfl rfl ?_
        refine gg_callVi (S' := sX3_ends) (As := [vi y1]) (st := [vi x1]) 25 rfl (fun b4 => lkX3_ends b4 y1) mwX3_ends rfl mlX3_60 dX3_touches_22 cfX3 ⟨by decide, by decide⟩ 0 0 ⟨rfl, rfl⟩ ⟨by decide, by decide⟩ (Nat.le_of_ble_eq_true rfl) (fun t4 => ?_)
        refine gg_ic_gt (tgt := 30) 28 rfl dX3_touches_25 (by decide) ?_ ?_
        · refine gg_iconst 29 rfl dX3_touches_28 ?_
          exact gg_pure (gg_zretc (by decide) rfl dX3_touches_29 (by decide) (by decide))
        · refine gg_iinc (L' := [(3, vi (y1 + 1)), (0, vr (some x0)), (1, vi x1), (2, vi x2)]) 3 33 rfl dX3_touches_30 rfl (by decide) rfl ?_
          refine gg_goto (tgt := 2) dX3_touches_33 (by decide) ?_
          exact gg_pure (gg_sub [1, 2, 3, 0] rfl (hr2 (y1 + 1)))
      · refine gg_iinc (L' := [(3, vi (y1 + 1)), (0, vr (some x0)), (1, vi x1), (2, vi x2)]) 3 33 rfl dX3_touches_30 rfl (by decide) rfl ?_
        refine gg_goto (tgt := 2) dX3_touches_33 (by decide) ?_
        exact gg_pure (gg_sub [1, 2, 3, 0] rfl (hr2 (y1 + 1)))
    · refine gg_iconst 37 rfl dX3_touches_36 ?_
      exact gg_pure (gg_zretc (by decide) rfl dX3_touches_37 (by decide) (by decide))

set_option maxRecDepth 100000 in
set_option maxHeartbeats 4000000 in
theorem lkX0_anyTouch (x0 : Nat) (x1 : Option Nat) (x2 : Option Nat) : LK yX0_anyTouch sX0_anyTouch [vr (some x0), vr x1, vr x2] en_i (X0_anyTouch x0 x1 x2) := by
  refine lk_go (L := [(0, vr (some x0)), (1, vr x1), (2, vr x2)]) (by decide +kernel) rfl (fun h => by cases h) (Nat.le_of_ble_eq_true rfl) rfl ?_
  intro K
  unfold X0_anyTouch
  refine gg_iconst 1 rfl dX0_anyTouch_0 ?_
  refine gg_istore_n (L' := [(3, vi 0), (0, vr (some x0)), (1, vr x1), (2, vr x2)]) 2 rfl dX0_anyTouch_1 rfl (by decide) rfl ?_
  refine gg_sub [2, 3, 0] rfl ?_
  refine gg_loop (fun y1 => [(1, vr x1), (2, vr x2), (3, vi y1)]) mo_N ?_ 0
  · intro rec2 hr2
    intro y1
    dsimp only [X0_anyTouch_L2]
    refine gg_iload_n 2 3 rfl dX0_anyTouch_2 rfl rfl ?_
    refine gg_aload_n 0 4 rfl dX0_anyTouch_3 rfl rfl ?_
    refine gg_callVi (S' := sX3_hunks) (As := []) (st := [vi y1]) 7 rfl (fun b8 => lkX3_hunks b8) mwX3_hunks rfl mlX0_9 dX0_anyTouch_4 cfX3 ⟨by decide, by decide⟩ 0 0 ⟨rfl, rfl⟩ ⟨by decide, by decide⟩ (Nat.le_of_ble_eq_true rfl) (fun t2 => ?_)
    refine gg_ic_ge (tgt := 35) 10 rfl dX0_anyTouch_7 (by decide) ?_ ?_
    · refine gg_aload_n 1 11 rfl dX0_anyTouch_10 rfl rfl ?_
      refine gg_aload_n 0 12 rfl dX0_anyTouch_11 rfl rfl ?_
      refine gg_iload_n 2 13 rfl dX0_anyTouch_12 rfl rfl ?_
      refine gg_callVi (S' := sX3_beginsBehind) (As := [vi y1]) (st := [vr x2]) 16 rfl (fun b7 => lkX3_beginsBehind b7 y1) mwX3_beginsBehind rfl mlX0_19 dX0_anyTouch_13 cfX3 ⟨by decide, by decide⟩ 0 0 ⟨rfl, rfl⟩ ⟨by decide, by decide⟩ (Nat.le_of_ble_eq_true rfl) (fun t3 => ?_)
      refine gg_aload_n 0 17 rfl dX0_anyTouch_16 rfl rfl ?_
      refine gg_iload_n 2 18 rfl dX0_anyTouch_17 rfl rfl ?_
      refine gg_callVi (S' := sX3_endsBehind) (As := [vi y1]) (st := [vi t3, vr x2]) 21 rfl (fun b6 => lkX3_endsBehind b6 y1) mwX3_endsBehind rfl mlX0_29 dX0_anyTouch_18 cfX3 ⟨by decide, by decide⟩ 0 0 ⟨rfl, rfl⟩ ⟨by decide, by decide⟩ (Nat.le_of_ble_eq_true rfl) (fun t4 => ?_)
      refine gg_callVi (S' := sX3_touches) (As := [vi t3, vi t4]) (st := []) 24 rfl (fun b5 => lkX3_touches b5 t3 t4) mwX3_touches rfl mlX0_32 dX0_anyTouch_21 cfX3 ⟨by decide, by decide⟩ 0 0 ⟨rfl, rfl⟩ ⟨by decide, by decide⟩ (Nat.le_of_ble_eq_true rfl) (fun t5 => ?_)
      refine gg_if_eq (tgt := 29) 27 rfl dX0_anyTouch_24 (by decide) ?_ ?_
      · refine gg_iinc (L' := [(3, vi (y1 + 1)), (1, vr x1), (2, vr x2)]) 2 32 rfl dX0_anyTouch_29 rfl (by decide) rfl ?_
        refine gg_goto (tgt := 2) dX0_anyTouch_32 (by decide) ?_
        exact gg_pure (gg_sub [1, 2, 0] rfl (hr2 (y1 + 1)))
      · refine gg_iconst 28 rfl dX0_anyTouch_27 ?_
        exact gg_pure (gg_zretc (by decide) rfl dX0_anyTouch_28 (by decide) (by decide))
    · refine gg_iconst 36 rfl dX0_anyTouch_35 ?_
      exact gg_pure (gg_zretc (by decide) rfl dX0_anyTouch_36 (by decide) (by decide))

set_option maxRecDepth 100000 in
set_option maxHeartbeats 4000000 in
theorem lkX0_gather (x0 : Nat) (x1 : Option Nat) (x2 : Option Nat) : LK yX0_gather sX0_gather [vr (some x0), vr x1, vr x2] en_v (X0_gather x0 x1 x2) := by
  refine lk_go (L := [(0, vr (some x0)), (1, vr x1), (2, vr x2)]) (by decide +kernel) rfl (fun h => by cases h) (Nat.le_of_ble_eq_true rfl) rfl ?_
  intro K
  unfold X0_gather
  refine gg_aload_n 0 1 rfl dX0_gather_0 rfl rfl ?_
  refine gg_aload_n 0 2 rfl dX0_gather_1 rfl rfl ?_
  refine gg_gi cfX0 (by decide) (fun _ _ => rfl) 5 rfl flX0_39 dX0_gather_2 (fun t1 => ?_)
  refine gg_si cfX0 (by decide) rfl (fun _ _ => rfl) rfl 8 rfl flX0_55 dX0_gather_5 ?_
  refine gg_aload_n 0 9 rfl dX0_gather_8 rfl rfl ?_
  refine gg_aload_n 0 10 rfl dX0_gather_9 rfl rfl ?_
  refine gg_gi cfX0 (by decide) (fun _ _ => rfl) 13 rfl flX0_45 dX0_gather_10 (fun t2 => ?_)
  refine gg_si cfX0 (by decide) rfl (fun _ _ => rfl) rfl 16 rfl flX0_86 dX0_gather_13 ?_
  refine gg_aload_n 0 17 rfl dX0_gather_16 rfl rfl ?_
  refine gg_gi cfX0 (by decide) (fun _ _ => rfl) 20 rfl flX0_55 dX0_gather_17 (fun t3 => ?_)
  refine gg_aload_n 1 21 rfl dX0_gather_20 rfl rfl ?_
  refine gg_callVi (S' := sX3_hunks) (As := []) (st := [vi t3]) 24 rfl (fun b48 => lkX3_hunks b48) mwX3_hunks rfl mlX0_9 dX0_gather_21 cfX3 ⟨by decide, by decide⟩ 0 0 ⟨rfl, rfl⟩ ⟨by decide, by decide⟩ (Nat.le_of_ble_eq_true rfl) (fun t4 => ?_)
  refine gg_join (fun t5 => [(0, vr (some x0)), (1, vr x1), (2, vr x2)]) (fun t5 => [vi t5]) 32 0 0 (fun κ24 hJ24 => ?_) ?_
  · refine gg_ic_ge (tgt := 31) 27 rfl dX0_gather_24 (by decide) ?_ ?_
    · refine gg_iconst 28 rfl dX0_gather_27 ?_
      refine gg_goto (tgt := 32) dX0_gather_28 (by decide) ?_
      exact gg_pure (gg_sub [0, 1, 2] rfl (hJ24 1))
    · refine gg_iconst 32 rfl dX0_gather_31 ?_
      exact gg_pure (gg_sub [0, 1, 2] rfl (hJ24 0))
  · intro t5
    refine gg_istore_n (L' := [(3, vi t5), (0, vr (some x0)), (1, vr x1), (2, vr x2)]) 33 rfl dX0_gather_32 rfl (by decide) rfl ?_
    refine gg_aload_n 1 34 rfl dX0_gather_33 rfl rfl ?_
    refine gg_gi cfX0 (by decide) (fun _ _ => rfl) 37 rfl flX0_86 dX0_gather_34 (fun t6 => ?_)
    refine gg_aload_n 3 38 rfl dX0_gather_37 rfl rfl ?_
    refine gg_callVi (S' := sX3_hunks) (As := []) (st := [vi t6]) 41 rfl (fun b47 => lkX3_hunks b47) mwX3_hunks rfl mlX0_9 dX0_gather_38 cfX3 ⟨by decide, by decide⟩ 0 0 ⟨rfl, rfl⟩ ⟨by decide, by decide⟩ (Nat.le_of_ble_eq_true rfl) (fun t7 => ?_)
    refine gg_join (fun t8 => [(0, vr (some x0)), (1, vr x1), (2, vr x2), (3, vi t5)]) (fun t8 => [vi t8]) 49 0 0 (fun κ41 hJ41 => ?_) ?_
    · refine gg_ic_ge (tgt := 48) 44 rfl dX0_gather_41 (by decide) ?_ ?_
      · refine gg_iconst 45 rfl dX0_gather_44 ?_
        refine gg_goto (tgt := 49) dX0_gather_45 (by decide) ?_
        exact gg_pure (gg_sub [1, 2, 3, 0] rfl (hJ41 1))
      · refine gg_iconst 49 rfl dX0_gather_48 ?_
        exact gg_pure (gg_sub [1, 2, 3, 0] rfl (hJ41 0))
    · intro t8
      refine gg_istore (L' := [(4, vi t8), (0, vr (some x0)), (1, vr x1), (2, vr x2), (3, vi t5)]) 51 rfl dX0_gather_49 (by decide) rfl ?_
      refine gg_aload_n 2 52 rfl dX0_gather_51 rfl rfl ?_
      refine gg_aload_n 1 53 rfl dX0_gather_52 rfl rfl ?_
      refine gg_gi cfX0 (by decide) (fun _ _ => rfl) 56 rfl flX0_55 dX0_gather_53 (fun t9 => ?_)
      refine gg_callVi (S' := sX3_beginsBehind) (As := [vi t9]) (st := []) 59 rfl (fun b46 => lkX3_beginsBehind b46 t9) mwX3_beginsBehind rfl mlX0_19 dX0_gather_56 cfX3 ⟨by decide, by decide⟩ 0 0 ⟨rfl, rfl⟩ ⟨by decide, by decide⟩ (Nat.le_of_ble_eq_true rfl) (fun t10 => ?_)
      refine gg_istore (L' := [(5, vi t10), (4, vi t8), (0, vr (some x0)), (1, vr x1), (2, vr x2), (3, vi t5)]) 61 rfl dX0_gather_59 (by decide) rfl ?_
      refine gg_aload_n 4 62 rfl dX0_gather_61 rfl rfl ?_
      refine gg_aload_n 2 63 rfl dX0_gather_62 rfl rfl ?_
      refine gg_gi cfX0 (by decide) (fun _ _ => rfl) 66 rfl flX0_86 dX0_gather_63 (fun t11 => ?_)
      refine gg_callVi (S' := sX3_begins) (As := [vi t11]) (st := []) 69 rfl (fun b45 => lkX3_begins b45 t11) mwX3_begins rfl mlX0_79 dX0_gather_66 cfX3 ⟨by decide, by decide⟩ 0 0 ⟨rfl, rfl⟩ ⟨by decide, by decide⟩ (Nat.le_of_ble_eq_true rfl) (fun t12 => ?_)
      refine gg_istore (L' := [(6, vi t12), (5, vi t10), (4, vi t8), (0, vr (some x0)), (1, vr x1), (2, vr x2), (3, vi t5)]) 71 rfl dX0_gather_69 (by decide) rfl ?_
      refine gg_aload_n 3 72 rfl dX0_gather_71 rfl rfl ?_
      refine gg_iload_n 6 73 rfl dX0_gather_72 rfl rfl ?_
      refine gg_join (fun t13 => [(0, vr (some x0)), (1, vr x1), (2, vr x2)]) (fun t13 => [vi t13, vr (some x0)]) 95 0 0 (fun κ73 hJ73 => ?_) ?_
      · refine gg_if_eq (tgt := 93) 76 rfl dX0_gather_73 (by decide) ?_ ?_
        · refine gg_iload 0 95 rfl dX0_gather_93 rfl ?_
          exact gg_pure (gg_sub [3, 4, 5] rfl (hJ73 t12))
        · refine gg_iload 2 78 rfl dX0_gather_76 rfl ?_
          refine gg_if_eq (tgt := 88) 81 rfl dX0_gather_78 (by decide) ?_ ?_
          · refine gg_iload 1 90 rfl dX0_gather_88 rfl ?_
            refine gg_goto (tgt := 95) dX0_gather_90 (by decide) ?_
            exact gg_pure (gg_sub [3, 4, 5] rfl (hJ73 t10))
          · refine gg_iload 1 83 rfl dX0_gather_81 rfl ?_
            refine gg_iload 0 85 rfl dX0_gather_83 rfl ?_
            refine gg_ic_gt (tgt := 93) 88 rfl dX0_gather_85 (by decide) ?_ ?_
            · refine gg_iload 1 90 rfl dX0_gather_88 rfl ?_
              refine gg_goto (tgt := 95) dX0_gather_90 (by decide) ?_
              exact gg_pure (gg_sub [3, 4, 5] rfl (hJ73 t10))
            · refine gg_iload 0 95 rfl dX0_gather_93 rfl ?_
              exact gg_pure (gg_sub [3, 4, 5] rfl (hJ73 t12))
      · intro t13
        refine gg_si cfX0 (by decide) rfl (fun _ _ => rfl) rfl 98 rfl flX0_52 dX0_gather_95 ?_
        refine gg_aload_n 0 99 rfl dX0_gather_98 rfl rfl ?_
        refine gg_aload_n 0 100 rfl dX0_gather_99 rfl rfl ?_
        refine gg_gi cfX0 (by decide) (fun _ _ => rfl) 103 rfl flX0_52 dX0_gather_100 (fun t14 => ?_)
        refine gg_si cfX0 (by decide) rfl (fun _ _ => rfl) rfl 106 rfl flX0_89 dX0_gather_103 ?_
        refine gg_iconst 107 rfl dX0_gather_106 ?_
        refine gg_istore (L' := [(7, vi 0), (0, vr (some x0)), (1, vr x1), (2, vr x2)]) 109 rfl dX0_gather_107 (by decide) rfl ?_
        refine gg_sub [1, 2, 3, 0] rfl ?_
        refine gg_loopA (fun y15 => [(0, vr (some x0)), (1, vr x1), (2, vr x2), (7, vi y15)]) (fun _ => []) 242 mo_N ?_ ?_ 0
        · intro κ109 hr109 he109
          intro y15
          dsimp only [X0_gather_L109]
          refine gg_iload 3 111 rfl dX0_gather_109 rfl ?_
          refine gg_aload_n 1 112 rfl dX0_gather_111 rfl rfl ?_
          refine gg_callVi (S' := sX3_hunks) (As := []) (st := [vi y15]) 115 rfl (fun b44 => lkX3_hunks b44) mwX3_hunks rfl mlX0_9 dX0_gather_112 cfX3 ⟨by decide, by decide⟩ 0 0 ⟨rfl, rfl⟩ ⟨by decide, by decide⟩ (Nat.le_of_ble_eq_true rfl) (fun t16 => ?_)
          refine gg_aload_n 2 116 rfl dX0_gather_115 rfl rfl ?_
          refine gg_callVi (S' := sX3_hunks) (As := []) (st := [vi t16, vi y15]) 119 rfl (fun b43 => lkX3_hunks b43) mwX3_hunks rfl mlX0_9 dX0_gather_116 cfX3 ⟨by decide, by decide⟩ 0 0 ⟨rfl, rfl⟩ ⟨by decide, by decide⟩ (Nat.le_of_ble_eq_true rfl) (fun t17 => ?_)
          refine gg_iadd 120 rfl dX0_gather_119 ?_
          refine gg_ic_ge (tgt := 242) 123 rfl dX0_gather_120 (by decide) ?_ ?_
          · refine gg_aload_n 0 124 rfl dX0_gather_123 rfl rfl ?_
            refine gg_gi cfX0 (by decide) (fun _ _ => rfl) 127 rfl flX0_39 dX0_gather_124 (fun t18 => ?_)
            refine gg_aload_n 1 128 rfl dX0_gather_127 rfl rfl ?_
            refine gg_callVi (S' := sX3_hunks) (As := []) (st := [vi t18]) 131 rfl (fun b42 => lkX3_hunks b42) mwX3_hunks rfl mlX0_9 dX0_gather_128 cfX3 ⟨by decide, by decide⟩ 0 0 ⟨rfl, rfl⟩ ⟨by decide, by decide⟩ (Nat.le_of_ble_eq_true rfl) (fun t19 => ?_)
            refine gg_join (fun _ => [(0, vr (some x0)), (1, vr x1), (2, vr x2), (7, vi y15)]) (fun _ => []) 236 0 0 (fun κ131 hJ131 => ?_) ?_
            · refine gg_cond [(0, vr (some x0)), (1, vr x1), (2, vr x2), (7, vi y15)] [(0, vr (some x0)), (1, vr x1), (2, vr x2), (7, vi y15)] [] 149 181 0 0 (fun κ131 hT131 hF131 => ?_) ?_ ?_
              · refine gg_ic_ge (tgt := 181) 134 rfl dX0_gather_131 (by decide) ?_ ?_
                · refine gg_aload_n 1 135 rfl dX0_gather_134 rfl rfl ?_
                  refine gg_aload_n 0 136 rfl dX0_gather_135 rfl rfl ?_
                  refine gg_gi cfX0 (by decide) (fun _ _ => rfl) 139 rfl flX0_39 dX0_gather_136 (fun t20 => ?_)
                  refine gg_callVi (S' := sX3_beginsBehind) (As := [vi t20]) (st := []) 142 rfl (fun b22 => lkX3_beginsBehind b22 t20) mwX3_beginsBehind rfl mlX0_19 dX0_gather_139 cfX3 ⟨by decide, by decide⟩ 0 0 ⟨rfl, rfl⟩ ⟨by decide, by decide⟩ (Nat.le_of_ble_eq_true rfl) (fun t21 => ?_)
                  refine gg_aload_n 0 143 rfl dX0_gather_142 rfl rfl ?_
                  refine gg_gi cfX0 (by decide) (fun _ _ => rfl) 146 rfl flX0_89 dX0_gather_143 (fun t22 => ?_)
                  refine gg_ic_gt (tgt := 181) 149 rfl dX0_gather_146 (by decide) ?_ ?_
                  · exact gg_pure (gg_sub [0, 1, 2, 3] rfl hT131)
                  · exact gg_pure (gg_sub [0, 1, 2, 3] rfl hF131)
                · exact gg_pure (gg_sub [0, 1, 2, 3] rfl hF131)
              · refine gg_aload_n 0 150 rfl dX0_gather_149 rfl rfl ?_
                refine gg_aload_n 0 151 rfl dX0_gather_150 rfl rfl ?_
                refine gg_gi cfX0 (by decide) (fun _ _ => rfl) 154 rfl flX0_89 dX0_gather_151 (fun t24 => ?_)
                refine gg_aload_n 1 155 rfl dX0_gather_154 rfl rfl ?_
                refine gg_aload_n 0 156 rfl dX0_gather_155 rfl rfl ?_
                refine gg_gi cfX0 (by decide) (fun _ _ => rfl) 159 rfl flX0_39 dX0_gather_156 (fun t25 => ?_)
                refine gg_callVi (S' := sX3_endsBehind) (As := [vi t25]) (st := [vi t24, vr (some x0)]) 162 rfl (fun b28 => lkX3_endsBehind b28 t25) mwX3_endsBehind rfl mlX0_29 dX0_gather_159 cfX3 ⟨by decide, by decide⟩ 0 0 ⟨rfl, rfl⟩ ⟨by decide, by decide⟩ (Nat.le_of_ble_eq_true rfl) (fun t26 => ?_)
                refine gg_mmax 165 rfl mlX0_92 ms_max iiJ9 mc_max dX0_gather_162 (by decide) (Nat.le_of_ble_eq_true rfl) (by decide) (by decide) (fun t27 => ?_)
                refine gg_si cfX0 (by decide) rfl (fun _ _ => rfl) rfl 168 rfl flX0_89 dX0_gather_165 ?_
                refine gg_aload_n 0 169 rfl dX0_gather_168 rfl rfl ?_
                refine gg_dup 170 rfl dX0_gather_169 rfl ?_
                refine gg_gi cfX0 (by decide) (fun _ _ => rfl) 173 rfl flX0_39 dX0_gather_170 (fun t28 => ?_)
                refine gg_iconst 174 rfl dX0_gather_173 ?_
                refine gg_iadd 175 rfl dX0_gather_174 ?_
                refine gg_si cfX0 (by decide) rfl (fun _ _ => rfl) rfl 178 rfl flX0_39 dX0_gather_175 ?_
                refine gg_goto (tgt := 236) dX0_gather_178 (by decide) ?_
                exact gg_pure (gg_sub [0, 1, 2, 3] rfl (hJ131 ()))
              · refine gg_aload_n 0 182 rfl dX0_gather_181 rfl rfl ?_
                refine gg_gi cfX0 (by decide) (fun _ _ => rfl) 185 rfl flX0_45 dX0_gather_182 (fun t30 => ?_)
                refine gg_aload_n 2 186 rfl dX0_gather_185 rfl rfl ?_
                refine gg_callVi (S' := sX3_hunks) (As := []) (st := [vi t30]) 189 rfl (fun b41 => lkX3_hunks b41) mwX3_hunks rfl mlX0_9 dX0_gather_186 cfX3 ⟨by decide, by decide⟩ 0 0 ⟨rfl, rfl⟩ ⟨by decide, by decide⟩ (Nat.le_of_ble_eq_true rfl) (fun t31 => ?_)
                refine gg_ic_ge (tgt := 236) 192 rfl dX0_gather_189 (by decide) ?_ ?_
                · refine gg_aload_n 2 193 rfl dX0_gather_192 rfl rfl ?_
                  refine gg_aload_n 0 194 rfl dX0_gather_193 rfl rfl ?_
                  refine gg_gi cfX0 (by decide) (fun _ _ => rfl) 197 rfl flX0_45 dX0_gather_194 (fun t32 => ?_)
                  refine gg_callVi (S' := sX3_begins) (As := [vi t32]) (st := []) 200 rfl (fun b40 => lkX3_begins b40 t32) mwX3_begins rfl mlX0_79 dX0_gather_197 cfX3 ⟨by decide, by decide⟩ 0 0 ⟨rfl, rfl⟩ ⟨by decide, by decide⟩ (Nat.le_of_ble_eq_true rfl) (fun t33 => ?_)
                  refine gg_aload_n 0 201 rfl dX0_gather_200 rfl rfl ?_
                  refine gg_gi cfX0 (by decide) (fun _ _ => rfl) 204 rfl flX0_89 dX0_gather_201 (fun t34 => ?_)
                  refine gg_ic_gt (tgt := 236) 207 rfl dX0_gather_204 (by decide) ?_ ?_
                  · refine gg_aload_n 0 208 rfl dX0_gather_207 rfl rfl ?_
                    refine gg_aload_n 0 209 rfl dX0_gather_208 rfl rfl ?_
                    refine gg_gi cfX0 (by decide) (fun _ _ => rfl) 212 rfl flX0_89 dX0_gather_209 (fun t35 => ?_)
                    refine gg_aload_n 2 213 rfl dX0_gather_212 rfl rfl ?_
                    refine gg_aload_n 0 214 rfl dX0_gather_213 rfl rfl ?_
                    refine gg_gi cfX0 (by decide) (fun _ _ => rfl) 217 rfl flX0_45 dX0_gather_214 (fun t36 => ?_)
                    refine gg_callVi (S' := sX3_ends) (As := [vi t36]) (st := [vi t35, vr (some x0)]) 220 rfl (fun b39 => lkX3_ends b39 t36) mwX3_ends rfl mlX0_97 dX0_gather_217 cfX3 ⟨by decide, by decide⟩ 0 0 ⟨rfl, rfl⟩ ⟨by decide, by decide⟩ (Nat.le_of_ble_eq_true rfl) (fun t37 => ?_)
                    refine gg_mmax 223 rfl mlX0_92 ms_max iiJ9 mc_max dX0_gather_220 (by decide) (Nat.le_of_ble_eq_true rfl) (by decide) (by decide) (fun t38 => ?_)
                    refine gg_si cfX0 (by decide) rfl (fun _ _ => rfl) rfl 226 rfl flX0_89 dX0_gather_223 ?_
                    refine gg_aload_n 0 227 rfl dX0_gather_226 rfl rfl ?_
                    refine gg_dup 228 rfl dX0_gather_227 rfl ?_
                    refine gg_gi cfX0 (by decide) (fun _ _ => rfl) 231 rfl flX0_45 dX0_gather_228 (fun t39 => ?_)
                    refine gg_iconst 232 rfl dX0_gather_231 ?_
                    refine gg_iadd 233 rfl dX0_gather_232 ?_
                    refine gg_si cfX0 (by decide) rfl (fun _ _ => rfl) rfl 236 rfl flX0_45 dX0_gather_233 ?_
                    exact gg_pure (gg_sub [0, 1, 2, 3] rfl (hJ131 ()))
                  · exact gg_pure (gg_sub [0, 1, 2, 3] rfl (hJ131 ()))
                · exact gg_pure (gg_sub [0, 1, 2, 3] rfl (hJ131 ()))
            · intro _
              refine gg_iinc (L' := [(7, vi (y15 + 1)), (0, vr (some x0)), (1, vr x1), (2, vr x2)]) 3 239 rfl dX0_gather_236 rfl (by decide) rfl ?_
              refine gg_goto (tgt := 109) dX0_gather_239 (by decide) ?_
              exact gg_pure (gg_sub [1, 2, 3, 0] rfl (hr109 (y15 + 1)))
          · exact gg_pure (gg_sub [] rfl (he109 ()))
        · intro _
          exact gg_pure (gg_vret rfl dX0_gather_242 (by decide) (by decide))

set_option maxRecDepth 100000 in
set_option maxHeartbeats 4000000 in
theorem lkX0_init (x0 : Nat) : LK yX0_init sX0_init [vr (some x0)] en_v (X0_init x0) := by
  refine lk_go (L := [(0, vr (some x0))]) (by decide +kernel) rfl (fun _ => rfl) (Nat.le_of_ble_eq_true rfl) rfl ?_
  intro K
  unfold X0_init
  refine gg_aload_n 0 1 rfl dX0_init_0 rfl rfl ?_
  refine gg_objInit (x0 := (some x0)) 4 rfl mlX0_3 oi_i oi_c dX0_init_1 (by decide) (Nat.le_of_ble_eq_true rfl) ?_
  exact gg_pure (gg_vret rfl dX0_init_4 (by decide) (by decide))

set_option maxRecDepth 100000 in
set_option maxHeartbeats 4000000 in
theorem lkX3_addComingOf (x0 : Nat) (x1 : Option Nat) (x2 : Int) : LK yX3_addComingOf sX3_addComingOf [vr (some x0), vr x1, vi x2] en_v (X3_addComingOf x0 x1 x2) := by
  refine lk_go (L := [(0, vr (some x0)), (1, vr x1), (2, vi x2)]) (by decide +kernel) rfl (fun h => by cases h) (Nat.le_of_ble_eq_true rfl) rfl ?_
  intro K
  unfold X3_addComingOf
  refine gg_iconst 1 rfl dX3_addComingOf_0 ?_
  refine gg_istore_n (L' := [(3, vi 0), (0, vr (some x0)), (1, vr x1), (2, vi x2)]) 2 rfl dX3_addComingOf_1 rfl (by decide) rfl ?_
  refine gg_sub [1, 2, 3, 0] rfl ?_
  refine gg_loopA (fun y1 => [(0, vr (some x0)), (1, vr x1), (2, vi x2), (3, vi y1)]) (fun _ => []) 27 mo_N ?_ ?_ 0
  · intro κ2 hr2 he2
    intro y1
    dsimp only [X3_addComingOf_L2]
    refine gg_iload_n 3 3 rfl dX3_addComingOf_2 rfl rfl ?_
    refine gg_aload_n 1 4 rfl dX3_addComingOf_3 rfl rfl ?_
    refine gg_iload_n 2 5 rfl dX3_addComingOf_4 rfl rfl ?_
    refine gg_callVi (S' := sX3_coming) (As := [vi x2]) (st := [vi y1]) 8 rfl (fun b5 => lkX3_coming b5 x2) mwX3_coming rfl mlX3_51 dX3_addComingOf_5 cfX3 ⟨by decide, by decide⟩ 0 0 ⟨rfl, rfl⟩ ⟨by decide, by decide⟩ (Nat.le_of_ble_eq_true rfl) (fun t2 => ?_)
    refine gg_ic_ge (tgt := 27) 11 rfl dX3_addComingOf_8 (by decide) ?_ ?_
    · refine gg_aload_n 0 12 rfl dX3_addComingOf_11 rfl rfl ?_
      refine gg_aload_n 1 13 rfl dX3_addComingOf_12 rfl rfl ?_
      refine gg_iload_n 2 14 rfl dX3_addComingOf_13 rfl rfl ?_
      refine gg_iload_n 3 15 rfl dX3_addComingOf_14 rfl rfl ?_
      refine gg_callVi (S' := sX3_comingLine) (As := [vi x2, vi y1]) (st := [vr (some x0)]) 18 rfl (fun b4 => lkX3_comingLine b4 x2 y1) mwX3_comingLine rfl mlX3_92 dX3_addComingOf_15 cfX3 ⟨by decide, by decide⟩ 0 0 ⟨rfl, rfl⟩ ⟨by decide, by decide⟩ (Nat.le_of_ble_eq_true rfl) (fun t3 => ?_)
      refine gg_callVv (S' := sX3_addComing) (As := [vi t3]) (st := []) 21 rfl (fun b3 => lkX3_addComing b3 t3) mwX3_addComing rfl mlX3_76 dX3_addComingOf_18 cfX3 ⟨by decide, by decide⟩ 0 0 ⟨rfl, rfl⟩ ⟨by decide, by decide⟩ (Nat.le_of_ble_eq_true rfl) (fun _ => ?_)
      refine gg_iinc (L' := [(3, vi (y1 + 1)), (0, vr (some x0)), (1, vr x1), (2, vi x2)]) 3 24 rfl dX3_addComingOf_21 rfl (by decide) rfl ?_
      refine gg_goto (tgt := 2) dX3_addComingOf_24 (by decide) ?_
      exact gg_pure (gg_sub [1, 2, 3, 0] rfl (hr2 (y1 + 1)))
    · exact gg_pure (gg_sub [] rfl (he2 ()))
  · intro _
    exact gg_pure (gg_vret rfl dX3_addComingOf_27 (by decide) (by decide))

set_option maxRecDepth 100000 in
set_option maxHeartbeats 4000000 in
theorem lkX3_addGoingOf (x0 : Nat) (x1 : Option Nat) (x2 : Int) : LK yX3_addGoingOf sX3_addGoingOf [vr (some x0), vr x1, vi x2] en_v (X3_addGoingOf x0 x1 x2) := by
  refine lk_go (L := [(0, vr (some x0)), (1, vr x1), (2, vi x2)]) (by decide +kernel) rfl (fun h => by cases h) (Nat.le_of_ble_eq_true rfl) rfl ?_
  intro K
  unfold X3_addGoingOf
  refine gg_iconst 1 rfl dX3_addGoingOf_0 ?_
  refine gg_istore_n (L' := [(3, vi 0), (0, vr (some x0)), (1, vr x1), (2, vi x2)]) 2 rfl dX3_addGoingOf_1 rfl (by decide) rfl ?_
  refine gg_sub [1, 2, 3, 0] rfl ?_
  refine gg_loopA (fun y1 => [(0, vr (some x0)), (1, vr x1), (2, vi x2), (3, vi y1)]) (fun _ => []) 27 mo_N ?_ ?_ 0
  · intro κ2 hr2 he2
    intro y1
    dsimp only [X3_addGoingOf_L2]
    refine gg_iload_n 3 3 rfl dX3_addGoingOf_2 rfl rfl ?_
    refine gg_aload_n 1 4 rfl dX3_addGoingOf_3 rfl rfl ?_
    refine gg_iload_n 2 5 rfl dX3_addGoingOf_4 rfl rfl ?_
    refine gg_callVi (S' := sX3_going) (As := [vi x2]) (st := [vi y1]) 8 rfl (fun b5 => lkX3_going b5 x2) mwX3_going rfl mlX3_48 dX3_addGoingOf_5 cfX3 ⟨by decide, by decide⟩ 0 0 ⟨rfl, rfl⟩ ⟨by decide, by decide⟩ (Nat.le_of_ble_eq_true rfl) (fun t2 => ?_)
    refine gg_ic_ge (tgt := 27) 11 rfl dX3_addGoingOf_8 (by decide) ?_ ?_
    · refine gg_aload_n 0 12 rfl dX3_addGoingOf_11 rfl rfl ?_
      refine gg_aload_n 1 13 rfl dX3_addGoingOf_12 rfl rfl ?_
      refine gg_iload_n 2 14 rfl dX3_addGoingOf_13 rfl rfl ?_
      refine gg_iload_n 3 15 rfl dX3_addGoingOf_14 rfl rfl ?_
      refine gg_callVi (S' := sX3_goingLine) (As := [vi x2, vi y1]) (st := [vr (some x0)]) 18 rfl (fun b4 => lkX3_goingLine b4 x2 y1) mwX3_goingLine rfl mlX3_89 dX3_addGoingOf_15 cfX3 ⟨by decide, by decide⟩ 0 0 ⟨rfl, rfl⟩ ⟨by decide, by decide⟩ (Nat.le_of_ble_eq_true rfl) (fun t3 => ?_)
      refine gg_callVv (S' := sX3_addGoing) (As := [vi t3]) (st := []) 21 rfl (fun b3 => lkX3_addGoing b3 t3) mwX3_addGoing rfl mlX3_72 dX3_addGoingOf_18 cfX3 ⟨by decide, by decide⟩ 0 0 ⟨rfl, rfl⟩ ⟨by decide, by decide⟩ (Nat.le_of_ble_eq_true rfl) (fun _ => ?_)
      refine gg_iinc (L' := [(3, vi (y1 + 1)), (0, vr (some x0)), (1, vr x1), (2, vi x2)]) 3 24 rfl dX3_addGoingOf_21 rfl (by decide) rfl ?_
      refine gg_goto (tgt := 2) dX3_addGoingOf_24 (by decide) ?_
      exact gg_pure (gg_sub [1, 2, 3, 0] rfl (hr2 (y1 + 1)))
    · exact gg_pure (gg_sub [] rfl (he2 ()))
  · intro _
    exact gg_pure (gg_vret rfl dX3_addGoingOf_27 (by decide) (by decide))

set_option maxRecDepth 100000 in
set_option maxHeartbeats 4000000 in
theorem lkX3_begin (x0 : Nat) (x1 : Int) : LK yX3_begin sX3_begin [vr (some x0), vi x1] en_v (X3_begin x0 x1) := by
  refine lk_go (L := [(0, vr (some x0)), (1, vi x1)]) (by decide +kernel) rfl (fun h => by cases h) (Nat.le_of_ble_eq_true rfl) rfl ?_
  intro K
  unfold X3_begin
  refine gg_aload_n 0 1 rfl dX3_begin_0 rfl rfl ?_
  refine gg_gi cfX3 (by decide) (fun _ _ => rfl) 4 rfl flX3_33 dX3_begin_1 (fun t1 => ?_)
  refine gg_if_lt (tgt := 19) 7 rfl dX3_begin_4 (by decide) ?_ ?_
  · exact gg_pure (gg_vret rfl dX3_begin_19 (by decide) (by decide))
  · refine gg_aload_n 0 8 rfl dX3_begin_7 rfl rfl ?_
    refine gg_gi cfX3 (by decide) (fun _ _ => rfl) 11 rfl flX3_33 dX3_begin_8 (fun t2 => ?_)
    refine gg_aload_n 0 12 rfl dX3_begin_11 rfl rfl ?_
    refine gg_gr cfX3 (by decide) (fun _ _ => rfl) 15 rfl flX3_15 dX3_begin_12 (fun t3 => ?_)
    refine gg_alen 16 rfl dX3_begin_15 (fun t4 => ?_)
    refine gg_ic_lt (tgt := 20) 19 rfl dX3_begin_16 (by decide) ?_ ?_
    · refine gg_aload_n 0 21 rfl dX3_begin_20 rfl rfl ?_
      refine gg_gr cfX3 (by decide) (fun _ _ => rfl) 24 rfl flX3_15 dX3_begin_21 (fun t5 => ?_)
      refine gg_aload_n 0 25 rfl dX3_begin_24 rfl rfl ?_
      refine gg_gi cfX3 (by decide) (fun _ _ => rfl) 28 rfl flX3_33 dX3_begin_25 (fun t6 => ?_)
      refine gg_iload_n 1 29 rfl dX3_begin_28 rfl rfl ?_
      refine gg_st 30 rfl dX3_begin_29 ?_
      refine gg_aload_n 0 31 rfl dX3_begin_30 rfl rfl ?_
      refine gg_gr cfX3 (by decide) (fun _ _ => rfl) 34 rfl flX3_21 dX3_begin_31 (fun t7 => ?_)
      refine gg_aload_n 0 35 rfl dX3_begin_34 rfl rfl ?_
      refine gg_gi cfX3 (by decide) (fun _ _ => rfl) 38 rfl flX3_33 dX3_begin_35 (fun t8 => ?_)
      refine gg_iconst 39 rfl dX3_begin_38 ?_
      refine gg_iadd 40 rfl dX3_begin_39 ?_
      refine gg_aload_n 0 41 rfl dX3_begin_40 rfl rfl ?_
      refine gg_gr cfX3 (by decide) (fun _ _ => rfl) 44 rfl flX3_21 dX3_begin_41 (fun t9 => ?_)
      refine gg_aload_n 0 45 rfl dX3_begin_44 rfl rfl ?_
      refine gg_gi cfX3 (by decide) (fun _ _ => rfl) 48 rfl flX3_33 dX3_begin_45 (fun t10 => ?_)
      refine gg_ld 49 rfl dX3_begin_48 (fun t11 => ?_)
      refine gg_st 50 rfl dX3_begin_49 ?_
      refine gg_aload_n 0 51 rfl dX3_begin_50 rfl rfl ?_
      refine gg_gr cfX3 (by decide) (fun _ _ => rfl) 54 rfl flX3_24 dX3_begin_51 (fun t12 => ?_)
      refine gg_aload_n 0 55 rfl dX3_begin_54 rfl rfl ?_
      refine gg_gi cfX3 (by decide) (fun _ _ => rfl) 58 rfl flX3_33 dX3_begin_55 (fun t13 => ?_)
      refine gg_iconst 59 rfl dX3_begin_58 ?_
      refine gg_iadd 60 rfl dX3_begin_59 ?_
      refine gg_aload_n 0 61 rfl dX3_begin_60 rfl rfl ?_
      refine gg_gr cfX3 (by decide) (fun _ _ => rfl) 64 rfl flX3_24 dX3_begin_61 (fun t14 => ?_)
      refine gg_aload_n 0 65 rfl dX3_begin_64 rfl rfl ?_
      refine gg_gi cfX3 (by decide) (fun _ _ => rfl) 68 rfl flX3_33 dX3_begin_65 (fun t15 => ?_)
      refine gg_ld 69 rfl dX3_begin_68 (fun t16 => ?_)
      refine gg_st 70 rfl dX3_begin_69 ?_
      refine gg_aload_n 0 71 rfl dX3_begin_70 rfl rfl ?_
      refine gg_dup 72 rfl dX3_begin_71 rfl ?_
      refine gg_gi cfX3 (by decide) (fun _ _ => rfl) 75 rfl flX3_33 dX3_begin_72 (fun t17 => ?_)
      refine gg_iconst 76 rfl dX3_begin_75 ?_
      refine gg_iadd 77 rfl dX3_begin_76 ?_
      refine gg_si cfX3 (by decide) rfl (fun _ _ => rfl) rfl 80 rfl flX3_33 dX3_begin_77 ?_
      exact gg_pure (gg_vret rfl dX3_begin_80 (by decide) (by decide))
    · exact gg_pure (gg_vret rfl dX3_begin_19 (by decide) (by decide))
