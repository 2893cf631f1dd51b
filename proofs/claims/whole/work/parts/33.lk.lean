set_option maxRecDepth 100000 in
set_option maxHeartbeats 4000000 in
theorem lkX7_brought (x0 : Nat) (x1 : Int) (x2 : Int) : LK yX7_brought sX7_brought [vr (some x0), vi x1, vi x2] en_i (X7_brought x0 x1 x2) := by
  refine lk_go (L := [(0, vr (some x0)), (1, vi x1), (2, vi x2)]) (by decide +kernel) rfl (fun h => by cases h) (Nat.le_of_ble_eq_true rfl) rfl ?_
  intro K
  unfold X7_brought
  refine gg_aload_n (S := sX7_brought) 0 1 rfl dX7_brought_0 rfl rfl ?_
  refine gg_iload_n (S := sX7_brought) 1 2 rfl dX7_brought_1 rfl rfl ?_
  refine gg_callVi (S := sX7_brought) (S' := sX7_isVersion) (cs := 0) (sl := 0) (As := [vi x1]) (st := []) 5 rfl (fun b7 => lkX7_isVersion b7 x1) mwX7_isVersion rfl mlX7_111 dX7_brought_2 cfX7 ⟨by decide, by decide⟩ 0 0 ⟨rfl, rfl⟩ ⟨by decide, by decide⟩ (Nat.le_of_ble_eq_true rfl) (fun t1 => ?_)
  refine gg_if_eq (S := sX7_brought) (tgt := 33) 8 rfl dX7_brought_5 (by decide) ?_ ?_
  · refine gg_bipush (S := sX7_brought) 35 rfl dX7_brought_33 (by decide) ?_
    exact gg_pure (gg_iret (S := sX7_brought) rfl dX7_brought_35 (by decide) (by decide))
  · refine gg_iload_n (S := sX7_brought) 2 9 rfl dX7_brought_8 rfl rfl ?_
    refine gg_iconst (S := sX7_brought) 10 rfl dX7_brought_9 ?_
    refine gg_aload_n (S := sX7_brought) 0 11 rfl dX7_brought_10 rfl rfl ?_
    refine gg_gr (S := sX7_brought) cfX7 (by decide) (fun _ _ => rfl) 14 rfl flX7_13 dX7_brought_11 (fun t2 => ?_)
    refine gg_iload_n (S := sX7_brought) 1 15 rfl dX7_brought_14 rfl rfl ?_
    refine gg_ld (S := sX7_brought) 16 rfl dX7_brought_15 (fun t3 => ?_)
    refine gg_iconst (S := sX7_brought) 17 rfl dX7_brought_16 ?_
    refine gg_isub (S := sX7_brought) 18 rfl dX7_brought_17 ?_
    refine gg_callSi (S := sX7_brought) (S' := sX7_within) (cs := 0) (sl := 0) (As := [vi x2, vi 0, vi (t3 - 1)]) (st := []) 21 rfl (lkX7_within x2 0 (t3 - 1)) mwX7_within rfl mlX7_101 dX7_brought_18 ⟨by decide, by decide⟩ 0 0 ⟨rfl, rfl⟩ ⟨by decide, by decide⟩ (Nat.le_of_ble_eq_true rfl) (fun t4 => ?_)
    refine gg_if_eq (S := sX7_brought) (tgt := 33) 24 rfl dX7_brought_21 (by decide) ?_ ?_
    · refine gg_bipush (S := sX7_brought) 35 rfl dX7_brought_33 (by decide) ?_
      exact gg_pure (gg_iret (S := sX7_brought) rfl dX7_brought_35 (by decide) (by decide))
    · refine gg_aload_n (S := sX7_brought) 0 25 rfl dX7_brought_24 rfl rfl ?_
      refine gg_iload_n (S := sX7_brought) 1 26 rfl dX7_brought_25 rfl rfl ?_
      refine gg_iload_n (S := sX7_brought) 2 27 rfl dX7_brought_26 rfl rfl ?_
      refine gg_callVi (S := sX7_brought) (S' := sX7_broughtBy) (cs := 0) (sl := 0) (As := [vi x1, vi x2]) (st := []) 30 rfl (fun b5 => lkX7_broughtBy b5 x1 x2) mwX7_broughtBy rfl mlX7_260 dX7_brought_27 cfX7 ⟨by decide, by decide⟩ 0 0 ⟨rfl, rfl⟩ ⟨by decide, by decide⟩ (Nat.le_of_ble_eq_true rfl) (fun t5 => ?_)
      refine gg_goto (S := sX7_brought) (tgt := 35) dX7_brought_30 (by decide) ?_
      exact gg_pure (gg_iret (S := sX7_brought) rfl dX7_brought_35 (by decide) (by decide))

set_option maxRecDepth 100000 in
set_option maxHeartbeats 4000000 in
theorem lkX7_broughtAt (x0 : Nat) (x1 : Int) (x2 : Int) (x3 : Int) (x4 : Int) : LK yX7_broughtAt sX7_broughtAt [vr (some x0), vi x1, vi x2, vi x3, vi x4] en_i (X7_broughtAt x0 x1 x2 x3 x4) := by
  refine lk_go (L := [(0, vr (some x0)), (1, vi x1), (2, vi x2), (3, vi x3), (4, vi x4)]) (by decide +kernel) rfl (fun h => by cases h) (Nat.le_of_ble_eq_true rfl) rfl ?_
  intro K
  unfold X7_broughtAt
  refine gg_iconst (S := sX7_broughtAt) 1 rfl dX7_broughtAt_0 ?_
  refine gg_istore (S := sX7_broughtAt) (L' := [(5, vi (-1)), (0, vr (some x0)), (1, vi x1), (2, vi x2), (3, vi x3), (4, vi x4)]) 3 rfl dX7_broughtAt_1 (by decide) rfl ?_
  refine gg_iload_n (S := sX7_broughtAt) 3 4 rfl dX7_broughtAt_3 rfl rfl ?_
  refine gg_istore (S := sX7_broughtAt) (L' := [(6, vi x2), (5, vi (-1)), (0, vr (some x0)), (1, vi x1), (2, vi x2), (3, vi x3), (4, vi x4)]) 6 rfl dX7_broughtAt_4 (by decide) rfl ?_
  refine gg_sub [2, 3, 5, 6, 1, 0] rfl ?_
  refine gg_loopA (fun (y1, y2) => [(0, vr (some x0)), (1, vi x1), (3, vi x3), (4, vi x4), (5, vi y1), (6, vi y2)]) (fun t14 => [(5, vi t14)]) 79 mo_N ?_ ?_ ((-1), x2)
  · intro κ6 hr6 he6
    rintro ⟨y1, y2⟩
    dsimp only [X7_broughtAt_L6]
    refine gg_iload (S := sX7_broughtAt) 5 8 rfl dX7_broughtAt_6 rfl ?_
    refine gg_iload_n (S := sX7_broughtAt) 2 9 rfl dX7_broughtAt_8 rfl rfl ?_
    refine gg_ic_ge (S := sX7_broughtAt) (tgt := 79) 12 rfl dX7_broughtAt_9 (by decide) ?_ ?_
    · refine gg_aload_n (S := sX7_broughtAt) 0 13 rfl dX7_broughtAt_12 rfl rfl ?_
      refine gg_iload_n (S := sX7_broughtAt) 1 14 rfl dX7_broughtAt_13 rfl rfl ?_
      refine gg_iload (S := sX7_broughtAt) 5 16 rfl dX7_broughtAt_14 rfl ?_
      refine gg_callVi (S := sX7_broughtAt) (S' := sX7_standsAt) (cs := 0) (sl := 0) (As := [vi x1, vi y2]) (st := []) 19 rfl (fun b12 => lkX7_standsAt b12 x1 y2) mwX7_standsAt rfl mlX7_198 dX7_broughtAt_16 cfX7 ⟨by decide, by decide⟩ 0 0 ⟨rfl, rfl⟩ ⟨by decide, by decide⟩ (Nat.le_of_ble_eq_true rfl) (fun t3 => ?_)
      refine gg_istore (S := sX7_broughtAt) (L' := [(7, vi t3), (0, vr (some x0)), (1, vi x1), (3, vi x3), (4, vi x4), (5, vi y1), (6, vi y2)]) 21 rfl dX7_broughtAt_19 (by decide) rfl ?_
      refine gg_iload (S := sX7_broughtAt) 4 23 rfl dX7_broughtAt_21 rfl ?_
      refine gg_iload (S := sX7_broughtAt) 0 25 rfl dX7_broughtAt_23 rfl ?_
      refine gg_iload (S := sX7_broughtAt) 0 27 rfl dX7_broughtAt_25 rfl ?_
      refine gg_aload_n (S := sX7_broughtAt) 1 28 rfl dX7_broughtAt_27 rfl rfl ?_
      refine gg_gr (S := sX7_broughtAt) cfX7 (by decide) (fun _ _ => rfl) 31 rfl flX7_37 dX7_broughtAt_28 (fun t4 => ?_)
      refine gg_bipush (S := sX7_broughtAt) 33 rfl dX7_broughtAt_31 (by decide) ?_
      refine gg_iload_n (S := sX7_broughtAt) 2 34 rfl dX7_broughtAt_33 rfl rfl ?_
      refine gg_imul (S := sX7_broughtAt) 35 rfl dX7_broughtAt_34 ?_
      refine gg_iload (S := sX7_broughtAt) 6 37 rfl dX7_broughtAt_35 rfl ?_
      refine gg_iadd (S := sX7_broughtAt) 38 rfl dX7_broughtAt_37 ?_
      refine gg_ld (S := sX7_broughtAt) 39 rfl dX7_broughtAt_38 (fun t5 => ?_)
      refine gg_iadd (S := sX7_broughtAt) 40 rfl dX7_broughtAt_39 ?_
      refine gg_iconst (S := sX7_broughtAt) 41 rfl dX7_broughtAt_40 ?_
      refine gg_isub (S := sX7_broughtAt) 42 rfl dX7_broughtAt_41 ?_
      refine gg_callSi (S := sX7_broughtAt) (S' := sX7_within) (cs := 0) (sl := 0) (As := [vi x4, vi t3, vi ((t3 + t5) - 1)]) (st := []) 45 rfl (lkX7_within x4 t3 ((t3 + t5) - 1)) mwX7_within rfl mlX7_101 dX7_broughtAt_42 ⟨by decide, by decide⟩ 0 0 ⟨rfl, rfl⟩ ⟨by decide, by decide⟩ (Nat.le_of_ble_eq_true rfl) (fun t6 => ?_)
      refine gg_join (fun t11 => [(0, vr (some x0)), (1, vi x1), (3, vi x3), (4, vi x4), (6, vi y2)]) (fun t11 => [vi t11]) 71 0 0 (fun κ45 hJ45 => ?_) ?_
      · refine gg_if_eq (S := sX7_broughtAt) (tgt := 69) 48 rfl dX7_broughtAt_45 (by decide) ?_ ?_
        · refine gg_iload (S := sX7_broughtAt) 5 71 rfl dX7_broughtAt_69 rfl ?_
          exact gg_pure (gg_sub [1, 2, 3, 4, 6] rfl (hJ45 y1))
        · refine gg_aload_n (S := sX7_broughtAt) 1 49 rfl dX7_broughtAt_48 rfl rfl ?_
          refine gg_gr (S := sX7_broughtAt) cfX7 (by decide) (fun _ _ => rfl) 52 rfl flX7_43 dX7_broughtAt_49 (fun t7 => ?_)
          refine gg_aload_n (S := sX7_broughtAt) 1 53 rfl dX7_broughtAt_52 rfl rfl ?_
          refine gg_iload_n (S := sX7_broughtAt) 2 54 rfl dX7_broughtAt_53 rfl rfl ?_
          refine gg_iload (S := sX7_broughtAt) 6 56 rfl dX7_broughtAt_54 rfl ?_
          refine gg_callVi (S := sX7_broughtAt) (S' := sX7_comeFrom) (cs := 0) (sl := 0) (As := [vi x1, vi y2]) (st := [vr t7]) 59 rfl (fun b9 => lkX7_comeFrom b9 x1 y2) mwX7_comeFrom rfl mlX7_171 dX7_broughtAt_56 cfX7 ⟨by decide, by decide⟩ 0 0 ⟨rfl, rfl⟩ ⟨by decide, by decide⟩ (Nat.le_of_ble_eq_true rfl) (fun t8 => ?_)
          refine gg_iload (S := sX7_broughtAt) 4 61 rfl dX7_broughtAt_59 rfl ?_
          refine gg_iadd (S := sX7_broughtAt) 62 rfl dX7_broughtAt_61 ?_
          refine gg_iload (S := sX7_broughtAt) 0 64 rfl dX7_broughtAt_62 rfl ?_
          refine gg_isub (S := sX7_broughtAt) 65 rfl dX7_broughtAt_64 ?_
          refine gg_ld (S := sX7_broughtAt) 66 rfl dX7_broughtAt_65 (fun t9 => ?_)
          refine gg_goto (S := sX7_broughtAt) (tgt := 71) dX7_broughtAt_66 (by decide) ?_
          exact gg_pure (gg_sub [1, 2, 3, 4, 6] rfl (hJ45 t9))
      · intro t11
        refine gg_istore (S := sX7_broughtAt) (L' := [(5, vi t11), (0, vr (some x0)), (1, vi x1), (3, vi x3), (4, vi x4), (6, vi y2)]) 73 rfl dX7_broughtAt_71 (by decide) rfl ?_
        refine gg_iinc (S := sX7_broughtAt) (L' := [(6, vi (y2 + 1)), (5, vi t11), (0, vr (some x0)), (1, vi x1), (3, vi x3), (4, vi x4)]) 5 76 rfl dX7_broughtAt_73 rfl (by decide) rfl ?_
        refine gg_goto (S := sX7_broughtAt) (tgt := 6) dX7_broughtAt_76 (by decide) ?_
        exact gg_pure (gg_sub [2, 3, 4, 5, 1, 0] rfl (hr6 (t11, (y2 + 1))))
    · exact gg_pure (gg_sub [4] rfl (he6 y1))
  · intro t14
    refine gg_iload (S := sX7_broughtAt) 0 81 rfl dX7_broughtAt_79 rfl ?_
    exact gg_pure (gg_iret (S := sX7_broughtAt) rfl dX7_broughtAt_81 (by decide) (by decide))

set_option maxRecDepth 100000 in
set_option maxHeartbeats 4000000 in
theorem lkX7_clashes (x0 : Nat) (x1 : Int) : LK yX7_clashes sX7_clashes [vr (some x0), vi x1] en_i (X7_clashes x0 x1) := by
  refine lk_go (L := [(0, vr (some x0)), (1, vi x1)]) (by decide +kernel) rfl (fun h => by cases h) (Nat.le_of_ble_eq_true rfl) rfl ?_
  intro K
  unfold X7_clashes
  refine gg_iconst (S := sX7_clashes) 1 rfl dX7_clashes_0 ?_
  refine gg_istore_n (S := sX7_clashes) (L' := [(2, vi 0), (0, vr (some x0)), (1, vi x1)]) 2 rfl dX7_clashes_1 rfl (by decide) rfl ?_
  refine gg_sub [1, 2, 0] rfl ?_
  refine gg_loop (fun y1 => [(0, vr (some x0)), (1, vi x1), (2, vi y1)]) mo_N ?_ 0
  · intro rec2 hr2
    intro y1
    dsimp only [X7_clashes_L2]
    refine gg_iload_n (S := sX7_clashes) 2 3 rfl dX7_clashes_2 rfl rfl ?_
    refine gg_aload_n (S := sX7_clashes) 0 4 rfl dX7_clashes_3 rfl rfl ?_
    refine gg_gi (S := sX7_clashes) cfX7 (by decide) (fun _ _ => rfl) 7 rfl flX7_119 dX7_clashes_4 (fun t2 => ?_)
    refine gg_ic_ge (S := sX7_clashes) (tgt := 81) 10 rfl dX7_clashes_7 (by decide) ?_ ?_
    · refine gg_aload_n (S := sX7_clashes) 0 11 rfl dX7_clashes_10 rfl rfl ?_
      refine gg_gr (S := sX7_clashes) cfX7 (by decide) (fun _ _ => rfl) 14 rfl flX7_70 dX7_clashes_11 (fun t3 => ?_)
      refine gg_iload_n (S := sX7_clashes) 1 15 rfl dX7_clashes_14 rfl rfl ?_
      refine gg_ld (S := sX7_clashes) 16 rfl dX7_clashes_15 (fun t4 => ?_)
      refine gg_aload_n (S := sX7_clashes) 0 17 rfl dX7_clashes_16 rfl rfl ?_
      refine gg_gr (S := sX7_clashes) cfX7 (by decide) (fun _ _ => rfl) 20 rfl flX7_46 dX7_clashes_17 (fun t5 => ?_)
      refine gg_iload_n (S := sX7_clashes) 2 21 rfl dX7_clashes_20 rfl rfl ?_
      refine gg_ld (S := sX7_clashes) 22 rfl dX7_clashes_21 (fun t6 => ?_)
      refine gg_aload_n (S := sX7_clashes) 0 23 rfl dX7_clashes_22 rfl rfl ?_
      refine gg_gr (S := sX7_clashes) cfX7 (by decide) (fun _ _ => rfl) 26 rfl flX7_49 dX7_clashes_23 (fun t7 => ?_)
      refine gg_iload_n (S := sX7_clashes) 2 27 rfl dX7_clashes_26 rfl rfl ?_
      refine gg_ld (S := sX7_clashes) 28 rfl dX7_clashes_27 (fun t8 => ?_)
      refine gg_iadd (S := sX7_clashes) 29 rfl dX7_clashes_28 ?_
      refine gg_join (fun t15 => [(0, vr (some x0)), (1, vi x1), (2, vi y1)]) (fun t15 => [vi t15]) 59 0 0 (fun κ29 hJ29 => ?_) ?_
      · refine gg_ic_gt (S := sX7_clashes) (tgt := 58) 32 rfl dX7_clashes_29 (by decide) ?_ ?_
        · refine gg_aload_n (S := sX7_clashes) 0 33 rfl dX7_clashes_32 rfl rfl ?_
          refine gg_gr (S := sX7_clashes) cfX7 (by decide) (fun _ _ => rfl) 36 rfl flX7_46 dX7_clashes_33 (fun t9 => ?_)
          refine gg_iload_n (S := sX7_clashes) 2 37 rfl dX7_clashes_36 rfl rfl ?_
          refine gg_ld (S := sX7_clashes) 38 rfl dX7_clashes_37 (fun t10 => ?_)
          refine gg_aload_n (S := sX7_clashes) 0 39 rfl dX7_clashes_38 rfl rfl ?_
          refine gg_gr (S := sX7_clashes) cfX7 (by decide) (fun _ _ => rfl) 42 rfl flX7_70 dX7_clashes_39 (fun t11 => ?_)
          refine gg_iload_n (S := sX7_clashes) 1 43 rfl dX7_clashes_42 rfl rfl ?_
          refine gg_ld (S := sX7_clashes) 44 rfl dX7_clashes_43 (fun t12 => ?_)
          refine gg_aload_n (S := sX7_clashes) 0 45 rfl dX7_clashes_44 rfl rfl ?_
          refine gg_gr (S := sX7_clashes) cfX7 (by decide) (fun _ _ => rfl) 48 rfl flX7_73 dX7_clashes_45 (fun t13 => ?_)
          refine gg_iload_n (S := sX7_clashes) 1 49 rfl dX7_clashes_48 rfl rfl ?_
          refine gg_ld (S := sX7_clashes) 50 rfl dX7_clashes_49 (fun t14 => ?_)
          refine gg_iadd (S := sX7_clashes) 51 rfl dX7_clashes_50 ?_
          refine gg_ic_gt (S := sX7_clashes) (tgt := 58) 54 rfl dX7_clashes_51 (by decide) ?_ ?_
          · refine gg_iconst (S := sX7_clashes) 55 rfl dX7_clashes_54 ?_
            refine gg_goto (S := sX7_clashes) (tgt := 59) dX7_clashes_55 (by decide) ?_
            exact gg_pure (gg_sub [0, 1, 2] rfl (hJ29 1))
          · refine gg_iconst (S := sX7_clashes) 59 rfl dX7_clashes_58 ?_
            exact gg_pure (gg_sub [0, 1, 2] rfl (hJ29 0))
        · refine gg_iconst (S := sX7_clashes) 59 rfl dX7_clashes_58 ?_
          exact gg_pure (gg_sub [0, 1, 2] rfl (hJ29 0))
      · intro t15
        refine gg_istore_n (S := sX7_clashes) (L' := [(3, vi t15), (0, vr (some x0)), (1, vi x1), (2, vi y1)]) 60 rfl dX7_clashes_59 rfl (by decide) rfl ?_
        refine gg_iload_n (S := sX7_clashes) 0 61 rfl dX7_clashes_60 rfl rfl ?_
        refine gg_if_eq (S := sX7_clashes) (tgt := 75) 64 rfl dX7_clashes_61 (by decide) ?_ ?_
        · refine gg_iinc (S := sX7_clashes) (L' := [(2, vi (y1 + 1)), (3, vi t15), (0, vr (some x0)), (1, vi x1)]) 3 78 rfl dX7_clashes_75 rfl (by decide) rfl ?_
          refine gg_goto (S := sX7_clashes) (tgt := 2) dX7_clashes_78 (by decide) ?_
          exact gg_pure (gg_sub [2, 3, 0] rfl (hr2 (y1 + 1)))
        · refine gg_aload_n (S := sX7_clashes) 1 65 rfl dX7_clashes_64 rfl rfl ?_
          refine gg_iload_n (S := sX7_clashes) 2 66 rfl dX7_clashes_65 rfl rfl ?_
          refine gg_iload_n (S := sX7_clashes) 3 67 rfl dX7_clashes_66 rfl rfl ?_
          refine gg_callVi (S := sX7_clashes) (S' := sX7_alike) (cs := 0) (sl := 0) (As := [vi x1, vi y1]) (st := []) 70 rfl (fun b16 => lkX7_alike b16 x1 y1) mwX7_alike rfl mlX7_242 dX7_clashes_67 cfX7 ⟨by decide, by decide⟩ 0 0 ⟨rfl, rfl⟩ ⟨by decide, by decide⟩ (Nat.le_of_ble_eq_true rfl) (fun t16 => ?_)
          refine gg_if_ne (S := sX7_clashes) (tgt := 75) 73 rfl dX7_clashes_70 (by decide) ?_ ?_
          · refine gg_iconst (S := sX7_clashes) 74 rfl dX7_clashes_73 ?_
            exact gg_pure (gg_zretc (S := sX7_clashes) (by decide) rfl dX7_clashes_74 (by decide) (by decide))
          · refine gg_iinc (S := sX7_clashes) (L' := [(2, vi (y1 + 1)), (3, vi t15), (0, vr (some x0)), (1, vi x1)]) 3 78 rfl dX7_clashes_75 rfl (by decide) rfl ?_
            refine gg_goto (S := sX7_clashes) (tgt := 2) dX7_clashes_78 (by decide) ?_
            exact gg_pure (gg_sub [2, 3, 0] rfl (hr2 (y1 + 1)))
    · refine gg_iconst (S := sX7_clashes) 82 rfl dX7_clashes_81 ?_
      exact gg_pure (gg_zretc (S := sX7_clashes) (by decide) rfl dX7_clashes_82 (by decide) (by decide))

set_option maxRecDepth 100000 in
set_option maxHeartbeats 4000000 in
theorem lkX7_layX (x0 : Nat) (x1 : Int) (x2 : Int) : LK yX7_layX sX7_layX [vr (some x0), vi x1, vi x2] en_v (X7_layX x0 x1 x2) := by
  refine lk_go (L := [(0, vr (some x0)), (1, vi x1), (2, vi x2)]) (by decide +kernel) rfl (fun h => by cases h) (Nat.le_of_ble_eq_true rfl) rfl ?_
  intro K
  unfold X7_layX
  refine gg_aload_n (S := sX7_layX) 0 1 rfl dX7_layX_0 rfl rfl ?_
  refine gg_iload_n (S := sX7_layX) 1 2 rfl dX7_layX_1 rfl rfl ?_
  refine gg_iload_n (S := sX7_layX) 2 3 rfl dX7_layX_2 rfl rfl ?_
  refine gg_callVv (S := sX7_layX) (S' := sX7_layDifference) (cs := 0) (sl := 0) (As := [vi x1, vi x2]) (st := []) 6 rfl (fun b17 => lkX7_layDifference b17 x1 x2) mwX7_layDifference rfl mlX7_144 dX7_layX_3 cfX7 ⟨by decide, by decide⟩ 0 0 ⟨rfl, rfl⟩ ⟨by decide, by decide⟩ (Nat.le_of_ble_eq_true rfl) (fun _ => ?_)
  refine gg_aload_n (S := sX7_layX) 0 7 rfl dX7_layX_6 rfl rfl ?_
  refine gg_aload_n (S := sX7_layX) 0 8 rfl dX7_layX_7 rfl rfl ?_
  refine gg_gi (S := sX7_layX) cfX7 (by decide) (fun _ _ => rfl) 11 rfl flX7_119 dX7_layX_8 (fun t1 => ?_)
  refine gg_si (S := sX7_layX) cfX7 (by decide) rfl (fun _ _ => rfl) rfl 14 rfl flX7_233 dX7_layX_11 ?_
  refine gg_iconst (S := sX7_layX) 15 rfl dX7_layX_14 ?_
  refine gg_istore_n (S := sX7_layX) (L' := [(3, vi 0), (0, vr (some x0)), (1, vi x1), (2, vi x2)]) 16 rfl dX7_layX_15 rfl (by decide) rfl ?_
  refine gg_sub [1, 0] rfl ?_
  refine gg_loopA (fun y2 => [(0, vr (some x0)), (3, vi y2)]) (fun _ => [(0, vr (some x0))]) 66 mo_N ?_ ?_ 0
  · intro κ16 hr16 he16
    intro y2
    dsimp only [X7_layX_L16]
    refine gg_iload_n (S := sX7_layX) 1 17 rfl dX7_layX_16 rfl rfl ?_
    refine gg_aload_n (S := sX7_layX) 0 18 rfl dX7_layX_17 rfl rfl ?_
    refine gg_gi (S := sX7_layX) cfX7 (by decide) (fun _ _ => rfl) 21 rfl flX7_119 dX7_layX_18 (fun t3 => ?_)
    refine gg_ic_ge (S := sX7_layX) (tgt := 66) 24 rfl dX7_layX_21 (by decide) ?_ ?_
    · refine gg_aload_n (S := sX7_layX) 0 25 rfl dX7_layX_24 rfl rfl ?_
      refine gg_gr (S := sX7_layX) cfX7 (by decide) (fun _ _ => rfl) 28 rfl flX7_70 dX7_layX_25 (fun t4 => ?_)
      refine gg_iload_n (S := sX7_layX) 1 29 rfl dX7_layX_28 rfl rfl ?_
      refine gg_aload_n (S := sX7_layX) 0 30 rfl dX7_layX_29 rfl rfl ?_
      refine gg_gr (S := sX7_layX) cfX7 (by decide) (fun _ _ => rfl) 33 rfl flX7_46 dX7_layX_30 (fun t5 => ?_)
      refine gg_iload_n (S := sX7_layX) 1 34 rfl dX7_layX_33 rfl rfl ?_
      refine gg_ld (S := sX7_layX) 35 rfl dX7_layX_34 (fun t6 => ?_)
      refine gg_st (S := sX7_layX) 36 rfl dX7_layX_35 ?_
      refine gg_aload_n (S := sX7_layX) 0 37 rfl dX7_layX_36 rfl rfl ?_
      refine gg_gr (S := sX7_layX) cfX7 (by decide) (fun _ _ => rfl) 40 rfl flX7_73 dX7_layX_37 (fun t7 => ?_)
      refine gg_iload_n (S := sX7_layX) 1 41 rfl dX7_layX_40 rfl rfl ?_
      refine gg_aload_n (S := sX7_layX) 0 42 rfl dX7_layX_41 rfl rfl ?_
      refine gg_gr (S := sX7_layX) cfX7 (by decide) (fun _ _ => rfl) 45 rfl flX7_49 dX7_layX_42 (fun t8 => ?_)
      refine gg_iload_n (S := sX7_layX) 1 46 rfl dX7_layX_45 rfl rfl ?_
      refine gg_ld (S := sX7_layX) 47 rfl dX7_layX_46 (fun t9 => ?_)
      refine gg_st (S := sX7_layX) 48 rfl dX7_layX_47 ?_
      refine gg_aload_n (S := sX7_layX) 0 49 rfl dX7_layX_48 rfl rfl ?_
      refine gg_gr (S := sX7_layX) cfX7 (by decide) (fun _ _ => rfl) 52 rfl flX7_76 dX7_layX_49 (fun t10 => ?_)
      refine gg_iload_n (S := sX7_layX) 1 53 rfl dX7_layX_52 rfl rfl ?_
      refine gg_aload_n (S := sX7_layX) 0 54 rfl dX7_layX_53 rfl rfl ?_
      refine gg_gr (S := sX7_layX) cfX7 (by decide) (fun _ _ => rfl) 57 rfl flX7_52 dX7_layX_54 (fun t11 => ?_)
      refine gg_iload_n (S := sX7_layX) 1 58 rfl dX7_layX_57 rfl rfl ?_
      refine gg_ld (S := sX7_layX) 59 rfl dX7_layX_58 (fun t12 => ?_)
      refine gg_st (S := sX7_layX) 60 rfl dX7_layX_59 ?_
      refine gg_iinc (S := sX7_layX) (L' := [(3, vi (y2 + 1)), (0, vr (some x0))]) 1 63 rfl dX7_layX_60 rfl (by decide) rfl ?_
      refine gg_goto (S := sX7_layX) (tgt := 16) dX7_layX_63 (by decide) ?_
      exact gg_pure (gg_sub [1, 0] rfl (hr16 (y2 + 1)))
    · exact gg_pure (gg_sub [0] rfl (he16 ()))
  · intro _
    refine gg_iconst (S := sX7_layX) 67 rfl dX7_layX_66 ?_
    refine gg_istore_n (S := sX7_layX) (L' := [(3, vi 0), (0, vr (some x0))]) 68 rfl dX7_layX_67 rfl (by decide) rfl ?_
    refine gg_sub [1, 0] rfl ?_
    refine gg_loopA (fun y13 => [(0, vr (some x0)), (3, vi y13)]) (fun _ => []) 94 mo_N ?_ ?_ 0
    · intro κ68 hr68 he68
      intro y13
      dsimp only [X7_layX_L68]
      refine gg_iload_n (S := sX7_layX) 1 69 rfl dX7_layX_68 rfl rfl ?_
      refine gg_aload_n (S := sX7_layX) 0 70 rfl dX7_layX_69 rfl rfl ?_
      refine gg_gi (S := sX7_layX) cfX7 (by decide) (fun _ _ => rfl) 73 rfl flX7_125 dX7_layX_70 (fun t14 => ?_)
      refine gg_ic_ge (S := sX7_layX) (tgt := 94) 76 rfl dX7_layX_73 (by decide) ?_ ?_
      · refine gg_aload_n (S := sX7_layX) 0 77 rfl dX7_layX_76 rfl rfl ?_
        refine gg_gr (S := sX7_layX) cfX7 (by decide) (fun _ _ => rfl) 80 rfl flX7_79 dX7_layX_77 (fun t15 => ?_)
        refine gg_iload_n (S := sX7_layX) 1 81 rfl dX7_layX_80 rfl rfl ?_
        refine gg_aload_n (S := sX7_layX) 0 82 rfl dX7_layX_81 rfl rfl ?_
        refine gg_gr (S := sX7_layX) cfX7 (by decide) (fun _ _ => rfl) 85 rfl flX7_58 dX7_layX_82 (fun t16 => ?_)
        refine gg_iload_n (S := sX7_layX) 1 86 rfl dX7_layX_85 rfl rfl ?_
        refine gg_ld (S := sX7_layX) 87 rfl dX7_layX_86 (fun t17 => ?_)
        refine gg_st (S := sX7_layX) 88 rfl dX7_layX_87 ?_
        refine gg_iinc (S := sX7_layX) (L' := [(3, vi (y13 + 1)), (0, vr (some x0))]) 1 91 rfl dX7_layX_88 rfl (by decide) rfl ?_
        refine gg_goto (S := sX7_layX) (tgt := 68) dX7_layX_91 (by decide) ?_
        exact gg_pure (gg_sub [1, 0] rfl (hr68 (y13 + 1)))
      · exact gg_pure (gg_sub [] rfl (he68 ()))
    · intro _
      exact gg_pure (gg_vret (S := sX7_layX) rfl dX7_layX_94 (by decide) (by decide))

set_option maxRecDepth 100000 in
set_option maxHeartbeats 4000000 in
theorem lkX7_clashMany (x0 : Nat) (x1 : Int) (x2 : Int) (x3 : Int) : LK yX7_clashMany sX7_clashMany [vr (some x0), vi x1, vi x2, vi x3] en_i (X7_clashMany x0 x1 x2 x3) := by
  refine lk_go (L := [(0, vr (some x0)), (1, vi x1), (2, vi x2), (3, vi x3)]) (by decide +kernel) rfl (fun h => by cases h) (Nat.le_of_ble_eq_true rfl) rfl ?_
  intro K
  unfold X7_clashMany
  refine gg_aload_n (S := sX7_clashMany) 0 1 rfl dX7_clashMany_0 rfl rfl ?_
  refine gg_iload_n (S := sX7_clashMany) 1 2 rfl dX7_clashMany_1 rfl rfl ?_
  refine gg_iload_n (S := sX7_clashMany) 2 3 rfl dX7_clashMany_2 rfl rfl ?_
  refine gg_callVv (S := sX7_clashMany) (S' := sX7_layX) (cs := 0) (sl := 0) (As := [vi x1, vi x2]) (st := []) 6 rfl (fun b8 => lkX7_layX b8 x1 x2) mwX7_layX rfl mlX7_245 dX7_clashMany_3 cfX7 ⟨by decide, by decide⟩ 0 0 ⟨rfl, rfl⟩ ⟨by decide, by decide⟩ (Nat.le_of_ble_eq_true rfl) (fun _ => ?_)
  refine gg_aload_n (S := sX7_clashMany) 0 7 rfl dX7_clashMany_6 rfl rfl ?_
  refine gg_iload_n (S := sX7_clashMany) 1 8 rfl dX7_clashMany_7 rfl rfl ?_
  refine gg_iload_n (S := sX7_clashMany) 3 9 rfl dX7_clashMany_8 rfl rfl ?_
  refine gg_callVv (S := sX7_clashMany) (S' := sX7_layDifference) (cs := 0) (sl := 0) (As := [vi x1, vi x3]) (st := []) 12 rfl (fun b7 => lkX7_layDifference b7 x1 x3) mwX7_layDifference rfl mlX7_144 dX7_clashMany_9 cfX7 ⟨by decide, by decide⟩ 0 0 ⟨rfl, rfl⟩ ⟨by decide, by decide⟩ (Nat.le_of_ble_eq_true rfl) (fun _ => ?_)
  refine gg_iconst (S := sX7_clashMany) 13 rfl dX7_clashMany_12 ?_
  refine gg_istore (S := sX7_clashMany) (L' := [(4, vi 0), (0, vr (some x0)), (1, vi x1), (2, vi x2), (3, vi x3)]) 15 rfl dX7_clashMany_13 (by decide) rfl ?_
  refine gg_iconst (S := sX7_clashMany) 16 rfl dX7_clashMany_15 ?_
  refine gg_istore (S := sX7_clashMany) (L' := [(5, vi 0), (4, vi 0), (0, vr (some x0)), (1, vi x1), (2, vi x2), (3, vi x3)]) 18 rfl dX7_clashMany_16 (by decide) rfl ?_
  refine gg_sub [2, 1, 0] rfl ?_
  refine gg_loopA (fun (y1, y2) => [(0, vr (some x0)), (4, vi y1), (5, vi y2)]) (fun t7 => [(4, vi t7)]) 52 mo_N ?_ ?_ (0, 0)
  · intro κ18 hr18 he18
    rintro ⟨y1, y2⟩
    dsimp only [X7_clashMany_L18]
    refine gg_iload (S := sX7_clashMany) 2 20 rfl dX7_clashMany_18 rfl ?_
    refine gg_aload_n (S := sX7_clashMany) 0 21 rfl dX7_clashMany_20 rfl rfl ?_
    refine gg_gi (S := sX7_clashMany) cfX7 (by decide) (fun _ _ => rfl) 24 rfl flX7_233 dX7_clashMany_21 (fun t3 => ?_)
    refine gg_ic_ge (S := sX7_clashMany) (tgt := 52) 27 rfl dX7_clashMany_24 (by decide) ?_ ?_
    · refine gg_iload (S := sX7_clashMany) 1 29 rfl dX7_clashMany_27 rfl ?_
      refine gg_aload_n (S := sX7_clashMany) 0 30 rfl dX7_clashMany_29 rfl rfl ?_
      refine gg_iload (S := sX7_clashMany) 2 32 rfl dX7_clashMany_30 rfl ?_
      refine gg_callVi (S := sX7_clashMany) (S' := sX7_clashes) (cs := 0) (sl := 0) (As := [vi y2]) (st := [vi y1]) 35 rfl (fun b5 => lkX7_clashes b5 y2) mwX7_clashes rfl mlX7_248 dX7_clashMany_32 cfX7 ⟨by decide, by decide⟩ 0 0 ⟨rfl, rfl⟩ ⟨by decide, by decide⟩ (Nat.le_of_ble_eq_true rfl) (fun t4 => ?_)
      refine gg_join (fun t5 => [(0, vr (some x0)), (5, vi y2)]) (fun t5 => [vi t5, vi y1]) 43 0 0 (fun κ35 hJ35 => ?_) ?_
      · refine gg_if_eq (S := sX7_clashMany) (tgt := 42) 38 rfl dX7_clashMany_35 (by decide) ?_ ?_
        · refine gg_iconst (S := sX7_clashMany) 43 rfl dX7_clashMany_42 ?_
          exact gg_pure (gg_sub [0, 2] rfl (hJ35 0))
        · refine gg_iconst (S := sX7_clashMany) 39 rfl dX7_clashMany_38 ?_
          refine gg_goto (S := sX7_clashMany) (tgt := 43) dX7_clashMany_39 (by decide) ?_
          exact gg_pure (gg_sub [0, 2] rfl (hJ35 1))
      · intro t5
        refine gg_iadd (S := sX7_clashMany) 44 rfl dX7_clashMany_43 ?_
        refine gg_istore (S := sX7_clashMany) (L' := [(4, vi (y1 + t5)), (0, vr (some x0)), (5, vi y2)]) 46 rfl dX7_clashMany_44 (by decide) rfl ?_
        refine gg_iinc (S := sX7_clashMany) (L' := [(5, vi (y2 + 1)), (4, vi (y1 + t5)), (0, vr (some x0))]) 2 49 rfl dX7_clashMany_46 rfl (by decide) rfl ?_
        refine gg_goto (S := sX7_clashMany) (tgt := 18) dX7_clashMany_49 (by decide) ?_
        exact gg_pure (gg_sub [2, 1, 0] rfl (hr18 ((y1 + t5), (y2 + 1))))
    · exact gg_pure (gg_sub [1] rfl (he18 y1))
  · intro t7
    refine gg_iload (S := sX7_clashMany) 0 54 rfl dX7_clashMany_52 rfl ?_
    exact gg_pure (gg_iret (S := sX7_clashMany) rfl dX7_clashMany_54 (by decide) (by decide))

set_option maxRecDepth 100000 in
set_option maxHeartbeats 4000000 in
theorem lkX7_clash (x0 : Nat) (x1 : Int) (x2 : Int) (x3 : Int) : LK yX7_clash sX7_clash [vr (some x0), vi x1, vi x2, vi x3] en_i (X7_clash x0 x1 x2 x3) := by
  refine lk_go (L := [(0, vr (some x0)), (1, vi x1), (2, vi x2), (3, vi x3)]) (by decide +kernel) rfl (fun h => by cases h) (Nat.le_of_ble_eq_true rfl) rfl ?_
  intro K
  unfold X7_clash
  refine gg_aload_n (S := sX7_clash) 0 1 rfl dX7_clash_0 rfl rfl ?_
  refine gg_iload_n (S := sX7_clash) 1 2 rfl dX7_clash_1 rfl rfl ?_
  refine gg_iload_n (S := sX7_clash) 2 3 rfl dX7_clash_2 rfl rfl ?_
  refine gg_iload_n (S := sX7_clash) 3 4 rfl dX7_clash_3 rfl rfl ?_
  refine gg_callVi (S := sX7_clash) (S' := sX7_areVersions) (cs := 0) (sl := 0) (As := [vi x1, vi x2, vi x3]) (st := []) 7 rfl (fun b3 => lkX7_areVersions b3 x1 x2 x3) mwX7_areVersions rfl mlX7_251 dX7_clash_4 cfX7 ⟨by decide, by decide⟩ 0 0 ⟨rfl, rfl⟩ ⟨by decide, by decide⟩ (Nat.le_of_ble_eq_true rfl) (fun t1 => ?_)
  refine gg_if_eq (S := sX7_clash) (tgt := 20) 10 rfl dX7_clash_7 (by decide) ?_ ?_
  · refine gg_bipush (S := sX7_clash) 22 rfl dX7_clash_20 (by decide) ?_
    exact gg_pure (gg_iret (S := sX7_clash) rfl dX7_clash_22 (by decide) (by decide))
  · refine gg_aload_n (S := sX7_clash) 0 11 rfl dX7_clash_10 rfl rfl ?_
    refine gg_iload_n (S := sX7_clash) 1 12 rfl dX7_clash_11 rfl rfl ?_
    refine gg_iload_n (S := sX7_clash) 2 13 rfl dX7_clash_12 rfl rfl ?_
    refine gg_iload_n (S := sX7_clash) 3 14 rfl dX7_clash_13 rfl rfl ?_
    refine gg_callVi (S := sX7_clash) (S' := sX7_clashMany) (cs := 0) (sl := 0) (As := [vi x1, vi x2, vi x3]) (st := []) 17 rfl (fun b2 => lkX7_clashMany b2 x1 x2 x3) mwX7_clashMany rfl mlX7_254 dX7_clash_14 cfX7 ⟨by decide, by decide⟩ 0 0 ⟨rfl, rfl⟩ ⟨by decide, by decide⟩ (Nat.le_of_ble_eq_true rfl) (fun t2 => ?_)
    refine gg_goto (S := sX7_clash) (tgt := 22) dX7_clash_17 (by decide) ?_
    exact gg_pure (gg_iret (S := sX7_clash) rfl dX7_clash_22 (by decide) (by decide))

set_option maxRecDepth 100000 in
set_option maxHeartbeats 4000000 in
theorem lkX7_comesOf (x0 : Nat) (x1 : Int) : LK yX7_comesOf sX7_comesOf [vr (some x0), vi x1] en_i (X7_comesOf x0 x1) := by
  refine lk_go (L := [(0, vr (some x0)), (1, vi x1)]) (by decide +kernel) rfl (fun h => by cases h) (Nat.le_of_ble_eq_true rfl) rfl ?_
  intro K
  unfold X7_comesOf
  refine gg_iconst (S := sX7_comesOf) 1 rfl dX7_comesOf_0 ?_
  refine gg_istore_n (S := sX7_comesOf) (L' := [(2, vi 0), (0, vr (some x0)), (1, vi x1)]) 2 rfl dX7_comesOf_1 rfl (by decide) rfl ?_
  refine gg_iconst (S := sX7_comesOf) 3 rfl dX7_comesOf_2 ?_
  refine gg_istore_n (S := sX7_comesOf) (L' := [(3, vi 0), (2, vi 0), (0, vr (some x0)), (1, vi x1)]) 4 rfl dX7_comesOf_3 rfl (by decide) rfl ?_
  refine gg_sub [2, 3, 1, 0] rfl ?_
  refine gg_loopA (fun (y1, y2) => [(0, vr (some x0)), (1, vi x1), (2, vi y1), (3, vi y2)]) (fun t7 => [(2, vi t7)]) 34 mo_N ?_ ?_ (0, 0)
  · intro κ4 hr4 he4
    rintro ⟨y1, y2⟩
    dsimp only [X7_comesOf_L4]
    refine gg_iload_n (S := sX7_comesOf) 3 5 rfl dX7_comesOf_4 rfl rfl ?_
    refine gg_aload_n (S := sX7_comesOf) 0 6 rfl dX7_comesOf_5 rfl rfl ?_
    refine gg_gr (S := sX7_comesOf) cfX7 (by decide) (fun _ _ => rfl) 9 rfl flX7_28 dX7_comesOf_6 (fun t3 => ?_)
    refine gg_iload_n (S := sX7_comesOf) 1 10 rfl dX7_comesOf_9 rfl rfl ?_
    refine gg_ld (S := sX7_comesOf) 11 rfl dX7_comesOf_10 (fun t4 => ?_)
    refine gg_ic_ge (S := sX7_comesOf) (tgt := 34) 14 rfl dX7_comesOf_11 (by decide) ?_ ?_
    · refine gg_iload_n (S := sX7_comesOf) 2 15 rfl dX7_comesOf_14 rfl rfl ?_
      refine gg_aload_n (S := sX7_comesOf) 0 16 rfl dX7_comesOf_15 rfl rfl ?_
      refine gg_gr (S := sX7_comesOf) cfX7 (by decide) (fun _ _ => rfl) 19 rfl flX7_37 dX7_comesOf_16 (fun t5 => ?_)
      refine gg_bipush (S := sX7_comesOf) 21 rfl dX7_comesOf_19 (by decide) ?_
      refine gg_iload_n (S := sX7_comesOf) 1 22 rfl dX7_comesOf_21 rfl rfl ?_
      refine gg_imul (S := sX7_comesOf) 23 rfl dX7_comesOf_22 ?_
      refine gg_iload_n (S := sX7_comesOf) 3 24 rfl dX7_comesOf_23 rfl rfl ?_
      refine gg_iadd (S := sX7_comesOf) 25 rfl dX7_comesOf_24 ?_
      refine gg_ld (S := sX7_comesOf) 26 rfl dX7_comesOf_25 (fun t6 => ?_)
      refine gg_iadd (S := sX7_comesOf) 27 rfl dX7_comesOf_26 ?_
      refine gg_istore_n (S := sX7_comesOf) (L' := [(2, vi (y1 + t6)), (0, vr (some x0)), (1, vi x1), (3, vi y2)]) 28 rfl dX7_comesOf_27 rfl (by decide) rfl ?_
      refine gg_iinc (S := sX7_comesOf) (L' := [(3, vi (y2 + 1)), (2, vi (y1 + t6)), (0, vr (some x0)), (1, vi x1)]) 3 31 rfl dX7_comesOf_28 rfl (by decide) rfl ?_
      refine gg_goto (S := sX7_comesOf) (tgt := 4) dX7_comesOf_31 (by decide) ?_
      exact gg_pure (gg_sub [2, 3, 1, 0] rfl (hr4 ((y1 + t6), (y2 + 1))))
    · exact gg_pure (gg_sub [2] rfl (he4 y1))
  · intro t7
    refine gg_iload_n (S := sX7_comesOf) 0 35 rfl dX7_comesOf_34 rfl rfl ?_
    exact gg_pure (gg_iret (S := sX7_comesOf) rfl dX7_comesOf_35 (by decide) (by decide))

set_option maxRecDepth 100000 in
set_option maxHeartbeats 4000000 in
theorem lkX7_howMany (x0 : Nat) (x1 : Int) : LK yX7_howMany sX7_howMany [vr (some x0), vi x1] en_i (X7_howMany x0 x1) := by
  refine lk_go (L := [(0, vr (some x0)), (1, vi x1)]) (by decide +kernel) rfl (fun h => by cases h) (Nat.le_of_ble_eq_true rfl) rfl ?_
  intro K
  unfold X7_howMany
  refine gg_iload_n (S := sX7_howMany) 1 1 rfl dX7_howMany_0 rfl rfl ?_
  refine gg_if_ne (S := sX7_howMany) (tgt := 11) 4 rfl dX7_howMany_1 (by decide) ?_ ?_
  · refine gg_aload_n (S := sX7_howMany) 0 5 rfl dX7_howMany_4 rfl rfl ?_
    refine gg_gi (S := sX7_howMany) cfX7 (by decide) (fun _ _ => rfl) 8 rfl flX7_97 dX7_howMany_5 (fun t4 => ?_)
    refine gg_goto (S := sX7_howMany) (tgt := 49) dX7_howMany_8 (by decide) ?_
    exact gg_pure (gg_iret (S := sX7_howMany) rfl dX7_howMany_49 (by decide) (by decide))
  · refine gg_iload_n (S := sX7_howMany) 1 12 rfl dX7_howMany_11 rfl rfl ?_
    refine gg_iconst (S := sX7_howMany) 13 rfl dX7_howMany_12 ?_
    refine gg_ic_ne (S := sX7_howMany) (tgt := 23) 16 rfl dX7_howMany_13 (by decide) ?_ ?_
    · refine gg_aload_n (S := sX7_howMany) 0 17 rfl dX7_howMany_16 rfl rfl ?_
      refine gg_gi (S := sX7_howMany) cfX7 (by decide) (fun _ _ => rfl) 20 rfl flX7_108 dX7_howMany_17 (fun t3 => ?_)
      refine gg_goto (S := sX7_howMany) (tgt := 49) dX7_howMany_20 (by decide) ?_
      exact gg_pure (gg_iret (S := sX7_howMany) rfl dX7_howMany_49 (by decide) (by decide))
    · refine gg_iload_n (S := sX7_howMany) 1 24 rfl dX7_howMany_23 rfl rfl ?_
      refine gg_iconst (S := sX7_howMany) 25 rfl dX7_howMany_24 ?_
      refine gg_ic_ne (S := sX7_howMany) (tgt := 35) 28 rfl dX7_howMany_25 (by decide) ?_ ?_
      · refine gg_aload_n (S := sX7_howMany) 0 29 rfl dX7_howMany_28 rfl rfl ?_
        refine gg_gi (S := sX7_howMany) cfX7 (by decide) (fun _ _ => rfl) 32 rfl flX7_105 dX7_howMany_29 (fun t2 => ?_)
        refine gg_goto (S := sX7_howMany) (tgt := 49) dX7_howMany_32 (by decide) ?_
        exact gg_pure (gg_iret (S := sX7_howMany) rfl dX7_howMany_49 (by decide) (by decide))
      · refine gg_iload_n (S := sX7_howMany) 1 36 rfl dX7_howMany_35 rfl rfl ?_
        refine gg_iconst (S := sX7_howMany) 37 rfl dX7_howMany_36 ?_
        refine gg_ic_ne (S := sX7_howMany) (tgt := 47) 40 rfl dX7_howMany_37 (by decide) ?_ ?_
        · refine gg_aload_n (S := sX7_howMany) 0 41 rfl dX7_howMany_40 rfl rfl ?_
          refine gg_gi (S := sX7_howMany) cfX7 (by decide) (fun _ _ => rfl) 44 rfl flX7_286 dX7_howMany_41 (fun t1 => ?_)
          refine gg_goto (S := sX7_howMany) (tgt := 49) dX7_howMany_44 (by decide) ?_
          exact gg_pure (gg_iret (S := sX7_howMany) rfl dX7_howMany_49 (by decide) (by decide))
        · refine gg_bipush (S := sX7_howMany) 49 rfl dX7_howMany_47 (by decide) ?_
          exact gg_pure (gg_iret (S := sX7_howMany) rfl dX7_howMany_49 (by decide) (by decide))

set_option maxRecDepth 100000 in
set_option maxHeartbeats 4000000 in
theorem lkX7_count (x0 : Nat) (x1 : Int) : LK yX7_count sX7_count [vr (some x0), vi x1] en_i (X7_count x0 x1) := by
  refine lk_go (L := [(0, vr (some x0)), (1, vi x1)]) (by decide +kernel) rfl (fun h => by cases h) (Nat.le_of_ble_eq_true rfl) rfl ?_
  intro K
  unfold X7_count
  refine gg_aload_n (S := sX7_count) 0 1 rfl dX7_count_0 rfl rfl ?_
  refine gg_iload_n (S := sX7_count) 1 2 rfl dX7_count_1 rfl rfl ?_
  refine gg_callVi (S := sX7_count) (S' := sX7_howMany) (cs := 0) (sl := 0) (As := [vi x1]) (st := []) 5 rfl (fun b1 => lkX7_howMany b1 x1) mwX7_howMany rfl mlX7_304 dX7_count_2 cfX7 ⟨by decide, by decide⟩ 0 0 ⟨rfl, rfl⟩ ⟨by decide, by decide⟩ (Nat.le_of_ble_eq_true rfl) (fun t1 => ?_)
  exact gg_pure (gg_iret (S := sX7_count) rfl dX7_count_5 (by decide) (by decide))

set_option maxRecDepth 100000 in
set_option maxHeartbeats 4000000 in
theorem lkX7_desk (x0 : Nat) (x1 : Int) : LK yX7_desk sX7_desk [vr (some x0), vi x1] en_i (X7_desk x0 x1) := by
  refine lk_go (L := [(0, vr (some x0)), (1, vi x1)]) (by decide +kernel) rfl (fun h => by cases h) (Nat.le_of_ble_eq_true rfl) rfl ?_
  intro K
  unfold X7_desk
  refine gg_iload_n (S := sX7_desk) 1 1 rfl dX7_desk_0 rfl rfl ?_
  refine gg_iconst (S := sX7_desk) 2 rfl dX7_desk_1 ?_
  refine gg_aload_n (S := sX7_desk) 0 3 rfl dX7_desk_2 rfl rfl ?_
  refine gg_gi (S := sX7_desk) cfX7 (by decide) (fun _ _ => rfl) 6 rfl flX7_108 dX7_desk_3 (fun t1 => ?_)
  refine gg_iconst (S := sX7_desk) 7 rfl dX7_desk_6 ?_
  refine gg_isub (S := sX7_desk) 8 rfl dX7_desk_7 ?_
  refine gg_callSi (S := sX7_desk) (S' := sX7_within) (cs := 0) (sl := 0) (As := [vi x1, vi 0, vi (t1 - 1)]) (st := []) 11 rfl (lkX7_within x1 0 (t1 - 1)) mwX7_within rfl mlX7_101 dX7_desk_8 ⟨by decide, by decide⟩ 0 0 ⟨rfl, rfl⟩ ⟨by decide, by decide⟩ (Nat.le_of_ble_eq_true rfl) (fun t2 => ?_)
  refine gg_if_eq (S := sX7_desk) (tgt := 23) 14 rfl dX7_desk_11 (by decide) ?_ ?_
  · refine gg_iconst (S := sX7_desk) 24 rfl dX7_desk_23 ?_
    exact gg_pure (gg_iret (S := sX7_desk) rfl dX7_desk_24 (by decide) (by decide))
  · refine gg_aload_n (S := sX7_desk) 0 15 rfl dX7_desk_14 rfl rfl ?_
    refine gg_gr (S := sX7_desk) cfX7 (by decide) (fun _ _ => rfl) 18 rfl flX7_7 dX7_desk_15 (fun t3 => ?_)
    refine gg_iload_n (S := sX7_desk) 1 19 rfl dX7_desk_18 rfl rfl ?_
    refine gg_ld (S := sX7_desk) 20 rfl dX7_desk_19 (fun t4 => ?_)
    refine gg_goto (S := sX7_desk) (tgt := 24) dX7_desk_20 (by decide) ?_
    exact gg_pure (gg_iret (S := sX7_desk) rfl dX7_desk_24 (by decide) (by decide))

set_option maxRecDepth 100000 in
set_option maxHeartbeats 4000000 in
theorem lkX7_workRoom (x0 : Nat) : LK yX7_workRoom sX7_workRoom [vr (some x0)] en_i (X7_workRoom x0) := by
  refine lk_go (L := [(0, vr (some x0))]) (by decide +kernel) rfl (fun h => by cases h) (Nat.le_of_ble_eq_true rfl) rfl ?_
  intro K
  unfold X7_workRoom
  refine gg_iconst (S := sX7_workRoom) 1 rfl dX7_workRoom_0 ?_
  refine gg_aload_n (S := sX7_workRoom) 0 2 rfl dX7_workRoom_1 rfl rfl ?_
  refine gg_gi (S := sX7_workRoom) cfX7 (by decide) (fun _ _ => rfl) 5 rfl flX7_119 dX7_workRoom_2 (fun t1 => ?_)
  refine gg_imul (S := sX7_workRoom) 6 rfl dX7_workRoom_5 ?_
  refine gg_aload_n (S := sX7_workRoom) 0 7 rfl dX7_workRoom_6 rfl rfl ?_
  refine gg_gi (S := sX7_workRoom) cfX7 (by decide) (fun _ _ => rfl) 10 rfl flX7_125 dX7_workRoom_7 (fun t2 => ?_)
  refine gg_iadd (S := sX7_workRoom) 11 rfl dX7_workRoom_10 ?_
  refine gg_iconst (S := sX7_workRoom) 12 rfl dX7_workRoom_11 ?_
  refine gg_iadd (S := sX7_workRoom) 13 rfl dX7_workRoom_12 ?_
  exact gg_pure (gg_iret (S := sX7_workRoom) rfl dX7_workRoom_13 (by decide) (by decide))

set_option maxRecDepth 100000 in
set_option maxHeartbeats 4000000 in
theorem lkX7_differ (x0 : Nat) (x1 : Int) (x2 : Int) (x3 : Int) : LK yX7_differ sX7_differ [vr (some x0), vi x1, vi x2, vi x3] en_i (X7_differ x0 x1 x2 x3) := by
  refine lk_go (L := [(0, vr (some x0)), (1, vi x1), (2, vi x2), (3, vi x3)]) (by decide +kernel) rfl (fun h => by cases h) (Nat.le_of_ble_eq_true rfl) rfl ?_
  intro K
  unfold X7_differ
  refine gg_aload_n (S := sX7_differ) 0 1 rfl dX7_differ_0 rfl rfl ?_
  refine gg_iload_n (S := sX7_differ) 1 2 rfl dX7_differ_1 rfl rfl ?_
  refine gg_callVi (S := sX7_differ) (S' := sX7_isVersion) (cs := 0) (sl := 0) (As := [vi x1]) (st := []) 5 rfl (fun b12 => lkX7_isVersion b12 x1) mwX7_isVersion rfl mlX7_111 dX7_differ_2 cfX7 ⟨by decide, by decide⟩ 0 0 ⟨rfl, rfl⟩ ⟨by decide, by decide⟩ (Nat.le_of_ble_eq_true rfl) (fun t1 => ?_)
  refine gg_if_eq (S := sX7_differ) (tgt := 16) 8 rfl dX7_differ_5 (by decide) ?_ ?_
  · refine gg_bipush (S := sX7_differ) 18 rfl dX7_differ_16 (by decide) ?_
    exact gg_pure (gg_iret (S := sX7_differ) rfl dX7_differ_18 (by decide) (by decide))
  · refine gg_aload_n (S := sX7_differ) 0 9 rfl dX7_differ_8 rfl rfl ?_
    refine gg_iload_n (S := sX7_differ) 2 10 rfl dX7_differ_9 rfl rfl ?_
    refine gg_callVi (S := sX7_differ) (S' := sX7_isVersion) (cs := 0) (sl := 0) (As := [vi x2]) (st := []) 13 rfl (fun b11 => lkX7_isVersion b11 x2) mwX7_isVersion rfl mlX7_111 dX7_differ_10 cfX7 ⟨by decide, by decide⟩ 0 0 ⟨rfl, rfl⟩ ⟨by decide, by decide⟩ (Nat.le_of_ble_eq_true rfl) (fun t2 => ?_)
    refine gg_if_ne (S := sX7_differ) (tgt := 19) 16 rfl dX7_differ_13 (by decide) ?_ ?_
    · refine gg_bipush (S := sX7_differ) 18 rfl dX7_differ_16 (by decide) ?_
      exact gg_pure (gg_iret (S := sX7_differ) rfl dX7_differ_18 (by decide) (by decide))
    · refine gg_iload_n (S := sX7_differ) 3 20 rfl dX7_differ_19 rfl rfl ?_
      refine gg_iconst (S := sX7_differ) 21 rfl dX7_differ_20 ?_
      refine gg_iconst (S := sX7_differ) 22 rfl dX7_differ_21 ?_
      refine gg_callSi (S := sX7_differ) (S' := sX7_within) (cs := 0) (sl := 0) (As := [vi x3, vi 0, vi 4]) (st := []) 25 rfl (lkX7_within x3 0 4) mwX7_within rfl mlX7_101 dX7_differ_22 ⟨by decide, by decide⟩ 0 0 ⟨rfl, rfl⟩ ⟨by decide, by decide⟩ (Nat.le_of_ble_eq_true rfl) (fun t3 => ?_)
      refine gg_if_ne (S := sX7_differ) (tgt := 31) 28 rfl dX7_differ_25 (by decide) ?_ ?_
      · refine gg_bipush (S := sX7_differ) 30 rfl dX7_differ_28 (by decide) ?_
        exact gg_pure (gg_iret (S := sX7_differ) rfl dX7_differ_30 (by decide) (by decide))
      · refine gg_aload_n (S := sX7_differ) 0 32 rfl dX7_differ_31 rfl rfl ?_
        refine gg_iload_n (S := sX7_differ) 1 33 rfl dX7_differ_32 rfl rfl ?_
        refine gg_iload_n (S := sX7_differ) 2 34 rfl dX7_differ_33 rfl rfl ?_
        refine gg_callVv (S := sX7_differ) (S' := sX7_layDifference) (cs := 0) (sl := 0) (As := [vi x1, vi x2]) (st := []) 37 rfl (fun b9 => lkX7_layDifference b9 x1 x2) mwX7_layDifference rfl mlX7_144 dX7_differ_34 cfX7 ⟨by decide, by decide⟩ 0 0 ⟨rfl, rfl⟩ ⟨by decide, by decide⟩ (Nat.le_of_ble_eq_true rfl) (fun _ => ?_)
        refine gg_iload_n (S := sX7_differ) 3 38 rfl dX7_differ_37 rfl rfl ?_
        refine gg_if_ne (S := sX7_differ) (tgt := 48) 41 rfl dX7_differ_38 (by decide) ?_ ?_
        · refine gg_aload_n (S := sX7_differ) 0 42 rfl dX7_differ_41 rfl rfl ?_
          refine gg_gi (S := sX7_differ) cfX7 (by decide) (fun _ _ => rfl) 45 rfl flX7_131 dX7_differ_42 (fun t9 => ?_)
          refine gg_goto (S := sX7_differ) (tgt := 88) dX7_differ_45 (by decide) ?_
          exact gg_pure (gg_iret (S := sX7_differ) rfl dX7_differ_88 (by decide) (by decide))
        · refine gg_iload_n (S := sX7_differ) 3 49 rfl dX7_differ_48 rfl rfl ?_
          refine gg_iconst (S := sX7_differ) 50 rfl dX7_differ_49 ?_
          refine gg_ic_ne (S := sX7_differ) (tgt := 60) 53 rfl dX7_differ_50 (by decide) ?_ ?_
          · refine gg_aload_n (S := sX7_differ) 0 54 rfl dX7_differ_53 rfl rfl ?_
            refine gg_gi (S := sX7_differ) cfX7 (by decide) (fun _ _ => rfl) 57 rfl flX7_119 dX7_differ_54 (fun t8 => ?_)
            refine gg_goto (S := sX7_differ) (tgt := 88) dX7_differ_57 (by decide) ?_
            exact gg_pure (gg_iret (S := sX7_differ) rfl dX7_differ_88 (by decide) (by decide))
          · refine gg_iload_n (S := sX7_differ) 3 61 rfl dX7_differ_60 rfl rfl ?_
            refine gg_iconst (S := sX7_differ) 62 rfl dX7_differ_61 ?_
            refine gg_ic_ne (S := sX7_differ) (tgt := 72) 65 rfl dX7_differ_62 (by decide) ?_ ?_
            · refine gg_aload_n (S := sX7_differ) 0 66 rfl dX7_differ_65 rfl rfl ?_
              refine gg_gi (S := sX7_differ) cfX7 (by decide) (fun _ _ => rfl) 69 rfl flX7_122 dX7_differ_66 (fun t7 => ?_)
              refine gg_goto (S := sX7_differ) (tgt := 88) dX7_differ_69 (by decide) ?_
              exact gg_pure (gg_iret (S := sX7_differ) rfl dX7_differ_88 (by decide) (by decide))
            · refine gg_iload_n (S := sX7_differ) 3 73 rfl dX7_differ_72 rfl rfl ?_
              refine gg_iconst (S := sX7_differ) 74 rfl dX7_differ_73 ?_
              refine gg_ic_ne (S := sX7_differ) (tgt := 84) 77 rfl dX7_differ_74 (by decide) ?_ ?_
              · refine gg_aload_n (S := sX7_differ) 0 78 rfl dX7_differ_77 rfl rfl ?_
                refine gg_gi (S := sX7_differ) cfX7 (by decide) (fun _ _ => rfl) 81 rfl flX7_125 dX7_differ_78 (fun t6 => ?_)
                refine gg_goto (S := sX7_differ) (tgt := 88) dX7_differ_81 (by decide) ?_
                exact gg_pure (gg_iret (S := sX7_differ) rfl dX7_differ_88 (by decide) (by decide))
              · refine gg_aload_n (S := sX7_differ) 0 85 rfl dX7_differ_84 rfl rfl ?_
                refine gg_callVi (S := sX7_differ) (S' := sX7_workRoom) (cs := 0) (sl := 0) (As := []) (st := []) 88 rfl (fun b4 => lkX7_workRoom b4) mwX7_workRoom rfl mlX7_148 dX7_differ_85 cfX7 ⟨by decide, by decide⟩ 0 0 ⟨rfl, rfl⟩ ⟨by decide, by decide⟩ (Nat.le_of_ble_eq_true rfl) (fun t4 => ?_)
                exact gg_pure (gg_iret (S := sX7_differ) rfl dX7_differ_88 (by decide) (by decide))

set_option maxRecDepth 100000 in
set_option maxHeartbeats 4000000 in
theorem lkX7_mix (x0 : Nat) (x1 : Int) : LK yX7_mix sX7_mix [vr (some x0), vl x1] en_v (X7_mix x0 x1) := by
  refine lk_go (L := [(0, vr (some x0)), (1, vl x1)]) (by decide +kernel) rfl (fun h => by cases h) (Nat.le_of_ble_eq_true rfl) rfl ?_
  intro K
  unfold X7_mix
  refine gg_aload_n (S := sX7_mix) 0 1 rfl dX7_mix_0 rfl rfl ?_
  refine gg_ldc2 (S := sX7_mix) (n := 31) 4 rfl dX7_mix_1 clX7_307 (by decide) ?_
  refine gg_aload_n (S := sX7_mix) 0 5 rfl dX7_mix_4 rfl rfl ?_
  refine gg_gl (S := sX7_mix) cfX7 (by decide) (fun _ _ => rfl) 8 rfl flX7_309 dX7_mix_5 (fun t1 => ?_)
  refine gg_lmul (S := sX7_mix) 9 rfl dX7_mix_8 ?_
  refine gg_lload_n (S := sX7_mix) 1 10 rfl dX7_mix_9 rfl rfl ?_
  refine gg_ladd (S := sX7_mix) 11 rfl dX7_mix_10 ?_
  refine gg_sl (S := sX7_mix) cfX7 (by decide) rfl (fun _ _ => rfl) rfl 14 rfl flX7_309 dX7_mix_11 ?_
  exact gg_pure (gg_vret (S := sX7_mix) rfl dX7_mix_14 (by decide) (by decide))

set_option maxRecDepth 100000 in
set_option maxHeartbeats 4000000 in
theorem lkX7_goesOf (x0 : Nat) (x1 : Int) : LK yX7_goesOf sX7_goesOf [vr (some x0), vi x1] en_i (X7_goesOf x0 x1) := by
  refine lk_go (L := [(0, vr (some x0)), (1, vi x1)]) (by decide +kernel) rfl (fun h => by cases h) (Nat.le_of_ble_eq_true rfl) rfl ?_
  intro K
  unfold X7_goesOf
  refine gg_iconst (S := sX7_goesOf) 1 rfl dX7_goesOf_0 ?_
  refine gg_istore_n (S := sX7_goesOf) (L' := [(2, vi 0), (0, vr (some x0)), (1, vi x1)]) 2 rfl dX7_goesOf_1 rfl (by decide) rfl ?_
  refine gg_iconst (S := sX7_goesOf) 3 rfl dX7_goesOf_2 ?_
  refine gg_istore_n (S := sX7_goesOf) (L' := [(3, vi 0), (2, vi 0), (0, vr (some x0)), (1, vi x1)]) 4 rfl dX7_goesOf_3 rfl (by decide) rfl ?_
  refine gg_sub [2, 3, 1, 0] rfl ?_
  refine gg_loopA (fun (y1, y2) => [(0, vr (some x0)), (1, vi x1), (2, vi y1), (3, vi y2)]) (fun t7 => [(2, vi t7)]) 34 mo_N ?_ ?_ (0, 0)
  · intro κ4 hr4 he4
    rintro ⟨y1, y2⟩
    dsimp only [X7_goesOf_L4]
    refine gg_iload_n (S := sX7_goesOf) 3 5 rfl dX7_goesOf_4 rfl rfl ?_
    refine gg_aload_n (S := sX7_goesOf) 0 6 rfl dX7_goesOf_5 rfl rfl ?_
    refine gg_gr (S := sX7_goesOf) cfX7 (by decide) (fun _ _ => rfl) 9 rfl flX7_28 dX7_goesOf_6 (fun t3 => ?_)
    refine gg_iload_n (S := sX7_goesOf) 1 10 rfl dX7_goesOf_9 rfl rfl ?_
    refine gg_ld (S := sX7_goesOf) 11 rfl dX7_goesOf_10 (fun t4 => ?_)
    refine gg_ic_ge (S := sX7_goesOf) (tgt := 34) 14 rfl dX7_goesOf_11 (by decide) ?_ ?_
    · refine gg_iload_n (S := sX7_goesOf) 2 15 rfl dX7_goesOf_14 rfl rfl ?_
      refine gg_aload_n (S := sX7_goesOf) 0 16 rfl dX7_goesOf_15 rfl rfl ?_
      refine gg_gr (S := sX7_goesOf) cfX7 (by decide) (fun _ _ => rfl) 19 rfl flX7_34 dX7_goesOf_16 (fun t5 => ?_)
      refine gg_bipush (S := sX7_goesOf) 21 rfl dX7_goesOf_19 (by decide) ?_
      refine gg_iload_n (S := sX7_goesOf) 1 22 rfl dX7_goesOf_21 rfl rfl ?_
      refine gg_imul (S := sX7_goesOf) 23 rfl dX7_goesOf_22 ?_
      refine gg_iload_n (S := sX7_goesOf) 3 24 rfl dX7_goesOf_23 rfl rfl ?_
      refine gg_iadd (S := sX7_goesOf) 25 rfl dX7_goesOf_24 ?_
      refine gg_ld (S := sX7_goesOf) 26 rfl dX7_goesOf_25 (fun t6 => ?_)
      refine gg_iadd (S := sX7_goesOf) 27 rfl dX7_goesOf_26 ?_
      refine gg_istore_n (S := sX7_goesOf) (L' := [(2, vi (y1 + t6)), (0, vr (some x0)), (1, vi x1), (3, vi y2)]) 28 rfl dX7_goesOf_27 rfl (by decide) rfl ?_
      refine gg_iinc (S := sX7_goesOf) (L' := [(3, vi (y2 + 1)), (2, vi (y1 + t6)), (0, vr (some x0)), (1, vi x1)]) 3 31 rfl dX7_goesOf_28 rfl (by decide) rfl ?_
      refine gg_goto (S := sX7_goesOf) (tgt := 4) dX7_goesOf_31 (by decide) ?_
      exact gg_pure (gg_sub [2, 3, 1, 0] rfl (hr4 ((y1 + t6), (y2 + 1))))
    · exact gg_pure (gg_sub [2] rfl (he4 y1))
  · intro t7
    refine gg_iload_n (S := sX7_goesOf) 0 35 rfl dX7_goesOf_34 rfl rfl ?_
    exact gg_pure (gg_iret (S := sX7_goesOf) rfl dX7_goesOf_35 (by decide) (by decide))

set_option maxRecDepth 100000 in
set_option maxHeartbeats 4000000 in
theorem lkX7_ofPatch (x0 : Nat) (x1 : Int) (x2 : Int) : LK yX7_ofPatch sX7_ofPatch [vr (some x0), vi x1, vi x2] en_i (X7_ofPatch x0 x1 x2) := by
  refine lk_go (L := [(0, vr (some x0)), (1, vi x1), (2, vi x2)]) (by decide +kernel) rfl (fun h => by cases h) (Nat.le_of_ble_eq_true rfl) rfl ?_
  intro K
  unfold X7_ofPatch
  refine gg_iload_n (S := sX7_ofPatch) 2 1 rfl dX7_ofPatch_0 rfl rfl ?_
  refine gg_if_ne (S := sX7_ofPatch) (tgt := 13) 4 rfl dX7_ofPatch_1 (by decide) ?_ ?_
  · refine gg_aload_n (S := sX7_ofPatch) 0 5 rfl dX7_ofPatch_4 rfl rfl ?_
    refine gg_gr (S := sX7_ofPatch) cfX7 (by decide) (fun _ _ => rfl) 8 rfl flX7_28 dX7_ofPatch_5 (fun t9 => ?_)
    refine gg_iload_n (S := sX7_ofPatch) 1 9 rfl dX7_ofPatch_8 rfl rfl ?_
    refine gg_ld (S := sX7_ofPatch) 10 rfl dX7_ofPatch_9 (fun t10 => ?_)
    refine gg_goto (S := sX7_ofPatch) (tgt := 55) dX7_ofPatch_10 (by decide) ?_
    exact gg_pure (gg_iret (S := sX7_ofPatch) rfl dX7_ofPatch_55 (by decide) (by decide))
  · refine gg_iload_n (S := sX7_ofPatch) 2 14 rfl dX7_ofPatch_13 rfl rfl ?_
    refine gg_iconst (S := sX7_ofPatch) 15 rfl dX7_ofPatch_14 ?_
    refine gg_ic_ne (S := sX7_ofPatch) (tgt := 26) 18 rfl dX7_ofPatch_15 (by decide) ?_ ?_
    · refine gg_aload_n (S := sX7_ofPatch) 0 19 rfl dX7_ofPatch_18 rfl rfl ?_
      refine gg_iload_n (S := sX7_ofPatch) 1 20 rfl dX7_ofPatch_19 rfl rfl ?_
      refine gg_callVi (S := sX7_ofPatch) (S' := sX7_goesOf) (cs := 0) (sl := 0) (As := [vi x1]) (st := []) 23 rfl (fun b7 => lkX7_goesOf b7 x1) mwX7_goesOf rfl mlX7_158 dX7_ofPatch_20 cfX7 ⟨by decide, by decide⟩ 0 0 ⟨rfl, rfl⟩ ⟨by decide, by decide⟩ (Nat.le_of_ble_eq_true rfl) (fun t7 => ?_)
      refine gg_goto (S := sX7_ofPatch) (tgt := 55) dX7_ofPatch_23 (by decide) ?_
      exact gg_pure (gg_iret (S := sX7_ofPatch) rfl dX7_ofPatch_55 (by decide) (by decide))
    · refine gg_iload_n (S := sX7_ofPatch) 2 27 rfl dX7_ofPatch_26 rfl rfl ?_
      refine gg_iconst (S := sX7_ofPatch) 28 rfl dX7_ofPatch_27 ?_
      refine gg_ic_ne (S := sX7_ofPatch) (tgt := 39) 31 rfl dX7_ofPatch_28 (by decide) ?_ ?_
      · refine gg_aload_n (S := sX7_ofPatch) 0 32 rfl dX7_ofPatch_31 rfl rfl ?_
        refine gg_iload_n (S := sX7_ofPatch) 1 33 rfl dX7_ofPatch_32 rfl rfl ?_
        refine gg_callVi (S := sX7_ofPatch) (S' := sX7_comesOf) (cs := 0) (sl := 0) (As := [vi x1]) (st := []) 36 rfl (fun b5 => lkX7_comesOf b5 x1) mwX7_comesOf rfl mlX7_162 dX7_ofPatch_33 cfX7 ⟨by decide, by decide⟩ 0 0 ⟨rfl, rfl⟩ ⟨by decide, by decide⟩ (Nat.le_of_ble_eq_true rfl) (fun t5 => ?_)
        refine gg_goto (S := sX7_ofPatch) (tgt := 55) dX7_ofPatch_36 (by decide) ?_
        exact gg_pure (gg_iret (S := sX7_ofPatch) rfl dX7_ofPatch_55 (by decide) (by decide))
      · refine gg_iconst (S := sX7_ofPatch) 40 rfl dX7_ofPatch_39 ?_
        refine gg_aload_n (S := sX7_ofPatch) 0 41 rfl dX7_ofPatch_40 rfl rfl ?_
        refine gg_gr (S := sX7_ofPatch) cfX7 (by decide) (fun _ _ => rfl) 44 rfl flX7_28 dX7_ofPatch_41 (fun t1 => ?_)
        refine gg_iload_n (S := sX7_ofPatch) 1 45 rfl dX7_ofPatch_44 rfl rfl ?_
        refine gg_ld (S := sX7_ofPatch) 46 rfl dX7_ofPatch_45 (fun t2 => ?_)
        refine gg_imul (S := sX7_ofPatch) 47 rfl dX7_ofPatch_46 ?_
        refine gg_aload_n (S := sX7_ofPatch) 0 48 rfl dX7_ofPatch_47 rfl rfl ?_
        refine gg_iload_n (S := sX7_ofPatch) 1 49 rfl dX7_ofPatch_48 rfl rfl ?_
        refine gg_callVi (S := sX7_ofPatch) (S' := sX7_comesOf) (cs := 0) (sl := 0) (As := [vi x1]) (st := [vi (2 * t2)]) 52 rfl (fun b3 => lkX7_comesOf b3 x1) mwX7_comesOf rfl mlX7_162 dX7_ofPatch_49 cfX7 ⟨by decide, by decide⟩ 0 0 ⟨rfl, rfl⟩ ⟨by decide, by decide⟩ (Nat.le_of_ble_eq_true rfl) (fun t3 => ?_)
        refine gg_iadd (S := sX7_ofPatch) 53 rfl dX7_ofPatch_52 ?_
        refine gg_iconst (S := sX7_ofPatch) 54 rfl dX7_ofPatch_53 ?_
        refine gg_iadd (S := sX7_ofPatch) 55 rfl dX7_ofPatch_54 ?_
        exact gg_pure (gg_iret (S := sX7_ofPatch) rfl dX7_ofPatch_55 (by decide) (by decide))

set_option maxRecDepth 100000 in
set_option maxHeartbeats 4000000 in
theorem lkX7_toldOf (x0 : Nat) (x1 : Int) (x2 : Int) (x3 : Int) : LK yX7_toldOf sX7_toldOf [vr (some x0), vi x1, vi x2, vi x3] en_i (X7_toldOf x0 x1 x2 x3) := by
  refine lk_go (L := [(0, vr (some x0)), (1, vi x1), (2, vi x2), (3, vi x3)]) (by decide +kernel) rfl (fun h => by cases h) (Nat.le_of_ble_eq_true rfl) rfl ?_
  intro K
  unfold X7_toldOf
  refine gg_bipush (S := sX7_toldOf) 2 rfl dX7_toldOf_0 (by decide) ?_
  refine gg_iload_n (S := sX7_toldOf) 1 3 rfl dX7_toldOf_2 rfl rfl ?_
  refine gg_imul (S := sX7_toldOf) 4 rfl dX7_toldOf_3 ?_
  refine gg_iload_n (S := sX7_toldOf) 2 5 rfl dX7_toldOf_4 rfl rfl ?_
  refine gg_iadd (S := sX7_toldOf) 6 rfl dX7_toldOf_5 ?_
  refine gg_istore (S := sX7_toldOf) (L' := [(4, vi ((10 * x1) + x2)), (0, vr (some x0)), (1, vi x1), (2, vi x2), (3, vi x3)]) 8 rfl dX7_toldOf_6 (by decide) rfl ?_
  refine gg_iload_n (S := sX7_toldOf) 4 9 rfl dX7_toldOf_8 rfl rfl ?_
  refine gg_iconst (S := sX7_toldOf) 10 rfl dX7_toldOf_9 ?_
  refine gg_ic_ge (S := sX7_toldOf) (tgt := 50) 13 rfl dX7_toldOf_10 (by decide) ?_ ?_
  · refine gg_iload_n (S := sX7_toldOf) 4 14 rfl dX7_toldOf_13 rfl rfl ?_
    refine gg_if_ne (S := sX7_toldOf) (tgt := 27) 17 rfl dX7_toldOf_14 (by decide) ?_ ?_
    · refine gg_aload_n (S := sX7_toldOf) 1 18 rfl dX7_toldOf_17 rfl rfl ?_
      refine gg_gr (S := sX7_toldOf) cfX7 (by decide) (fun _ _ => rfl) 21 rfl flX7_31 dX7_toldOf_18 (fun t17 => ?_)
      refine gg_iload (S := sX7_toldOf) 0 23 rfl dX7_toldOf_21 rfl ?_
      refine gg_ld (S := sX7_toldOf) 24 rfl dX7_toldOf_23 (fun t18 => ?_)
      refine gg_goto (S := sX7_toldOf) (tgt := 49) dX7_toldOf_24 (by decide) ?_
      exact gg_pure (gg_iret (S := sX7_toldOf) rfl dX7_toldOf_49 (by decide) (by decide))
    · refine gg_iload_n (S := sX7_toldOf) 4 28 rfl dX7_toldOf_27 rfl rfl ?_
      refine gg_iconst (S := sX7_toldOf) 29 rfl dX7_toldOf_28 ?_
      refine gg_ic_ne (S := sX7_toldOf) (tgt := 42) 32 rfl dX7_toldOf_29 (by decide) ?_ ?_
      · refine gg_aload_n (S := sX7_toldOf) 1 33 rfl dX7_toldOf_32 rfl rfl ?_
        refine gg_gr (S := sX7_toldOf) cfX7 (by decide) (fun _ _ => rfl) 36 rfl flX7_34 dX7_toldOf_33 (fun t15 => ?_)
        refine gg_iload (S := sX7_toldOf) 0 38 rfl dX7_toldOf_36 rfl ?_
        refine gg_ld (S := sX7_toldOf) 39 rfl dX7_toldOf_38 (fun t16 => ?_)
        refine gg_goto (S := sX7_toldOf) (tgt := 49) dX7_toldOf_39 (by decide) ?_
        exact gg_pure (gg_iret (S := sX7_toldOf) rfl dX7_toldOf_49 (by decide) (by decide))
      · refine gg_aload_n (S := sX7_toldOf) 1 43 rfl dX7_toldOf_42 rfl rfl ?_
        refine gg_gr (S := sX7_toldOf) cfX7 (by decide) (fun _ _ => rfl) 46 rfl flX7_37 dX7_toldOf_43 (fun t13 => ?_)
        refine gg_iload (S := sX7_toldOf) 0 48 rfl dX7_toldOf_46 rfl ?_
        refine gg_ld (S := sX7_toldOf) 49 rfl dX7_toldOf_48 (fun t14 => ?_)
        exact gg_pure (gg_iret (S := sX7_toldOf) rfl dX7_toldOf_49 (by decide) (by decide))
  · refine gg_iload_n (S := sX7_toldOf) 4 51 rfl dX7_toldOf_50 rfl rfl ?_
    refine gg_bipush (S := sX7_toldOf) 53 rfl dX7_toldOf_51 (by decide) ?_
    refine gg_ic_ge (S := sX7_toldOf) (tgt := 91) 56 rfl dX7_toldOf_53 (by decide) ?_ ?_
    · refine gg_iload_n (S := sX7_toldOf) 4 57 rfl dX7_toldOf_56 rfl rfl ?_
      refine gg_bipush (S := sX7_toldOf) 59 rfl dX7_toldOf_57 (by decide) ?_
      refine gg_isub (S := sX7_toldOf) 60 rfl dX7_toldOf_59 ?_
      refine gg_aload_n (S := sX7_toldOf) 1 61 rfl dX7_toldOf_60 rfl rfl ?_
      refine gg_gr (S := sX7_toldOf) cfX7 (by decide) (fun _ _ => rfl) 64 rfl flX7_34 dX7_toldOf_61 (fun t7 => ?_)
      refine gg_iload (S := sX7_toldOf) 0 66 rfl dX7_toldOf_64 rfl ?_
      refine gg_ld (S := sX7_toldOf) 67 rfl dX7_toldOf_66 (fun t8 => ?_)
      refine gg_ic_ge (S := sX7_toldOf) (tgt := 89) 70 rfl dX7_toldOf_67 (by decide) ?_ ?_
      · refine gg_aload_n (S := sX7_toldOf) 1 71 rfl dX7_toldOf_70 rfl rfl ?_
        refine gg_gr (S := sX7_toldOf) cfX7 (by decide) (fun _ _ => rfl) 74 rfl flX7_40 dX7_toldOf_71 (fun t9 => ?_)
        refine gg_aload_n (S := sX7_toldOf) 1 75 rfl dX7_toldOf_74 rfl rfl ?_
        refine gg_iload_n (S := sX7_toldOf) 2 76 rfl dX7_toldOf_75 rfl rfl ?_
        refine gg_iload_n (S := sX7_toldOf) 3 77 rfl dX7_toldOf_76 rfl rfl ?_
        refine gg_callVi (S := sX7_toldOf) (S' := sX7_goFrom) (cs := 0) (sl := 0) (As := [vi x1, vi x2]) (st := [vr t9]) 80 rfl (fun b11 => lkX7_goFrom b11 x1 x2) mwX7_goFrom rfl mlX7_168 dX7_toldOf_77 cfX7 ⟨by decide, by decide⟩ 0 0 ⟨rfl, rfl⟩ ⟨by decide, by decide⟩ (Nat.le_of_ble_eq_true rfl) (fun t10 => ?_)
        refine gg_iload_n (S := sX7_toldOf) 4 81 rfl dX7_toldOf_80 rfl rfl ?_
        refine gg_iadd (S := sX7_toldOf) 82 rfl dX7_toldOf_81 ?_
        refine gg_bipush (S := sX7_toldOf) 84 rfl dX7_toldOf_82 (by decide) ?_
        refine gg_isub (S := sX7_toldOf) 85 rfl dX7_toldOf_84 ?_
        refine gg_ld (S := sX7_toldOf) 86 rfl dX7_toldOf_85 (fun t11 => ?_)
        refine gg_goto (S := sX7_toldOf) (tgt := 90) dX7_toldOf_86 (by decide) ?_
        exact gg_pure (gg_iret (S := sX7_toldOf) rfl dX7_toldOf_90 (by decide) (by decide))
      · refine gg_iconst (S := sX7_toldOf) 90 rfl dX7_toldOf_89 ?_
        exact gg_pure (gg_iret (S := sX7_toldOf) rfl dX7_toldOf_90 (by decide) (by decide))
    · refine gg_iload_n (S := sX7_toldOf) 4 92 rfl dX7_toldOf_91 rfl rfl ?_
      refine gg_bipush (S := sX7_toldOf) 94 rfl dX7_toldOf_92 (by decide) ?_
      refine gg_isub (S := sX7_toldOf) 95 rfl dX7_toldOf_94 ?_
      refine gg_aload_n (S := sX7_toldOf) 1 96 rfl dX7_toldOf_95 rfl rfl ?_
      refine gg_gr (S := sX7_toldOf) cfX7 (by decide) (fun _ _ => rfl) 99 rfl flX7_37 dX7_toldOf_96 (fun t1 => ?_)
      refine gg_iload (S := sX7_toldOf) 0 101 rfl dX7_toldOf_99 rfl ?_
      refine gg_ld (S := sX7_toldOf) 102 rfl dX7_toldOf_101 (fun t2 => ?_)
      refine gg_ic_ge (S := sX7_toldOf) (tgt := 124) 105 rfl dX7_toldOf_102 (by decide) ?_ ?_
      · refine gg_aload_n (S := sX7_toldOf) 1 106 rfl dX7_toldOf_105 rfl rfl ?_
        refine gg_gr (S := sX7_toldOf) cfX7 (by decide) (fun _ _ => rfl) 109 rfl flX7_43 dX7_toldOf_106 (fun t3 => ?_)
        refine gg_aload_n (S := sX7_toldOf) 1 110 rfl dX7_toldOf_109 rfl rfl ?_
        refine gg_iload_n (S := sX7_toldOf) 2 111 rfl dX7_toldOf_110 rfl rfl ?_
        refine gg_iload_n (S := sX7_toldOf) 3 112 rfl dX7_toldOf_111 rfl rfl ?_
        refine gg_callVi (S := sX7_toldOf) (S' := sX7_comeFrom) (cs := 0) (sl := 0) (As := [vi x1, vi x2]) (st := [vr t3]) 115 rfl (fun b5 => lkX7_comeFrom b5 x1 x2) mwX7_comeFrom rfl mlX7_171 dX7_toldOf_112 cfX7 ⟨by decide, by decide⟩ 0 0 ⟨rfl, rfl⟩ ⟨by decide, by decide⟩ (Nat.le_of_ble_eq_true rfl) (fun t4 => ?_)
        refine gg_iload_n (S := sX7_toldOf) 4 116 rfl dX7_toldOf_115 rfl rfl ?_
        refine gg_iadd (S := sX7_toldOf) 117 rfl dX7_toldOf_116 ?_
        refine gg_bipush (S := sX7_toldOf) 119 rfl dX7_toldOf_117 (by decide) ?_
        refine gg_isub (S := sX7_toldOf) 120 rfl dX7_toldOf_119 ?_
        refine gg_ld (S := sX7_toldOf) 121 rfl dX7_toldOf_120 (fun t5 => ?_)
        refine gg_goto (S := sX7_toldOf) (tgt := 125) dX7_toldOf_121 (by decide) ?_
        exact gg_pure (gg_iret (S := sX7_toldOf) rfl dX7_toldOf_125 (by decide) (by decide))
      · refine gg_iconst (S := sX7_toldOf) 125 rfl dX7_toldOf_124 ?_
        exact gg_pure (gg_iret (S := sX7_toldOf) rfl dX7_toldOf_125 (by decide) (by decide))

set_option maxRecDepth 100000 in
set_option maxHeartbeats 4000000 in
theorem lkX7_mixPatch (x0 : Nat) (x1 : Int) : LK yX7_mixPatch sX7_mixPatch [vr (some x0), vi x1] en_v (X7_mixPatch x0 x1) := by
  refine lk_go (L := [(0, vr (some x0)), (1, vi x1)]) (by decide +kernel) rfl (fun h => by cases h) (Nat.le_of_ble_eq_true rfl) rfl ?_
  intro K
  unfold X7_mixPatch
  refine gg_iconst (S := sX7_mixPatch) 1 rfl dX7_mixPatch_0 ?_
  refine gg_istore_n (S := sX7_mixPatch) (L' := [(2, vi 0), (0, vr (some x0)), (1, vi x1)]) 2 rfl dX7_mixPatch_1 rfl (by decide) rfl ?_
  refine gg_sub [1, 2, 0] rfl ?_
  refine gg_loopA (fun y1 => [(0, vr (some x0)), (1, vi x1), (2, vi y1)]) (fun _ => [(0, vr (some x0)), (1, vi x1)]) 24 mo_N ?_ ?_ 0
  · intro κ2 hr2 he2
    intro y1
    dsimp only [X7_mixPatch_L2]
    refine gg_iload_n (S := sX7_mixPatch) 2 3 rfl dX7_mixPatch_2 rfl rfl ?_
    refine gg_iconst (S := sX7_mixPatch) 4 rfl dX7_mixPatch_3 ?_
    refine gg_ic_ge (S := sX7_mixPatch) (tgt := 24) 7 rfl dX7_mixPatch_4 (by decide) ?_ ?_
    · refine gg_aload_n (S := sX7_mixPatch) 0 8 rfl dX7_mixPatch_7 rfl rfl ?_
      refine gg_aload_n (S := sX7_mixPatch) 0 9 rfl dX7_mixPatch_8 rfl rfl ?_
      refine gg_iload_n (S := sX7_mixPatch) 1 10 rfl dX7_mixPatch_9 rfl rfl ?_
      refine gg_iload_n (S := sX7_mixPatch) 2 11 rfl dX7_mixPatch_10 rfl rfl ?_
      refine gg_callVi (S := sX7_mixPatch) (S' := sX7_ofPatch) (cs := 0) (sl := 0) (As := [vi x1, vi y1]) (st := [vr (some x0)]) 14 rfl (fun b3 => lkX7_ofPatch b3 x1 y1) mwX7_ofPatch rfl mlX7_165 dX7_mixPatch_11 cfX7 ⟨by decide, by decide⟩ 0 0 ⟨rfl, rfl⟩ ⟨by decide, by decide⟩ (Nat.le_of_ble_eq_true rfl) (fun t2 => ?_)
      refine gg_i2l (S := sX7_mixPatch) 15 rfl dX7_mixPatch_14 ?_
      refine gg_callVv (S := sX7_mixPatch) (S' := sX7_mix) (cs := 0) (sl := 0) (As := [vl t2]) (st := []) 18 rfl (fun b2 => lkX7_mix b2 t2) mwX7_mix rfl mlX7_312 dX7_mixPatch_15 cfX7 ⟨by decide, by decide⟩ 0 0 ⟨rfl, rfl⟩ ⟨by decide, by decide⟩ (Nat.le_of_ble_eq_true rfl) (fun _ => ?_)
      refine gg_iinc (S := sX7_mixPatch) (L' := [(2, vi (y1 + 1)), (0, vr (some x0)), (1, vi x1)]) 2 21 rfl dX7_mixPatch_18 rfl (by decide) rfl ?_
      refine gg_goto (S := sX7_mixPatch) (tgt := 2) dX7_mixPatch_21 (by decide) ?_
      exact gg_pure (gg_sub [1, 2, 0] rfl (hr2 (y1 + 1)))
    · exact gg_pure (gg_sub [0, 1] rfl (he2 ()))
  · intro _
    refine gg_iconst (S := sX7_mixPatch) 25 rfl dX7_mixPatch_24 ?_
    refine gg_istore_n (S := sX7_mixPatch) (L' := [(2, vi 0), (0, vr (some x0)), (1, vi x1)]) 26 rfl dX7_mixPatch_25 rfl (by decide) rfl ?_
    refine gg_sub [1, 2, 0] rfl ?_
    refine gg_loopA (fun y5 => [(0, vr (some x0)), (1, vi x1), (2, vi y5)]) (fun _ => []) 149 mo_N ?_ ?_ 0
    · intro κ26 hr26 he26
      intro y5
      dsimp only [X7_mixPatch_L26]
      refine gg_iload_n (S := sX7_mixPatch) 2 27 rfl dX7_mixPatch_26 rfl rfl ?_
      refine gg_aload_n (S := sX7_mixPatch) 0 28 rfl dX7_mixPatch_27 rfl rfl ?_
      refine gg_gr (S := sX7_mixPatch) cfX7 (by decide) (fun _ _ => rfl) 31 rfl flX7_28 dX7_mixPatch_28 (fun t6 => ?_)
      refine gg_iload_n (S := sX7_mixPatch) 1 32 rfl dX7_mixPatch_31 rfl rfl ?_
      refine gg_ld (S := sX7_mixPatch) 33 rfl dX7_mixPatch_32 (fun t7 => ?_)
      refine gg_ic_ge (S := sX7_mixPatch) (tgt := 149) 36 rfl dX7_mixPatch_33 (by decide) ?_ ?_
      · refine gg_iconst (S := sX7_mixPatch) 37 rfl dX7_mixPatch_36 ?_
        refine gg_istore_n (S := sX7_mixPatch) (L' := [(3, vi 0), (0, vr (some x0)), (1, vi x1), (2, vi y5)]) 38 rfl dX7_mixPatch_37 rfl (by decide) rfl ?_
        refine gg_sub [1, 2, 3, 0] rfl ?_
        refine gg_loopA (fun y8 => [(0, vr (some x0)), (1, vi x1), (2, vi y5), (3, vi y8)]) (fun _ => [(0, vr (some x0)), (1, vi x1), (2, vi y5)]) 61 mo_N ?_ ?_ 0
        · intro κ38 hr38 he38
          intro y8
          dsimp only [X7_mixPatch_L38]
          refine gg_iload_n (S := sX7_mixPatch) 3 39 rfl dX7_mixPatch_38 rfl rfl ?_
          refine gg_iconst (S := sX7_mixPatch) 40 rfl dX7_mixPatch_39 ?_
          refine gg_ic_ge (S := sX7_mixPatch) (tgt := 61) 43 rfl dX7_mixPatch_40 (by decide) ?_ ?_
          · refine gg_aload_n (S := sX7_mixPatch) 0 44 rfl dX7_mixPatch_43 rfl rfl ?_
            refine gg_aload_n (S := sX7_mixPatch) 0 45 rfl dX7_mixPatch_44 rfl rfl ?_
            refine gg_iload_n (S := sX7_mixPatch) 1 46 rfl dX7_mixPatch_45 rfl rfl ?_
            refine gg_iload_n (S := sX7_mixPatch) 2 47 rfl dX7_mixPatch_46 rfl rfl ?_
            refine gg_iload_n (S := sX7_mixPatch) 3 48 rfl dX7_mixPatch_47 rfl rfl ?_
            refine gg_callVi (S := sX7_mixPatch) (S' := sX7_toldOf) (cs := 0) (sl := 0) (As := [vi x1, vi y5, vi y8]) (st := [vr (some x0)]) 51 rfl (fun b10 => lkX7_toldOf b10 x1 y5 y8) mwX7_toldOf rfl mlX7_174 dX7_mixPatch_48 cfX7 ⟨by decide, by decide⟩ 0 0 ⟨rfl, rfl⟩ ⟨by decide, by decide⟩ (Nat.le_of_ble_eq_true rfl) (fun t9 => ?_)
            refine gg_i2l (S := sX7_mixPatch) 52 rfl dX7_mixPatch_51 ?_
            refine gg_callVv (S := sX7_mixPatch) (S' := sX7_mix) (cs := 0) (sl := 0) (As := [vl t9]) (st := []) 55 rfl (fun b9 => lkX7_mix b9 t9) mwX7_mix rfl mlX7_312 dX7_mixPatch_52 cfX7 ⟨by decide, by decide⟩ 0 0 ⟨rfl, rfl⟩ ⟨by decide, by decide⟩ (Nat.le_of_ble_eq_true rfl) (fun _ => ?_)
            refine gg_iinc (S := sX7_mixPatch) (L' := [(3, vi (y8 + 1)), (0, vr (some x0)), (1, vi x1), (2, vi y5)]) 3 58 rfl dX7_mixPatch_55 rfl (by decide) rfl ?_
            refine gg_goto (S := sX7_mixPatch) (tgt := 38) dX7_mixPatch_58 (by decide) ?_
            exact gg_pure (gg_sub [1, 2, 3, 0] rfl (hr38 (y8 + 1)))
          · exact gg_pure (gg_sub [0, 1, 2] rfl (he38 ()))
        · intro _
          refine gg_iconst (S := sX7_mixPatch) 62 rfl dX7_mixPatch_61 ?_
          refine gg_istore_n (S := sX7_mixPatch) (L' := [(3, vi 0), (0, vr (some x0)), (1, vi x1), (2, vi y5)]) 63 rfl dX7_mixPatch_62 rfl (by decide) rfl ?_
          refine gg_sub [1, 2, 3, 0] rfl ?_
          refine gg_loopA (fun y12 => [(0, vr (some x0)), (1, vi x1), (2, vi y5), (3, vi y12)]) (fun _ => [(0, vr (some x0)), (1, vi x1), (2, vi y5)]) 102 mo_N ?_ ?_ 0
          · intro κ63 hr63 he63
            intro y12
            dsimp only [X7_mixPatch_L63]
            refine gg_iload_n (S := sX7_mixPatch) 3 64 rfl dX7_mixPatch_63 rfl rfl ?_
            refine gg_aload_n (S := sX7_mixPatch) 0 65 rfl dX7_mixPatch_64 rfl rfl ?_
            refine gg_gr (S := sX7_mixPatch) cfX7 (by decide) (fun _ _ => rfl) 68 rfl flX7_34 dX7_mixPatch_65 (fun t13 => ?_)
            refine gg_bipush (S := sX7_mixPatch) 70 rfl dX7_mixPatch_68 (by decide) ?_
            refine gg_iload_n (S := sX7_mixPatch) 1 71 rfl dX7_mixPatch_70 rfl rfl ?_
            refine gg_imul (S := sX7_mixPatch) 72 rfl dX7_mixPatch_71 ?_
            refine gg_iload_n (S := sX7_mixPatch) 2 73 rfl dX7_mixPatch_72 rfl rfl ?_
            refine gg_iadd (S := sX7_mixPatch) 74 rfl dX7_mixPatch_73 ?_
            refine gg_ld (S := sX7_mixPatch) 75 rfl dX7_mixPatch_74 (fun t14 => ?_)
            refine gg_ic_ge (S := sX7_mixPatch) (tgt := 102) 78 rfl dX7_mixPatch_75 (by decide) ?_ ?_
            · refine gg_aload_n (S := sX7_mixPatch) 0 79 rfl dX7_mixPatch_78 rfl rfl ?_
              refine gg_aload_n (S := sX7_mixPatch) 0 80 rfl dX7_mixPatch_79 rfl rfl ?_
              refine gg_gr (S := sX7_mixPatch) cfX7 (by decide) (fun _ _ => rfl) 83 rfl flX7_40 dX7_mixPatch_80 (fun t15 => ?_)
              refine gg_aload_n (S := sX7_mixPatch) 0 84 rfl dX7_mixPatch_83 rfl rfl ?_
              refine gg_iload_n (S := sX7_mixPatch) 1 85 rfl dX7_mixPatch_84 rfl rfl ?_
              refine gg_iload_n (S := sX7_mixPatch) 2 86 rfl dX7_mixPatch_85 rfl rfl ?_
              refine gg_callVi (S := sX7_mixPatch) (S' := sX7_goFrom) (cs := 0) (sl := 0) (As := [vi x1, vi y5]) (st := [vr t15, vr (some x0)]) 89 rfl (fun b18 => lkX7_goFrom b18 x1 y5) mwX7_goFrom rfl mlX7_168 dX7_mixPatch_86 cfX7 ⟨by decide, by decide⟩ 0 0 ⟨rfl, rfl⟩ ⟨by decide, by decide⟩ (Nat.le_of_ble_eq_true rfl) (fun t16 => ?_)
              refine gg_iload_n (S := sX7_mixPatch) 3 90 rfl dX7_mixPatch_89 rfl rfl ?_
              refine gg_iadd (S := sX7_mixPatch) 91 rfl dX7_mixPatch_90 ?_
              refine gg_ld (S := sX7_mixPatch) 92 rfl dX7_mixPatch_91 (fun t17 => ?_)
              refine gg_i2l (S := sX7_mixPatch) 93 rfl dX7_mixPatch_92 ?_
              refine gg_callVv (S := sX7_mixPatch) (S' := sX7_mix) (cs := 0) (sl := 0) (As := [vl t17]) (st := []) 96 rfl (fun b17 => lkX7_mix b17 t17) mwX7_mix rfl mlX7_312 dX7_mixPatch_93 cfX7 ⟨by decide, by decide⟩ 0 0 ⟨rfl, rfl⟩ ⟨by decide, by decide⟩ (Nat.le_of_ble_eq_true rfl) (fun _ => ?_)
              refine gg_iinc (S := sX7_mixPatch) (L' := [(3, vi (y12 + 1)), (0, vr (some x0)), (1, vi x1), (2, vi y5)]) 3 99 rfl dX7_mixPatch_96 rfl (by decide) rfl ?_
              refine gg_goto (S := sX7_mixPatch) (tgt := 63) dX7_mixPatch_99 (by decide) ?_
              exact gg_pure (gg_sub [1, 2, 3, 0] rfl (hr63 (y12 + 1)))
            · exact gg_pure (gg_sub [0, 1, 2] rfl (he63 ()))
          · intro _
            refine gg_iconst (S := sX7_mixPatch) 103 rfl dX7_mixPatch_102 ?_
            refine gg_istore_n (S := sX7_mixPatch) (L' := [(3, vi 0), (0, vr (some x0)), (1, vi x1), (2, vi y5)]) 104 rfl dX7_mixPatch_103 rfl (by decide) rfl ?_
            refine gg_sub [1, 2, 3, 0] rfl ?_
            refine gg_loopA (fun y20 => [(0, vr (some x0)), (1, vi x1), (2, vi y5), (3, vi y20)]) (fun _ => [(0, vr (some x0)), (1, vi x1), (2, vi y5)]) 143 mo_N ?_ ?_ 0
            · intro κ104 hr104 he104
              intro y20
              dsimp only [X7_mixPatch_L104]
              refine gg_iload_n (S := sX7_mixPatch) 3 105 rfl dX7_mixPatch_104 rfl rfl ?_
              refine gg_aload_n (S := sX7_mixPatch) 0 106 rfl dX7_mixPatch_105 rfl rfl ?_
              refine gg_gr (S := sX7_mixPatch) cfX7 (by decide) (fun _ _ => rfl) 109 rfl flX7_37 dX7_mixPatch_106 (fun t21 => ?_)
              refine gg_bipush (S := sX7_mixPatch) 111 rfl dX7_mixPatch_109 (by decide) ?_
              refine gg_iload_n (S := sX7_mixPatch) 1 112 rfl dX7_mixPatch_111 rfl rfl ?_
              refine gg_imul (S := sX7_mixPatch) 113 rfl dX7_mixPatch_112 ?_
              refine gg_iload_n (S := sX7_mixPatch) 2 114 rfl dX7_mixPatch_113 rfl rfl ?_
              refine gg_iadd (S := sX7_mixPatch) 115 rfl dX7_mixPatch_114 ?_
              refine gg_ld (S := sX7_mixPatch) 116 rfl dX7_mixPatch_115 (fun t22 => ?_)
              refine gg_ic_ge (S := sX7_mixPatch) (tgt := 143) 119 rfl dX7_mixPatch_116 (by decide) ?_ ?_
              · refine gg_aload_n (S := sX7_mixPatch) 0 120 rfl dX7_mixPatch_119 rfl rfl ?_
                refine gg_aload_n (S := sX7_mixPatch) 0 121 rfl dX7_mixPatch_120 rfl rfl ?_
                refine gg_gr (S := sX7_mixPatch) cfX7 (by decide) (fun _ _ => rfl) 124 rfl flX7_43 dX7_mixPatch_121 (fun t23 => ?_)
                refine gg_aload_n (S := sX7_mixPatch) 0 125 rfl dX7_mixPatch_124 rfl rfl ?_
                refine gg_iload_n (S := sX7_mixPatch) 1 126 rfl dX7_mixPatch_125 rfl rfl ?_
                refine gg_iload_n (S := sX7_mixPatch) 2 127 rfl dX7_mixPatch_126 rfl rfl ?_
                refine gg_callVi (S := sX7_mixPatch) (S' := sX7_comeFrom) (cs := 0) (sl := 0) (As := [vi x1, vi y5]) (st := [vr t23, vr (some x0)]) 130 rfl (fun b26 => lkX7_comeFrom b26 x1 y5) mwX7_comeFrom rfl mlX7_171 dX7_mixPatch_127 cfX7 ⟨by decide, by decide⟩ 0 0 ⟨rfl, rfl⟩ ⟨by decide, by decide⟩ (Nat.le_of_ble_eq_true rfl) (fun t24 => ?_)
                refine gg_iload_n (S := sX7_mixPatch) 3 131 rfl dX7_mixPatch_130 rfl rfl ?_
                refine gg_iadd (S := sX7_mixPatch) 132 rfl dX7_mixPatch_131 ?_
                refine gg_ld (S := sX7_mixPatch) 133 rfl dX7_mixPatch_132 (fun t25 => ?_)
                refine gg_i2l (S := sX7_mixPatch) 134 rfl dX7_mixPatch_133 ?_
                refine gg_callVv (S := sX7_mixPatch) (S' := sX7_mix) (cs := 0) (sl := 0) (As := [vl t25]) (st := []) 137 rfl (fun b25 => lkX7_mix b25 t25) mwX7_mix rfl mlX7_312 dX7_mixPatch_134 cfX7 ⟨by decide, by decide⟩ 0 0 ⟨rfl, rfl⟩ ⟨by decide, by decide⟩ (Nat.le_of_ble_eq_true rfl) (fun _ => ?_)
                refine gg_iinc (S := sX7_mixPatch) (L' := [(3, vi (y20 + 1)), (0, vr (some x0)), (1, vi x1), (2, vi y5)]) 3 140 rfl dX7_mixPatch_137 rfl (by decide) rfl ?_
                refine gg_goto (S := sX7_mixPatch) (tgt := 104) dX7_mixPatch_140 (by decide) ?_
                exact gg_pure (gg_sub [1, 2, 3, 0] rfl (hr104 (y20 + 1)))
              · exact gg_pure (gg_sub [0, 1, 2] rfl (he104 ()))
            · intro _
              refine gg_iinc (S := sX7_mixPatch) (L' := [(2, vi (y5 + 1)), (0, vr (some x0)), (1, vi x1)]) 2 146 rfl dX7_mixPatch_143 rfl (by decide) rfl ?_
              refine gg_goto (S := sX7_mixPatch) (tgt := 26) dX7_mixPatch_146 (by decide) ?_
              exact gg_pure (gg_sub [1, 2, 0] rfl (hr26 (y5 + 1)))
      · exact gg_pure (gg_sub [] rfl (he26 ()))
    · intro _
      exact gg_pure (gg_vret (S := sX7_mixPatch) rfl dX7_mixPatch_149 (by decide) (by decide))

set_option maxRecDepth 100000 in
set_option maxHeartbeats 4000000 in
theorem lkX7_digest (x0 : Nat) : LK yX7_digest sX7_digest [vr (some x0)] en_l (X7_digest x0) := by
  refine lk_go (L := [(0, vr (some x0))]) (by decide +kernel) rfl (fun h => by cases h) (Nat.le_of_ble_eq_true rfl) rfl ?_
  intro K
  unfold X7_digest
  refine gg_aload_n (S := sX7_digest) 0 1 rfl dX7_digest_0 rfl rfl ?_
  refine gg_ldc2 (S := sX7_digest) (n := 271) 4 rfl dX7_digest_1 clX7_316 (by decide) ?_
  refine gg_sl (S := sX7_digest) cfX7 (by decide) rfl (fun _ _ => rfl) rfl 7 rfl flX7_309 dX7_digest_4 ?_
  refine gg_iconst (S := sX7_digest) 8 rfl dX7_digest_7 ?_
  refine gg_istore_n (S := sX7_digest) (L' := [(1, vi 0), (0, vr (some x0))]) 9 rfl dX7_digest_8 rfl (by decide) rfl ?_
  refine gg_sub [1, 0] rfl ?_
  refine gg_loopA (fun y1 => [(0, vr (some x0)), (1, vi y1)]) (fun _ => [(0, vr (some x0))]) 34 mo_N ?_ ?_ 0
  · intro κ9 hr9 he9
    intro y1
    dsimp only [X7_digest_L9]
    refine gg_iload_n (S := sX7_digest) 1 10 rfl dX7_digest_9 rfl rfl ?_
    refine gg_aload_n (S := sX7_digest) 0 11 rfl dX7_digest_10 rfl rfl ?_
    refine gg_gi (S := sX7_digest) cfX7 (by decide) (fun _ _ => rfl) 14 rfl flX7_108 dX7_digest_11 (fun t2 => ?_)
    refine gg_ic_ge (S := sX7_digest) (tgt := 34) 17 rfl dX7_digest_14 (by decide) ?_ ?_
    · refine gg_aload_n (S := sX7_digest) 0 18 rfl dX7_digest_17 rfl rfl ?_
      refine gg_aload_n (S := sX7_digest) 0 19 rfl dX7_digest_18 rfl rfl ?_
      refine gg_gr (S := sX7_digest) cfX7 (by decide) (fun _ _ => rfl) 22 rfl flX7_7 dX7_digest_19 (fun t3 => ?_)
      refine gg_iload_n (S := sX7_digest) 1 23 rfl dX7_digest_22 rfl rfl ?_
      refine gg_ld (S := sX7_digest) 24 rfl dX7_digest_23 (fun t4 => ?_)
      refine gg_i2l (S := sX7_digest) 25 rfl dX7_digest_24 ?_
      refine gg_callVv (S := sX7_digest) (S' := sX7_mix) (cs := 0) (sl := 0) (As := [vl t4]) (st := []) 28 rfl (fun b4 => lkX7_mix b4 t4) mwX7_mix rfl mlX7_312 dX7_digest_25 cfX7 ⟨by decide, by decide⟩ 0 0 ⟨rfl, rfl⟩ ⟨by decide, by decide⟩ (Nat.le_of_ble_eq_true rfl) (fun _ => ?_)
      refine gg_iinc (S := sX7_digest) (L' := [(1, vi (y1 + 1)), (0, vr (some x0))]) 1 31 rfl dX7_digest_28 rfl (by decide) rfl ?_
      refine gg_goto (S := sX7_digest) (tgt := 9) dX7_digest_31 (by decide) ?_
      exact gg_pure (gg_sub [1, 0] rfl (hr9 (y1 + 1)))
    · exact gg_pure (gg_sub [0] rfl (he9 ()))
  · intro _
    refine gg_iconst (S := sX7_digest) 35 rfl dX7_digest_34 ?_
    refine gg_istore_n (S := sX7_digest) (L' := [(1, vi 0), (0, vr (some x0))]) 36 rfl dX7_digest_35 rfl (by decide) rfl ?_
    refine gg_sub [1, 0] rfl ?_
    refine gg_loopA (fun y6 => [(0, vr (some x0)), (1, vi y6)]) (fun _ => [(0, vr (some x0))]) 108 mo_N ?_ ?_ 0
    · intro κ36 hr36 he36
      intro y6
      dsimp only [X7_digest_L36]
      refine gg_iload_n (S := sX7_digest) 1 37 rfl dX7_digest_36 rfl rfl ?_
      refine gg_aload_n (S := sX7_digest) 0 38 rfl dX7_digest_37 rfl rfl ?_
      refine gg_gi (S := sX7_digest) cfX7 (by decide) (fun _ _ => rfl) 41 rfl flX7_97 dX7_digest_38 (fun t7 => ?_)
      refine gg_ic_ge (S := sX7_digest) (tgt := 108) 44 rfl dX7_digest_41 (by decide) ?_ ?_
      · refine gg_iconst (S := sX7_digest) 45 rfl dX7_digest_44 ?_
        refine gg_istore_n (S := sX7_digest) (L' := [(2, vi 0), (0, vr (some x0)), (1, vi y6)]) 46 rfl dX7_digest_45 rfl (by decide) rfl ?_
        refine gg_sub [1, 2, 0] rfl ?_
        refine gg_loopA (fun y8 => [(0, vr (some x0)), (1, vi y6), (2, vi y8)]) (fun _ => [(0, vr (some x0)), (1, vi y6)]) 68 mo_N ?_ ?_ 0
        · intro κ46 hr46 he46
          intro y8
          dsimp only [X7_digest_L46]
          refine gg_iload_n (S := sX7_digest) 2 47 rfl dX7_digest_46 rfl rfl ?_
          refine gg_iconst (S := sX7_digest) 48 rfl dX7_digest_47 ?_
          refine gg_ic_ge (S := sX7_digest) (tgt := 68) 51 rfl dX7_digest_48 (by decide) ?_ ?_
          · refine gg_aload_n (S := sX7_digest) 0 52 rfl dX7_digest_51 rfl rfl ?_
            refine gg_aload_n (S := sX7_digest) 0 53 rfl dX7_digest_52 rfl rfl ?_
            refine gg_iload_n (S := sX7_digest) 1 54 rfl dX7_digest_53 rfl rfl ?_
            refine gg_iload_n (S := sX7_digest) 2 55 rfl dX7_digest_54 rfl rfl ?_
            refine gg_callVi (S := sX7_digest) (S' := sX7_aboutOf) (cs := 0) (sl := 0) (As := [vi y6, vi y8]) (st := [vr (some x0)]) 58 rfl (fun b10 => lkX7_aboutOf b10 y6 y8) mwX7_aboutOf rfl mlX7_115 dX7_digest_55 cfX7 ⟨by decide, by decide⟩ 0 0 ⟨rfl, rfl⟩ ⟨by decide, by decide⟩ (Nat.le_of_ble_eq_true rfl) (fun t9 => ?_)
            refine gg_i2l (S := sX7_digest) 59 rfl dX7_digest_58 ?_
            refine gg_callVv (S := sX7_digest) (S' := sX7_mix) (cs := 0) (sl := 0) (As := [vl t9]) (st := []) 62 rfl (fun b9 => lkX7_mix b9 t9) mwX7_mix rfl mlX7_312 dX7_digest_59 cfX7 ⟨by decide, by decide⟩ 0 0 ⟨rfl, rfl⟩ ⟨by decide, by decide⟩ (Nat.le_of_ble_eq_true rfl) (fun _ => ?_)
            refine gg_iinc (S := sX7_digest) (L' := [(2, vi (y8 + 1)), (0, vr (some x0)), (1, vi y6)]) 2 65 rfl dX7_digest_62 rfl (by decide) rfl ?_
            refine gg_goto (S := sX7_digest) (tgt := 46) dX7_digest_65 (by decide) ?_
            exact gg_pure (gg_sub [1, 2, 0] rfl (hr46 (y8 + 1)))
          · exact gg_pure (gg_sub [0, 1] rfl (he46 ()))
        · intro _
          refine gg_iconst (S := sX7_digest) 69 rfl dX7_digest_68 ?_
          refine gg_istore_n (S := sX7_digest) (L' := [(2, vi 0), (0, vr (some x0)), (1, vi y6)]) 70 rfl dX7_digest_69 rfl (by decide) rfl ?_
          refine gg_sub [1, 2, 0] rfl ?_
          refine gg_loopA (fun y12 => [(0, vr (some x0)), (1, vi y6), (2, vi y12)]) (fun _ => [(0, vr (some x0)), (1, vi y6)]) 102 mo_N ?_ ?_ 0
          · intro κ70 hr70 he70
            intro y12
            dsimp only [X7_digest_L70]
            refine gg_iload_n (S := sX7_digest) 2 71 rfl dX7_digest_70 rfl rfl ?_
            refine gg_aload_n (S := sX7_digest) 0 72 rfl dX7_digest_71 rfl rfl ?_
            refine gg_gr (S := sX7_digest) cfX7 (by decide) (fun _ _ => rfl) 75 rfl flX7_13 dX7_digest_72 (fun t13 => ?_)
            refine gg_iload_n (S := sX7_digest) 1 76 rfl dX7_digest_75 rfl rfl ?_
            refine gg_ld (S := sX7_digest) 77 rfl dX7_digest_76 (fun t14 => ?_)
            refine gg_ic_ge (S := sX7_digest) (tgt := 102) 80 rfl dX7_digest_77 (by decide) ?_ ?_
            · refine gg_aload_n (S := sX7_digest) 0 81 rfl dX7_digest_80 rfl rfl ?_
              refine gg_aload_n (S := sX7_digest) 0 82 rfl dX7_digest_81 rfl rfl ?_
              refine gg_gr (S := sX7_digest) cfX7 (by decide) (fun _ _ => rfl) 85 rfl flX7_16 dX7_digest_82 (fun t15 => ?_)
              refine gg_bipush (S := sX7_digest) 87 rfl dX7_digest_85 (by decide) ?_
              refine gg_iload_n (S := sX7_digest) 1 88 rfl dX7_digest_87 rfl rfl ?_
              refine gg_imul (S := sX7_digest) 89 rfl dX7_digest_88 ?_
              refine gg_iload_n (S := sX7_digest) 2 90 rfl dX7_digest_89 rfl rfl ?_
              refine gg_iadd (S := sX7_digest) 91 rfl dX7_digest_90 ?_
              refine gg_ld (S := sX7_digest) 92 rfl dX7_digest_91 (fun t16 => ?_)
              refine gg_i2l (S := sX7_digest) 93 rfl dX7_digest_92 ?_
              refine gg_callVv (S := sX7_digest) (S' := sX7_mix) (cs := 0) (sl := 0) (As := [vl t16]) (st := []) 96 rfl (fun b16 => lkX7_mix b16 t16) mwX7_mix rfl mlX7_312 dX7_digest_93 cfX7 ⟨by decide, by decide⟩ 0 0 ⟨rfl, rfl⟩ ⟨by decide, by decide⟩ (Nat.le_of_ble_eq_true rfl) (fun _ => ?_)
              refine gg_iinc (S := sX7_digest) (L' := [(2, vi (y12 + 1)), (0, vr (some x0)), (1, vi y6)]) 2 99 rfl dX7_digest_96 rfl (by decide) rfl ?_
              refine gg_goto (S := sX7_digest) (tgt := 70) dX7_digest_99 (by decide) ?_
              exact gg_pure (gg_sub [1, 2, 0] rfl (hr70 (y12 + 1)))
            · exact gg_pure (gg_sub [0, 1] rfl (he70 ()))
          · intro _
            refine gg_iinc (S := sX7_digest) (L' := [(1, vi (y6 + 1)), (0, vr (some x0))]) 1 105 rfl dX7_digest_102 rfl (by decide) rfl ?_
            refine gg_goto (S := sX7_digest) (tgt := 36) dX7_digest_105 (by decide) ?_
            exact gg_pure (gg_sub [1, 0] rfl (hr36 (y6 + 1)))
      · exact gg_pure (gg_sub [0] rfl (he36 ()))
    · intro _
      refine gg_iconst (S := sX7_digest) 109 rfl dX7_digest_108 ?_
      refine gg_istore_n (S := sX7_digest) (L' := [(1, vi 0), (0, vr (some x0))]) 110 rfl dX7_digest_109 rfl (by decide) rfl ?_
      refine gg_sub [1, 0] rfl ?_
      refine gg_loopA (fun y18 => [(0, vr (some x0)), (1, vi y18)]) (fun _ => [(0, vr (some x0))]) 129 mo_N ?_ ?_ 0
      · intro κ110 hr110 he110
        intro y18
        dsimp only [X7_digest_L110]
        refine gg_iload_n (S := sX7_digest) 1 111 rfl dX7_digest_110 rfl rfl ?_
        refine gg_aload_n (S := sX7_digest) 0 112 rfl dX7_digest_111 rfl rfl ?_
        refine gg_gi (S := sX7_digest) cfX7 (by decide) (fun _ _ => rfl) 115 rfl flX7_105 dX7_digest_112 (fun t19 => ?_)
        refine gg_ic_ge (S := sX7_digest) (tgt := 129) 118 rfl dX7_digest_115 (by decide) ?_ ?_
        · refine gg_aload_n (S := sX7_digest) 0 119 rfl dX7_digest_118 rfl rfl ?_
          refine gg_iload_n (S := sX7_digest) 1 120 rfl dX7_digest_119 rfl rfl ?_
          refine gg_callVv (S := sX7_digest) (S' := sX7_mixPatch) (cs := 0) (sl := 0) (As := [vi y18]) (st := []) 123 rfl (fun b19 => lkX7_mixPatch b19 y18) mwX7_mixPatch rfl mlX7_318 dX7_digest_120 cfX7 ⟨by decide, by decide⟩ 0 0 ⟨rfl, rfl⟩ ⟨by decide, by decide⟩ (Nat.le_of_ble_eq_true rfl) (fun _ => ?_)
          refine gg_iinc (S := sX7_digest) (L' := [(1, vi (y18 + 1)), (0, vr (some x0))]) 1 126 rfl dX7_digest_123 rfl (by decide) rfl ?_
          refine gg_goto (S := sX7_digest) (tgt := 110) dX7_digest_126 (by decide) ?_
          exact gg_pure (gg_sub [1, 0] rfl (hr110 (y18 + 1)))
        · exact gg_pure (gg_sub [0] rfl (he110 ()))
      · intro _
        refine gg_iconst (S := sX7_digest) 130 rfl dX7_digest_129 ?_
        refine gg_istore_n (S := sX7_digest) (L' := [(1, vi 0), (0, vr (some x0))]) 131 rfl dX7_digest_130 rfl (by decide) rfl ?_
        refine gg_sub [1, 0] rfl ?_
        refine gg_loopA (fun y21 => [(0, vr (some x0)), (1, vi y21)]) (fun _ => [(0, vr (some x0))]) 181 mo_N ?_ ?_ 0
        · intro κ131 hr131 he131
          intro y21
          dsimp only [X7_digest_L131]
          refine gg_iload_n (S := sX7_digest) 1 132 rfl dX7_digest_131 rfl rfl ?_
          refine gg_aload_n (S := sX7_digest) 0 133 rfl dX7_digest_132 rfl rfl ?_
          refine gg_gi (S := sX7_digest) cfX7 (by decide) (fun _ _ => rfl) 136 rfl flX7_97 dX7_digest_133 (fun t22 => ?_)
          refine gg_ic_ge (S := sX7_digest) (tgt := 181) 139 rfl dX7_digest_136 (by decide) ?_ ?_
          · refine gg_iconst (S := sX7_digest) 140 rfl dX7_digest_139 ?_
            refine gg_istore_n (S := sX7_digest) (L' := [(2, vi 0), (0, vr (some x0)), (1, vi y21)]) 141 rfl dX7_digest_140 rfl (by decide) rfl ?_
            refine gg_sub [1, 2, 0] rfl ?_
            refine gg_loopA (fun y23 => [(0, vr (some x0)), (1, vi y21), (2, vi y23)]) (fun _ => [(0, vr (some x0)), (1, vi y21)]) 175 mo_N ?_ ?_ 0
            · intro κ141 hr141 he141
              intro y23
              dsimp only [X7_digest_L141]
              refine gg_iload_n (S := sX7_digest) 2 142 rfl dX7_digest_141 rfl rfl ?_
              refine gg_aload_n (S := sX7_digest) 0 143 rfl dX7_digest_142 rfl rfl ?_
              refine gg_gi (S := sX7_digest) cfX7 (by decide) (fun _ _ => rfl) 146 rfl flX7_97 dX7_digest_143 (fun t24 => ?_)
              refine gg_ic_ge (S := sX7_digest) (tgt := 175) 149 rfl dX7_digest_146 (by decide) ?_ ?_
              · refine gg_iload_n (S := sX7_digest) 1 150 rfl dX7_digest_149 rfl rfl ?_
                refine gg_iload_n (S := sX7_digest) 2 151 rfl dX7_digest_150 rfl rfl ?_
                refine gg_join (fun _ => [(0, vr (some x0)), (1, vi y21), (2, vi y23)]) (fun _ => []) 169 0 0 (fun κ151 hJ151 => ?_) ?_
                · refine gg_ic_eq (S := sX7_digest) (tgt := 169) 154 rfl dX7_digest_151 (by decide) ?_ ?_
                  · exact gg_pure (gg_sub [0, 1, 2] rfl (hJ151 ()))
                  · refine gg_aload_n (S := sX7_digest) 0 155 rfl dX7_digest_154 rfl rfl ?_
                    refine gg_iload_n (S := sX7_digest) 1 156 rfl dX7_digest_155 rfl rfl ?_
                    refine gg_iload_n (S := sX7_digest) 2 157 rfl dX7_digest_156 rfl rfl ?_
                    refine gg_callVv (S := sX7_digest) (S' := sX7_layDifference) (cs := 0) (sl := 0) (As := [vi y21, vi y23]) (st := []) 160 rfl (fun b27 => lkX7_layDifference b27 y21 y23) mwX7_layDifference rfl mlX7_144 dX7_digest_157 cfX7 ⟨by decide, by decide⟩ 0 0 ⟨rfl, rfl⟩ ⟨by decide, by decide⟩ (Nat.le_of_ble_eq_true rfl) (fun _ => ?_)
                    refine gg_aload_n (S := sX7_digest) 0 161 rfl dX7_digest_160 rfl rfl ?_
                    refine gg_aload_n (S := sX7_digest) 0 162 rfl dX7_digest_161 rfl rfl ?_
                    refine gg_callVi (S := sX7_digest) (S' := sX7_workRoom) (cs := 0) (sl := 0) (As := []) (st := [vr (some x0)]) 165 rfl (fun b26 => lkX7_workRoom b26) mwX7_workRoom rfl mlX7_148 dX7_digest_162 cfX7 ⟨by decide, by decide⟩ 0 0 ⟨rfl, rfl⟩ ⟨by decide, by decide⟩ (Nat.le_of_ble_eq_true rfl) (fun t25 => ?_)
                    refine gg_i2l (S := sX7_digest) 166 rfl dX7_digest_165 ?_
                    refine gg_callVv (S := sX7_digest) (S' := sX7_mix) (cs := 0) (sl := 0) (As := [vl t25]) (st := []) 169 rfl (fun b25 => lkX7_mix b25 t25) mwX7_mix rfl mlX7_312 dX7_digest_166 cfX7 ⟨by decide, by decide⟩ 0 0 ⟨rfl, rfl⟩ ⟨by decide, by decide⟩ (Nat.le_of_ble_eq_true rfl) (fun _ => ?_)
                    exact gg_pure (gg_sub [0, 1, 2] rfl (hJ151 ()))
                · intro _
                  refine gg_iinc (S := sX7_digest) (L' := [(2, vi (y23 + 1)), (0, vr (some x0)), (1, vi y21)]) 2 172 rfl dX7_digest_169 rfl (by decide) rfl ?_
                  refine gg_goto (S := sX7_digest) (tgt := 141) dX7_digest_172 (by decide) ?_
                  exact gg_pure (gg_sub [1, 2, 0] rfl (hr141 (y23 + 1)))
              · exact gg_pure (gg_sub [0, 1] rfl (he141 ()))
            · intro _
              refine gg_iinc (S := sX7_digest) (L' := [(1, vi (y21 + 1)), (0, vr (some x0))]) 1 178 rfl dX7_digest_175 rfl (by decide) rfl ?_
              refine gg_goto (S := sX7_digest) (tgt := 131) dX7_digest_178 (by decide) ?_
              exact gg_pure (gg_sub [1, 0] rfl (hr131 (y21 + 1)))
          · exact gg_pure (gg_sub [0] rfl (he131 ()))
        · intro _
          refine gg_iconst (S := sX7_digest) 182 rfl dX7_digest_181 ?_
          refine gg_istore_n (S := sX7_digest) (L' := [(1, vi 0), (0, vr (some x0))]) 183 rfl dX7_digest_182 rfl (by decide) rfl ?_
          refine gg_sub [1, 0] rfl ?_
          refine gg_loopA (fun y29 => [(0, vr (some x0)), (1, vi y29)]) (fun _ => [(0, vr (some x0))]) 204 mo_N ?_ ?_ 0
          · intro κ183 hr183 he183
            intro y29
            dsimp only [X7_digest_L183]
            refine gg_iload_n (S := sX7_digest) 1 184 rfl dX7_digest_183 rfl rfl ?_
            refine gg_iconst (S := sX7_digest) 185 rfl dX7_digest_184 ?_
            refine gg_ic_ge (S := sX7_digest) (tgt := 204) 188 rfl dX7_digest_185 (by decide) ?_ ?_
            · refine gg_aload_n (S := sX7_digest) 0 189 rfl dX7_digest_188 rfl rfl ?_
              refine gg_aload_n (S := sX7_digest) 0 190 rfl dX7_digest_189 rfl rfl ?_
              refine gg_iload_n (S := sX7_digest) 1 191 rfl dX7_digest_190 rfl rfl ?_
              refine gg_callVi (S := sX7_digest) (S' := sX7_howMany) (cs := 0) (sl := 0) (As := [vi y29]) (st := [vr (some x0)]) 194 rfl (fun b31 => lkX7_howMany b31 y29) mwX7_howMany rfl mlX7_304 dX7_digest_191 cfX7 ⟨by decide, by decide⟩ 0 0 ⟨rfl, rfl⟩ ⟨by decide, by decide⟩ (Nat.le_of_ble_eq_true rfl) (fun t30 => ?_)
              refine gg_i2l (S := sX7_digest) 195 rfl dX7_digest_194 ?_
              refine gg_callVv (S := sX7_digest) (S' := sX7_mix) (cs := 0) (sl := 0) (As := [vl t30]) (st := []) 198 rfl (fun b30 => lkX7_mix b30 t30) mwX7_mix rfl mlX7_312 dX7_digest_195 cfX7 ⟨by decide, by decide⟩ 0 0 ⟨rfl, rfl⟩ ⟨by decide, by decide⟩ (Nat.le_of_ble_eq_true rfl) (fun _ => ?_)
              refine gg_iinc (S := sX7_digest) (L' := [(1, vi (y29 + 1)), (0, vr (some x0))]) 1 201 rfl dX7_digest_198 rfl (by decide) rfl ?_
              refine gg_goto (S := sX7_digest) (tgt := 183) dX7_digest_201 (by decide) ?_
              exact gg_pure (gg_sub [1, 0] rfl (hr183 (y29 + 1)))
            · exact gg_pure (gg_sub [0] rfl (he183 ()))
          · intro _
            refine gg_aload_n (S := sX7_digest) 0 205 rfl dX7_digest_204 rfl rfl ?_
            refine gg_gl (S := sX7_digest) cfX7 (by decide) (fun _ _ => rfl) 208 rfl flX7_309 dX7_digest_205 (fun t33 => ?_)
            exact gg_pure (gg_lret (S := sX7_digest) rfl dX7_digest_208 (by decide) (by decide))

set_option maxRecDepth 100000 in
set_option maxHeartbeats 4000000 in
theorem lkX7_drop (x0 : Nat) (x1 : Int) : LK yX7_drop sX7_drop [vr (some x0), vi x1] en_i (X7_drop x0 x1) := by
  refine lk_go (L := [(0, vr (some x0)), (1, vi x1)]) (by decide +kernel) rfl (fun h => by cases h) (Nat.le_of_ble_eq_true rfl) rfl ?_
  intro K
  unfold X7_drop
  refine gg_iload_n (S := sX7_drop) 1 1 rfl dX7_drop_0 rfl rfl ?_
  refine gg_iconst (S := sX7_drop) 2 rfl dX7_drop_1 ?_
  refine gg_aload_n (S := sX7_drop) 0 3 rfl dX7_drop_2 rfl rfl ?_
  refine gg_gi (S := sX7_drop) cfX7 (by decide) (fun _ _ => rfl) 6 rfl flX7_108 dX7_drop_3 (fun t1 => ?_)
  refine gg_iconst (S := sX7_drop) 7 rfl dX7_drop_6 ?_
  refine gg_isub (S := sX7_drop) 8 rfl dX7_drop_7 ?_
  refine gg_callSi (S := sX7_drop) (S' := sX7_within) (cs := 0) (sl := 0) (As := [vi x1, vi 0, vi (t1 - 1)]) (st := []) 11 rfl (lkX7_within x1 0 (t1 - 1)) mwX7_within rfl mlX7_101 dX7_drop_8 ⟨by decide, by decide⟩ 0 0 ⟨rfl, rfl⟩ ⟨by decide, by decide⟩ (Nat.le_of_ble_eq_true rfl) (fun t2 => ?_)
  refine gg_if_ne (S := sX7_drop) (tgt := 17) 14 rfl dX7_drop_11 (by decide) ?_ ?_
  · refine gg_bipush (S := sX7_drop) 16 rfl dX7_drop_14 (by decide) ?_
    exact gg_pure (gg_iret (S := sX7_drop) rfl dX7_drop_16 (by decide) (by decide))
  · refine gg_aload_n (S := sX7_drop) 0 18 rfl dX7_drop_17 rfl rfl ?_
    refine gg_gr (S := sX7_drop) cfX7 (by decide) (fun _ _ => rfl) 21 rfl flX7_7 dX7_drop_18 (fun t3 => ?_)
    refine gg_iload_n (S := sX7_drop) 1 22 rfl dX7_drop_21 rfl rfl ?_
    refine gg_ld (S := sX7_drop) 23 rfl dX7_drop_22 (fun t4 => ?_)
    refine gg_istore_n (S := sX7_drop) (L' := [(2, vi t4), (0, vr (some x0)), (1, vi x1)]) 24 rfl dX7_drop_23 rfl (by decide) rfl ?_
    refine gg_aload_n (S := sX7_drop) 1 25 rfl dX7_drop_24 rfl rfl ?_
    refine gg_dup (S := sX7_drop) 26 rfl dX7_drop_25 rfl ?_
    refine gg_gi (S := sX7_drop) cfX7 (by decide) (fun _ _ => rfl) 29 rfl flX7_108 dX7_drop_26 (fun t5 => ?_)
    refine gg_iconst (S := sX7_drop) 30 rfl dX7_drop_29 ?_
    refine gg_isub (S := sX7_drop) 31 rfl dX7_drop_30 ?_
    refine gg_si (S := sX7_drop) cfX7 (by decide) rfl (fun _ _ => rfl) rfl 34 rfl flX7_108 dX7_drop_31 ?_
    refine gg_iload_n (S := sX7_drop) 2 35 rfl dX7_drop_34 rfl rfl ?_
    refine gg_istore_n (S := sX7_drop) (L' := [(3, vi x1), (2, vi t4), (0, vr (some x0)), (1, vi x1)]) 36 rfl dX7_drop_35 rfl (by decide) rfl ?_
    refine gg_sub [2, 1, 0] rfl ?_
    refine gg_loopA (fun y6 => [(0, vr (some x0)), (2, vi t4), (3, vi y6)]) (fun _ => [(2, vi t4)]) 64 mo_N ?_ ?_ x1
    · intro κ36 hr36 he36
      intro y6
      dsimp only [X7_drop_L36]
      refine gg_iload_n (S := sX7_drop) 2 37 rfl dX7_drop_36 rfl rfl ?_
      refine gg_aload_n (S := sX7_drop) 0 38 rfl dX7_drop_37 rfl rfl ?_
      refine gg_gi (S := sX7_drop) cfX7 (by decide) (fun _ _ => rfl) 41 rfl flX7_108 dX7_drop_38 (fun t7 => ?_)
      refine gg_ic_ge (S := sX7_drop) (tgt := 64) 44 rfl dX7_drop_41 (by decide) ?_ ?_
      · refine gg_aload_n (S := sX7_drop) 0 45 rfl dX7_drop_44 rfl rfl ?_
        refine gg_gr (S := sX7_drop) cfX7 (by decide) (fun _ _ => rfl) 48 rfl flX7_7 dX7_drop_45 (fun t8 => ?_)
        refine gg_iload_n (S := sX7_drop) 2 49 rfl dX7_drop_48 rfl rfl ?_
        refine gg_aload_n (S := sX7_drop) 0 50 rfl dX7_drop_49 rfl rfl ?_
        refine gg_gr (S := sX7_drop) cfX7 (by decide) (fun _ _ => rfl) 53 rfl flX7_7 dX7_drop_50 (fun t9 => ?_)
        refine gg_iload_n (S := sX7_drop) 2 54 rfl dX7_drop_53 rfl rfl ?_
        refine gg_iconst (S := sX7_drop) 55 rfl dX7_drop_54 ?_
        refine gg_iadd (S := sX7_drop) 56 rfl dX7_drop_55 ?_
        refine gg_ld (S := sX7_drop) 57 rfl dX7_drop_56 (fun t10 => ?_)
        refine gg_st (S := sX7_drop) 58 rfl dX7_drop_57 ?_
        refine gg_iinc (S := sX7_drop) (L' := [(3, vi (y6 + 1)), (0, vr (some x0)), (2, vi t4)]) 2 61 rfl dX7_drop_58 rfl (by decide) rfl ?_
        refine gg_goto (S := sX7_drop) (tgt := 36) dX7_drop_61 (by decide) ?_
        exact gg_pure (gg_sub [1, 2, 0] rfl (hr36 (y6 + 1)))
      · exact gg_pure (gg_sub [1] rfl (he36 ()))
    · intro _
      refine gg_iload_n (S := sX7_drop) 0 65 rfl dX7_drop_64 rfl rfl ?_
      exact gg_pure (gg_iret (S := sX7_drop) rfl dX7_drop_65 (by decide) (by decide))

set_option maxRecDepth 100000 in
set_option maxHeartbeats 4000000 in
theorem lkX7_stands (x0 : Nat) (x1 : Int) (x2 : Int) (x3 : Int) (x4 : Int) : LK yX7_stands sX7_stands [vr (some x0), vi x1, vi x2, vi x3, vi x4] en_i (X7_stands x0 x1 x2 x3 x4) := by
  refine lk_go (L := [(0, vr (some x0)), (1, vi x1), (2, vi x2), (3, vi x3), (4, vi x4)]) (by decide +kernel) rfl (fun h => by cases h) (Nat.le_of_ble_eq_true rfl) rfl ?_
  intro K
  unfold X7_stands
  refine gg_aload_n (S := sX7_stands) 0 1 rfl dX7_stands_0 rfl rfl ?_
  refine gg_gr (S := sX7_stands) cfX7 (by decide) (fun _ _ => rfl) 4 rfl flX7_34 dX7_stands_1 (fun t1 => ?_)
  refine gg_bipush (S := sX7_stands) 6 rfl dX7_stands_4 (by decide) ?_
  refine gg_iload_n (S := sX7_stands) 1 7 rfl dX7_stands_6 rfl rfl ?_
  refine gg_imul (S := sX7_stands) 8 rfl dX7_stands_7 ?_
  refine gg_iload_n (S := sX7_stands) 2 9 rfl dX7_stands_8 rfl rfl ?_
  refine gg_iadd (S := sX7_stands) 10 rfl dX7_stands_9 ?_
  refine gg_ld (S := sX7_stands) 11 rfl dX7_stands_10 (fun t2 => ?_)
  refine gg_istore (S := sX7_stands) (L' := [(5, vi t2), (0, vr (some x0)), (1, vi x1), (2, vi x2), (3, vi x3), (4, vi x4)]) 13 rfl dX7_stands_11 (by decide) rfl ?_
  refine gg_iload_n (S := sX7_stands) 4 14 rfl dX7_stands_13 rfl rfl ?_
  refine gg_join (fun t3 => [(0, vr (some x0)), (1, vi x1), (2, vi x2), (3, vi x3), (5, vi t2)]) (fun t3 => [vi t3]) 31 0 0 (fun κ14 hJ14 => ?_) ?_
  · refine gg_if_lt (S := sX7_stands) (tgt := 30) 17 rfl dX7_stands_14 (by decide) ?_ ?_
    · refine gg_iconst (S := sX7_stands) 31 rfl dX7_stands_30 ?_
      exact gg_pure (gg_sub [1, 2, 3, 4, 0] rfl (hJ14 0))
    · refine gg_iload_n (S := sX7_stands) 4 18 rfl dX7_stands_17 rfl rfl ?_
      refine gg_iload (S := sX7_stands) 0 20 rfl dX7_stands_18 rfl ?_
      refine gg_iadd (S := sX7_stands) 21 rfl dX7_stands_20 ?_
      refine gg_iload (S := sX7_stands) 5 23 rfl dX7_stands_21 rfl ?_
      refine gg_ic_gt (S := sX7_stands) (tgt := 30) 26 rfl dX7_stands_23 (by decide) ?_ ?_
      · refine gg_iconst (S := sX7_stands) 27 rfl dX7_stands_26 ?_
        refine gg_goto (S := sX7_stands) (tgt := 31) dX7_stands_27 (by decide) ?_
        exact gg_pure (gg_sub [1, 2, 3, 4, 0] rfl (hJ14 1))
      · refine gg_iconst (S := sX7_stands) 31 rfl dX7_stands_30 ?_
        exact gg_pure (gg_sub [1, 2, 3, 4, 0] rfl (hJ14 0))
  · intro t3
    refine gg_istore (S := sX7_stands) (L' := [(6, vi t3), (0, vr (some x0)), (1, vi x1), (2, vi x2), (3, vi x3), (5, vi t2)]) 33 rfl dX7_stands_31 (by decide) rfl ?_
    refine gg_iconst (S := sX7_stands) 34 rfl dX7_stands_33 ?_
    refine gg_istore (S := sX7_stands) (L' := [(7, vi 0), (6, vi t3), (0, vr (some x0)), (1, vi x1), (2, vi x2), (3, vi x3), (5, vi t2)]) 36 rfl dX7_stands_34 (by decide) rfl ?_
    refine gg_sub [2, 3, 4, 5, 6, 1, 0] rfl ?_
    refine gg_loopA (fun (y4, y5) => [(0, vr (some x0)), (1, vi x1), (2, vi x2), (3, vi x3), (5, vi t2), (6, vi y4), (7, vi y5)]) (fun t13 => [(6, vi t13)]) 87 mo_N ?_ ?_ (t3, 0)
    · intro κ36 hr36 he36
      rintro ⟨y4, y5⟩
      dsimp only [X7_stands_L36]
      refine gg_iload (S := sX7_stands) 6 38 rfl dX7_stands_36 rfl ?_
      refine gg_iload (S := sX7_stands) 4 40 rfl dX7_stands_38 rfl ?_
      refine gg_ic_ge (S := sX7_stands) (tgt := 87) 43 rfl dX7_stands_40 (by decide) ?_ ?_
      · refine gg_iload (S := sX7_stands) 5 45 rfl dX7_stands_43 rfl ?_
        refine gg_if_eq (S := sX7_stands) (tgt := 87) 48 rfl dX7_stands_45 (by decide) ?_ ?_
        · exact gg_pure (gg_sub [5] rfl (he36 y4))
        · refine gg_aload_n (S := sX7_stands) 0 49 rfl dX7_stands_48 rfl rfl ?_
          refine gg_gr (S := sX7_stands) cfX7 (by decide) (fun _ _ => rfl) 52 rfl flX7_67 dX7_stands_49 (fun t6 => ?_)
          refine gg_iload_n (S := sX7_stands) 3 53 rfl dX7_stands_52 rfl rfl ?_
          refine gg_iload (S := sX7_stands) 6 55 rfl dX7_stands_53 rfl ?_
          refine gg_iadd (S := sX7_stands) 56 rfl dX7_stands_55 ?_
          refine gg_ld (S := sX7_stands) 57 rfl dX7_stands_56 (fun t7 => ?_)
          refine gg_aload_n (S := sX7_stands) 0 58 rfl dX7_stands_57 rfl rfl ?_
          refine gg_gr (S := sX7_stands) cfX7 (by decide) (fun _ _ => rfl) 61 rfl flX7_40 dX7_stands_58 (fun t8 => ?_)
          refine gg_aload_n (S := sX7_stands) 0 62 rfl dX7_stands_61 rfl rfl ?_
          refine gg_iload_n (S := sX7_stands) 1 63 rfl dX7_stands_62 rfl rfl ?_
          refine gg_iload_n (S := sX7_stands) 2 64 rfl dX7_stands_63 rfl rfl ?_
          refine gg_callVi (S := sX7_stands) (S' := sX7_goFrom) (cs := 0) (sl := 0) (As := [vi x1, vi x2]) (st := [vr t8, vi t7]) 67 rfl (fun b11 => lkX7_goFrom b11 x1 x2) mwX7_goFrom rfl mlX7_168 dX7_stands_64 cfX7 ⟨by decide, by decide⟩ 0 0 ⟨rfl, rfl⟩ ⟨by decide, by decide⟩ (Nat.le_of_ble_eq_true rfl) (fun t9 => ?_)
          refine gg_iload (S := sX7_stands) 6 69 rfl dX7_stands_67 rfl ?_
          refine gg_iadd (S := sX7_stands) 70 rfl dX7_stands_69 ?_
          refine gg_ld (S := sX7_stands) 71 rfl dX7_stands_70 (fun t10 => ?_)
          refine gg_join (fun t11 => [(0, vr (some x0)), (1, vi x1), (2, vi x2), (3, vi x3), (5, vi t2), (7, vi y5)]) (fun t11 => [vi t11]) 79 0 0 (fun κ71 hJ71 => ?_) ?_
          · refine gg_ic_ne (S := sX7_stands) (tgt := 78) 74 rfl dX7_stands_71 (by decide) ?_ ?_
            · refine gg_iconst (S := sX7_stands) 75 rfl dX7_stands_74 ?_
              refine gg_goto (S := sX7_stands) (tgt := 79) dX7_stands_75 (by decide) ?_
              exact gg_pure (gg_sub [0, 1, 2, 3, 4, 6] rfl (hJ71 1))
            · refine gg_iconst (S := sX7_stands) 79 rfl dX7_stands_78 ?_
              exact gg_pure (gg_sub [0, 1, 2, 3, 4, 6] rfl (hJ71 0))
          · intro t11
            refine gg_istore (S := sX7_stands) (L' := [(6, vi t11), (0, vr (some x0)), (1, vi x1), (2, vi x2), (3, vi x3), (5, vi t2), (7, vi y5)]) 81 rfl dX7_stands_79 (by decide) rfl ?_
            refine gg_iinc (S := sX7_stands) (L' := [(7, vi (y5 + 1)), (6, vi t11), (0, vr (some x0)), (1, vi x1), (2, vi x2), (3, vi x3), (5, vi t2)]) 6 84 rfl dX7_stands_81 rfl (by decide) rfl ?_
            refine gg_goto (S := sX7_stands) (tgt := 36) dX7_stands_84 (by decide) ?_
            exact gg_pure (gg_sub [2, 3, 4, 5, 6, 1, 0] rfl (hr36 (t11, (y5 + 1))))
      · exact gg_pure (gg_sub [5] rfl (he36 y4))
    · intro t13
      refine gg_iload (S := sX7_stands) 0 89 rfl dX7_stands_87 rfl ?_
      exact gg_zret (S := sX7_stands) (fun _ => rfl) rfl dX7_stands_89 (by decide) (by decide)

set_option maxRecDepth 100000 in
set_option maxHeartbeats 4000000 in
theorem lkX7_fitsWork (x0 : Nat) (x1 : Int) : LK yX7_fitsWork sX7_fitsWork [vr (some x0), vi x1] en_i (X7_fitsWork x0 x1) := by
  refine lk_go (L := [(0, vr (some x0)), (1, vi x1)]) (by decide +kernel) rfl (fun h => by cases h) (Nat.le_of_ble_eq_true rfl) rfl ?_
  intro K
  unfold X7_fitsWork
  refine gg_iconst (S := sX7_fitsWork) 1 rfl dX7_fitsWork_0 ?_
  refine gg_istore_n (S := sX7_fitsWork) (L' := [(2, vi 1), (0, vr (some x0)), (1, vi x1)]) 2 rfl dX7_fitsWork_1 rfl (by decide) rfl ?_
  refine gg_iconst (S := sX7_fitsWork) 3 rfl dX7_fitsWork_2 ?_
  refine gg_istore_n (S := sX7_fitsWork) (L' := [(3, vi 0), (2, vi 1), (0, vr (some x0)), (1, vi x1)]) 4 rfl dX7_fitsWork_3 rfl (by decide) rfl ?_
  refine gg_sub [2, 3, 1, 0] rfl ?_
  refine gg_loopA (fun (y1, y2) => [(0, vr (some x0)), (1, vi x1), (2, vi y1), (3, vi y2)]) (fun t10 => [(2, vi t10)]) 46 mo_N ?_ ?_ (1, 0)
  · intro κ4 hr4 he4
    rintro ⟨y1, y2⟩
    dsimp only [X7_fitsWork_L4]
    refine gg_iload_n (S := sX7_fitsWork) 3 5 rfl dX7_fitsWork_4 rfl rfl ?_
    refine gg_aload_n (S := sX7_fitsWork) 0 6 rfl dX7_fitsWork_5 rfl rfl ?_
    refine gg_gr (S := sX7_fitsWork) cfX7 (by decide) (fun _ _ => rfl) 9 rfl flX7_28 dX7_fitsWork_6 (fun t3 => ?_)
    refine gg_iload_n (S := sX7_fitsWork) 1 10 rfl dX7_fitsWork_9 rfl rfl ?_
    refine gg_ld (S := sX7_fitsWork) 11 rfl dX7_fitsWork_10 (fun t4 => ?_)
    refine gg_ic_ge (S := sX7_fitsWork) (tgt := 46) 14 rfl dX7_fitsWork_11 (by decide) ?_ ?_
    · refine gg_iload_n (S := sX7_fitsWork) 2 15 rfl dX7_fitsWork_14 rfl rfl ?_
      refine gg_if_eq (S := sX7_fitsWork) (tgt := 46) 18 rfl dX7_fitsWork_15 (by decide) ?_ ?_
      · exact gg_pure (gg_sub [2] rfl (he4 y1))
      · refine gg_aload_n (S := sX7_fitsWork) 0 19 rfl dX7_fitsWork_18 rfl rfl ?_
        refine gg_iload_n (S := sX7_fitsWork) 1 20 rfl dX7_fitsWork_19 rfl rfl ?_
        refine gg_iload_n (S := sX7_fitsWork) 3 21 rfl dX7_fitsWork_20 rfl rfl ?_
        refine gg_aload_n (S := sX7_fitsWork) 0 22 rfl dX7_fitsWork_21 rfl rfl ?_
        refine gg_gr (S := sX7_fitsWork) cfX7 (by decide) (fun _ _ => rfl) 25 rfl flX7_31 dX7_fitsWork_22 (fun t5 => ?_)
        refine gg_bipush (S := sX7_fitsWork) 27 rfl dX7_fitsWork_25 (by decide) ?_
        refine gg_iload_n (S := sX7_fitsWork) 1 28 rfl dX7_fitsWork_27 rfl rfl ?_
        refine gg_imul (S := sX7_fitsWork) 29 rfl dX7_fitsWork_28 ?_
        refine gg_iload_n (S := sX7_fitsWork) 3 30 rfl dX7_fitsWork_29 rfl rfl ?_
        refine gg_iadd (S := sX7_fitsWork) 31 rfl dX7_fitsWork_30 ?_
        refine gg_ld (S := sX7_fitsWork) 32 rfl dX7_fitsWork_31 (fun t6 => ?_)
        refine gg_aload_n (S := sX7_fitsWork) 0 33 rfl dX7_fitsWork_32 rfl rfl ?_
        refine gg_gi (S := sX7_fitsWork) cfX7 (by decide) (fun _ _ => rfl) 36 rfl flX7_178 dX7_fitsWork_33 (fun t7 => ?_)
        refine gg_callVi (S := sX7_fitsWork) (S' := sX7_stands) (cs := 0) (sl := 0) (As := [vi x1, vi y2, vi t6, vi t7]) (st := []) 39 rfl (fun b8 => lkX7_stands b8 x1 y2 t6 t7) mwX7_stands rfl mlX7_181 dX7_fitsWork_36 cfX7 ⟨by decide, by decide⟩ 0 0 ⟨rfl, rfl⟩ ⟨by decide, by decide⟩ (Nat.le_of_ble_eq_true rfl) (fun t8 => ?_)
        refine gg_istore_n (S := sX7_fitsWork) (L' := [(2, vi t8), (0, vr (some x0)), (1, vi x1), (3, vi y2)]) 40 rfl dX7_fitsWork_39 rfl (by decide) rfl ?_
        refine gg_iinc (S := sX7_fitsWork) (L' := [(3, vi (y2 + 1)), (2, vi t8), (0, vr (some x0)), (1, vi x1)]) 3 43 rfl dX7_fitsWork_40 rfl (by decide) rfl ?_
        refine gg_goto (S := sX7_fitsWork) (tgt := 4) dX7_fitsWork_43 (by decide) ?_
        exact gg_pure (gg_sub [2, 3, 1, 0] rfl (hr4 (t8, (y2 + 1))))
    · exact gg_pure (gg_sub [2] rfl (he4 y1))
  · intro t10
    refine gg_iload_n (S := sX7_fitsWork) 0 47 rfl dX7_fitsWork_46 rfl rfl ?_
    exact gg_zret (S := sX7_fitsWork) (fun _ => rfl) rfl dX7_fitsWork_47 (by decide) (by decide)

set_option maxRecDepth 100000 in
set_option maxHeartbeats 4000000 in
theorem lkX7_isPatch (x0 : Nat) (x1 : Int) : LK yX7_isPatch sX7_isPatch [vr (some x0), vi x1] en_i (X7_isPatch x0 x1) := by
  refine lk_go (L := [(0, vr (some x0)), (1, vi x1)]) (by decide +kernel) rfl (fun h => by cases h) (Nat.le_of_ble_eq_true rfl) rfl ?_
  intro K
  unfold X7_isPatch
  refine gg_iload_n (S := sX7_isPatch) 1 1 rfl dX7_isPatch_0 rfl rfl ?_
  refine gg_iconst (S := sX7_isPatch) 2 rfl dX7_isPatch_1 ?_
  refine gg_aload_n (S := sX7_isPatch) 0 3 rfl dX7_isPatch_2 rfl rfl ?_
  refine gg_gi (S := sX7_isPatch) cfX7 (by decide) (fun _ _ => rfl) 6 rfl flX7_105 dX7_isPatch_3 (fun t1 => ?_)
  refine gg_iconst (S := sX7_isPatch) 7 rfl dX7_isPatch_6 ?_
  refine gg_isub (S := sX7_isPatch) 8 rfl dX7_isPatch_7 ?_
  refine gg_callSi (S := sX7_isPatch) (S' := sX7_within) (cs := 0) (sl := 0) (As := [vi x1, vi 0, vi (t1 - 1)]) (st := []) 11 rfl (lkX7_within x1 0 (t1 - 1)) mwX7_within rfl mlX7_101 dX7_isPatch_8 ⟨by decide, by decide⟩ 0 0 ⟨rfl, rfl⟩ ⟨by decide, by decide⟩ (Nat.le_of_ble_eq_true rfl) (fun t2 => ?_)
  exact gg_zret (S := sX7_isPatch) (fun _ => rfl) rfl dX7_isPatch_11 (by decide) (by decide)

set_option maxRecDepth 100000 in
set_option maxHeartbeats 4000000 in
theorem lkX7_workOnDesk (x0 : Nat) : LK yX7_workOnDesk sX7_workOnDesk [vr (some x0)] en_v (X7_workOnDesk x0) := by
  refine lk_go (L := [(0, vr (some x0))]) (by decide +kernel) rfl (fun h => by cases h) (Nat.le_of_ble_eq_true rfl) rfl ?_
  intro K
  unfold X7_workOnDesk
  refine gg_aload_n (S := sX7_workOnDesk) 0 1 rfl dX7_workOnDesk_0 rfl rfl ?_
  refine gg_aload_n (S := sX7_workOnDesk) 0 2 rfl dX7_workOnDesk_1 rfl rfl ?_
  refine gg_gi (S := sX7_workOnDesk) cfX7 (by decide) (fun _ _ => rfl) 5 rfl flX7_108 dX7_workOnDesk_2 (fun t1 => ?_)
  refine gg_si (S := sX7_workOnDesk) cfX7 (by decide) rfl (fun _ _ => rfl) rfl 8 rfl flX7_178 dX7_workOnDesk_5 ?_
  refine gg_iconst (S := sX7_workOnDesk) 9 rfl dX7_workOnDesk_8 ?_
  refine gg_istore_n (S := sX7_workOnDesk) (L' := [(1, vi 0), (0, vr (some x0))]) 10 rfl dX7_workOnDesk_9 rfl (by decide) rfl ?_
  refine gg_sub [1, 0] rfl ?_
  refine gg_loopA (fun y2 => [(0, vr (some x0)), (1, vi y2)]) (fun _ => []) 36 mo_N ?_ ?_ 0
  · intro κ10 hr10 he10
    intro y2
    dsimp only [X7_workOnDesk_L10]
    refine gg_iload_n (S := sX7_workOnDesk) 1 11 rfl dX7_workOnDesk_10 rfl rfl ?_
    refine gg_aload_n (S := sX7_workOnDesk) 0 12 rfl dX7_workOnDesk_11 rfl rfl ?_
    refine gg_gi (S := sX7_workOnDesk) cfX7 (by decide) (fun _ _ => rfl) 15 rfl flX7_108 dX7_workOnDesk_12 (fun t3 => ?_)
    refine gg_ic_ge (S := sX7_workOnDesk) (tgt := 36) 18 rfl dX7_workOnDesk_15 (by decide) ?_ ?_
    · refine gg_aload_n (S := sX7_workOnDesk) 0 19 rfl dX7_workOnDesk_18 rfl rfl ?_
      refine gg_gr (S := sX7_workOnDesk) cfX7 (by decide) (fun _ _ => rfl) 22 rfl flX7_67 dX7_workOnDesk_19 (fun t4 => ?_)
      refine gg_iload_n (S := sX7_workOnDesk) 1 23 rfl dX7_workOnDesk_22 rfl rfl ?_
      refine gg_aload_n (S := sX7_workOnDesk) 0 24 rfl dX7_workOnDesk_23 rfl rfl ?_
      refine gg_gr (S := sX7_workOnDesk) cfX7 (by decide) (fun _ _ => rfl) 27 rfl flX7_7 dX7_workOnDesk_24 (fun t5 => ?_)
      refine gg_iload_n (S := sX7_workOnDesk) 1 28 rfl dX7_workOnDesk_27 rfl rfl ?_
      refine gg_ld (S := sX7_workOnDesk) 29 rfl dX7_workOnDesk_28 (fun t6 => ?_)
      refine gg_st (S := sX7_workOnDesk) 30 rfl dX7_workOnDesk_29 ?_
      refine gg_iinc (S := sX7_workOnDesk) (L' := [(1, vi (y2 + 1)), (0, vr (some x0))]) 1 33 rfl dX7_workOnDesk_30 rfl (by decide) rfl ?_
      refine gg_goto (S := sX7_workOnDesk) (tgt := 10) dX7_workOnDesk_33 (by decide) ?_
      exact gg_pure (gg_sub [1, 0] rfl (hr10 (y2 + 1)))
    · exact gg_pure (gg_sub [] rfl (he10 ()))
  · intro _
    exact gg_pure (gg_vret (S := sX7_workOnDesk) rfl dX7_workOnDesk_36 (by decide) (by decide))

set_option maxRecDepth 100000 in
set_option maxHeartbeats 4000000 in
theorem lkX7_fits (x0 : Nat) (x1 : Int) : LK yX7_fits sX7_fits [vr (some x0), vi x1] en_i (X7_fits x0 x1) := by
  refine lk_go (L := [(0, vr (some x0)), (1, vi x1)]) (by decide +kernel) rfl (fun h => by cases h) (Nat.le_of_ble_eq_true rfl) rfl ?_
  intro K
  unfold X7_fits
  refine gg_aload_n (S := sX7_fits) 0 1 rfl dX7_fits_0 rfl rfl ?_
  refine gg_iload_n (S := sX7_fits) 1 2 rfl dX7_fits_1 rfl rfl ?_
  refine gg_callVi (S := sX7_fits) (S' := sX7_isPatch) (cs := 0) (sl := 0) (As := [vi x1]) (st := []) 5 rfl (fun b4 => lkX7_isPatch b4 x1) mwX7_isPatch rfl mlX7_155 dX7_fits_2 cfX7 ⟨by decide, by decide⟩ 0 0 ⟨rfl, rfl⟩ ⟨by decide, by decide⟩ (Nat.le_of_ble_eq_true rfl) (fun t1 => ?_)
  refine gg_if_ne (S := sX7_fits) (tgt := 11) 8 rfl dX7_fits_5 (by decide) ?_ ?_
  · refine gg_bipush (S := sX7_fits) 10 rfl dX7_fits_8 (by decide) ?_
    exact gg_pure (gg_iret (S := sX7_fits) rfl dX7_fits_10 (by decide) (by decide))
  · refine gg_aload_n (S := sX7_fits) 0 12 rfl dX7_fits_11 rfl rfl ?_
    refine gg_callVv (S := sX7_fits) (S' := sX7_workOnDesk) (cs := 0) (sl := 0) (As := []) (st := []) 15 rfl (fun b3 => lkX7_workOnDesk b3) mwX7_workOnDesk rfl mlX7_185 dX7_fits_12 cfX7 ⟨by decide, by decide⟩ 0 0 ⟨rfl, rfl⟩ ⟨by decide, by decide⟩ (Nat.le_of_ble_eq_true rfl) (fun _ => ?_)
    refine gg_aload_n (S := sX7_fits) 0 16 rfl dX7_fits_15 rfl rfl ?_
    refine gg_iload_n (S := sX7_fits) 1 17 rfl dX7_fits_16 rfl rfl ?_
    refine gg_callVi (S := sX7_fits) (S' := sX7_fitsWork) (cs := 0) (sl := 0) (As := [vi x1]) (st := []) 20 rfl (fun b2 => lkX7_fitsWork b2 x1) mwX7_fitsWork rfl mlX7_188 dX7_fits_17 cfX7 ⟨by decide, by decide⟩ 0 0 ⟨rfl, rfl⟩ ⟨by decide, by decide⟩ (Nat.le_of_ble_eq_true rfl) (fun t2 => ?_)
    refine gg_if_eq (S := sX7_fits) (tgt := 27) 23 rfl dX7_fits_20 (by decide) ?_ ?_
    · refine gg_iconst (S := sX7_fits) 28 rfl dX7_fits_27 ?_
      exact gg_pure (gg_iret (S := sX7_fits) rfl dX7_fits_28 (by decide) (by decide))
    · refine gg_iconst (S := sX7_fits) 24 rfl dX7_fits_23 ?_
      refine gg_goto (S := sX7_fits) (tgt := 28) dX7_fits_24 (by decide) ?_
      exact gg_pure (gg_iret (S := sX7_fits) rfl dX7_fits_28 (by decide) (by decide))

set_option maxRecDepth 100000 in
set_option maxHeartbeats 4000000 in
theorem lkX7_hunk (x0 : Nat) (x1 : Int) (x2 : Int) (x3 : Int) (x4 : Int) : LK yX7_hunk sX7_hunk [vr (some x0), vi x1, vi x2, vi x3, vi x4] en_i (X7_hunk x0 x1 x2 x3 x4) := by
  refine lk_go (L := [(0, vr (some x0)), (1, vi x1), (2, vi x2), (3, vi x3), (4, vi x4)]) (by decide +kernel) rfl (fun h => by cases h) (Nat.le_of_ble_eq_true rfl) rfl ?_
  intro K
  unfold X7_hunk
  refine gg_aload_n (S := sX7_hunk) 0 1 rfl dX7_hunk_0 rfl rfl ?_
  refine gg_iload_n (S := sX7_hunk) 1 2 rfl dX7_hunk_1 rfl rfl ?_
  refine gg_callVi (S := sX7_hunk) (S' := sX7_isPatch) (cs := 0) (sl := 0) (As := [vi x1]) (st := []) 5 rfl (fun b29 => lkX7_isPatch b29 x1) mwX7_isPatch rfl mlX7_155 dX7_hunk_2 cfX7 ⟨by decide, by decide⟩ 0 0 ⟨rfl, rfl⟩ ⟨by decide, by decide⟩ (Nat.le_of_ble_eq_true rfl) (fun t1 => ?_)
  refine gg_if_ne (S := sX7_hunk) (tgt := 11) 8 rfl dX7_hunk_5 (by decide) ?_ ?_
  · refine gg_bipush (S := sX7_hunk) 10 rfl dX7_hunk_8 (by decide) ?_
    exact gg_pure (gg_iret (S := sX7_hunk) rfl dX7_hunk_10 (by decide) (by decide))
  · refine gg_aload_n (S := sX7_hunk) 0 12 rfl dX7_hunk_11 rfl rfl ?_
    refine gg_gr (S := sX7_hunk) cfX7 (by decide) (fun _ _ => rfl) 15 rfl flX7_28 dX7_hunk_12 (fun t2 => ?_)
    refine gg_iload_n (S := sX7_hunk) 1 16 rfl dX7_hunk_15 rfl rfl ?_
    refine gg_ld (S := sX7_hunk) 17 rfl dX7_hunk_16 (fun t3 => ?_)
    refine gg_istore (S := sX7_hunk) (L' := [(5, vi t3), (0, vr (some x0)), (1, vi x1), (2, vi x2), (3, vi x3), (4, vi x4)]) 19 rfl dX7_hunk_17 (by decide) rfl ?_
    refine gg_bipush (S := sX7_hunk) 21 rfl dX7_hunk_19 (by decide) ?_
    refine gg_iload_n (S := sX7_hunk) 2 22 rfl dX7_hunk_21 rfl rfl ?_
    refine gg_imul (S := sX7_hunk) 23 rfl dX7_hunk_22 ?_
    refine gg_iload (S := sX7_hunk) 0 25 rfl dX7_hunk_23 rfl ?_
    refine gg_iadd (S := sX7_hunk) 26 rfl dX7_hunk_25 ?_
    refine gg_iconst (S := sX7_hunk) 27 rfl dX7_hunk_26 ?_
    refine gg_isub (S := sX7_hunk) 28 rfl dX7_hunk_27 ?_
    refine gg_istore (S := sX7_hunk) (L' := [(6, vi (((10 * x1) + t3) - 1)), (5, vi t3), (0, vr (some x0)), (1, vi x1), (2, vi x2), (3, vi x3), (4, vi x4)]) 30 rfl dX7_hunk_28 (by decide) rfl ?_
    refine gg_iload (S := sX7_hunk) 1 32 rfl dX7_hunk_30 rfl ?_
    refine gg_join (fun t8 => [(0, vr (some x0)), (1, vi x1), (2, vi x2), (3, vi x3), (4, vi x4), (5, vi t3)]) (fun t8 => [vi t8]) 59 0 0 (fun κ32 hJ32 => ?_) ?_
    · refine gg_if_eq (S := sX7_hunk) (tgt := 54) 35 rfl dX7_hunk_32 (by decide) ?_ ?_
      · refine gg_iconst (S := sX7_hunk) 55 rfl dX7_hunk_54 ?_
        refine gg_goto (S := sX7_hunk) (tgt := 59) dX7_hunk_55 (by decide) ?_
        exact gg_pure (gg_sub [2, 3, 4, 5, 6, 1] rfl (hJ32 1))
      · refine gg_iload_n (S := sX7_hunk) 4 36 rfl dX7_hunk_35 rfl rfl ?_
        refine gg_aload_n (S := sX7_hunk) 2 37 rfl dX7_hunk_36 rfl rfl ?_
        refine gg_gr (S := sX7_hunk) cfX7 (by decide) (fun _ _ => rfl) 40 rfl flX7_31 dX7_hunk_37 (fun t4 => ?_)
        refine gg_iload (S := sX7_hunk) 0 42 rfl dX7_hunk_40 rfl ?_
        refine gg_ld (S := sX7_hunk) 43 rfl dX7_hunk_42 (fun t5 => ?_)
        refine gg_aload_n (S := sX7_hunk) 2 44 rfl dX7_hunk_43 rfl rfl ?_
        refine gg_gr (S := sX7_hunk) cfX7 (by decide) (fun _ _ => rfl) 47 rfl flX7_34 dX7_hunk_44 (fun t6 => ?_)
        refine gg_iload (S := sX7_hunk) 0 49 rfl dX7_hunk_47 rfl ?_
        refine gg_ld (S := sX7_hunk) 50 rfl dX7_hunk_49 (fun t7 => ?_)
        refine gg_iadd (S := sX7_hunk) 51 rfl dX7_hunk_50 ?_
        refine gg_ic_le (S := sX7_hunk) (tgt := 58) 54 rfl dX7_hunk_51 (by decide) ?_ ?_
        · refine gg_iconst (S := sX7_hunk) 59 rfl dX7_hunk_58 ?_
          exact gg_pure (gg_sub [2, 3, 4, 5, 6, 1] rfl (hJ32 0))
        · refine gg_iconst (S := sX7_hunk) 55 rfl dX7_hunk_54 ?_
          refine gg_goto (S := sX7_hunk) (tgt := 59) dX7_hunk_55 (by decide) ?_
          exact gg_pure (gg_sub [2, 3, 4, 5, 6, 1] rfl (hJ32 1))
    · intro t8
      refine gg_istore (S := sX7_hunk) (L' := [(7, vi t8), (0, vr (some x0)), (1, vi x1), (2, vi x2), (3, vi x3), (4, vi x4), (5, vi t3)]) 61 rfl dX7_hunk_59 (by decide) rfl ?_
      refine gg_iload_n (S := sX7_hunk) 3 62 rfl dX7_hunk_61 rfl rfl ?_
      refine gg_iconst (S := sX7_hunk) 63 rfl dX7_hunk_62 ?_
      refine gg_bipush (S := sX7_hunk) 65 rfl dX7_hunk_63 (by decide) ?_
      refine gg_callSi (S := sX7_hunk) (S' := sX7_within) (cs := 0) (sl := 0) (As := [vi x2, vi 0, vi 14]) (st := []) 68 rfl (lkX7_within x2 0 14) mwX7_within rfl mlX7_101 dX7_hunk_65 ⟨by decide, by decide⟩ 0 0 ⟨rfl, rfl⟩ ⟨by decide, by decide⟩ (Nat.le_of_ble_eq_true rfl) (fun t9 => ?_)
      refine gg_cond [] [(0, vr (some x0)), (1, vi x1), (2, vi x2), (3, vi x3), (4, vi x4), (5, vi t3)] [] 108 111 0 0 (fun κ68 hT68 hF68 => ?_) ?_ ?_
      · refine gg_if_eq (S := sX7_hunk) (tgt := 108) 71 rfl dX7_hunk_68 (by decide) ?_ ?_
        · exact gg_pure (gg_sub [] rfl hT68)
        · refine gg_iload_n (S := sX7_hunk) 4 72 rfl dX7_hunk_71 rfl rfl ?_
          refine gg_iconst (S := sX7_hunk) 73 rfl dX7_hunk_72 ?_
          refine gg_bipush (S := sX7_hunk) 75 rfl dX7_hunk_73 (by decide) ?_
          refine gg_callSi (S := sX7_hunk) (S' := sX7_within) (cs := 0) (sl := 0) (As := [vi x3, vi (-1), vi 99]) (st := []) 78 rfl (lkX7_within x3 (-1) 99) mwX7_within rfl mlX7_101 dX7_hunk_75 ⟨by decide, by decide⟩ 0 0 ⟨rfl, rfl⟩ ⟨by decide, by decide⟩ (Nat.le_of_ble_eq_true rfl) (fun t10 => ?_)
          refine gg_if_eq (S := sX7_hunk) (tgt := 108) 81 rfl dX7_hunk_78 (by decide) ?_ ?_
          · exact gg_pure (gg_sub [] rfl hT68)
          · refine gg_iload (S := sX7_hunk) 5 83 rfl dX7_hunk_81 rfl ?_
            refine gg_iconst (S := sX7_hunk) 84 rfl dX7_hunk_83 ?_
            refine gg_bipush (S := sX7_hunk) 86 rfl dX7_hunk_84 (by decide) ?_
            refine gg_callSi (S := sX7_hunk) (S' := sX7_within) (cs := 0) (sl := 0) (As := [vi x4, vi (-1), vi 99]) (st := []) 89 rfl (lkX7_within x4 (-1) 99) mwX7_within rfl mlX7_101 dX7_hunk_86 ⟨by decide, by decide⟩ 0 0 ⟨rfl, rfl⟩ ⟨by decide, by decide⟩ (Nat.le_of_ble_eq_true rfl) (fun t11 => ?_)
            refine gg_if_eq (S := sX7_hunk) (tgt := 108) 92 rfl dX7_hunk_89 (by decide) ?_ ?_
            · exact gg_pure (gg_sub [] rfl hT68)
            · refine gg_iload_n (S := sX7_hunk) 4 93 rfl dX7_hunk_92 rfl rfl ?_
              refine gg_iconst (S := sX7_hunk) 94 rfl dX7_hunk_93 ?_
              refine gg_ic_ne (S := sX7_hunk) (tgt := 103) 97 rfl dX7_hunk_94 (by decide) ?_ ?_
              · refine gg_iload (S := sX7_hunk) 5 99 rfl dX7_hunk_97 rfl ?_
                refine gg_iconst (S := sX7_hunk) 100 rfl dX7_hunk_99 ?_
                refine gg_ic_eq (S := sX7_hunk) (tgt := 108) 103 rfl dX7_hunk_100 (by decide) ?_ ?_
                · exact gg_pure (gg_sub [] rfl hT68)
                · refine gg_iload (S := sX7_hunk) 0 105 rfl dX7_hunk_103 rfl ?_
                  refine gg_if_ne (S := sX7_hunk) (tgt := 111) 108 rfl dX7_hunk_105 (by decide) ?_ ?_
                  · exact gg_pure (gg_sub [] rfl hT68)
                  · exact gg_pure (gg_sub [1, 2, 3, 4, 5, 6] rfl hF68)
              · refine gg_iload (S := sX7_hunk) 0 105 rfl dX7_hunk_103 rfl ?_
                refine gg_if_ne (S := sX7_hunk) (tgt := 111) 108 rfl dX7_hunk_105 (by decide) ?_ ?_
                · exact gg_pure (gg_sub [] rfl hT68)
                · exact gg_pure (gg_sub [1, 2, 3, 4, 5, 6] rfl hF68)
      · refine gg_bipush (S := sX7_hunk) 110 rfl dX7_hunk_108 (by decide) ?_
        exact gg_pure (gg_iret (S := sX7_hunk) rfl dX7_hunk_110 (by decide) (by decide))
      · refine gg_aload_n (S := sX7_hunk) 0 112 rfl dX7_hunk_111 rfl rfl ?_
        refine gg_iload_n (S := sX7_hunk) 1 113 rfl dX7_hunk_112 rfl rfl ?_
        refine gg_callVi (S := sX7_hunk) (S' := sX7_goesOf) (cs := 0) (sl := 0) (As := [vi x1]) (st := []) 116 rfl (fun b27 => lkX7_goesOf b27 x1) mwX7_goesOf rfl mlX7_158 dX7_hunk_113 cfX7 ⟨by decide, by decide⟩ 0 0 ⟨rfl, rfl⟩ ⟨by decide, by decide⟩ (Nat.le_of_ble_eq_true rfl) (fun t14 => ?_)
        refine gg_istore (S := sX7_hunk) (L' := [(8, vi t14), (0, vr (some x0)), (1, vi x1), (2, vi x2), (3, vi x3), (4, vi x4), (5, vi t3)]) 118 rfl dX7_hunk_116 (by decide) rfl ?_
        refine gg_aload_n (S := sX7_hunk) 1 119 rfl dX7_hunk_118 rfl rfl ?_
        refine gg_iload_n (S := sX7_hunk) 2 120 rfl dX7_hunk_119 rfl rfl ?_
        refine gg_callVi (S := sX7_hunk) (S' := sX7_comesOf) (cs := 0) (sl := 0) (As := [vi x1]) (st := []) 123 rfl (fun b26 => lkX7_comesOf b26 x1) mwX7_comesOf rfl mlX7_162 dX7_hunk_120 cfX7 ⟨by decide, by decide⟩ 0 0 ⟨rfl, rfl⟩ ⟨by decide, by decide⟩ (Nat.le_of_ble_eq_true rfl) (fun t15 => ?_)
        refine gg_istore (S := sX7_hunk) (L' := [(9, vi t15), (8, vi t14), (0, vr (some x0)), (1, vi x1), (2, vi x2), (3, vi x3), (4, vi x4), (5, vi t3)]) 125 rfl dX7_hunk_123 (by decide) rfl ?_
        refine gg_iload (S := sX7_hunk) 7 127 rfl dX7_hunk_125 rfl ?_
        refine gg_bipush (S := sX7_hunk) 129 rfl dX7_hunk_127 (by decide) ?_
        refine gg_cond [] [(0, vr (some x0)), (1, vi x1), (2, vi x2), (3, vi x3), (4, vi x4), (5, vi t3), (8, vi t14), (9, vi t15)] [] 157 160 0 0 (fun κ129 hT129 hF129 => ?_) ?_ ?_
        · refine gg_ic_eq (S := sX7_hunk) (tgt := 157) 132 rfl dX7_hunk_129 (by decide) ?_ ?_
          · exact gg_pure (gg_sub [] rfl hT129)
          · refine gg_iload_n (S := sX7_hunk) 5 133 rfl dX7_hunk_132 rfl rfl ?_
            refine gg_iconst (S := sX7_hunk) 134 rfl dX7_hunk_133 ?_
            refine gg_ic_eq (S := sX7_hunk) (tgt := 144) 137 rfl dX7_hunk_134 (by decide) ?_ ?_
            · refine gg_iload (S := sX7_hunk) 6 146 rfl dX7_hunk_144 rfl ?_
              refine gg_iconst (S := sX7_hunk) 147 rfl dX7_hunk_146 ?_
              refine gg_ic_eq (S := sX7_hunk) (tgt := 160) 150 rfl dX7_hunk_147 (by decide) ?_ ?_
              · exact gg_pure (gg_sub [2, 3, 4, 5, 6, 7, 1, 0] rfl hF129)
              · refine gg_iload (S := sX7_hunk) 0 152 rfl dX7_hunk_150 rfl ?_
                refine gg_bipush (S := sX7_hunk) 154 rfl dX7_hunk_152 (by decide) ?_
                refine gg_ic_ne (S := sX7_hunk) (tgt := 160) 157 rfl dX7_hunk_154 (by decide) ?_ ?_
                · exact gg_pure (gg_sub [] rfl hT129)
                · exact gg_pure (gg_sub [2, 3, 4, 5, 6, 7, 1, 0] rfl hF129)
            · refine gg_iload (S := sX7_hunk) 1 139 rfl dX7_hunk_137 rfl ?_
              refine gg_bipush (S := sX7_hunk) 141 rfl dX7_hunk_139 (by decide) ?_
              refine gg_ic_eq (S := sX7_hunk) (tgt := 157) 144 rfl dX7_hunk_141 (by decide) ?_ ?_
              · exact gg_pure (gg_sub [] rfl hT129)
              · refine gg_iload (S := sX7_hunk) 6 146 rfl dX7_hunk_144 rfl ?_
                refine gg_iconst (S := sX7_hunk) 147 rfl dX7_hunk_146 ?_
                refine gg_ic_eq (S := sX7_hunk) (tgt := 160) 150 rfl dX7_hunk_147 (by decide) ?_ ?_
                · exact gg_pure (gg_sub [2, 3, 4, 5, 6, 7, 1, 0] rfl hF129)
                · refine gg_iload (S := sX7_hunk) 0 152 rfl dX7_hunk_150 rfl ?_
                  refine gg_bipush (S := sX7_hunk) 154 rfl dX7_hunk_152 (by decide) ?_
                  refine gg_ic_ne (S := sX7_hunk) (tgt := 160) 157 rfl dX7_hunk_154 (by decide) ?_ ?_
                  · exact gg_pure (gg_sub [] rfl hT129)
                  · exact gg_pure (gg_sub [2, 3, 4, 5, 6, 7, 1, 0] rfl hF129)
        · refine gg_bipush (S := sX7_hunk) 159 rfl dX7_hunk_157 (by decide) ?_
          exact gg_pure (gg_iret (S := sX7_hunk) rfl dX7_hunk_159 (by decide) (by decide))
        · refine gg_aload_n (S := sX7_hunk) 0 161 rfl dX7_hunk_160 rfl rfl ?_
          refine gg_gr (S := sX7_hunk) cfX7 (by decide) (fun _ _ => rfl) 164 rfl flX7_31 dX7_hunk_161 (fun t16 => ?_)
          refine gg_bipush (S := sX7_hunk) 166 rfl dX7_hunk_164 (by decide) ?_
          refine gg_iload_n (S := sX7_hunk) 1 167 rfl dX7_hunk_166 rfl rfl ?_
          refine gg_imul (S := sX7_hunk) 168 rfl dX7_hunk_167 ?_
          refine gg_iload (S := sX7_hunk) 5 170 rfl dX7_hunk_168 rfl ?_
          refine gg_iadd (S := sX7_hunk) 171 rfl dX7_hunk_170 ?_
          refine gg_iload_n (S := sX7_hunk) 2 172 rfl dX7_hunk_171 rfl rfl ?_
          refine gg_st (S := sX7_hunk) 173 rfl dX7_hunk_172 ?_
          refine gg_aload_n (S := sX7_hunk) 0 174 rfl dX7_hunk_173 rfl rfl ?_
          refine gg_gr (S := sX7_hunk) cfX7 (by decide) (fun _ _ => rfl) 177 rfl flX7_34 dX7_hunk_174 (fun t17 => ?_)
          refine gg_bipush (S := sX7_hunk) 179 rfl dX7_hunk_177 (by decide) ?_
          refine gg_iload_n (S := sX7_hunk) 1 180 rfl dX7_hunk_179 rfl rfl ?_
          refine gg_imul (S := sX7_hunk) 181 rfl dX7_hunk_180 ?_
          refine gg_iload (S := sX7_hunk) 5 183 rfl dX7_hunk_181 rfl ?_
          refine gg_iadd (S := sX7_hunk) 184 rfl dX7_hunk_183 ?_
          refine gg_iload_n (S := sX7_hunk) 3 185 rfl dX7_hunk_184 rfl rfl ?_
          refine gg_iconst (S := sX7_hunk) 186 rfl dX7_hunk_185 ?_
          refine gg_join (fun t18 => [(0, vr (some x0)), (1, vi x1), (3, vi x3), (4, vi x4), (5, vi t3), (8, vi t14), (9, vi t15)]) (fun t18 => [vi t18, vi ((10 * x1) + t3), vr t17]) 194 0 0 (fun κ186 hJ186 => ?_) ?_
          · refine gg_ic_ne (S := sX7_hunk) (tgt := 193) 189 rfl dX7_hunk_186 (by decide) ?_ ?_
            · refine gg_iconst (S := sX7_hunk) 190 rfl dX7_hunk_189 ?_
              refine gg_goto (S := sX7_hunk) (tgt := 194) dX7_hunk_190 (by decide) ?_
              exact gg_pure (gg_sub [0, 1, 3, 4, 5, 6, 7] rfl (hJ186 0))
            · refine gg_iconst (S := sX7_hunk) 194 rfl dX7_hunk_193 ?_
              exact gg_pure (gg_sub [0, 1, 3, 4, 5, 6, 7] rfl (hJ186 1))
          · intro t18
            refine gg_st (S := sX7_hunk) 195 rfl dX7_hunk_194 ?_
            refine gg_aload_n (S := sX7_hunk) 0 196 rfl dX7_hunk_195 rfl rfl ?_
            refine gg_gr (S := sX7_hunk) cfX7 (by decide) (fun _ _ => rfl) 199 rfl flX7_37 dX7_hunk_196 (fun t19 => ?_)
            refine gg_bipush (S := sX7_hunk) 201 rfl dX7_hunk_199 (by decide) ?_
            refine gg_iload_n (S := sX7_hunk) 1 202 rfl dX7_hunk_201 rfl rfl ?_
            refine gg_imul (S := sX7_hunk) 203 rfl dX7_hunk_202 ?_
            refine gg_iload (S := sX7_hunk) 4 205 rfl dX7_hunk_203 rfl ?_
            refine gg_iadd (S := sX7_hunk) 206 rfl dX7_hunk_205 ?_
            refine gg_iload (S := sX7_hunk) 3 208 rfl dX7_hunk_206 rfl ?_
            refine gg_iconst (S := sX7_hunk) 209 rfl dX7_hunk_208 ?_
            refine gg_join (fun t20 => [(0, vr (some x0)), (1, vi x1), (3, vi x3), (4, vi x4), (8, vi t14), (9, vi t15)]) (fun t20 => [vi t20, vi ((10 * x1) + t3), vr t19]) 217 0 0 (fun κ209 hJ209 => ?_) ?_
            · refine gg_ic_ne (S := sX7_hunk) (tgt := 216) 212 rfl dX7_hunk_209 (by decide) ?_ ?_
              · refine gg_iconst (S := sX7_hunk) 213 rfl dX7_hunk_212 ?_
                refine gg_goto (S := sX7_hunk) (tgt := 217) dX7_hunk_213 (by decide) ?_
                exact gg_pure (gg_sub [0, 1, 2, 3, 5, 6] rfl (hJ209 0))
              · refine gg_iconst (S := sX7_hunk) 217 rfl dX7_hunk_216 ?_
                exact gg_pure (gg_sub [0, 1, 2, 3, 5, 6] rfl (hJ209 1))
            · intro t20
              refine gg_st (S := sX7_hunk) 218 rfl dX7_hunk_217 ?_
              refine gg_iload_n (S := sX7_hunk) 2 219 rfl dX7_hunk_218 rfl rfl ?_
              refine gg_iconst (S := sX7_hunk) 220 rfl dX7_hunk_219 ?_
              refine gg_join (fun _ => [(0, vr (some x0)), (1, vi x1), (4, vi x4), (9, vi t15)]) (fun _ => []) 236 0 0 (fun κ220 hJ220 => ?_) ?_
              · refine gg_ic_eq (S := sX7_hunk) (tgt := 236) 223 rfl dX7_hunk_220 (by decide) ?_ ?_
                · exact gg_pure (gg_sub [0, 1, 3, 5] rfl (hJ220 ()))
                · refine gg_aload_n (S := sX7_hunk) 0 224 rfl dX7_hunk_223 rfl rfl ?_
                  refine gg_gr (S := sX7_hunk) cfX7 (by decide) (fun _ _ => rfl) 227 rfl flX7_40 dX7_hunk_224 (fun t21 => ?_)
                  refine gg_bipush (S := sX7_hunk) 229 rfl dX7_hunk_227 (by decide) ?_
                  refine gg_iload_n (S := sX7_hunk) 1 230 rfl dX7_hunk_229 rfl rfl ?_
                  refine gg_imul (S := sX7_hunk) 231 rfl dX7_hunk_230 ?_
                  refine gg_iload (S := sX7_hunk) 4 233 rfl dX7_hunk_231 rfl ?_
                  refine gg_iadd (S := sX7_hunk) 234 rfl dX7_hunk_233 ?_
                  refine gg_iload_n (S := sX7_hunk) 2 235 rfl dX7_hunk_234 rfl rfl ?_
                  refine gg_st (S := sX7_hunk) 236 rfl dX7_hunk_235 ?_
                  exact gg_pure (gg_sub [0, 1, 3, 5] rfl (hJ220 ()))
              · intro _
                refine gg_iload (S := sX7_hunk) 2 238 rfl dX7_hunk_236 rfl ?_
                refine gg_iconst (S := sX7_hunk) 239 rfl dX7_hunk_238 ?_
                refine gg_join (fun _ => [(0, vr (some x0)), (1, vi x1)]) (fun _ => []) 256 0 0 (fun κ239 hJ239 => ?_) ?_
                · refine gg_ic_eq (S := sX7_hunk) (tgt := 256) 242 rfl dX7_hunk_239 (by decide) ?_ ?_
                  · exact gg_pure (gg_sub [0, 1] rfl (hJ239 ()))
                  · refine gg_aload_n (S := sX7_hunk) 0 243 rfl dX7_hunk_242 rfl rfl ?_
                    refine gg_gr (S := sX7_hunk) cfX7 (by decide) (fun _ _ => rfl) 246 rfl flX7_43 dX7_hunk_243 (fun t22 => ?_)
                    refine gg_bipush (S := sX7_hunk) 248 rfl dX7_hunk_246 (by decide) ?_
                    refine gg_iload_n (S := sX7_hunk) 1 249 rfl dX7_hunk_248 rfl rfl ?_
                    refine gg_imul (S := sX7_hunk) 250 rfl dX7_hunk_249 ?_
                    refine gg_iload (S := sX7_hunk) 3 252 rfl dX7_hunk_250 rfl ?_
                    refine gg_iadd (S := sX7_hunk) 253 rfl dX7_hunk_252 ?_
                    refine gg_iload (S := sX7_hunk) 2 255 rfl dX7_hunk_253 rfl ?_
                    refine gg_st (S := sX7_hunk) 256 rfl dX7_hunk_255 ?_
                    exact gg_pure (gg_sub [0, 1] rfl (hJ239 ()))
                · intro _
                  refine gg_aload_n (S := sX7_hunk) 0 257 rfl dX7_hunk_256 rfl rfl ?_
                  refine gg_gr (S := sX7_hunk) cfX7 (by decide) (fun _ _ => rfl) 260 rfl flX7_28 dX7_hunk_257 (fun t23 => ?_)
                  refine gg_iload_n (S := sX7_hunk) 1 261 rfl dX7_hunk_260 rfl rfl ?_
                  refine gg_dup2 (S := sX7_hunk) 262 rfl dX7_hunk_261 rfl rfl ?_
                  refine gg_ld (S := sX7_hunk) 263 rfl dX7_hunk_262 (fun t24 => ?_)
                  refine gg_iconst (S := sX7_hunk) 264 rfl dX7_hunk_263 ?_
                  refine gg_iadd (S := sX7_hunk) 265 rfl dX7_hunk_264 ?_
                  refine gg_st (S := sX7_hunk) 266 rfl dX7_hunk_265 ?_
                  refine gg_aload_n (S := sX7_hunk) 0 267 rfl dX7_hunk_266 rfl rfl ?_
                  refine gg_gr (S := sX7_hunk) cfX7 (by decide) (fun _ _ => rfl) 270 rfl flX7_28 dX7_hunk_267 (fun t25 => ?_)
                  refine gg_iload_n (S := sX7_hunk) 1 271 rfl dX7_hunk_270 rfl rfl ?_
                  refine gg_ld (S := sX7_hunk) 272 rfl dX7_hunk_271 (fun t26 => ?_)
                  exact gg_pure (gg_iret (S := sX7_hunk) rfl dX7_hunk_272 (by decide) (by decide))

set_option maxRecDepth 100000 in
set_option maxHeartbeats 4000000 in
theorem lkX7_hunkOf (x0 : Nat) (x1 : Int) (x2 : Int) (x3 : Int) : LK yX7_hunkOf sX7_hunkOf [vr (some x0), vi x1, vi x2, vi x3] en_i (X7_hunkOf x0 x1 x2 x3) := by
  refine lk_go (L := [(0, vr (some x0)), (1, vi x1), (2, vi x2), (3, vi x3)]) (by decide +kernel) rfl (fun h => by cases h) (Nat.le_of_ble_eq_true rfl) rfl ?_
  intro K
  unfold X7_hunkOf
  refine gg_aload_n (S := sX7_hunkOf) 0 1 rfl dX7_hunkOf_0 rfl rfl ?_
  refine gg_iload_n (S := sX7_hunkOf) 1 2 rfl dX7_hunkOf_1 rfl rfl ?_
  refine gg_callVi (S := sX7_hunkOf) (S' := sX7_isPatch) (cs := 0) (sl := 0) (As := [vi x1]) (st := []) 5 rfl (fun b14 => lkX7_isPatch b14 x1) mwX7_isPatch rfl mlX7_155 dX7_hunkOf_2 cfX7 ⟨by decide, by decide⟩ 0 0 ⟨rfl, rfl⟩ ⟨by decide, by decide⟩ (Nat.le_of_ble_eq_true rfl) (fun t1 => ?_)
  refine gg_if_eq (S := sX7_hunkOf) (tgt := 24) 8 rfl dX7_hunkOf_5 (by decide) ?_ ?_
  · refine gg_bipush (S := sX7_hunkOf) 26 rfl dX7_hunkOf_24 (by decide) ?_
    exact gg_pure (gg_iret (S := sX7_hunkOf) rfl dX7_hunkOf_26 (by decide) (by decide))
  · refine gg_iload_n (S := sX7_hunkOf) 2 9 rfl dX7_hunkOf_8 rfl rfl ?_
    refine gg_iconst (S := sX7_hunkOf) 10 rfl dX7_hunkOf_9 ?_
    refine gg_aload_n (S := sX7_hunkOf) 0 11 rfl dX7_hunkOf_10 rfl rfl ?_
    refine gg_gr (S := sX7_hunkOf) cfX7 (by decide) (fun _ _ => rfl) 14 rfl flX7_28 dX7_hunkOf_11 (fun t2 => ?_)
    refine gg_iload_n (S := sX7_hunkOf) 1 15 rfl dX7_hunkOf_14 rfl rfl ?_
    refine gg_ld (S := sX7_hunkOf) 16 rfl dX7_hunkOf_15 (fun t3 => ?_)
    refine gg_iconst (S := sX7_hunkOf) 17 rfl dX7_hunkOf_16 ?_
    refine gg_isub (S := sX7_hunkOf) 18 rfl dX7_hunkOf_17 ?_
    refine gg_callSi (S := sX7_hunkOf) (S' := sX7_within) (cs := 0) (sl := 0) (As := [vi x2, vi 0, vi (t3 - 1)]) (st := []) 21 rfl (lkX7_within x2 0 (t3 - 1)) mwX7_within rfl mlX7_101 dX7_hunkOf_18 ⟨by decide, by decide⟩ 0 0 ⟨rfl, rfl⟩ ⟨by decide, by decide⟩ (Nat.le_of_ble_eq_true rfl) (fun t4 => ?_)
    refine gg_if_ne (S := sX7_hunkOf) (tgt := 27) 24 rfl dX7_hunkOf_21 (by decide) ?_ ?_
    · refine gg_bipush (S := sX7_hunkOf) 26 rfl dX7_hunkOf_24 (by decide) ?_
      exact gg_pure (gg_iret (S := sX7_hunkOf) rfl dX7_hunkOf_26 (by decide) (by decide))
    · refine gg_iload_n (S := sX7_hunkOf) 3 28 rfl dX7_hunkOf_27 rfl rfl ?_
      refine gg_iconst (S := sX7_hunkOf) 29 rfl dX7_hunkOf_28 ?_
      refine gg_iconst (S := sX7_hunkOf) 30 rfl dX7_hunkOf_29 ?_
      refine gg_callSi (S := sX7_hunkOf) (S' := sX7_within) (cs := 0) (sl := 0) (As := [vi x3, vi 0, vi 2]) (st := []) 33 rfl (lkX7_within x3 0 2) mwX7_within rfl mlX7_101 dX7_hunkOf_30 ⟨by decide, by decide⟩ 0 0 ⟨rfl, rfl⟩ ⟨by decide, by decide⟩ (Nat.le_of_ble_eq_true rfl) (fun t5 => ?_)
      refine gg_join (fun t10 => [(0, vr (some x0)), (1, vi x1), (2, vi x2), (3, vi x3)]) (fun t10 => [vi t10]) 63 0 0 (fun κ33 hJ33 => ?_) ?_
      · refine gg_if_ne (S := sX7_hunkOf) (tgt := 58) 36 rfl dX7_hunkOf_33 (by decide) ?_ ?_
        · refine gg_iload_n (S := sX7_hunkOf) 3 37 rfl dX7_hunkOf_36 rfl rfl ?_
          refine gg_bipush (S := sX7_hunkOf) 39 rfl dX7_hunkOf_37 (by decide) ?_
          refine gg_bipush (S := sX7_hunkOf) 41 rfl dX7_hunkOf_39 (by decide) ?_
          refine gg_callSi (S := sX7_hunkOf) (S' := sX7_within) (cs := 0) (sl := 0) (As := [vi x3, vi 10, vi 37]) (st := []) 44 rfl (lkX7_within x3 10 37) mwX7_within rfl mlX7_101 dX7_hunkOf_41 ⟨by decide, by decide⟩ 0 0 ⟨rfl, rfl⟩ ⟨by decide, by decide⟩ (Nat.le_of_ble_eq_true rfl) (fun t6 => ?_)
          refine gg_if_ne (S := sX7_hunkOf) (tgt := 58) 47 rfl dX7_hunkOf_44 (by decide) ?_ ?_
          · refine gg_iload_n (S := sX7_hunkOf) 3 48 rfl dX7_hunkOf_47 rfl rfl ?_
            refine gg_bipush (S := sX7_hunkOf) 50 rfl dX7_hunkOf_48 (by decide) ?_
            refine gg_bipush (S := sX7_hunkOf) 52 rfl dX7_hunkOf_50 (by decide) ?_
            refine gg_callSi (S := sX7_hunkOf) (S' := sX7_within) (cs := 0) (sl := 0) (As := [vi x3, vi 40, vi 67]) (st := []) 55 rfl (lkX7_within x3 40 67) mwX7_within rfl mlX7_101 dX7_hunkOf_52 ⟨by decide, by decide⟩ 0 0 ⟨rfl, rfl⟩ ⟨by decide, by decide⟩ (Nat.le_of_ble_eq_true rfl) (fun t7 => ?_)
            refine gg_if_eq (S := sX7_hunkOf) (tgt := 62) 58 rfl dX7_hunkOf_55 (by decide) ?_ ?_
            · refine gg_iconst (S := sX7_hunkOf) 63 rfl dX7_hunkOf_62 ?_
              exact gg_pure (gg_sub [0, 1, 2, 3] rfl (hJ33 0))
            · refine gg_iconst (S := sX7_hunkOf) 59 rfl dX7_hunkOf_58 ?_
              refine gg_goto (S := sX7_hunkOf) (tgt := 63) dX7_hunkOf_59 (by decide) ?_
              exact gg_pure (gg_sub [0, 1, 2, 3] rfl (hJ33 1))
          · refine gg_iconst (S := sX7_hunkOf) 59 rfl dX7_hunkOf_58 ?_
            refine gg_goto (S := sX7_hunkOf) (tgt := 63) dX7_hunkOf_59 (by decide) ?_
            exact gg_pure (gg_sub [0, 1, 2, 3] rfl (hJ33 1))
        · refine gg_iconst (S := sX7_hunkOf) 59 rfl dX7_hunkOf_58 ?_
          refine gg_goto (S := sX7_hunkOf) (tgt := 63) dX7_hunkOf_59 (by decide) ?_
          exact gg_pure (gg_sub [0, 1, 2, 3] rfl (hJ33 1))
      · intro t10
        refine gg_istore (S := sX7_hunkOf) (L' := [(4, vi t10), (0, vr (some x0)), (1, vi x1), (2, vi x2), (3, vi x3)]) 65 rfl dX7_hunkOf_63 (by decide) rfl ?_
        refine gg_iload (S := sX7_hunkOf) 0 67 rfl dX7_hunkOf_65 rfl ?_
        refine gg_if_eq (S := sX7_hunkOf) (tgt := 80) 70 rfl dX7_hunkOf_67 (by decide) ?_ ?_
        · refine gg_bipush (S := sX7_hunkOf) 82 rfl dX7_hunkOf_80 (by decide) ?_
          exact gg_pure (gg_iret (S := sX7_hunkOf) rfl dX7_hunkOf_82 (by decide) (by decide))
        · refine gg_aload_n (S := sX7_hunkOf) 1 71 rfl dX7_hunkOf_70 rfl rfl ?_
          refine gg_iload_n (S := sX7_hunkOf) 2 72 rfl dX7_hunkOf_71 rfl rfl ?_
          refine gg_iload_n (S := sX7_hunkOf) 3 73 rfl dX7_hunkOf_72 rfl rfl ?_
          refine gg_iload_n (S := sX7_hunkOf) 4 74 rfl dX7_hunkOf_73 rfl rfl ?_
          refine gg_callVi (S := sX7_hunkOf) (S' := sX7_toldOf) (cs := 0) (sl := 0) (As := [vi x1, vi x2, vi x3]) (st := []) 77 rfl (fun b11 => lkX7_toldOf b11 x1 x2 x3) mwX7_toldOf rfl mlX7_174 dX7_hunkOf_74 cfX7 ⟨by decide, by decide⟩ 0 0 ⟨rfl, rfl⟩ ⟨by decide, by decide⟩ (Nat.le_of_ble_eq_true rfl) (fun t11 => ?_)
          refine gg_goto (S := sX7_hunkOf) (tgt := 82) dX7_hunkOf_77 (by decide) ?_
          exact gg_pure (gg_iret (S := sX7_hunkOf) rfl dX7_hunkOf_82 (by decide) (by decide))

set_option maxRecDepth 100000 in
set_option maxHeartbeats 4000000 in
theorem lkX7_init (x0 : Nat) : LK yX7_init sX7_init [vr (some x0)] en_v (X7_init x0) := by
  refine lk_go (L := [(0, vr (some x0))]) (by decide +kernel) rfl (fun _ => rfl) (Nat.le_of_ble_eq_true rfl) rfl ?_
  intro K
  unfold X7_init
  refine gg_aload_n (S := sX7_init) 0 1 rfl dX7_init_0 rfl rfl ?_
  refine gg_objI (S := sX7_init) 4 rfl mlX7_1 oi_i oi_c dX7_init_1 (by decide) (Nat.le_of_ble_eq_true rfl) ?_
  refine gg_aload_n (S := sX7_init) 0 5 rfl dX7_init_4 rfl rfl ?_
  refine gg_bipush (S := sX7_init) 7 rfl dX7_init_5 (by decide) ?_
  refine gg_ni (S := sX7_init) (cap := 48) (cs := 0) (sl := 0) 9 rfl ac_I dX7_init_7 (by decide) 1 48 ⟨rfl, rfl⟩ (by decide) (by decide) (fun t1 => ?_)
  refine gg_srF (S := sX7_init) cfX7 (by decide) (Or.inl ⟨_, rfl⟩) (fun _ _ => rfl) rfl rfl rfl 12 rfl flX7_7 dX7_init_9 ?_
  refine gg_aload_n (S := sX7_init) 0 13 rfl dX7_init_12 rfl rfl ?_
  refine gg_bipush (S := sX7_init) 15 rfl dX7_init_13 (by decide) ?_
  refine gg_ni (S := sX7_init) (cap := 10) (cs := 1) (sl := 48) 17 rfl ac_I dX7_init_15 (by decide) 2 58 ⟨rfl, rfl⟩ (by decide) (by decide) (fun t2 => ?_)
  refine gg_srF (S := sX7_init) cfX7 (by decide) (Or.inl ⟨_, rfl⟩) (fun _ _ => rfl) rfl rfl rfl 20 rfl flX7_13 dX7_init_17 ?_
  refine gg_aload_n (S := sX7_init) 0 21 rfl dX7_init_20 rfl rfl ?_
  refine gg_sipush (S := sX7_init) 24 rfl dX7_init_21 (by decide) ?_
  refine gg_ni (S := sX7_init) (cap := 140) (cs := 2) (sl := 58) 26 rfl ac_I dX7_init_24 (by decide) 3 198 ⟨rfl, rfl⟩ (by decide) (by decide) (fun t3 => ?_)
  refine gg_srF (S := sX7_init) cfX7 (by decide) (Or.inl ⟨_, rfl⟩) (fun _ _ => rfl) rfl rfl rfl 29 rfl flX7_16 dX7_init_26 ?_
  refine gg_aload_n (S := sX7_init) 0 30 rfl dX7_init_29 rfl rfl ?_
  refine gg_bipush (S := sX7_init) 32 rfl dX7_init_30 (by decide) ?_
  refine gg_ni (S := sX7_init) (cap := 10) (cs := 3) (sl := 198) 34 rfl ac_I dX7_init_32 (by decide) 4 208 ⟨rfl, rfl⟩ (by decide) (by decide) (fun t4 => ?_)
  refine gg_srF (S := sX7_init) cfX7 (by decide) (Or.inl ⟨_, rfl⟩) (fun _ _ => rfl) rfl rfl rfl 37 rfl flX7_19 dX7_init_34 ?_
  refine gg_aload_n (S := sX7_init) 0 38 rfl dX7_init_37 rfl rfl ?_
  refine gg_bipush (S := sX7_init) 40 rfl dX7_init_38 (by decide) ?_
  refine gg_ni (S := sX7_init) (cap := 10) (cs := 4) (sl := 208) 42 rfl ac_I dX7_init_40 (by decide) 5 218 ⟨rfl, rfl⟩ (by decide) (by decide) (fun t5 => ?_)
  refine gg_srF (S := sX7_init) cfX7 (by decide) (Or.inl ⟨_, rfl⟩) (fun _ _ => rfl) rfl rfl rfl 45 rfl flX7_22 dX7_init_42 ?_
  refine gg_aload_n (S := sX7_init) 0 46 rfl dX7_init_45 rfl rfl ?_
  refine gg_bipush (S := sX7_init) 48 rfl dX7_init_46 (by decide) ?_
  refine gg_ni (S := sX7_init) (cap := 10) (cs := 5) (sl := 218) 50 rfl ac_I dX7_init_48 (by decide) 6 228 ⟨rfl, rfl⟩ (by decide) (by decide) (fun t6 => ?_)
  refine gg_srF (S := sX7_init) cfX7 (by decide) (Or.inl ⟨_, rfl⟩) (fun _ _ => rfl) rfl rfl rfl 53 rfl flX7_25 dX7_init_50 ?_
  refine gg_aload_n (S := sX7_init) 0 54 rfl dX7_init_53 rfl rfl ?_
  refine gg_bipush (S := sX7_init) 56 rfl dX7_init_54 (by decide) ?_
  refine gg_ni (S := sX7_init) (cap := 12) (cs := 6) (sl := 228) 58 rfl ac_I dX7_init_56 (by decide) 7 240 ⟨rfl, rfl⟩ (by decide) (by decide) (fun t7 => ?_)
  refine gg_srF (S := sX7_init) cfX7 (by decide) (Or.inl ⟨_, rfl⟩) (fun _ _ => rfl) rfl rfl rfl 61 rfl flX7_28 dX7_init_58 ?_
  refine gg_aload_n (S := sX7_init) 0 62 rfl dX7_init_61 rfl rfl ?_
  refine gg_bipush (S := sX7_init) 64 rfl dX7_init_62 (by decide) ?_
  refine gg_ni (S := sX7_init) (cap := 120) (cs := 7) (sl := 240) 66 rfl ac_I dX7_init_64 (by decide) 8 360 ⟨rfl, rfl⟩ (by decide) (by decide) (fun t8 => ?_)
  refine gg_srF (S := sX7_init) cfX7 (by decide) (Or.inl ⟨_, rfl⟩) (fun _ _ => rfl) rfl rfl rfl 69 rfl flX7_31 dX7_init_66 ?_
  refine gg_aload_n (S := sX7_init) 0 70 rfl dX7_init_69 rfl rfl ?_
  refine gg_bipush (S := sX7_init) 72 rfl dX7_init_70 (by decide) ?_
  refine gg_ni (S := sX7_init) (cap := 120) (cs := 8) (sl := 360) 74 rfl ac_I dX7_init_72 (by decide) 9 480 ⟨rfl, rfl⟩ (by decide) (by decide) (fun t9 => ?_)
  refine gg_srF (S := sX7_init) cfX7 (by decide) (Or.inl ⟨_, rfl⟩) (fun _ _ => rfl) rfl rfl rfl 77 rfl flX7_34 dX7_init_74 ?_
  refine gg_aload_n (S := sX7_init) 0 78 rfl dX7_init_77 rfl rfl ?_
  refine gg_bipush (S := sX7_init) 80 rfl dX7_init_78 (by decide) ?_
  refine gg_ni (S := sX7_init) (cap := 120) (cs := 9) (sl := 480) 82 rfl ac_I dX7_init_80 (by decide) 10 600 ⟨rfl, rfl⟩ (by decide) (by decide) (fun t10 => ?_)
  refine gg_srF (S := sX7_init) cfX7 (by decide) (Or.inl ⟨_, rfl⟩) (fun _ _ => rfl) rfl rfl rfl 85 rfl flX7_37 dX7_init_82 ?_
  refine gg_aload_n (S := sX7_init) 0 86 rfl dX7_init_85 rfl rfl ?_
  refine gg_sipush (S := sX7_init) 89 rfl dX7_init_86 (by decide) ?_
  refine gg_ni (S := sX7_init) (cap := 336) (cs := 10) (sl := 600) 91 rfl ac_I dX7_init_89 (by decide) 11 936 ⟨rfl, rfl⟩ (by decide) (by decide) (fun t11 => ?_)
  refine gg_srF (S := sX7_init) cfX7 (by decide) (Or.inl ⟨_, rfl⟩) (fun _ _ => rfl) rfl rfl rfl 94 rfl flX7_40 dX7_init_91 ?_
  refine gg_aload_n (S := sX7_init) 0 95 rfl dX7_init_94 rfl rfl ?_
  refine gg_sipush (S := sX7_init) 98 rfl dX7_init_95 (by decide) ?_
  refine gg_ni (S := sX7_init) (cap := 336) (cs := 11) (sl := 936) 100 rfl ac_I dX7_init_98 (by decide) 12 1272 ⟨rfl, rfl⟩ (by decide) (by decide) (fun t12 => ?_)
  refine gg_srF (S := sX7_init) cfX7 (by decide) (Or.inl ⟨_, rfl⟩) (fun _ _ => rfl) rfl rfl rfl 103 rfl flX7_43 dX7_init_100 ?_
  refine gg_aload_n (S := sX7_init) 0 104 rfl dX7_init_103 rfl rfl ?_
  refine gg_bipush (S := sX7_init) 106 rfl dX7_init_104 (by decide) ?_
  refine gg_ni (S := sX7_init) (cap := 40) (cs := 12) (sl := 1272) 108 rfl ac_I dX7_init_106 (by decide) 13 1312 ⟨rfl, rfl⟩ (by decide) (by decide) (fun t13 => ?_)
  refine gg_srF (S := sX7_init) cfX7 (by decide) (Or.inl ⟨_, rfl⟩) (fun _ _ => rfl) rfl rfl rfl 111 rfl flX7_46 dX7_init_108 ?_
  refine gg_aload_n (S := sX7_init) 0 112 rfl dX7_init_111 rfl rfl ?_
  refine gg_bipush (S := sX7_init) 114 rfl dX7_init_112 (by decide) ?_
  refine gg_ni (S := sX7_init) (cap := 40) (cs := 13) (sl := 1312) 116 rfl ac_I dX7_init_114 (by decide) 14 1352 ⟨rfl, rfl⟩ (by decide) (by decide) (fun t14 => ?_)
  refine gg_srF (S := sX7_init) cfX7 (by decide) (Or.inl ⟨_, rfl⟩) (fun _ _ => rfl) rfl rfl rfl 119 rfl flX7_49 dX7_init_116 ?_
  refine gg_aload_n (S := sX7_init) 0 120 rfl dX7_init_119 rfl rfl ?_
  refine gg_bipush (S := sX7_init) 122 rfl dX7_init_120 (by decide) ?_
  refine gg_ni (S := sX7_init) (cap := 40) (cs := 14) (sl := 1352) 124 rfl ac_I dX7_init_122 (by decide) 15 1392 ⟨rfl, rfl⟩ (by decide) (by decide) (fun t15 => ?_)
  refine gg_srF (S := sX7_init) cfX7 (by decide) (Or.inl ⟨_, rfl⟩) (fun _ _ => rfl) rfl rfl rfl 127 rfl flX7_52 dX7_init_124 ?_
  refine gg_aload_n (S := sX7_init) 0 128 rfl dX7_init_127 rfl rfl ?_
  refine gg_bipush (S := sX7_init) 130 rfl dX7_init_128 (by decide) ?_
  refine gg_ni (S := sX7_init) (cap := 120) (cs := 15) (sl := 1392) 132 rfl ac_I dX7_init_130 (by decide) 16 1512 ⟨rfl, rfl⟩ (by decide) (by decide) (fun t16 => ?_)
  refine gg_srF (S := sX7_init) cfX7 (by decide) (Or.inl ⟨_, rfl⟩) (fun _ _ => rfl) rfl rfl rfl 135 rfl flX7_55 dX7_init_132 ?_
  refine gg_aload_n (S := sX7_init) 0 136 rfl dX7_init_135 rfl rfl ?_
  refine gg_bipush (S := sX7_init) 138 rfl dX7_init_136 (by decide) ?_
  refine gg_ni (S := sX7_init) (cap := 120) (cs := 16) (sl := 1512) 140 rfl ac_I dX7_init_138 (by decide) 17 1632 ⟨rfl, rfl⟩ (by decide) (by decide) (fun t17 => ?_)
  refine gg_srF (S := sX7_init) cfX7 (by decide) (Or.inl ⟨_, rfl⟩) (fun _ _ => rfl) rfl rfl rfl 143 rfl flX7_58 dX7_init_140 ?_
  refine gg_aload_n (S := sX7_init) 0 144 rfl dX7_init_143 rfl rfl ?_
  refine gg_sipush (S := sX7_init) 147 rfl dX7_init_144 (by decide) ?_
  refine gg_ni (S := sX7_init) (cap := 225) (cs := 17) (sl := 1632) 149 rfl ac_I dX7_init_147 (by decide) 18 1857 ⟨rfl, rfl⟩ (by decide) (by decide) (fun t18 => ?_)
  refine gg_srF (S := sX7_init) cfX7 (by decide) (Or.inl ⟨_, rfl⟩) (fun _ _ => rfl) rfl rfl rfl 152 rfl flX7_61 dX7_init_149 ?_
  refine gg_aload_n (S := sX7_init) 0 153 rfl dX7_init_152 rfl rfl ?_
  refine gg_bipush (S := sX7_init) 155 rfl dX7_init_153 (by decide) ?_
  refine gg_ni (S := sX7_init) (cap := 14) (cs := 18) (sl := 1857) 157 rfl ac_I dX7_init_155 (by decide) 19 1871 ⟨rfl, rfl⟩ (by decide) (by decide) (fun t19 => ?_)
  refine gg_srF (S := sX7_init) cfX7 (by decide) (Or.inl ⟨_, rfl⟩) (fun _ _ => rfl) rfl rfl rfl 160 rfl flX7_64 dX7_init_157 ?_
  refine gg_aload_n (S := sX7_init) 0 161 rfl dX7_init_160 rfl rfl ?_
  refine gg_bipush (S := sX7_init) 163 rfl dX7_init_161 (by decide) ?_
  refine gg_ni (S := sX7_init) (cap := 80) (cs := 19) (sl := 1871) 165 rfl ac_I dX7_init_163 (by decide) 20 1951 ⟨rfl, rfl⟩ (by decide) (by decide) (fun t20 => ?_)
  refine gg_srF (S := sX7_init) cfX7 (by decide) (Or.inl ⟨_, rfl⟩) (fun _ _ => rfl) rfl rfl rfl 168 rfl flX7_67 dX7_init_165 ?_
  refine gg_aload_n (S := sX7_init) 0 169 rfl dX7_init_168 rfl rfl ?_
  refine gg_bipush (S := sX7_init) 171 rfl dX7_init_169 (by decide) ?_
  refine gg_ni (S := sX7_init) (cap := 15) (cs := 20) (sl := 1951) 173 rfl ac_I dX7_init_171 (by decide) 21 1966 ⟨rfl, rfl⟩ (by decide) (by decide) (fun t21 => ?_)
  refine gg_srF (S := sX7_init) cfX7 (by decide) (Or.inl ⟨_, rfl⟩) (fun _ _ => rfl) rfl rfl rfl 176 rfl flX7_70 dX7_init_173 ?_
  refine gg_aload_n (S := sX7_init) 0 177 rfl dX7_init_176 rfl rfl ?_
  refine gg_bipush (S := sX7_init) 179 rfl dX7_init_177 (by decide) ?_
  refine gg_ni (S := sX7_init) (cap := 15) (cs := 21) (sl := 1966) 181 rfl ac_I dX7_init_179 (by decide) 22 1981 ⟨rfl, rfl⟩ (by decide) (by decide) (fun t22 => ?_)
  refine gg_srF (S := sX7_init) cfX7 (by decide) (Or.inl ⟨_, rfl⟩) (fun _ _ => rfl) rfl rfl rfl 184 rfl flX7_73 dX7_init_181 ?_
  refine gg_aload_n (S := sX7_init) 0 185 rfl dX7_init_184 rfl rfl ?_
  refine gg_bipush (S := sX7_init) 187 rfl dX7_init_185 (by decide) ?_
  refine gg_ni (S := sX7_init) (cap := 15) (cs := 22) (sl := 1981) 189 rfl ac_I dX7_init_187 (by decide) 23 1996 ⟨rfl, rfl⟩ (by decide) (by decide) (fun t23 => ?_)
  refine gg_srF (S := sX7_init) cfX7 (by decide) (Or.inl ⟨_, rfl⟩) (fun _ _ => rfl) rfl rfl rfl 192 rfl flX7_76 dX7_init_189 ?_
  refine gg_aload_n (S := sX7_init) 0 193 rfl dX7_init_192 rfl rfl ?_
  refine gg_bipush (S := sX7_init) 195 rfl dX7_init_193 (by decide) ?_
  refine gg_ni (S := sX7_init) (cap := 28) (cs := 23) (sl := 1996) 197 rfl ac_I dX7_init_195 (by decide) 24 2024 ⟨rfl, rfl⟩ (by decide) (by decide) (fun t24 => ?_)
  refine gg_srF (S := sX7_init) cfX7 (by decide) (Or.inl ⟨_, rfl⟩) (fun _ _ => rfl) rfl rfl rfl 200 rfl flX7_79 dX7_init_197 ?_
  refine gg_aload_n (S := sX7_init) 0 201 rfl dX7_init_200 rfl rfl ?_
  refine gg_bipush (S := sX7_init) 203 rfl dX7_init_201 (by decide) ?_
  refine gg_ni (S := sX7_init) (cap := 36) (cs := 24) (sl := 2024) 205 rfl ac_I dX7_init_203 (by decide) 25 2060 ⟨rfl, rfl⟩ (by decide) (by decide) (fun t25 => ?_)
  refine gg_srF (S := sX7_init) cfX7 (by decide) (Or.inl ⟨_, rfl⟩) (fun _ _ => rfl) rfl rfl rfl 208 rfl flX7_82 dX7_init_205 ?_
  refine gg_aload_n (S := sX7_init) 0 209 rfl dX7_init_208 rfl rfl ?_
  refine gg_bipush (S := sX7_init) 211 rfl dX7_init_209 (by decide) ?_
  refine gg_ni (S := sX7_init) (cap := 6) (cs := 25) (sl := 2060) 213 rfl ac_I dX7_init_211 (by decide) 26 2066 ⟨rfl, rfl⟩ (by decide) (by decide) (fun t26 => ?_)
  refine gg_srF (S := sX7_init) cfX7 (by decide) (Or.inl ⟨_, rfl⟩) (fun _ _ => rfl) rfl rfl rfl 216 rfl flX7_85 dX7_init_213 ?_
  refine gg_aload_n (S := sX7_init) 0 217 rfl dX7_init_216 rfl rfl ?_
  refine gg_bipush (S := sX7_init) 219 rfl dX7_init_217 (by decide) ?_
  refine gg_ni (S := sX7_init) (cap := 6) (cs := 26) (sl := 2066) 221 rfl ac_I dX7_init_219 (by decide) 27 2072 ⟨rfl, rfl⟩ (by decide) (by decide) (fun t27 => ?_)
  refine gg_srF (S := sX7_init) cfX7 (by decide) (Or.inl ⟨_, rfl⟩) (fun _ _ => rfl) rfl rfl rfl 224 rfl flX7_88 dX7_init_221 ?_
  refine gg_aload_n (S := sX7_init) 0 225 rfl dX7_init_224 rfl rfl ?_
  refine gg_bipush (S := sX7_init) 227 rfl dX7_init_225 (by decide) ?_
  refine gg_ni (S := sX7_init) (cap := 6) (cs := 27) (sl := 2072) 229 rfl ac_I dX7_init_227 (by decide) 28 2078 ⟨rfl, rfl⟩ (by decide) (by decide) (fun t28 => ?_)
  refine gg_srF (S := sX7_init) cfX7 (by decide) (Or.inl ⟨_, rfl⟩) (fun _ _ => rfl) rfl rfl rfl 232 rfl flX7_91 dX7_init_229 ?_
  refine gg_aload_n (S := sX7_init) 0 233 rfl dX7_init_232 rfl rfl ?_
  refine gg_bipush (S := sX7_init) 235 rfl dX7_init_233 (by decide) ?_
  refine gg_ni (S := sX7_init) (cap := 6) (cs := 28) (sl := 2078) 237 rfl ac_I dX7_init_235 (by decide) 29 2084 ⟨rfl, rfl⟩ (by decide) (by decide) (fun t29 => ?_)
  refine gg_srF (S := sX7_init) cfX7 (by decide) (Or.inl ⟨_, rfl⟩) (fun _ _ => rfl) rfl rfl rfl 240 rfl flX7_94 dX7_init_237 ?_
  exact gg_pure (gg_vret (S := sX7_init) rfl dX7_init_240 (by decide) (by decide))

set_option maxRecDepth 100000 in
set_option maxHeartbeats 4000000 in
theorem lkX7_isAsk (x0 : Nat) (x1 : Int) (x2 : Int) : LK yX7_isAsk sX7_isAsk [vr (some x0), vi x1, vi x2] en_i (X7_isAsk x0 x1 x2) := by
  refine lk_go (L := [(0, vr (some x0)), (1, vi x1), (2, vi x2)]) (by decide +kernel) rfl (fun h => by cases h) (Nat.le_of_ble_eq_true rfl) rfl ?_
  intro K
  unfold X7_isAsk
  refine gg_iload_n (S := sX7_isAsk) 1 1 rfl dX7_isAsk_0 rfl rfl ?_
  refine gg_iconst (S := sX7_isAsk) 2 rfl dX7_isAsk_1 ?_
  refine gg_aload_n (S := sX7_isAsk) 0 3 rfl dX7_isAsk_2 rfl rfl ?_
  refine gg_gi (S := sX7_isAsk) cfX7 (by decide) (fun _ _ => rfl) 6 rfl flX7_97 dX7_isAsk_3 (fun t1 => ?_)
  refine gg_bipush (S := sX7_isAsk) 8 rfl dX7_isAsk_6 (by decide) ?_
  refine gg_join (fun t3 => [(2, vi x2)]) (fun t3 => [vi t3, vi 1, vi x1]) 20 0 0 (fun κ8 hJ8 => ?_) ?_
  · refine gg_ic_ge (S := sX7_isAsk) (tgt := 18) 11 rfl dX7_isAsk_8 (by decide) ?_ ?_
    · refine gg_aload_n (S := sX7_isAsk) 0 12 rfl dX7_isAsk_11 rfl rfl ?_
      refine gg_gi (S := sX7_isAsk) cfX7 (by decide) (fun _ _ => rfl) 15 rfl flX7_97 dX7_isAsk_12 (fun t2 => ?_)
      refine gg_goto (S := sX7_isAsk) (tgt := 20) dX7_isAsk_15 (by decide) ?_
      exact gg_pure (gg_sub [2] rfl (hJ8 t2))
    · refine gg_bipush (S := sX7_isAsk) 20 rfl dX7_isAsk_18 (by decide) ?_
      exact gg_pure (gg_sub [2] rfl (hJ8 6))
  · intro t3
    refine gg_callSi (S := sX7_isAsk) (S' := sX7_within) (cs := 0) (sl := 0) (As := [vi x1, vi 1, vi t3]) (st := []) 23 rfl (lkX7_within x1 1 t3) mwX7_within rfl mlX7_101 dX7_isAsk_20 ⟨by decide, by decide⟩ 0 0 ⟨rfl, rfl⟩ ⟨by decide, by decide⟩ (Nat.le_of_ble_eq_true rfl) (fun t4 => ?_)
    refine gg_if_eq (S := sX7_isAsk) (tgt := 41) 26 rfl dX7_isAsk_23 (by decide) ?_ ?_
    · refine gg_iconst (S := sX7_isAsk) 42 rfl dX7_isAsk_41 ?_
      exact gg_pure (gg_zretc (S := sX7_isAsk) (by decide) rfl dX7_isAsk_42 (by decide) (by decide))
    · refine gg_iload_n (S := sX7_isAsk) 0 27 rfl dX7_isAsk_26 rfl rfl ?_
      refine gg_iconst (S := sX7_isAsk) 28 rfl dX7_isAsk_27 ?_
      refine gg_sipush (S := sX7_isAsk) 31 rfl dX7_isAsk_28 (by decide) ?_
      refine gg_callSi (S := sX7_isAsk) (S' := sX7_within) (cs := 0) (sl := 0) (As := [vi x2, vi 1, vi 999]) (st := []) 34 rfl (lkX7_within x2 1 999) mwX7_within rfl mlX7_101 dX7_isAsk_31 ⟨by decide, by decide⟩ 0 0 ⟨rfl, rfl⟩ ⟨by decide, by decide⟩ (Nat.le_of_ble_eq_true rfl) (fun t5 => ?_)
      refine gg_if_eq (S := sX7_isAsk) (tgt := 41) 37 rfl dX7_isAsk_34 (by decide) ?_ ?_
      · refine gg_iconst (S := sX7_isAsk) 42 rfl dX7_isAsk_41 ?_
        exact gg_pure (gg_zretc (S := sX7_isAsk) (by decide) rfl dX7_isAsk_42 (by decide) (by decide))
      · refine gg_iconst (S := sX7_isAsk) 38 rfl dX7_isAsk_37 ?_
        refine gg_goto (S := sX7_isAsk) (tgt := 42) dX7_isAsk_38 (by decide) ?_
        exact gg_pure (gg_zretc (S := sX7_isAsk) (by decide) rfl dX7_isAsk_42 (by decide) (by decide))

set_option maxRecDepth 100000 in
set_option maxHeartbeats 4000000 in
theorem lkX7_toDesk (x0 : Nat) : LK yX7_toDesk sX7_toDesk [vr (some x0)] en_v (X7_toDesk x0) := by
  refine lk_go (L := [(0, vr (some x0))]) (by decide +kernel) rfl (fun h => by cases h) (Nat.le_of_ble_eq_true rfl) rfl ?_
  intro K
  unfold X7_toDesk
  refine gg_aload_n (S := sX7_toDesk) 0 1 rfl dX7_toDesk_0 rfl rfl ?_
  refine gg_aload_n (S := sX7_toDesk) 0 2 rfl dX7_toDesk_1 rfl rfl ?_
  refine gg_gi (S := sX7_toDesk) cfX7 (by decide) (fun _ _ => rfl) 5 rfl flX7_178 dX7_toDesk_2 (fun t1 => ?_)
  refine gg_si (S := sX7_toDesk) cfX7 (by decide) rfl (fun _ _ => rfl) rfl 8 rfl flX7_108 dX7_toDesk_5 ?_
  refine gg_iconst (S := sX7_toDesk) 9 rfl dX7_toDesk_8 ?_
  refine gg_istore_n (S := sX7_toDesk) (L' := [(1, vi 0), (0, vr (some x0))]) 10 rfl dX7_toDesk_9 rfl (by decide) rfl ?_
  refine gg_sub [1, 0] rfl ?_
  refine gg_loopA (fun y2 => [(0, vr (some x0)), (1, vi y2)]) (fun _ => []) 36 mo_N ?_ ?_ 0
  · intro κ10 hr10 he10
    intro y2
    dsimp only [X7_toDesk_L10]
    refine gg_iload_n (S := sX7_toDesk) 1 11 rfl dX7_toDesk_10 rfl rfl ?_
    refine gg_aload_n (S := sX7_toDesk) 0 12 rfl dX7_toDesk_11 rfl rfl ?_
    refine gg_gi (S := sX7_toDesk) cfX7 (by decide) (fun _ _ => rfl) 15 rfl flX7_178 dX7_toDesk_12 (fun t3 => ?_)
    refine gg_ic_ge (S := sX7_toDesk) (tgt := 36) 18 rfl dX7_toDesk_15 (by decide) ?_ ?_
    · refine gg_aload_n (S := sX7_toDesk) 0 19 rfl dX7_toDesk_18 rfl rfl ?_
      refine gg_gr (S := sX7_toDesk) cfX7 (by decide) (fun _ _ => rfl) 22 rfl flX7_7 dX7_toDesk_19 (fun t4 => ?_)
      refine gg_iload_n (S := sX7_toDesk) 1 23 rfl dX7_toDesk_22 rfl rfl ?_
      refine gg_aload_n (S := sX7_toDesk) 0 24 rfl dX7_toDesk_23 rfl rfl ?_
      refine gg_gr (S := sX7_toDesk) cfX7 (by decide) (fun _ _ => rfl) 27 rfl flX7_67 dX7_toDesk_24 (fun t5 => ?_)
      refine gg_iload_n (S := sX7_toDesk) 1 28 rfl dX7_toDesk_27 rfl rfl ?_
      refine gg_ld (S := sX7_toDesk) 29 rfl dX7_toDesk_28 (fun t6 => ?_)
      refine gg_st (S := sX7_toDesk) 30 rfl dX7_toDesk_29 ?_
      refine gg_iinc (S := sX7_toDesk) (L' := [(1, vi (y2 + 1)), (0, vr (some x0))]) 1 33 rfl dX7_toDesk_30 rfl (by decide) rfl ?_
      refine gg_goto (S := sX7_toDesk) (tgt := 10) dX7_toDesk_33 (by decide) ?_
      exact gg_pure (gg_sub [1, 0] rfl (hr10 (y2 + 1)))
    · exact gg_pure (gg_sub [] rfl (he10 ()))
  · intro _
    exact gg_pure (gg_vret (S := sX7_toDesk) rfl dX7_toDesk_36 (by decide) (by decide))

set_option maxRecDepth 100000 in
set_option maxHeartbeats 4000000 in
theorem lkX7_join (x0 : Nat) (x1 : Int) (x2 : Int) (x3 : Int) : LK yX7_join sX7_join [vr (some x0), vi x1, vi x2, vi x3] en_i (X7_join x0 x1 x2 x3) := by
  refine lk_go (L := [(0, vr (some x0)), (1, vi x1), (2, vi x2), (3, vi x3)]) (by decide +kernel) rfl (fun h => by cases h) (Nat.le_of_ble_eq_true rfl) rfl ?_
  intro K
  unfold X7_join
  refine gg_aload_n (S := sX7_join) 0 1 rfl dX7_join_0 rfl rfl ?_
  refine gg_iload_n (S := sX7_join) 1 2 rfl dX7_join_1 rfl rfl ?_
  refine gg_iload_n (S := sX7_join) 2 3 rfl dX7_join_2 rfl rfl ?_
  refine gg_iload_n (S := sX7_join) 3 4 rfl dX7_join_3 rfl rfl ?_
  refine gg_callVi (S := sX7_join) (S' := sX7_areVersions) (cs := 0) (sl := 0) (As := [vi x1, vi x2, vi x3]) (st := []) 7 rfl (fun b67 => lkX7_areVersions b67 x1 x2 x3) mwX7_areVersions rfl mlX7_251 dX7_join_4 cfX7 ⟨by decide, by decide⟩ 0 0 ⟨rfl, rfl⟩ ⟨by decide, by decide⟩ (Nat.le_of_ble_eq_true rfl) (fun t1 => ?_)
  refine gg_if_ne (S := sX7_join) (tgt := 13) 10 rfl dX7_join_7 (by decide) ?_ ?_
  · refine gg_bipush (S := sX7_join) 12 rfl dX7_join_10 (by decide) ?_
    exact gg_pure (gg_iret (S := sX7_join) rfl dX7_join_12 (by decide) (by decide))
  · refine gg_aload_n (S := sX7_join) 0 14 rfl dX7_join_13 rfl rfl ?_
    refine gg_iload_n (S := sX7_join) 1 15 rfl dX7_join_14 rfl rfl ?_
    refine gg_iload_n (S := sX7_join) 2 16 rfl dX7_join_15 rfl rfl ?_
    refine gg_iload_n (S := sX7_join) 3 17 rfl dX7_join_16 rfl rfl ?_
    refine gg_callVi (S := sX7_join) (S' := sX7_clashMany) (cs := 0) (sl := 0) (As := [vi x1, vi x2, vi x3]) (st := []) 20 rfl (fun b66 => lkX7_clashMany b66 x1 x2 x3) mwX7_clashMany rfl mlX7_254 dX7_join_17 cfX7 ⟨by decide, by decide⟩ 0 0 ⟨rfl, rfl⟩ ⟨by decide, by decide⟩ (Nat.le_of_ble_eq_true rfl) (fun t2 => ?_)
    refine gg_if_le (S := sX7_join) (tgt := 26) 23 rfl dX7_join_20 (by decide) ?_ ?_
    · refine gg_aload_n (S := sX7_join) 0 27 rfl dX7_join_26 rfl rfl ?_
      refine gg_iconst (S := sX7_join) 28 rfl dX7_join_27 ?_
      refine gg_si (S := sX7_join) cfX7 (by decide) rfl (fun _ _ => rfl) rfl 31 rfl flX7_178 dX7_join_28 ?_
      refine gg_iconst (S := sX7_join) 32 rfl dX7_join_31 ?_
      refine gg_istore (S := sX7_join) (L' := [(4, vi 0), (0, vr (some x0)), (1, vi x1), (2, vi x2), (3, vi x3)]) 34 rfl dX7_join_32 (by decide) rfl ?_
      refine gg_iconst (S := sX7_join) 35 rfl dX7_join_34 ?_
      refine gg_istore (S := sX7_join) (L' := [(5, vi 0), (4, vi 0), (0, vr (some x0)), (1, vi x1), (2, vi x2), (3, vi x3)]) 37 rfl dX7_join_35 (by decide) rfl ?_
      refine gg_iconst (S := sX7_join) 38 rfl dX7_join_37 ?_
      refine gg_istore (S := sX7_join) (L' := [(6, vi 0), (5, vi 0), (4, vi 0), (0, vr (some x0)), (1, vi x1), (2, vi x2), (3, vi x3)]) 40 rfl dX7_join_38 (by decide) rfl ?_
      refine gg_sub [3, 4, 2, 1, 0] rfl ?_
      refine gg_loopA (fun (y3, y4, y5) => [(0, vr (some x0)), (1, vi x1), (4, vi y3), (5, vi y4), (6, vi y5)]) (fun _ => [(0, vr (some x0))]) 389 mo_N ?_ ?_ (0, 0, 0)
      · intro κ40 hr40 he40
        rintro ⟨y3, y4, y5⟩
        dsimp only [X7_join_L40]
        refine gg_iload (S := sX7_join) 4 42 rfl dX7_join_40 rfl ?_
        refine gg_aload_n (S := sX7_join) 0 43 rfl dX7_join_42 rfl rfl ?_
        refine gg_gr (S := sX7_join) cfX7 (by decide) (fun _ _ => rfl) 46 rfl flX7_13 dX7_join_43 (fun t6 => ?_)
        refine gg_iload_n (S := sX7_join) 1 47 rfl dX7_join_46 rfl rfl ?_
        refine gg_ld (S := sX7_join) 48 rfl dX7_join_47 (fun t7 => ?_)
        refine gg_cond [(0, vr (some x0)), (1, vi x1), (4, vi y3), (5, vi y4), (6, vi y5)] [(0, vr (some x0))] [] 69 389 0 0 (fun κ48 hT48 hF48 => ?_) ?_ ?_
        · refine gg_ic_lt (S := sX7_join) (tgt := 69) 51 rfl dX7_join_48 (by decide) ?_ ?_
          · exact gg_pure (gg_sub [0, 1, 2, 3, 4] rfl hT48)
          · refine gg_iload (S := sX7_join) 2 53 rfl dX7_join_51 rfl ?_
            refine gg_aload_n (S := sX7_join) 0 54 rfl dX7_join_53 rfl rfl ?_
            refine gg_gi (S := sX7_join) cfX7 (by decide) (fun _ _ => rfl) 57 rfl flX7_233 dX7_join_54 (fun t8 => ?_)
            refine gg_ic_lt (S := sX7_join) (tgt := 69) 60 rfl dX7_join_57 (by decide) ?_ ?_
            · exact gg_pure (gg_sub [0, 1, 2, 3, 4] rfl hT48)
            · refine gg_iload (S := sX7_join) 3 62 rfl dX7_join_60 rfl ?_
              refine gg_aload_n (S := sX7_join) 0 63 rfl dX7_join_62 rfl rfl ?_
              refine gg_gi (S := sX7_join) cfX7 (by decide) (fun _ _ => rfl) 66 rfl flX7_119 dX7_join_63 (fun t9 => ?_)
              refine gg_ic_ge (S := sX7_join) (tgt := 389) 69 rfl dX7_join_66 (by decide) ?_ ?_
              · exact gg_pure (gg_sub [0, 1, 2, 3, 4] rfl hT48)
              · exact gg_pure (gg_sub [0] rfl hF48)
        · refine gg_iload (S := sX7_join) 2 71 rfl dX7_join_69 rfl ?_
          refine gg_aload_n (S := sX7_join) 0 72 rfl dX7_join_71 rfl rfl ?_
          refine gg_gi (S := sX7_join) cfX7 (by decide) (fun _ _ => rfl) 75 rfl flX7_233 dX7_join_72 (fun t10 => ?_)
          refine gg_join (fun t13 => [(0, vr (some x0)), (1, vi x1), (4, vi y3), (5, vi y4), (6, vi y5)]) (fun t13 => [vi t13]) 95 0 0 (fun κ75 hJ75 => ?_) ?_
          · refine gg_ic_ge (S := sX7_join) (tgt := 94) 78 rfl dX7_join_75 (by decide) ?_ ?_
            · refine gg_aload_n (S := sX7_join) 0 79 rfl dX7_join_78 rfl rfl ?_
              refine gg_gr (S := sX7_join) cfX7 (by decide) (fun _ _ => rfl) 82 rfl flX7_70 dX7_join_79 (fun t11 => ?_)
              refine gg_iload (S := sX7_join) 2 84 rfl dX7_join_82 rfl ?_
              refine gg_ld (S := sX7_join) 85 rfl dX7_join_84 (fun t12 => ?_)
              refine gg_iload (S := sX7_join) 4 87 rfl dX7_join_85 rfl ?_
              refine gg_ic_ne (S := sX7_join) (tgt := 94) 90 rfl dX7_join_87 (by decide) ?_ ?_
              · refine gg_iconst (S := sX7_join) 91 rfl dX7_join_90 ?_
                refine gg_goto (S := sX7_join) (tgt := 95) dX7_join_91 (by decide) ?_
                exact gg_pure (gg_sub [0, 1, 2, 3, 4] rfl (hJ75 1))
              · refine gg_iconst (S := sX7_join) 95 rfl dX7_join_94 ?_
                exact gg_pure (gg_sub [0, 1, 2, 3, 4] rfl (hJ75 0))
            · refine gg_iconst (S := sX7_join) 95 rfl dX7_join_94 ?_
              exact gg_pure (gg_sub [0, 1, 2, 3, 4] rfl (hJ75 0))
          · intro t13
            refine gg_istore (S := sX7_join) (L' := [(7, vi t13), (0, vr (some x0)), (1, vi x1), (4, vi y3), (5, vi y4), (6, vi y5)]) 97 rfl dX7_join_95 (by decide) rfl ?_
            refine gg_iload (S := sX7_join) 4 99 rfl dX7_join_97 rfl ?_
            refine gg_aload_n (S := sX7_join) 1 100 rfl dX7_join_99 rfl rfl ?_
            refine gg_gi (S := sX7_join) cfX7 (by decide) (fun _ _ => rfl) 103 rfl flX7_119 dX7_join_100 (fun t14 => ?_)
            refine gg_join (fun t17 => [(0, vr (some x0)), (1, vi x1), (4, vi y3), (5, vi y4), (6, vi y5), (7, vi t13)]) (fun t17 => [vi t17]) 123 0 0 (fun κ103 hJ103 => ?_) ?_
            · refine gg_ic_ge (S := sX7_join) (tgt := 122) 106 rfl dX7_join_103 (by decide) ?_ ?_
              · refine gg_aload_n (S := sX7_join) 1 107 rfl dX7_join_106 rfl rfl ?_
                refine gg_gr (S := sX7_join) cfX7 (by decide) (fun _ _ => rfl) 110 rfl flX7_46 dX7_join_107 (fun t15 => ?_)
                refine gg_iload (S := sX7_join) 4 112 rfl dX7_join_110 rfl ?_
                refine gg_ld (S := sX7_join) 113 rfl dX7_join_112 (fun t16 => ?_)
                refine gg_iload (S := sX7_join) 5 115 rfl dX7_join_113 rfl ?_
                refine gg_ic_ne (S := sX7_join) (tgt := 122) 118 rfl dX7_join_115 (by decide) ?_ ?_
                · refine gg_iconst (S := sX7_join) 119 rfl dX7_join_118 ?_
                  refine gg_goto (S := sX7_join) (tgt := 123) dX7_join_119 (by decide) ?_
                  exact gg_pure (gg_sub [1, 2, 3, 4, 5, 0] rfl (hJ103 1))
                · refine gg_iconst (S := sX7_join) 123 rfl dX7_join_122 ?_
                  exact gg_pure (gg_sub [1, 2, 3, 4, 5, 0] rfl (hJ103 0))
              · refine gg_iconst (S := sX7_join) 123 rfl dX7_join_122 ?_
                exact gg_pure (gg_sub [1, 2, 3, 4, 5, 0] rfl (hJ103 0))
            · intro t17
              refine gg_istore (S := sX7_join) (L' := [(8, vi t17), (0, vr (some x0)), (1, vi x1), (4, vi y3), (5, vi y4), (6, vi y5), (7, vi t13)]) 125 rfl dX7_join_123 (by decide) rfl ?_
              refine gg_iload (S := sX7_join) 6 127 rfl dX7_join_125 rfl ?_
              refine gg_join (fun (t43, t44, t45) => [(0, vr (some x0)), (1, vi x1), (4, vi t43), (5, vi t44), (6, vi t45)]) (fun (t43, t44, t45) => []) 287 0 0 (fun κ127 hJ127 => ?_) ?_
              · refine gg_cond [(0, vr (some x0)), (1, vi x1), (4, vi y3), (5, vi y4), (6, vi y5), (7, vi t13), (8, vi t17)] [(0, vr (some x0)), (1, vi x1), (4, vi y3), (5, vi y4), (6, vi y5)] [] 135 287 0 0 (fun κ127 hT127 hF127 => ?_) ?_ ?_
                · refine gg_if_ne (S := sX7_join) (tgt := 135) 130 rfl dX7_join_127 (by decide) ?_ ?_
                  · refine gg_iload (S := sX7_join) 0 132 rfl dX7_join_130 rfl ?_
                    refine gg_if_eq (S := sX7_join) (tgt := 287) 135 rfl dX7_join_132 (by decide) ?_ ?_
                    · exact gg_pure (gg_sub [1, 2, 3, 4, 5] rfl hF127)
                    · exact gg_pure (gg_sub [1, 2, 3, 4, 5, 6, 0] rfl hT127)
                  · exact gg_pure (gg_sub [1, 2, 3, 4, 5, 6, 0] rfl hT127)
                · refine gg_iload (S := sX7_join) 5 137 rfl dX7_join_135 rfl ?_
                  refine gg_join (fun t22 => [(0, vr (some x0)), (1, vi x1), (4, vi y3), (5, vi y4), (6, vi y5), (7, vi t13), (8, vi t17)]) (fun t22 => [vi t22]) 157 0 0 (fun κ137 hJ137 => ?_) ?_
                  · refine gg_if_eq (S := sX7_join) (tgt := 150) 140 rfl dX7_join_137 (by decide) ?_ ?_
                    · refine gg_aload_n (S := sX7_join) 0 151 rfl dX7_join_150 rfl rfl ?_
                      refine gg_gr (S := sX7_join) cfX7 (by decide) (fun _ _ => rfl) 154 rfl flX7_52 dX7_join_151 (fun t18 => ?_)
                      refine gg_iload (S := sX7_join) 3 156 rfl dX7_join_154 rfl ?_
                      refine gg_ld (S := sX7_join) 157 rfl dX7_join_156 (fun t19 => ?_)
                      exact gg_pure (gg_sub [0, 1, 2, 3, 4, 5, 6] rfl (hJ137 t19))
                    · refine gg_aload_n (S := sX7_join) 0 141 rfl dX7_join_140 rfl rfl ?_
                      refine gg_gr (S := sX7_join) cfX7 (by decide) (fun _ _ => rfl) 144 rfl flX7_76 dX7_join_141 (fun t20 => ?_)
                      refine gg_iload (S := sX7_join) 2 146 rfl dX7_join_144 rfl ?_
                      refine gg_ld (S := sX7_join) 147 rfl dX7_join_146 (fun t21 => ?_)
                      refine gg_goto (S := sX7_join) (tgt := 157) dX7_join_147 (by decide) ?_
                      exact gg_pure (gg_sub [0, 1, 2, 3, 4, 5, 6] rfl (hJ137 t21))
                  · intro t22
                    refine gg_istore (S := sX7_join) (L' := [(9, vi t22), (0, vr (some x0)), (1, vi x1), (4, vi y3), (5, vi y4), (6, vi y5), (7, vi t13), (8, vi t17)]) 159 rfl dX7_join_157 (by decide) rfl ?_
                    refine gg_iconst (S := sX7_join) 160 rfl dX7_join_159 ?_
                    refine gg_istore (S := sX7_join) (L' := [(10, vi 0), (9, vi t22), (0, vr (some x0)), (1, vi x1), (4, vi y3), (5, vi y4), (6, vi y5), (7, vi t13), (8, vi t17)]) 162 rfl dX7_join_160 (by decide) rfl ?_
                    refine gg_sub [2, 3, 4, 5, 6, 7, 8, 1, 0] rfl ?_
                    refine gg_loopA (fun y23 => [(0, vr (some x0)), (1, vi x1), (4, vi y3), (5, vi y4), (6, vi y5), (7, vi t13), (8, vi t17), (9, vi t22), (10, vi y23)]) (fun _ => [(0, vr (some x0)), (1, vi x1), (4, vi y3), (5, vi y4), (6, vi y5), (7, vi t13), (8, vi t17)]) 230 mo_N ?_ ?_ 0
                    · intro κ162 hr162 he162
                      intro y23
                      dsimp only [X7_join_L162]
                      refine gg_iload (S := sX7_join) 8 164 rfl dX7_join_162 rfl ?_
                      refine gg_iload (S := sX7_join) 7 166 rfl dX7_join_164 rfl ?_
                      refine gg_ic_ge (S := sX7_join) (tgt := 230) 169 rfl dX7_join_166 (by decide) ?_ ?_
                      · refine gg_aload_n (S := sX7_join) 0 170 rfl dX7_join_169 rfl rfl ?_
                        refine gg_gr (S := sX7_join) cfX7 (by decide) (fun _ _ => rfl) 173 rfl flX7_67 dX7_join_170 (fun t24 => ?_)
                        refine gg_aload_n (S := sX7_join) 0 174 rfl dX7_join_173 rfl rfl ?_
                        refine gg_gi (S := sX7_join) cfX7 (by decide) (fun _ _ => rfl) 177 rfl flX7_178 dX7_join_174 (fun t25 => ?_)
                        refine gg_iload (S := sX7_join) 5 179 rfl dX7_join_177 rfl ?_
                        refine gg_join (fun t34 => [(0, vr (some x0)), (1, vi x1), (4, vi y3), (5, vi y4), (6, vi y5), (7, vi t13), (8, vi t17), (9, vi t22), (10, vi y23)]) (fun t34 => [vi t34, vi t25, vr t24]) 213 0 0 (fun κ179 hJ179 => ?_) ?_
                        · refine gg_if_eq (S := sX7_join) (tgt := 199) 182 rfl dX7_join_179 (by decide) ?_ ?_
                          · refine gg_aload_n (S := sX7_join) 0 200 rfl dX7_join_199 rfl rfl ?_
                            refine gg_gr (S := sX7_join) cfX7 (by decide) (fun _ _ => rfl) 203 rfl flX7_58 dX7_join_200 (fun t26 => ?_)
                            refine gg_aload_n (S := sX7_join) 0 204 rfl dX7_join_203 rfl rfl ?_
                            refine gg_iload (S := sX7_join) 3 206 rfl dX7_join_204 rfl ?_
                            refine gg_callVi (S := sX7_join) (S' := sX7_workFrom) (cs := 0) (sl := 0) (As := [vi y4]) (st := [vr t26, vi t25, vr t24]) 209 rfl (fun b28 => lkX7_workFrom b28 y4) mwX7_workFrom rfl mlX7_239 dX7_join_206 cfX7 ⟨by decide, by decide⟩ 0 0 ⟨rfl, rfl⟩ ⟨by decide, by decide⟩ (Nat.le_of_ble_eq_true rfl) (fun t27 => ?_)
                            refine gg_iload (S := sX7_join) 8 211 rfl dX7_join_209 rfl ?_
                            refine gg_iadd (S := sX7_join) 212 rfl dX7_join_211 ?_
                            refine gg_ld (S := sX7_join) 213 rfl dX7_join_212 (fun t28 => ?_)
                            exact gg_pure (gg_sub [0, 1, 2, 3, 4, 5, 6, 7, 8] rfl (hJ179 t28))
                          · refine gg_aload_n (S := sX7_join) 0 183 rfl dX7_join_182 rfl rfl ?_
                            refine gg_gr (S := sX7_join) cfX7 (by decide) (fun _ _ => rfl) 186 rfl flX7_79 dX7_join_183 (fun t30 => ?_)
                            refine gg_aload_n (S := sX7_join) 0 187 rfl dX7_join_186 rfl rfl ?_
                            refine gg_iload (S := sX7_join) 2 189 rfl dX7_join_187 rfl ?_
                            refine gg_callVi (S := sX7_join) (S' := sX7_xFrom) (cs := 0) (sl := 0) (As := [vi y3]) (st := [vr t30, vi t25, vr t24]) 192 rfl (fun b32 => lkX7_xFrom b32 y3) mwX7_xFrom rfl mlX7_236 dX7_join_189 cfX7 ⟨by decide, by decide⟩ 0 0 ⟨rfl, rfl⟩ ⟨by decide, by decide⟩ (Nat.le_of_ble_eq_true rfl) (fun t31 => ?_)
                            refine gg_iload (S := sX7_join) 8 194 rfl dX7_join_192 rfl ?_
                            refine gg_iadd (S := sX7_join) 195 rfl dX7_join_194 ?_
                            refine gg_ld (S := sX7_join) 196 rfl dX7_join_195 (fun t32 => ?_)
                            refine gg_goto (S := sX7_join) (tgt := 213) dX7_join_196 (by decide) ?_
                            exact gg_pure (gg_sub [0, 1, 2, 3, 4, 5, 6, 7, 8] rfl (hJ179 t32))
                        · intro t34
                          refine gg_st (S := sX7_join) 214 rfl dX7_join_213 ?_
                          refine gg_aload_n (S := sX7_join) 0 215 rfl dX7_join_214 rfl rfl ?_
                          refine gg_dup (S := sX7_join) 216 rfl dX7_join_215 rfl ?_
                          refine gg_gi (S := sX7_join) cfX7 (by decide) (fun _ _ => rfl) 219 rfl flX7_178 dX7_join_216 (fun t35 => ?_)
                          refine gg_iconst (S := sX7_join) 220 rfl dX7_join_219 ?_
                          refine gg_iadd (S := sX7_join) 221 rfl dX7_join_220 ?_
                          refine gg_si (S := sX7_join) cfX7 (by decide) rfl (fun _ _ => rfl) rfl 224 rfl flX7_178 dX7_join_221 ?_
                          refine gg_iinc (S := sX7_join) (L' := [(10, vi (y23 + 1)), (0, vr (some x0)), (1, vi x1), (4, vi y3), (5, vi y4), (6, vi y5), (7, vi t13), (8, vi t17), (9, vi t22)]) 8 227 rfl dX7_join_224 rfl (by decide) rfl ?_
                          refine gg_goto (S := sX7_join) (tgt := 162) dX7_join_227 (by decide) ?_
                          exact gg_pure (gg_sub [1, 2, 3, 4, 5, 6, 7, 8, 0] rfl (hr162 (y23 + 1)))
                      · exact gg_pure (gg_sub [0, 1, 2, 3, 4, 5, 6] rfl (he162 ()))
                    · intro _
                      refine gg_iload (S := sX7_join) 4 232 rfl dX7_join_230 rfl ?_
                      refine gg_iload (S := sX7_join) 5 234 rfl dX7_join_232 rfl ?_
                      refine gg_join (fun t40 => [(0, vr (some x0)), (1, vi x1), (4, vi y3), (5, vi y4), (7, vi t13), (8, vi t17)]) (fun t40 => [vi t40, vi y5]) 254 0 0 (fun κ234 hJ234 => ?_) ?_
                      · refine gg_if_eq (S := sX7_join) (tgt := 247) 237 rfl dX7_join_234 (by decide) ?_ ?_
                        · refine gg_aload_n (S := sX7_join) 0 248 rfl dX7_join_247 rfl rfl ?_
                          refine gg_gr (S := sX7_join) cfX7 (by decide) (fun _ _ => rfl) 251 rfl flX7_49 dX7_join_248 (fun t36 => ?_)
                          refine gg_iload (S := sX7_join) 3 253 rfl dX7_join_251 rfl ?_
                          refine gg_ld (S := sX7_join) 254 rfl dX7_join_253 (fun t37 => ?_)
                          exact gg_pure (gg_sub [0, 1, 2, 3, 5, 6] rfl (hJ234 t37))
                        · refine gg_aload_n (S := sX7_join) 0 238 rfl dX7_join_237 rfl rfl ?_
                          refine gg_gr (S := sX7_join) cfX7 (by decide) (fun _ _ => rfl) 241 rfl flX7_73 dX7_join_238 (fun t38 => ?_)
                          refine gg_iload (S := sX7_join) 2 243 rfl dX7_join_241 rfl ?_
                          refine gg_ld (S := sX7_join) 244 rfl dX7_join_243 (fun t39 => ?_)
                          refine gg_goto (S := sX7_join) (tgt := 254) dX7_join_244 (by decide) ?_
                          exact gg_pure (gg_sub [0, 1, 2, 3, 5, 6] rfl (hJ234 t39))
                      · intro t40
                        refine gg_iadd (S := sX7_join) 255 rfl dX7_join_254 ?_
                        refine gg_istore (S := sX7_join) (L' := [(6, vi (y5 + t40)), (0, vr (some x0)), (1, vi x1), (4, vi y3), (5, vi y4), (7, vi t13), (8, vi t17)]) 257 rfl dX7_join_255 (by decide) rfl ?_
                        refine gg_iload (S := sX7_join) 3 259 rfl dX7_join_257 rfl ?_
                        refine gg_iload (S := sX7_join) 5 261 rfl dX7_join_259 rfl ?_
                        refine gg_join (fun t41 => [(0, vr (some x0)), (1, vi x1), (5, vi y4), (6, vi (y5 + t40)), (8, vi t17)]) (fun t41 => [vi t41, vi y3]) 269 0 0 (fun κ261 hJ261 => ?_) ?_
                        · refine gg_if_eq (S := sX7_join) (tgt := 268) 264 rfl dX7_join_261 (by decide) ?_ ?_
                          · refine gg_iconst (S := sX7_join) 269 rfl dX7_join_268 ?_
                            exact gg_pure (gg_sub [1, 2, 4, 0, 6] rfl (hJ261 0))
                          · refine gg_iconst (S := sX7_join) 265 rfl dX7_join_264 ?_
                            refine gg_goto (S := sX7_join) (tgt := 269) dX7_join_265 (by decide) ?_
                            exact gg_pure (gg_sub [1, 2, 4, 0, 6] rfl (hJ261 1))
                        · intro t41
                          refine gg_iadd (S := sX7_join) 270 rfl dX7_join_269 ?_
                          refine gg_istore (S := sX7_join) (L' := [(4, vi (y3 + t41)), (0, vr (some x0)), (1, vi x1), (5, vi y4), (6, vi (y5 + t40)), (8, vi t17)]) 272 rfl dX7_join_270 (by decide) rfl ?_
                          refine gg_iload (S := sX7_join) 3 274 rfl dX7_join_272 rfl ?_
                          refine gg_iload (S := sX7_join) 5 276 rfl dX7_join_274 rfl ?_
                          refine gg_join (fun t42 => [(0, vr (some x0)), (1, vi x1), (4, vi (y3 + t41)), (6, vi (y5 + t40))]) (fun t42 => [vi t42, vi y4]) 284 0 0 (fun κ276 hJ276 => ?_) ?_
                          · refine gg_if_eq (S := sX7_join) (tgt := 283) 279 rfl dX7_join_276 (by decide) ?_ ?_
                            · refine gg_iconst (S := sX7_join) 284 rfl dX7_join_283 ?_
                              exact gg_pure (gg_sub [1, 2, 0, 4] rfl (hJ276 0))
                            · refine gg_iconst (S := sX7_join) 280 rfl dX7_join_279 ?_
                              refine gg_goto (S := sX7_join) (tgt := 284) dX7_join_280 (by decide) ?_
                              exact gg_pure (gg_sub [1, 2, 0, 4] rfl (hJ276 1))
                          · intro t42
                            refine gg_iadd (S := sX7_join) 285 rfl dX7_join_284 ?_
                            refine gg_istore (S := sX7_join) (L' := [(5, vi (y4 + t42)), (0, vr (some x0)), (1, vi x1), (4, vi (y3 + t41)), (6, vi (y5 + t40))]) 287 rfl dX7_join_285 (by decide) rfl ?_
                            exact gg_pure (gg_sub [1, 2, 3, 0, 4] rfl (hJ127 ((y3 + t41), (y4 + t42), (y5 + t40))))
                · exact gg_pure (gg_sub [0, 1, 2, 3, 4] rfl (hJ127 (y3, y4, y5)))
              · rintro ⟨t43, t44, t45⟩
                dsimp only
                refine gg_iload (S := sX7_join) 4 289 rfl dX7_join_287 rfl ?_
                refine gg_aload_n (S := sX7_join) 0 290 rfl dX7_join_289 rfl rfl ?_
                refine gg_gr (S := sX7_join) cfX7 (by decide) (fun _ _ => rfl) 293 rfl flX7_13 dX7_join_290 (fun t46 => ?_)
                refine gg_iload_n (S := sX7_join) 1 294 rfl dX7_join_293 rfl rfl ?_
                refine gg_ld (S := sX7_join) 295 rfl dX7_join_294 (fun t47 => ?_)
                refine gg_join (fun t63 => [(0, vr (some x0)), (1, vi x1), (4, vi t43), (5, vi t44), (6, vi t63)]) (fun t63 => []) 386 0 0 (fun κ295 hJ295 => ?_) ?_
                · refine gg_ic_ge (S := sX7_join) (tgt := 386) 298 rfl dX7_join_295 (by decide) ?_ ?_
                  · refine gg_iload (S := sX7_join) 2 300 rfl dX7_join_298 rfl ?_
                    refine gg_aload_n (S := sX7_join) 0 301 rfl dX7_join_300 rfl rfl ?_
                    refine gg_gi (S := sX7_join) cfX7 (by decide) (fun _ _ => rfl) 304 rfl flX7_233 dX7_join_301 (fun t48 => ?_)
                    refine gg_join (fun t57 => [(0, vr (some x0)), (1, vi x1), (4, vi t43), (5, vi t44), (6, vi t45)]) (fun t57 => [vi t57]) 345 0 0 (fun κ304 hJ304 => ?_) ?_
                    · refine gg_ic_ge (S := sX7_join) (tgt := 319) 307 rfl dX7_join_304 (by decide) ?_ ?_
                      · refine gg_aload_n (S := sX7_join) 0 308 rfl dX7_join_307 rfl rfl ?_
                        refine gg_gr (S := sX7_join) cfX7 (by decide) (fun _ _ => rfl) 311 rfl flX7_70 dX7_join_308 (fun t52 => ?_)
                        refine gg_iload (S := sX7_join) 2 313 rfl dX7_join_311 rfl ?_
                        refine gg_ld (S := sX7_join) 314 rfl dX7_join_313 (fun t53 => ?_)
                        refine gg_iload (S := sX7_join) 4 316 rfl dX7_join_314 rfl ?_
                        refine gg_ic_eq (S := sX7_join) (tgt := 340) 319 rfl dX7_join_316 (by decide) ?_ ?_
                        · refine gg_iconst (S := sX7_join) 341 rfl dX7_join_340 ?_
                          refine gg_goto (S := sX7_join) (tgt := 345) dX7_join_341 (by decide) ?_
                          exact gg_pure (gg_sub [0, 1, 2, 3, 4] rfl (hJ304 1))
                        · refine gg_iload (S := sX7_join) 3 321 rfl dX7_join_319 rfl ?_
                          refine gg_aload_n (S := sX7_join) 0 322 rfl dX7_join_321 rfl rfl ?_
                          refine gg_gi (S := sX7_join) cfX7 (by decide) (fun _ _ => rfl) 325 rfl flX7_119 dX7_join_322 (fun t54 => ?_)
                          refine gg_ic_ge (S := sX7_join) (tgt := 344) 328 rfl dX7_join_325 (by decide) ?_ ?_
                          · refine gg_aload_n (S := sX7_join) 0 329 rfl dX7_join_328 rfl rfl ?_
                            refine gg_gr (S := sX7_join) cfX7 (by decide) (fun _ _ => rfl) 332 rfl flX7_46 dX7_join_329 (fun t55 => ?_)
                            refine gg_iload (S := sX7_join) 3 334 rfl dX7_join_332 rfl ?_
                            refine gg_ld (S := sX7_join) 335 rfl dX7_join_334 (fun t56 => ?_)
                            refine gg_iload (S := sX7_join) 4 337 rfl dX7_join_335 rfl ?_
                            refine gg_ic_ne (S := sX7_join) (tgt := 344) 340 rfl dX7_join_337 (by decide) ?_ ?_
                            · refine gg_iconst (S := sX7_join) 341 rfl dX7_join_340 ?_
                              refine gg_goto (S := sX7_join) (tgt := 345) dX7_join_341 (by decide) ?_
                              exact gg_pure (gg_sub [0, 1, 2, 3, 4] rfl (hJ304 1))
                            · refine gg_iconst (S := sX7_join) 345 rfl dX7_join_344 ?_
                              exact gg_pure (gg_sub [0, 1, 2, 3, 4] rfl (hJ304 0))
                          · refine gg_iconst (S := sX7_join) 345 rfl dX7_join_344 ?_
                            exact gg_pure (gg_sub [0, 1, 2, 3, 4] rfl (hJ304 0))
                      · refine gg_iload (S := sX7_join) 3 321 rfl dX7_join_319 rfl ?_
                        refine gg_aload_n (S := sX7_join) 0 322 rfl dX7_join_321 rfl rfl ?_
                        refine gg_gi (S := sX7_join) cfX7 (by decide) (fun _ _ => rfl) 325 rfl flX7_119 dX7_join_322 (fun t49 => ?_)
                        refine gg_ic_ge (S := sX7_join) (tgt := 344) 328 rfl dX7_join_325 (by decide) ?_ ?_
                        · refine gg_aload_n (S := sX7_join) 0 329 rfl dX7_join_328 rfl rfl ?_
                          refine gg_gr (S := sX7_join) cfX7 (by decide) (fun _ _ => rfl) 332 rfl flX7_46 dX7_join_329 (fun t50 => ?_)
                          refine gg_iload (S := sX7_join) 3 334 rfl dX7_join_332 rfl ?_
                          refine gg_ld (S := sX7_join) 335 rfl dX7_join_334 (fun t51 => ?_)
                          refine gg_iload (S := sX7_join) 4 337 rfl dX7_join_335 rfl ?_
                          refine gg_ic_ne (S := sX7_join) (tgt := 344) 340 rfl dX7_join_337 (by decide) ?_ ?_
                          · refine gg_iconst (S := sX7_join) 341 rfl dX7_join_340 ?_
                            refine gg_goto (S := sX7_join) (tgt := 345) dX7_join_341 (by decide) ?_
                            exact gg_pure (gg_sub [0, 1, 2, 3, 4] rfl (hJ304 1))
                          · refine gg_iconst (S := sX7_join) 345 rfl dX7_join_344 ?_
                            exact gg_pure (gg_sub [0, 1, 2, 3, 4] rfl (hJ304 0))
                        · refine gg_iconst (S := sX7_join) 345 rfl dX7_join_344 ?_
                          exact gg_pure (gg_sub [0, 1, 2, 3, 4] rfl (hJ304 0))
                    · intro t57
                      refine gg_istore (S := sX7_join) (L' := [(9, vi t57), (0, vr (some x0)), (1, vi x1), (4, vi t43), (5, vi t44), (6, vi t45)]) 347 rfl dX7_join_345 (by decide) rfl ?_
                      refine gg_iload (S := sX7_join) 0 349 rfl dX7_join_347 rfl ?_
                      refine gg_if_ne (S := sX7_join) (tgt := 386) 352 rfl dX7_join_349 (by decide) ?_ ?_
                      · refine gg_aload_n (S := sX7_join) 1 353 rfl dX7_join_352 rfl rfl ?_
                        refine gg_gr (S := sX7_join) cfX7 (by decide) (fun _ _ => rfl) 356 rfl flX7_67 dX7_join_353 (fun t58 => ?_)
                        refine gg_aload_n (S := sX7_join) 1 357 rfl dX7_join_356 rfl rfl ?_
                        refine gg_gi (S := sX7_join) cfX7 (by decide) (fun _ _ => rfl) 360 rfl flX7_178 dX7_join_357 (fun t59 => ?_)
                        refine gg_aload_n (S := sX7_join) 1 361 rfl dX7_join_360 rfl rfl ?_
                        refine gg_gr (S := sX7_join) cfX7 (by decide) (fun _ _ => rfl) 364 rfl flX7_16 dX7_join_361 (fun t60 => ?_)
                        refine gg_bipush (S := sX7_join) 366 rfl dX7_join_364 (by decide) ?_
                        refine gg_iload_n (S := sX7_join) 2 367 rfl dX7_join_366 rfl rfl ?_
                        refine gg_imul (S := sX7_join) 368 rfl dX7_join_367 ?_
                        refine gg_iload (S := sX7_join) 5 370 rfl dX7_join_368 rfl ?_
                        refine gg_iadd (S := sX7_join) 371 rfl dX7_join_370 ?_
                        refine gg_ld (S := sX7_join) 372 rfl dX7_join_371 (fun t61 => ?_)
                        refine gg_st (S := sX7_join) 373 rfl dX7_join_372 ?_
                        refine gg_aload_n (S := sX7_join) 1 374 rfl dX7_join_373 rfl rfl ?_
                        refine gg_dup (S := sX7_join) 375 rfl dX7_join_374 rfl ?_
                        refine gg_gi (S := sX7_join) cfX7 (by decide) (fun _ _ => rfl) 378 rfl flX7_178 dX7_join_375 (fun t62 => ?_)
                        refine gg_iconst (S := sX7_join) 379 rfl dX7_join_378 ?_
                        refine gg_iadd (S := sX7_join) 380 rfl dX7_join_379 ?_
                        refine gg_si (S := sX7_join) cfX7 (by decide) rfl (fun _ _ => rfl) rfl 383 rfl flX7_178 dX7_join_380 ?_
                        refine gg_iinc (S := sX7_join) (L' := [(6, vi (t45 + 1)), (9, vi t57), (0, vr (some x0)), (1, vi x1), (4, vi t43), (5, vi t44)]) 5 386 rfl dX7_join_383 rfl (by decide) rfl ?_
                        exact gg_pure (gg_sub [2, 3, 4, 5, 0] rfl (hJ295 (t45 + 1)))
                      · exact gg_pure (gg_sub [1, 2, 3, 4, 5] rfl (hJ295 t45))
                  · exact gg_pure (gg_sub [0, 1, 2, 3, 4] rfl (hJ295 t45))
                · intro t63
                  refine gg_goto (S := sX7_join) (tgt := 40) dX7_join_386 (by decide) ?_
                  exact gg_pure (gg_sub [0, 1, 2, 3, 4] rfl (hr40 (t43, t44, t63)))
        · exact gg_pure (gg_sub [0] rfl (he40 ()))
      · intro _
        refine gg_aload_n (S := sX7_join) 0 390 rfl dX7_join_389 rfl rfl ?_
        refine gg_gi (S := sX7_join) cfX7 (by decide) (fun _ _ => rfl) 393 rfl flX7_178 dX7_join_390 (fun t64 => ?_)
        refine gg_bipush (S := sX7_join) 395 rfl dX7_join_393 (by decide) ?_
        refine gg_ic_le (S := sX7_join) (tgt := 401) 398 rfl dX7_join_395 (by decide) ?_ ?_
        · refine gg_aload_n (S := sX7_join) 0 402 rfl dX7_join_401 rfl rfl ?_
          refine gg_callVv (S := sX7_join) (S' := sX7_toDesk) (cs := 0) (sl := 0) (As := []) (st := []) 405 rfl (fun b65 => lkX7_toDesk b65) mwX7_toDesk rfl mlX7_195 dX7_join_402 cfX7 ⟨by decide, by decide⟩ 0 0 ⟨rfl, rfl⟩ ⟨by decide, by decide⟩ (Nat.le_of_ble_eq_true rfl) (fun _ => ?_)
          refine gg_aload_n (S := sX7_join) 0 406 rfl dX7_join_405 rfl rfl ?_
          refine gg_gi (S := sX7_join) cfX7 (by decide) (fun _ _ => rfl) 409 rfl flX7_108 dX7_join_406 (fun t65 => ?_)
          exact gg_pure (gg_iret (S := sX7_join) rfl dX7_join_409 (by decide) (by decide))
        · refine gg_bipush (S := sX7_join) 400 rfl dX7_join_398 (by decide) ?_
          exact gg_pure (gg_iret (S := sX7_join) rfl dX7_join_400 (by decide) (by decide))
    · refine gg_bipush (S := sX7_join) 25 rfl dX7_join_23 (by decide) ?_
      exact gg_pure (gg_iret (S := sX7_join) rfl dX7_join_25 (by decide) (by decide))

set_option maxRecDepth 100000 in
set_option maxHeartbeats 4000000 in
theorem lkX7_keep (x0 : Nat) (x1 : Int) (x2 : Int) : LK yX7_keep sX7_keep [vr (some x0), vi x1, vi x2] en_i (X7_keep x0 x1 x2) := by
  refine lk_go (L := [(0, vr (some x0)), (1, vi x1), (2, vi x2)]) (by decide +kernel) rfl (fun h => by cases h) (Nat.le_of_ble_eq_true rfl) rfl ?_
  intro K
  unfold X7_keep
  refine gg_iload_n (S := sX7_keep) 1 1 rfl dX7_keep_0 rfl rfl ?_
  refine gg_iconst (S := sX7_keep) 2 rfl dX7_keep_1 ?_
  refine gg_cond [] [(0, vr (some x0)), (1, vi x1), (2, vi x2)] [] 26 29 0 0 (fun κ2 hT2 hF2 => ?_) ?_ ?_
  · refine gg_ic_eq (S := sX7_keep) (tgt := 13) 5 rfl dX7_keep_2 (by decide) ?_ ?_
    · refine gg_iload_n (S := sX7_keep) 2 14 rfl dX7_keep_13 rfl rfl ?_
      refine gg_iconst (S := sX7_keep) 15 rfl dX7_keep_14 ?_
      refine gg_ic_eq (S := sX7_keep) (tgt := 29) 18 rfl dX7_keep_15 (by decide) ?_ ?_
      · exact gg_pure (gg_sub [0, 1, 2] rfl hF2)
      · refine gg_aload_n (S := sX7_keep) 0 19 rfl dX7_keep_18 rfl rfl ?_
        refine gg_iload_n (S := sX7_keep) 2 20 rfl dX7_keep_19 rfl rfl ?_
        refine gg_callVi (S := sX7_keep) (S' := sX7_isVersion) (cs := 0) (sl := 0) (As := [vi x2]) (st := []) 23 rfl (fun b1 => lkX7_isVersion b1 x2) mwX7_isVersion rfl mlX7_111 dX7_keep_20 cfX7 ⟨by decide, by decide⟩ 0 0 ⟨rfl, rfl⟩ ⟨by decide, by decide⟩ (Nat.le_of_ble_eq_true rfl) (fun t1 => ?_)
        refine gg_if_ne (S := sX7_keep) (tgt := 29) 26 rfl dX7_keep_23 (by decide) ?_ ?_
        · exact gg_pure (gg_sub [] rfl hT2)
        · exact gg_pure (gg_sub [0, 1, 2] rfl hF2)
    · refine gg_aload_n (S := sX7_keep) 0 6 rfl dX7_keep_5 rfl rfl ?_
      refine gg_iload_n (S := sX7_keep) 1 7 rfl dX7_keep_6 rfl rfl ?_
      refine gg_callVi (S := sX7_keep) (S' := sX7_isVersion) (cs := 0) (sl := 0) (As := [vi x1]) (st := []) 10 rfl (fun b5 => lkX7_isVersion b5 x1) mwX7_isVersion rfl mlX7_111 dX7_keep_7 cfX7 ⟨by decide, by decide⟩ 0 0 ⟨rfl, rfl⟩ ⟨by decide, by decide⟩ (Nat.le_of_ble_eq_true rfl) (fun t3 => ?_)
      refine gg_if_eq (S := sX7_keep) (tgt := 26) 13 rfl dX7_keep_10 (by decide) ?_ ?_
      · exact gg_pure (gg_sub [] rfl hT2)
      · refine gg_iload_n (S := sX7_keep) 2 14 rfl dX7_keep_13 rfl rfl ?_
        refine gg_iconst (S := sX7_keep) 15 rfl dX7_keep_14 ?_
        refine gg_ic_eq (S := sX7_keep) (tgt := 29) 18 rfl dX7_keep_15 (by decide) ?_ ?_
        · exact gg_pure (gg_sub [0, 1, 2] rfl hF2)
        · refine gg_aload_n (S := sX7_keep) 0 19 rfl dX7_keep_18 rfl rfl ?_
          refine gg_iload_n (S := sX7_keep) 2 20 rfl dX7_keep_19 rfl rfl ?_
          refine gg_callVi (S := sX7_keep) (S' := sX7_isVersion) (cs := 0) (sl := 0) (As := [vi x2]) (st := []) 23 rfl (fun b4 => lkX7_isVersion b4 x2) mwX7_isVersion rfl mlX7_111 dX7_keep_20 cfX7 ⟨by decide, by decide⟩ 0 0 ⟨rfl, rfl⟩ ⟨by decide, by decide⟩ (Nat.le_of_ble_eq_true rfl) (fun t4 => ?_)
          refine gg_if_ne (S := sX7_keep) (tgt := 29) 26 rfl dX7_keep_23 (by decide) ?_ ?_
          · exact gg_pure (gg_sub [] rfl hT2)
          · exact gg_pure (gg_sub [0, 1, 2] rfl hF2)
  · refine gg_bipush (S := sX7_keep) 28 rfl dX7_keep_26 (by decide) ?_
    exact gg_pure (gg_iret (S := sX7_keep) rfl dX7_keep_28 (by decide) (by decide))
  · refine gg_iload_n (S := sX7_keep) 2 30 rfl dX7_keep_29 rfl rfl ?_
    refine gg_iconst (S := sX7_keep) 31 rfl dX7_keep_30 ?_
    refine gg_cond [] [(0, vr (some x0)), (1, vi x1), (2, vi x2)] [] 44 47 0 0 (fun κ31 hT31 hF31 => ?_) ?_ ?_
    · refine gg_ic_eq (S := sX7_keep) (tgt := 47) 34 rfl dX7_keep_31 (by decide) ?_ ?_
      · exact gg_pure (gg_sub [0, 1, 2] rfl hF31)
      · refine gg_iload_n (S := sX7_keep) 1 35 rfl dX7_keep_34 rfl rfl ?_
        refine gg_iload_n (S := sX7_keep) 2 36 rfl dX7_keep_35 rfl rfl ?_
        refine gg_ic_eq (S := sX7_keep) (tgt := 44) 39 rfl dX7_keep_36 (by decide) ?_ ?_
        · exact gg_pure (gg_sub [] rfl hT31)
        · refine gg_iload_n (S := sX7_keep) 1 40 rfl dX7_keep_39 rfl rfl ?_
          refine gg_iconst (S := sX7_keep) 41 rfl dX7_keep_40 ?_
          refine gg_ic_ne (S := sX7_keep) (tgt := 47) 44 rfl dX7_keep_41 (by decide) ?_ ?_
          · exact gg_pure (gg_sub [] rfl hT31)
          · exact gg_pure (gg_sub [0, 1, 2] rfl hF31)
    · refine gg_bipush (S := sX7_keep) 46 rfl dX7_keep_44 (by decide) ?_
      exact gg_pure (gg_iret (S := sX7_keep) rfl dX7_keep_46 (by decide) (by decide))
    · refine gg_aload_n (S := sX7_keep) 0 48 rfl dX7_keep_47 rfl rfl ?_
      refine gg_gi (S := sX7_keep) cfX7 (by decide) (fun _ _ => rfl) 51 rfl flX7_97 dX7_keep_48 (fun t7 => ?_)
      refine gg_bipush (S := sX7_keep) 53 rfl dX7_keep_51 (by decide) ?_
      refine gg_ic_ne (S := sX7_keep) (tgt := 59) 56 rfl dX7_keep_53 (by decide) ?_ ?_
      · refine gg_bipush (S := sX7_keep) 58 rfl dX7_keep_56 (by decide) ?_
        exact gg_pure (gg_iret (S := sX7_keep) rfl dX7_keep_58 (by decide) (by decide))
      · refine gg_iconst (S := sX7_keep) 60 rfl dX7_keep_59 ?_
        refine gg_istore_n (S := sX7_keep) (L' := [(3, vi 0), (0, vr (some x0)), (1, vi x1), (2, vi x2)]) 61 rfl dX7_keep_60 rfl (by decide) rfl ?_
        refine gg_sub [1, 2, 3, 0] rfl ?_
        refine gg_loopA (fun y8 => [(0, vr (some x0)), (1, vi x1), (2, vi x2), (3, vi y8)]) (fun _ => [(0, vr (some x0)), (1, vi x1), (2, vi x2)]) 95 mo_N ?_ ?_ 0
        · intro κ61 hr61 he61
          intro y8
          dsimp only [X7_keep_L61]
          refine gg_iload_n (S := sX7_keep) 3 62 rfl dX7_keep_61 rfl rfl ?_
          refine gg_aload_n (S := sX7_keep) 0 63 rfl dX7_keep_62 rfl rfl ?_
          refine gg_gi (S := sX7_keep) cfX7 (by decide) (fun _ _ => rfl) 66 rfl flX7_108 dX7_keep_63 (fun t9 => ?_)
          refine gg_ic_ge (S := sX7_keep) (tgt := 95) 69 rfl dX7_keep_66 (by decide) ?_ ?_
          · refine gg_aload_n (S := sX7_keep) 0 70 rfl dX7_keep_69 rfl rfl ?_
            refine gg_gr (S := sX7_keep) cfX7 (by decide) (fun _ _ => rfl) 73 rfl flX7_16 dX7_keep_70 (fun t10 => ?_)
            refine gg_bipush (S := sX7_keep) 75 rfl dX7_keep_73 (by decide) ?_
            refine gg_aload_n (S := sX7_keep) 0 76 rfl dX7_keep_75 rfl rfl ?_
            refine gg_gi (S := sX7_keep) cfX7 (by decide) (fun _ _ => rfl) 79 rfl flX7_97 dX7_keep_76 (fun t11 => ?_)
            refine gg_imul (S := sX7_keep) 80 rfl dX7_keep_79 ?_
            refine gg_iload_n (S := sX7_keep) 3 81 rfl dX7_keep_80 rfl rfl ?_
            refine gg_iadd (S := sX7_keep) 82 rfl dX7_keep_81 ?_
            refine gg_aload_n (S := sX7_keep) 0 83 rfl dX7_keep_82 rfl rfl ?_
            refine gg_gr (S := sX7_keep) cfX7 (by decide) (fun _ _ => rfl) 86 rfl flX7_7 dX7_keep_83 (fun t12 => ?_)
            refine gg_iload_n (S := sX7_keep) 3 87 rfl dX7_keep_86 rfl rfl ?_
            refine gg_ld (S := sX7_keep) 88 rfl dX7_keep_87 (fun t13 => ?_)
            refine gg_st (S := sX7_keep) 89 rfl dX7_keep_88 ?_
            refine gg_iinc (S := sX7_keep) (L' := [(3, vi (y8 + 1)), (0, vr (some x0)), (1, vi x1), (2, vi x2)]) 3 92 rfl dX7_keep_89 rfl (by decide) rfl ?_
            refine gg_goto (S := sX7_keep) (tgt := 61) dX7_keep_92 (by decide) ?_
            exact gg_pure (gg_sub [1, 2, 3, 0] rfl (hr61 (y8 + 1)))
          · exact gg_pure (gg_sub [0, 1, 2] rfl (he61 ()))
        · intro _
          refine gg_aload_n (S := sX7_keep) 0 96 rfl dX7_keep_95 rfl rfl ?_
          refine gg_gr (S := sX7_keep) cfX7 (by decide) (fun _ _ => rfl) 99 rfl flX7_13 dX7_keep_96 (fun t14 => ?_)
          refine gg_aload_n (S := sX7_keep) 0 100 rfl dX7_keep_99 rfl rfl ?_
          refine gg_gi (S := sX7_keep) cfX7 (by decide) (fun _ _ => rfl) 103 rfl flX7_97 dX7_keep_100 (fun t15 => ?_)
          refine gg_aload_n (S := sX7_keep) 0 104 rfl dX7_keep_103 rfl rfl ?_
          refine gg_gi (S := sX7_keep) cfX7 (by decide) (fun _ _ => rfl) 107 rfl flX7_108 dX7_keep_104 (fun t16 => ?_)
          refine gg_st (S := sX7_keep) 108 rfl dX7_keep_107 ?_
          refine gg_aload_n (S := sX7_keep) 0 109 rfl dX7_keep_108 rfl rfl ?_
          refine gg_gr (S := sX7_keep) cfX7 (by decide) (fun _ _ => rfl) 112 rfl flX7_19 dX7_keep_109 (fun t17 => ?_)
          refine gg_aload_n (S := sX7_keep) 0 113 rfl dX7_keep_112 rfl rfl ?_
          refine gg_gi (S := sX7_keep) cfX7 (by decide) (fun _ _ => rfl) 116 rfl flX7_97 dX7_keep_113 (fun t18 => ?_)
          refine gg_iload_n (S := sX7_keep) 1 117 rfl dX7_keep_116 rfl rfl ?_
          refine gg_st (S := sX7_keep) 118 rfl dX7_keep_117 ?_
          refine gg_aload_n (S := sX7_keep) 0 119 rfl dX7_keep_118 rfl rfl ?_
          refine gg_gr (S := sX7_keep) cfX7 (by decide) (fun _ _ => rfl) 122 rfl flX7_22 dX7_keep_119 (fun t19 => ?_)
          refine gg_aload_n (S := sX7_keep) 0 123 rfl dX7_keep_122 rfl rfl ?_
          refine gg_gi (S := sX7_keep) cfX7 (by decide) (fun _ _ => rfl) 126 rfl flX7_97 dX7_keep_123 (fun t20 => ?_)
          refine gg_iload_n (S := sX7_keep) 2 127 rfl dX7_keep_126 rfl rfl ?_
          refine gg_st (S := sX7_keep) 128 rfl dX7_keep_127 ?_
          refine gg_aload_n (S := sX7_keep) 0 129 rfl dX7_keep_128 rfl rfl ?_
          refine gg_gr (S := sX7_keep) cfX7 (by decide) (fun _ _ => rfl) 132 rfl flX7_25 dX7_keep_129 (fun t21 => ?_)
          refine gg_aload_n (S := sX7_keep) 0 133 rfl dX7_keep_132 rfl rfl ?_
          refine gg_gi (S := sX7_keep) cfX7 (by decide) (fun _ _ => rfl) 136 rfl flX7_97 dX7_keep_133 (fun t22 => ?_)
          refine gg_iconst (S := sX7_keep) 137 rfl dX7_keep_136 ?_
          refine gg_st (S := sX7_keep) 138 rfl dX7_keep_137 ?_
          refine gg_aload_n (S := sX7_keep) 0 139 rfl dX7_keep_138 rfl rfl ?_
          refine gg_dup (S := sX7_keep) 140 rfl dX7_keep_139 rfl ?_
          refine gg_gi (S := sX7_keep) cfX7 (by decide) (fun _ _ => rfl) 143 rfl flX7_97 dX7_keep_140 (fun t23 => ?_)
          refine gg_iconst (S := sX7_keep) 144 rfl dX7_keep_143 ?_
          refine gg_iadd (S := sX7_keep) 145 rfl dX7_keep_144 ?_
          refine gg_si (S := sX7_keep) cfX7 (by decide) rfl (fun _ _ => rfl) rfl 148 rfl flX7_97 dX7_keep_145 ?_
          refine gg_aload_n (S := sX7_keep) 0 149 rfl dX7_keep_148 rfl rfl ?_
          refine gg_gi (S := sX7_keep) cfX7 (by decide) (fun _ _ => rfl) 152 rfl flX7_97 dX7_keep_149 (fun t24 => ?_)
          refine gg_iconst (S := sX7_keep) 153 rfl dX7_keep_152 ?_
          refine gg_isub (S := sX7_keep) 154 rfl dX7_keep_153 ?_
          exact gg_pure (gg_iret (S := sX7_keep) rfl dX7_keep_154 (by decide) (by decide))

set_option maxRecDepth 100000 in
set_option maxHeartbeats 4000000 in
theorem lkX7_kept (x0 : Nat) (x1 : Int) (x2 : Int) (x3 : Int) : LK yX7_kept sX7_kept [vr (some x0), vi x1, vi x2, vi x3] en_i (X7_kept x0 x1 x2 x3) := by
  refine lk_go (L := [(0, vr (some x0)), (1, vi x1), (2, vi x2), (3, vi x3)]) (by decide +kernel) rfl (fun h => by cases h) (Nat.le_of_ble_eq_true rfl) rfl ?_
  intro K
  unfold X7_kept
  refine gg_aload_n (S := sX7_kept) 0 1 rfl dX7_kept_0 rfl rfl ?_
  refine gg_iload_n (S := sX7_kept) 1 2 rfl dX7_kept_1 rfl rfl ?_
  refine gg_callVi (S := sX7_kept) (S' := sX7_isVersion) (cs := 0) (sl := 0) (As := [vi x1]) (st := []) 5 rfl (fun b10 => lkX7_isVersion b10 x1) mwX7_isVersion rfl mlX7_111 dX7_kept_2 cfX7 ⟨by decide, by decide⟩ 0 0 ⟨rfl, rfl⟩ ⟨by decide, by decide⟩ (Nat.le_of_ble_eq_true rfl) (fun t1 => ?_)
  refine gg_if_eq (S := sX7_kept) (tgt := 32) 8 rfl dX7_kept_5 (by decide) ?_ ?_
  · refine gg_bipush (S := sX7_kept) 34 rfl dX7_kept_32 (by decide) ?_
    exact gg_pure (gg_iret (S := sX7_kept) rfl dX7_kept_34 (by decide) (by decide))
  · refine gg_aload_n (S := sX7_kept) 0 9 rfl dX7_kept_8 rfl rfl ?_
    refine gg_iload_n (S := sX7_kept) 2 10 rfl dX7_kept_9 rfl rfl ?_
    refine gg_callVi (S := sX7_kept) (S' := sX7_isVersion) (cs := 0) (sl := 0) (As := [vi x2]) (st := []) 13 rfl (fun b9 => lkX7_isVersion b9 x2) mwX7_isVersion rfl mlX7_111 dX7_kept_10 cfX7 ⟨by decide, by decide⟩ 0 0 ⟨rfl, rfl⟩ ⟨by decide, by decide⟩ (Nat.le_of_ble_eq_true rfl) (fun t2 => ?_)
    refine gg_if_eq (S := sX7_kept) (tgt := 32) 16 rfl dX7_kept_13 (by decide) ?_ ?_
    · refine gg_bipush (S := sX7_kept) 34 rfl dX7_kept_32 (by decide) ?_
      exact gg_pure (gg_iret (S := sX7_kept) rfl dX7_kept_34 (by decide) (by decide))
    · refine gg_iload_n (S := sX7_kept) 3 17 rfl dX7_kept_16 rfl rfl ?_
      refine gg_iconst (S := sX7_kept) 18 rfl dX7_kept_17 ?_
      refine gg_aload_n (S := sX7_kept) 0 19 rfl dX7_kept_18 rfl rfl ?_
      refine gg_gr (S := sX7_kept) cfX7 (by decide) (fun _ _ => rfl) 22 rfl flX7_13 dX7_kept_19 (fun t3 => ?_)
      refine gg_iload_n (S := sX7_kept) 1 23 rfl dX7_kept_22 rfl rfl ?_
      refine gg_ld (S := sX7_kept) 24 rfl dX7_kept_23 (fun t4 => ?_)
      refine gg_iconst (S := sX7_kept) 25 rfl dX7_kept_24 ?_
      refine gg_isub (S := sX7_kept) 26 rfl dX7_kept_25 ?_
      refine gg_callSi (S := sX7_kept) (S' := sX7_within) (cs := 0) (sl := 0) (As := [vi x3, vi 0, vi (t4 - 1)]) (st := []) 29 rfl (lkX7_within x3 0 (t4 - 1)) mwX7_within rfl mlX7_101 dX7_kept_26 ⟨by decide, by decide⟩ 0 0 ⟨rfl, rfl⟩ ⟨by decide, by decide⟩ (Nat.le_of_ble_eq_true rfl) (fun t5 => ?_)
      refine gg_if_ne (S := sX7_kept) (tgt := 35) 32 rfl dX7_kept_29 (by decide) ?_ ?_
      · refine gg_bipush (S := sX7_kept) 34 rfl dX7_kept_32 (by decide) ?_
        exact gg_pure (gg_iret (S := sX7_kept) rfl dX7_kept_34 (by decide) (by decide))
      · refine gg_aload_n (S := sX7_kept) 0 36 rfl dX7_kept_35 rfl rfl ?_
        refine gg_iload_n (S := sX7_kept) 1 37 rfl dX7_kept_36 rfl rfl ?_
        refine gg_iload_n (S := sX7_kept) 2 38 rfl dX7_kept_37 rfl rfl ?_
        refine gg_callVv (S := sX7_kept) (S' := sX7_layDifference) (cs := 0) (sl := 0) (As := [vi x1, vi x2]) (st := []) 41 rfl (fun b7 => lkX7_layDifference b7 x1 x2) mwX7_layDifference rfl mlX7_144 dX7_kept_38 cfX7 ⟨by decide, by decide⟩ 0 0 ⟨rfl, rfl⟩ ⟨by decide, by decide⟩ (Nat.le_of_ble_eq_true rfl) (fun _ => ?_)
        refine gg_aload_n (S := sX7_kept) 0 42 rfl dX7_kept_41 rfl rfl ?_
        refine gg_gr (S := sX7_kept) cfX7 (by decide) (fun _ _ => rfl) 45 rfl flX7_64 dX7_kept_42 (fun t6 => ?_)
        refine gg_iload_n (S := sX7_kept) 3 46 rfl dX7_kept_45 rfl rfl ?_
        refine gg_ld (S := sX7_kept) 47 rfl dX7_kept_46 (fun t7 => ?_)
        exact gg_pure (gg_iret (S := sX7_kept) rfl dX7_kept_47 (by decide) (by decide))

set_option maxRecDepth 100000 in
set_option maxHeartbeats 4000000 in
theorem lkX7_layHunk (x0 : Nat) (x1 : Int) (x2 : Int) (x3 : Int) : LK yX7_layHunk sX7_layHunk [vr (some x0), vi x1, vi x2, vi x3] en_v (X7_layHunk x0 x1 x2 x3) := by
  refine lk_go (L := [(0, vr (some x0)), (1, vi x1), (2, vi x2), (3, vi x3)]) (by decide +kernel) rfl (fun h => by cases h) (Nat.le_of_ble_eq_true rfl) rfl ?_
  intro K
  unfold X7_layHunk
  refine gg_aload_n (S := sX7_layHunk) 0 1 rfl dX7_layHunk_0 rfl rfl ?_
  refine gg_gr (S := sX7_layHunk) cfX7 (by decide) (fun _ _ => rfl) 4 rfl flX7_34 dX7_layHunk_1 (fun t1 => ?_)
  refine gg_bipush (S := sX7_layHunk) 6 rfl dX7_layHunk_4 (by decide) ?_
  refine gg_iload_n (S := sX7_layHunk) 1 7 rfl dX7_layHunk_6 rfl rfl ?_
  refine gg_imul (S := sX7_layHunk) 8 rfl dX7_layHunk_7 ?_
  refine gg_iload_n (S := sX7_layHunk) 2 9 rfl dX7_layHunk_8 rfl rfl ?_
  refine gg_iadd (S := sX7_layHunk) 10 rfl dX7_layHunk_9 ?_
  refine gg_ld (S := sX7_layHunk) 11 rfl dX7_layHunk_10 (fun t2 => ?_)
  refine gg_istore (S := sX7_layHunk) (L' := [(4, vi t2), (0, vr (some x0)), (1, vi x1), (2, vi x2), (3, vi x3)]) 13 rfl dX7_layHunk_11 (by decide) rfl ?_
  refine gg_aload_n (S := sX7_layHunk) 1 14 rfl dX7_layHunk_13 rfl rfl ?_
  refine gg_gr (S := sX7_layHunk) cfX7 (by decide) (fun _ _ => rfl) 17 rfl flX7_37 dX7_layHunk_14 (fun t3 => ?_)
  refine gg_bipush (S := sX7_layHunk) 19 rfl dX7_layHunk_17 (by decide) ?_
  refine gg_iload_n (S := sX7_layHunk) 2 20 rfl dX7_layHunk_19 rfl rfl ?_
  refine gg_imul (S := sX7_layHunk) 21 rfl dX7_layHunk_20 ?_
  refine gg_iload_n (S := sX7_layHunk) 3 22 rfl dX7_layHunk_21 rfl rfl ?_
  refine gg_iadd (S := sX7_layHunk) 23 rfl dX7_layHunk_22 ?_
  refine gg_ld (S := sX7_layHunk) 24 rfl dX7_layHunk_23 (fun t4 => ?_)
  refine gg_istore (S := sX7_layHunk) (L' := [(5, vi t4), (4, vi t2), (0, vr (some x0)), (1, vi x1), (2, vi x2), (3, vi x3)]) 26 rfl dX7_layHunk_24 (by decide) rfl ?_
  refine gg_iload (S := sX7_layHunk) 0 28 rfl dX7_layHunk_26 rfl ?_
  refine gg_iload (S := sX7_layHunk) 1 30 rfl dX7_layHunk_28 rfl ?_
  refine gg_join (fun _ => [(0, vr (some x0)), (1, vi x1), (2, vi x2), (3, vi x3), (4, vi t2), (5, vi t4)]) (fun _ => []) 120 0 0 (fun κ30 hJ30 => ?_) ?_
  · refine gg_ic_le (S := sX7_layHunk) (tgt := 79) 33 rfl dX7_layHunk_30 (by decide) ?_ ?_
    · refine gg_iload_n (S := sX7_layHunk) 5 80 rfl dX7_layHunk_79 rfl rfl ?_
      refine gg_iload (S := sX7_layHunk) 1 82 rfl dX7_layHunk_80 rfl ?_
      refine gg_iadd (S := sX7_layHunk) 83 rfl dX7_layHunk_82 ?_
      refine gg_istore (S := sX7_layHunk) (L' := [(6, vi (x3 + t2)), (5, vi t4), (4, vi t2), (0, vr (some x0)), (1, vi x1), (2, vi x2), (3, vi x3)]) 85 rfl dX7_layHunk_83 (by decide) rfl ?_
      refine gg_sub [3, 4, 5, 6, 2, 1, 0] rfl ?_
      refine gg_loopA (fun y5 => [(0, vr (some x0)), (1, vi x1), (2, vi x2), (3, vi x3), (4, vi t2), (5, vi t4), (6, vi y5)]) (fun _ => [(0, vr (some x0)), (1, vi x1), (2, vi x2), (3, vi x3), (4, vi t2), (5, vi t4)]) 120 mo_N ?_ ?_ (x3 + t2)
      · intro κ85 hr85 he85
        intro y5
        dsimp only [X7_layHunk_L85]
        refine gg_iload (S := sX7_layHunk) 6 87 rfl dX7_layHunk_85 rfl ?_
        refine gg_aload_n (S := sX7_layHunk) 0 88 rfl dX7_layHunk_87 rfl rfl ?_
        refine gg_gi (S := sX7_layHunk) cfX7 (by decide) (fun _ _ => rfl) 91 rfl flX7_178 dX7_layHunk_88 (fun t6 => ?_)
        refine gg_ic_ge (S := sX7_layHunk) (tgt := 120) 94 rfl dX7_layHunk_91 (by decide) ?_ ?_
        · refine gg_aload_n (S := sX7_layHunk) 0 95 rfl dX7_layHunk_94 rfl rfl ?_
          refine gg_gr (S := sX7_layHunk) cfX7 (by decide) (fun _ _ => rfl) 98 rfl flX7_67 dX7_layHunk_95 (fun t7 => ?_)
          refine gg_iload (S := sX7_layHunk) 6 100 rfl dX7_layHunk_98 rfl ?_
          refine gg_iload (S := sX7_layHunk) 5 102 rfl dX7_layHunk_100 rfl ?_
          refine gg_iadd (S := sX7_layHunk) 103 rfl dX7_layHunk_102 ?_
          refine gg_iload (S := sX7_layHunk) 4 105 rfl dX7_layHunk_103 rfl ?_
          refine gg_isub (S := sX7_layHunk) 106 rfl dX7_layHunk_105 ?_
          refine gg_aload_n (S := sX7_layHunk) 0 107 rfl dX7_layHunk_106 rfl rfl ?_
          refine gg_gr (S := sX7_layHunk) cfX7 (by decide) (fun _ _ => rfl) 110 rfl flX7_67 dX7_layHunk_107 (fun t8 => ?_)
          refine gg_iload (S := sX7_layHunk) 6 112 rfl dX7_layHunk_110 rfl ?_
          refine gg_ld (S := sX7_layHunk) 113 rfl dX7_layHunk_112 (fun t9 => ?_)
          refine gg_st (S := sX7_layHunk) 114 rfl dX7_layHunk_113 ?_
          refine gg_iinc (S := sX7_layHunk) (L' := [(6, vi (y5 + 1)), (0, vr (some x0)), (1, vi x1), (2, vi x2), (3, vi x3), (4, vi t2), (5, vi t4)]) 6 117 rfl dX7_layHunk_114 rfl (by decide) rfl ?_
          refine gg_goto (S := sX7_layHunk) (tgt := 85) dX7_layHunk_117 (by decide) ?_
          exact gg_pure (gg_sub [1, 2, 3, 4, 5, 6, 0] rfl (hr85 (y5 + 1)))
        · exact gg_pure (gg_sub [0, 1, 2, 3, 4, 5] rfl (he85 ()))
      · intro _
        exact gg_pure (gg_sub [0, 1, 2, 3, 4, 5] rfl (hJ30 ()))
    · refine gg_aload_n (S := sX7_layHunk) 2 34 rfl dX7_layHunk_33 rfl rfl ?_
      refine gg_gi (S := sX7_layHunk) cfX7 (by decide) (fun _ _ => rfl) 37 rfl flX7_178 dX7_layHunk_34 (fun t10 => ?_)
      refine gg_iconst (S := sX7_layHunk) 38 rfl dX7_layHunk_37 ?_
      refine gg_isub (S := sX7_layHunk) 39 rfl dX7_layHunk_38 ?_
      refine gg_istore (S := sX7_layHunk) (L' := [(6, vi (t10 - 1)), (5, vi t4), (4, vi t2), (0, vr (some x0)), (1, vi x1), (2, vi x2), (3, vi x3)]) 41 rfl dX7_layHunk_39 (by decide) rfl ?_
      refine gg_sub [3, 4, 5, 6, 2, 1, 0] rfl ?_
      refine gg_loopA (fun y11 => [(0, vr (some x0)), (1, vi x1), (2, vi x2), (3, vi x3), (4, vi t2), (5, vi t4), (6, vi y11)]) (fun _ => [(0, vr (some x0)), (1, vi x1), (2, vi x2), (3, vi x3), (4, vi t2), (5, vi t4)]) 76 mo_N ?_ ?_ (t10 - 1)
      · intro κ41 hr41 he41
        intro y11
        dsimp only [X7_layHunk_L41]
        refine gg_iload (S := sX7_layHunk) 6 43 rfl dX7_layHunk_41 rfl ?_
        refine gg_iload_n (S := sX7_layHunk) 3 44 rfl dX7_layHunk_43 rfl rfl ?_
        refine gg_iload (S := sX7_layHunk) 4 46 rfl dX7_layHunk_44 rfl ?_
        refine gg_iadd (S := sX7_layHunk) 47 rfl dX7_layHunk_46 ?_
        refine gg_ic_lt (S := sX7_layHunk) (tgt := 76) 50 rfl dX7_layHunk_47 (by decide) ?_ ?_
        · exact gg_pure (gg_sub [0, 1, 2, 3, 4, 5] rfl (he41 ()))
        · refine gg_aload_n (S := sX7_layHunk) 0 51 rfl dX7_layHunk_50 rfl rfl ?_
          refine gg_gr (S := sX7_layHunk) cfX7 (by decide) (fun _ _ => rfl) 54 rfl flX7_67 dX7_layHunk_51 (fun t12 => ?_)
          refine gg_iload (S := sX7_layHunk) 6 56 rfl dX7_layHunk_54 rfl ?_
          refine gg_iload (S := sX7_layHunk) 5 58 rfl dX7_layHunk_56 rfl ?_
          refine gg_iadd (S := sX7_layHunk) 59 rfl dX7_layHunk_58 ?_
          refine gg_iload (S := sX7_layHunk) 4 61 rfl dX7_layHunk_59 rfl ?_
          refine gg_isub (S := sX7_layHunk) 62 rfl dX7_layHunk_61 ?_
          refine gg_aload_n (S := sX7_layHunk) 0 63 rfl dX7_layHunk_62 rfl rfl ?_
          refine gg_gr (S := sX7_layHunk) cfX7 (by decide) (fun _ _ => rfl) 66 rfl flX7_67 dX7_layHunk_63 (fun t13 => ?_)
          refine gg_iload (S := sX7_layHunk) 6 68 rfl dX7_layHunk_66 rfl ?_
          refine gg_ld (S := sX7_layHunk) 69 rfl dX7_layHunk_68 (fun t14 => ?_)
          refine gg_st (S := sX7_layHunk) 70 rfl dX7_layHunk_69 ?_
          refine gg_iinc (S := sX7_layHunk) (L' := [(6, vi (y11 + (-1))), (0, vr (some x0)), (1, vi x1), (2, vi x2), (3, vi x3), (4, vi t2), (5, vi t4)]) 6 73 rfl dX7_layHunk_70 rfl (by decide) rfl ?_
          refine gg_goto (S := sX7_layHunk) (tgt := 41) dX7_layHunk_73 (by decide) ?_
          exact gg_pure (gg_sub [1, 2, 3, 4, 5, 6, 0] rfl (hr41 (y11 + (-1))))
      · intro _
        refine gg_goto (S := sX7_layHunk) (tgt := 120) dX7_layHunk_76 (by decide) ?_
        exact gg_pure (gg_sub [0, 1, 2, 3, 4, 5] rfl (hJ30 ()))
  · intro _
    refine gg_iconst (S := sX7_layHunk) 121 rfl dX7_layHunk_120 ?_
    refine gg_istore (S := sX7_layHunk) (L' := [(6, vi 0), (0, vr (some x0)), (1, vi x1), (2, vi x2), (3, vi x3), (4, vi t2), (5, vi t4)]) 123 rfl dX7_layHunk_121 (by decide) rfl ?_
    refine gg_sub [1, 2, 3, 4, 5, 6, 0] rfl ?_
    refine gg_loopA (fun y15 => [(0, vr (some x0)), (1, vi x1), (2, vi x2), (3, vi x3), (4, vi t2), (5, vi t4), (6, vi y15)]) (fun _ => [(0, vr (some x0)), (4, vi t2), (5, vi t4)]) 159 mo_N ?_ ?_ 0
    · intro κ123 hr123 he123
      intro y15
      dsimp only [X7_layHunk_L123]
      refine gg_iload (S := sX7_layHunk) 6 125 rfl dX7_layHunk_123 rfl ?_
      refine gg_iload (S := sX7_layHunk) 5 127 rfl dX7_layHunk_125 rfl ?_
      refine gg_ic_ge (S := sX7_layHunk) (tgt := 159) 130 rfl dX7_layHunk_127 (by decide) ?_ ?_
      · refine gg_aload_n (S := sX7_layHunk) 0 131 rfl dX7_layHunk_130 rfl rfl ?_
        refine gg_gr (S := sX7_layHunk) cfX7 (by decide) (fun _ _ => rfl) 134 rfl flX7_67 dX7_layHunk_131 (fun t16 => ?_)
        refine gg_iload_n (S := sX7_layHunk) 3 135 rfl dX7_layHunk_134 rfl rfl ?_
        refine gg_iload (S := sX7_layHunk) 6 137 rfl dX7_layHunk_135 rfl ?_
        refine gg_iadd (S := sX7_layHunk) 138 rfl dX7_layHunk_137 ?_
        refine gg_aload_n (S := sX7_layHunk) 0 139 rfl dX7_layHunk_138 rfl rfl ?_
        refine gg_gr (S := sX7_layHunk) cfX7 (by decide) (fun _ _ => rfl) 142 rfl flX7_43 dX7_layHunk_139 (fun t17 => ?_)
        refine gg_aload_n (S := sX7_layHunk) 0 143 rfl dX7_layHunk_142 rfl rfl ?_
        refine gg_iload_n (S := sX7_layHunk) 1 144 rfl dX7_layHunk_143 rfl rfl ?_
        refine gg_iload_n (S := sX7_layHunk) 2 145 rfl dX7_layHunk_144 rfl rfl ?_
        refine gg_callVi (S := sX7_layHunk) (S' := sX7_comeFrom) (cs := 0) (sl := 0) (As := [vi x1, vi x2]) (st := [vr t17, vi (x3 + y15), vr t16]) 148 rfl (fun b19 => lkX7_comeFrom b19 x1 x2) mwX7_comeFrom rfl mlX7_171 dX7_layHunk_145 cfX7 ⟨by decide, by decide⟩ 0 0 ⟨rfl, rfl⟩ ⟨by decide, by decide⟩ (Nat.le_of_ble_eq_true rfl) (fun t18 => ?_)
        refine gg_iload (S := sX7_layHunk) 6 150 rfl dX7_layHunk_148 rfl ?_
        refine gg_iadd (S := sX7_layHunk) 151 rfl dX7_layHunk_150 ?_
        refine gg_ld (S := sX7_layHunk) 152 rfl dX7_layHunk_151 (fun t19 => ?_)
        refine gg_st (S := sX7_layHunk) 153 rfl dX7_layHunk_152 ?_
        refine gg_iinc (S := sX7_layHunk) (L' := [(6, vi (y15 + 1)), (0, vr (some x0)), (1, vi x1), (2, vi x2), (3, vi x3), (4, vi t2), (5, vi t4)]) 6 156 rfl dX7_layHunk_153 rfl (by decide) rfl ?_
        refine gg_goto (S := sX7_layHunk) (tgt := 123) dX7_layHunk_156 (by decide) ?_
        exact gg_pure (gg_sub [1, 2, 3, 4, 5, 6, 0] rfl (hr123 (y15 + 1)))
      · exact gg_pure (gg_sub [0, 4, 5] rfl (he123 ()))
    · intro _
      refine gg_aload_n (S := sX7_layHunk) 0 160 rfl dX7_layHunk_159 rfl rfl ?_
      refine gg_dup (S := sX7_layHunk) 161 rfl dX7_layHunk_160 rfl ?_
      refine gg_gi (S := sX7_layHunk) cfX7 (by decide) (fun _ _ => rfl) 164 rfl flX7_178 dX7_layHunk_161 (fun t21 => ?_)
      refine gg_iload (S := sX7_layHunk) 2 166 rfl dX7_layHunk_164 rfl ?_
      refine gg_iload (S := sX7_layHunk) 1 168 rfl dX7_layHunk_166 rfl ?_
      refine gg_isub (S := sX7_layHunk) 169 rfl dX7_layHunk_168 ?_
      refine gg_iadd (S := sX7_layHunk) 170 rfl dX7_layHunk_169 ?_
      refine gg_si (S := sX7_layHunk) cfX7 (by decide) rfl (fun _ _ => rfl) rfl 173 rfl flX7_178 dX7_layHunk_170 ?_
      exact gg_pure (gg_vret (S := sX7_layHunk) rfl dX7_layHunk_173 (by decide) (by decide))

set_option maxRecDepth 100000 in
set_option maxHeartbeats 4000000 in
theorem lkX7_lay (x0 : Nat) (x1 : Int) : LK yX7_lay sX7_lay [vr (some x0), vi x1] en_i (X7_lay x0 x1) := by
  refine lk_go (L := [(0, vr (some x0)), (1, vi x1)]) (by decide +kernel) rfl (fun h => by cases h) (Nat.le_of_ble_eq_true rfl) rfl ?_
  intro K
  unfold X7_lay
  refine gg_aload_n (S := sX7_lay) 0 1 rfl dX7_lay_0 rfl rfl ?_
  refine gg_iload_n (S := sX7_lay) 1 2 rfl dX7_lay_1 rfl rfl ?_
  refine gg_callVi (S := sX7_lay) (S' := sX7_isPatch) (cs := 0) (sl := 0) (As := [vi x1]) (st := []) 5 rfl (fun b13 => lkX7_isPatch b13 x1) mwX7_isPatch rfl mlX7_155 dX7_lay_2 cfX7 ⟨by decide, by decide⟩ 0 0 ⟨rfl, rfl⟩ ⟨by decide, by decide⟩ (Nat.le_of_ble_eq_true rfl) (fun t1 => ?_)
  refine gg_if_ne (S := sX7_lay) (tgt := 11) 8 rfl dX7_lay_5 (by decide) ?_ ?_
  · refine gg_bipush (S := sX7_lay) 10 rfl dX7_lay_8 (by decide) ?_
    exact gg_pure (gg_iret (S := sX7_lay) rfl dX7_lay_10 (by decide) (by decide))
  · refine gg_aload_n (S := sX7_lay) 0 12 rfl dX7_lay_11 rfl rfl ?_
    refine gg_callVv (S := sX7_lay) (S' := sX7_workOnDesk) (cs := 0) (sl := 0) (As := []) (st := []) 15 rfl (fun b12 => lkX7_workOnDesk b12) mwX7_workOnDesk rfl mlX7_185 dX7_lay_12 cfX7 ⟨by decide, by decide⟩ 0 0 ⟨rfl, rfl⟩ ⟨by decide, by decide⟩ (Nat.le_of_ble_eq_true rfl) (fun _ => ?_)
    refine gg_aload_n (S := sX7_lay) 0 16 rfl dX7_lay_15 rfl rfl ?_
    refine gg_iload_n (S := sX7_lay) 1 17 rfl dX7_lay_16 rfl rfl ?_
    refine gg_callVi (S := sX7_lay) (S' := sX7_fitsWork) (cs := 0) (sl := 0) (As := [vi x1]) (st := []) 20 rfl (fun b11 => lkX7_fitsWork b11 x1) mwX7_fitsWork rfl mlX7_188 dX7_lay_17 cfX7 ⟨by decide, by decide⟩ 0 0 ⟨rfl, rfl⟩ ⟨by decide, by decide⟩ (Nat.le_of_ble_eq_true rfl) (fun t2 => ?_)
    refine gg_if_ne (S := sX7_lay) (tgt := 26) 23 rfl dX7_lay_20 (by decide) ?_ ?_
    · refine gg_bipush (S := sX7_lay) 25 rfl dX7_lay_23 (by decide) ?_
      exact gg_pure (gg_iret (S := sX7_lay) rfl dX7_lay_25 (by decide) (by decide))
    · refine gg_aload_n (S := sX7_lay) 0 27 rfl dX7_lay_26 rfl rfl ?_
      refine gg_gr (S := sX7_lay) cfX7 (by decide) (fun _ _ => rfl) 30 rfl flX7_28 dX7_lay_27 (fun t3 => ?_)
      refine gg_iload_n (S := sX7_lay) 1 31 rfl dX7_lay_30 rfl rfl ?_
      refine gg_ld (S := sX7_lay) 32 rfl dX7_lay_31 (fun t4 => ?_)
      refine gg_iconst (S := sX7_lay) 33 rfl dX7_lay_32 ?_
      refine gg_isub (S := sX7_lay) 34 rfl dX7_lay_33 ?_
      refine gg_istore_n (S := sX7_lay) (L' := [(2, vi (t4 - 1)), (0, vr (some x0)), (1, vi x1)]) 35 rfl dX7_lay_34 rfl (by decide) rfl ?_
      refine gg_sub [1, 2, 0] rfl ?_
      refine gg_loopA (fun y5 => [(0, vr (some x0)), (1, vi x1), (2, vi y5)]) (fun _ => [(0, vr (some x0))]) 62 mo_N ?_ ?_ (t4 - 1)
      · intro κ35 hr35 he35
        intro y5
        dsimp only [X7_lay_L35]
        refine gg_iload_n (S := sX7_lay) 2 36 rfl dX7_lay_35 rfl rfl ?_
        refine gg_if_lt (S := sX7_lay) (tgt := 62) 39 rfl dX7_lay_36 (by decide) ?_ ?_
        · exact gg_pure (gg_sub [0] rfl (he35 ()))
        · refine gg_aload_n (S := sX7_lay) 0 40 rfl dX7_lay_39 rfl rfl ?_
          refine gg_iload_n (S := sX7_lay) 1 41 rfl dX7_lay_40 rfl rfl ?_
          refine gg_iload_n (S := sX7_lay) 2 42 rfl dX7_lay_41 rfl rfl ?_
          refine gg_aload_n (S := sX7_lay) 0 43 rfl dX7_lay_42 rfl rfl ?_
          refine gg_gr (S := sX7_lay) cfX7 (by decide) (fun _ _ => rfl) 46 rfl flX7_31 dX7_lay_43 (fun t6 => ?_)
          refine gg_bipush (S := sX7_lay) 48 rfl dX7_lay_46 (by decide) ?_
          refine gg_iload_n (S := sX7_lay) 1 49 rfl dX7_lay_48 rfl rfl ?_
          refine gg_imul (S := sX7_lay) 50 rfl dX7_lay_49 ?_
          refine gg_iload_n (S := sX7_lay) 2 51 rfl dX7_lay_50 rfl rfl ?_
          refine gg_iadd (S := sX7_lay) 52 rfl dX7_lay_51 ?_
          refine gg_ld (S := sX7_lay) 53 rfl dX7_lay_52 (fun t7 => ?_)
          refine gg_callVv (S := sX7_lay) (S' := sX7_layHunk) (cs := 0) (sl := 0) (As := [vi x1, vi y5, vi t7]) (st := []) 56 rfl (fun b7 => lkX7_layHunk b7 x1 y5 t7) mwX7_layHunk rfl mlX7_191 dX7_lay_53 cfX7 ⟨by decide, by decide⟩ 0 0 ⟨rfl, rfl⟩ ⟨by decide, by decide⟩ (Nat.le_of_ble_eq_true rfl) (fun _ => ?_)
          refine gg_iinc (S := sX7_lay) (L' := [(2, vi (y5 + (-1))), (0, vr (some x0)), (1, vi x1)]) 2 59 rfl dX7_lay_56 rfl (by decide) rfl ?_
          refine gg_goto (S := sX7_lay) (tgt := 35) dX7_lay_59 (by decide) ?_
          exact gg_pure (gg_sub [1, 2, 0] rfl (hr35 (y5 + (-1))))
      · intro _
        refine gg_aload_n (S := sX7_lay) 0 63 rfl dX7_lay_62 rfl rfl ?_
        refine gg_gi (S := sX7_lay) cfX7 (by decide) (fun _ _ => rfl) 66 rfl flX7_178 dX7_lay_63 (fun t9 => ?_)
        refine gg_bipush (S := sX7_lay) 68 rfl dX7_lay_66 (by decide) ?_
        refine gg_ic_le (S := sX7_lay) (tgt := 74) 71 rfl dX7_lay_68 (by decide) ?_ ?_
        · refine gg_aload_n (S := sX7_lay) 0 75 rfl dX7_lay_74 rfl rfl ?_
          refine gg_callVv (S := sX7_lay) (S' := sX7_toDesk) (cs := 0) (sl := 0) (As := []) (st := []) 78 rfl (fun b10 => lkX7_toDesk b10) mwX7_toDesk rfl mlX7_195 dX7_lay_75 cfX7 ⟨by decide, by decide⟩ 0 0 ⟨rfl, rfl⟩ ⟨by decide, by decide⟩ (Nat.le_of_ble_eq_true rfl) (fun _ => ?_)
          refine gg_aload_n (S := sX7_lay) 0 79 rfl dX7_lay_78 rfl rfl ?_
          refine gg_gi (S := sX7_lay) cfX7 (by decide) (fun _ _ => rfl) 82 rfl flX7_108 dX7_lay_79 (fun t10 => ?_)
          exact gg_pure (gg_iret (S := sX7_lay) rfl dX7_lay_82 (by decide) (by decide))
        · refine gg_bipush (S := sX7_lay) 73 rfl dX7_lay_71 (by decide) ?_
          exact gg_pure (gg_iret (S := sX7_lay) rfl dX7_lay_73 (by decide) (by decide))

set_option maxRecDepth 100000 in
set_option maxHeartbeats 4000000 in
theorem lkX7_takenAt (x0 : Nat) (x1 : Int) (x2 : Int) (x3 : Int) (x4 : Int) : LK yX7_takenAt sX7_takenAt [vr (some x0), vi x1, vi x2, vi x3, vi x4] en_i (X7_takenAt x0 x1 x2 x3 x4) := by
  refine lk_go (L := [(0, vr (some x0)), (1, vi x1), (2, vi x2), (3, vi x3), (4, vi x4)]) (by decide +kernel) rfl (fun h => by cases h) (Nat.le_of_ble_eq_true rfl) rfl ?_
  intro K
  unfold X7_takenAt
  refine gg_iconst (S := sX7_takenAt) 1 rfl dX7_takenAt_0 ?_
  refine gg_istore (S := sX7_takenAt) (L' := [(5, vi (-1)), (0, vr (some x0)), (1, vi x1), (2, vi x2), (3, vi x3), (4, vi x4)]) 3 rfl dX7_takenAt_1 (by decide) rfl ?_
  refine gg_iload_n (S := sX7_takenAt) 3 4 rfl dX7_takenAt_3 rfl rfl ?_
  refine gg_istore (S := sX7_takenAt) (L' := [(6, vi x2), (5, vi (-1)), (0, vr (some x0)), (1, vi x1), (2, vi x2), (3, vi x3), (4, vi x4)]) 6 rfl dX7_takenAt_4 (by decide) rfl ?_
  refine gg_sub [2, 3, 5, 6, 1, 0] rfl ?_
  refine gg_loopA (fun (y1, y2) => [(0, vr (some x0)), (1, vi x1), (3, vi x3), (4, vi x4), (5, vi y1), (6, vi y2)]) (fun t14 => [(5, vi t14)]) 84 mo_N ?_ ?_ ((-1), x2)
  · intro κ6 hr6 he6
    rintro ⟨y1, y2⟩
    dsimp only [X7_takenAt_L6]
    refine gg_iload (S := sX7_takenAt) 5 8 rfl dX7_takenAt_6 rfl ?_
    refine gg_iload_n (S := sX7_takenAt) 2 9 rfl dX7_takenAt_8 rfl rfl ?_
    refine gg_ic_ge (S := sX7_takenAt) (tgt := 84) 12 rfl dX7_takenAt_9 (by decide) ?_ ?_
    · refine gg_aload_n (S := sX7_takenAt) 0 13 rfl dX7_takenAt_12 rfl rfl ?_
      refine gg_gr (S := sX7_takenAt) cfX7 (by decide) (fun _ _ => rfl) 16 rfl flX7_31 dX7_takenAt_13 (fun t3 => ?_)
      refine gg_bipush (S := sX7_takenAt) 18 rfl dX7_takenAt_16 (by decide) ?_
      refine gg_iload_n (S := sX7_takenAt) 1 19 rfl dX7_takenAt_18 rfl rfl ?_
      refine gg_imul (S := sX7_takenAt) 20 rfl dX7_takenAt_19 ?_
      refine gg_iload (S := sX7_takenAt) 5 22 rfl dX7_takenAt_20 rfl ?_
      refine gg_iadd (S := sX7_takenAt) 23 rfl dX7_takenAt_22 ?_
      refine gg_ld (S := sX7_takenAt) 24 rfl dX7_takenAt_23 (fun t4 => ?_)
      refine gg_istore (S := sX7_takenAt) (L' := [(7, vi t4), (0, vr (some x0)), (1, vi x1), (3, vi x3), (4, vi x4), (5, vi y1), (6, vi y2)]) 26 rfl dX7_takenAt_24 (by decide) rfl ?_
      refine gg_iload (S := sX7_takenAt) 4 28 rfl dX7_takenAt_26 rfl ?_
      refine gg_iload (S := sX7_takenAt) 0 30 rfl dX7_takenAt_28 rfl ?_
      refine gg_iload (S := sX7_takenAt) 0 32 rfl dX7_takenAt_30 rfl ?_
      refine gg_aload_n (S := sX7_takenAt) 1 33 rfl dX7_takenAt_32 rfl rfl ?_
      refine gg_gr (S := sX7_takenAt) cfX7 (by decide) (fun _ _ => rfl) 36 rfl flX7_34 dX7_takenAt_33 (fun t5 => ?_)
      refine gg_bipush (S := sX7_takenAt) 38 rfl dX7_takenAt_36 (by decide) ?_
      refine gg_iload_n (S := sX7_takenAt) 2 39 rfl dX7_takenAt_38 rfl rfl ?_
      refine gg_imul (S := sX7_takenAt) 40 rfl dX7_takenAt_39 ?_
      refine gg_iload (S := sX7_takenAt) 6 42 rfl dX7_takenAt_40 rfl ?_
      refine gg_iadd (S := sX7_takenAt) 43 rfl dX7_takenAt_42 ?_
      refine gg_ld (S := sX7_takenAt) 44 rfl dX7_takenAt_43 (fun t6 => ?_)
      refine gg_iadd (S := sX7_takenAt) 45 rfl dX7_takenAt_44 ?_
      refine gg_iconst (S := sX7_takenAt) 46 rfl dX7_takenAt_45 ?_
      refine gg_isub (S := sX7_takenAt) 47 rfl dX7_takenAt_46 ?_
      refine gg_callSi (S := sX7_takenAt) (S' := sX7_within) (cs := 0) (sl := 0) (As := [vi x4, vi t4, vi ((t4 + t6) - 1)]) (st := []) 50 rfl (lkX7_within x4 t4 ((t4 + t6) - 1)) mwX7_within rfl mlX7_101 dX7_takenAt_47 ⟨by decide, by decide⟩ 0 0 ⟨rfl, rfl⟩ ⟨by decide, by decide⟩ (Nat.le_of_ble_eq_true rfl) (fun t7 => ?_)
      refine gg_join (fun t12 => [(0, vr (some x0)), (1, vi x1), (3, vi x3), (4, vi x4), (6, vi y2)]) (fun t12 => [vi t12]) 76 0 0 (fun κ50 hJ50 => ?_) ?_
      · refine gg_if_eq (S := sX7_takenAt) (tgt := 74) 53 rfl dX7_takenAt_50 (by decide) ?_ ?_
        · refine gg_iload (S := sX7_takenAt) 5 76 rfl dX7_takenAt_74 rfl ?_
          exact gg_pure (gg_sub [1, 2, 3, 4, 6] rfl (hJ50 y1))
        · refine gg_aload_n (S := sX7_takenAt) 1 54 rfl dX7_takenAt_53 rfl rfl ?_
          refine gg_gr (S := sX7_takenAt) cfX7 (by decide) (fun _ _ => rfl) 57 rfl flX7_40 dX7_takenAt_54 (fun t8 => ?_)
          refine gg_aload_n (S := sX7_takenAt) 1 58 rfl dX7_takenAt_57 rfl rfl ?_
          refine gg_iload_n (S := sX7_takenAt) 2 59 rfl dX7_takenAt_58 rfl rfl ?_
          refine gg_iload (S := sX7_takenAt) 6 61 rfl dX7_takenAt_59 rfl ?_
          refine gg_callVi (S := sX7_takenAt) (S' := sX7_goFrom) (cs := 0) (sl := 0) (As := [vi x1, vi y2]) (st := [vr t8]) 64 rfl (fun b10 => lkX7_goFrom b10 x1 y2) mwX7_goFrom rfl mlX7_168 dX7_takenAt_61 cfX7 ⟨by decide, by decide⟩ 0 0 ⟨rfl, rfl⟩ ⟨by decide, by decide⟩ (Nat.le_of_ble_eq_true rfl) (fun t9 => ?_)
          refine gg_iload (S := sX7_takenAt) 4 66 rfl dX7_takenAt_64 rfl ?_
          refine gg_iadd (S := sX7_takenAt) 67 rfl dX7_takenAt_66 ?_
          refine gg_iload (S := sX7_takenAt) 0 69 rfl dX7_takenAt_67 rfl ?_
          refine gg_isub (S := sX7_takenAt) 70 rfl dX7_takenAt_69 ?_
          refine gg_ld (S := sX7_takenAt) 71 rfl dX7_takenAt_70 (fun t10 => ?_)
          refine gg_goto (S := sX7_takenAt) (tgt := 76) dX7_takenAt_71 (by decide) ?_
          exact gg_pure (gg_sub [1, 2, 3, 4, 6] rfl (hJ50 t10))
      · intro t12
        refine gg_istore (S := sX7_takenAt) (L' := [(5, vi t12), (0, vr (some x0)), (1, vi x1), (3, vi x3), (4, vi x4), (6, vi y2)]) 78 rfl dX7_takenAt_76 (by decide) rfl ?_
        refine gg_iinc (S := sX7_takenAt) (L' := [(6, vi (y2 + 1)), (5, vi t12), (0, vr (some x0)), (1, vi x1), (3, vi x3), (4, vi x4)]) 5 81 rfl dX7_takenAt_78 rfl (by decide) rfl ?_
        refine gg_goto (S := sX7_takenAt) (tgt := 6) dX7_takenAt_81 (by decide) ?_
        exact gg_pure (gg_sub [2, 3, 4, 5, 1, 0] rfl (hr6 (t12, (y2 + 1))))
    · exact gg_pure (gg_sub [4] rfl (he6 y1))
  · intro t14
    refine gg_iload (S := sX7_takenAt) 0 86 rfl dX7_takenAt_84 rfl ?_
    exact gg_pure (gg_iret (S := sX7_takenAt) rfl dX7_takenAt_86 (by decide) (by decide))

set_option maxRecDepth 100000 in
set_option maxHeartbeats 4000000 in
theorem lkX7_layAhead (x0 : Nat) (x1 : Int) (x2 : Int) (x3 : Int) (x4 : Int) (x5 : Int) (x6 : Int) (x7 : Int) (x8 : Int) : LK yX7_layAhead sX7_layAhead [vr (some x0), vi x1, vi x2, vi x3, vi x4, vi x5, vi x6, vi x7, vi x8] en_v (X7_layAhead x0 x1 x2 x3 x4 x5 x6 x7 x8) := by
  refine lk_go (L := [(0, vr (some x0)), (1, vi x1), (2, vi x2), (3, vi x3), (4, vi x4), (5, vi x5), (6, vi x6), (7, vi x7), (8, vi x8)]) (by decide +kernel) rfl (fun h => by cases h) (Nat.le_of_ble_eq_true rfl) rfl ?_
  intro K
  unfold X7_layAhead
  refine gg_iload (S := sX7_layAhead) 7 2 rfl dX7_layAhead_0 rfl ?_
  refine gg_istore (S := sX7_layAhead) (L' := [(9, vi x7), (0, vr (some x0)), (1, vi x1), (2, vi x2), (3, vi x3), (4, vi x4), (5, vi x5), (6, vi x6), (7, vi x7), (8, vi x8)]) 4 rfl dX7_layAhead_2 (by decide) rfl ?_
  refine gg_iload_n (S := sX7_layAhead) 3 5 rfl dX7_layAhead_4 rfl rfl ?_
  refine gg_istore (S := sX7_layAhead) (L' := [(10, vi x2), (9, vi x7), (0, vr (some x0)), (1, vi x1), (2, vi x2), (3, vi x3), (4, vi x4), (5, vi x5), (6, vi x6), (7, vi x7), (8, vi x8)]) 7 rfl dX7_layAhead_5 (by decide) rfl ?_
  refine gg_sub [2, 3, 5, 6, 7, 8, 10, 1, 0] rfl ?_
  refine gg_loopA (fun (y1, y2) => [(0, vr (some x0)), (1, vi x1), (3, vi x3), (4, vi x4), (5, vi x5), (6, vi x6), (8, vi x8), (9, vi y1), (10, vi y2)]) (fun _ => []) 128 mo_N ?_ ?_ (x7, x2)
  · intro κ7 hr7 he7
    rintro ⟨y1, y2⟩
    dsimp only [X7_layAhead_L7]
    refine gg_iload (S := sX7_layAhead) 7 9 rfl dX7_layAhead_7 rfl ?_
    refine gg_iload (S := sX7_layAhead) 6 11 rfl dX7_layAhead_9 rfl ?_
    refine gg_cond [(0, vr (some x0)), (1, vi x1), (3, vi x3), (4, vi x4), (5, vi x5), (6, vi x6), (8, vi x8), (9, vi y1), (10, vi y2)] [] [] 20 128 0 0 (fun κ11 hT11 hF11 => ?_) ?_ ?_
    · refine gg_ic_lt (S := sX7_layAhead) (tgt := 20) 14 rfl dX7_layAhead_11 (by decide) ?_ ?_
      · exact gg_pure (gg_sub [0, 1, 2, 3, 4, 5, 6, 7, 8] rfl hT11)
      · refine gg_iload (S := sX7_layAhead) 8 16 rfl dX7_layAhead_14 rfl ?_
        refine gg_iload_n (S := sX7_layAhead) 2 17 rfl dX7_layAhead_16 rfl rfl ?_
        refine gg_ic_ge (S := sX7_layAhead) (tgt := 128) 20 rfl dX7_layAhead_17 (by decide) ?_ ?_
        · exact gg_pure (gg_sub [0, 1, 2, 3, 4, 5, 6, 7, 8] rfl hT11)
        · exact gg_pure (gg_sub [] rfl hF11)
    · refine gg_iload (S := sX7_layAhead) 8 22 rfl dX7_layAhead_20 rfl ?_
      refine gg_iload_n (S := sX7_layAhead) 2 23 rfl dX7_layAhead_22 rfl rfl ?_
      refine gg_cond [(0, vr (some x0)), (1, vi x1), (3, vi x3), (4, vi x4), (5, vi x5), (6, vi x6), (8, vi x8), (9, vi y1), (10, vi y2)] [(0, vr (some x0)), (1, vi x1), (3, vi x3), (4, vi x4), (5, vi x5), (6, vi x6), (8, vi x8), (9, vi y1), (10, vi y2)] [] 38 106 0 0 (fun κ23 hT23 hF23 => ?_) ?_ ?_
      · refine gg_ic_ge (S := sX7_layAhead) (tgt := 106) 26 rfl dX7_layAhead_23 (by decide) ?_ ?_
        · refine gg_aload_n (S := sX7_layAhead) 0 27 rfl dX7_layAhead_26 rfl rfl ?_
          refine gg_iload_n (S := sX7_layAhead) 1 28 rfl dX7_layAhead_27 rfl rfl ?_
          refine gg_iload (S := sX7_layAhead) 8 30 rfl dX7_layAhead_28 rfl ?_
          refine gg_callVi (S := sX7_layAhead) (S' := sX7_standsAt) (cs := 0) (sl := 0) (As := [vi x1, vi y2]) (st := []) 33 rfl (fun b3 => lkX7_standsAt b3 x1 y2) mwX7_standsAt rfl mlX7_198 dX7_layAhead_30 cfX7 ⟨by decide, by decide⟩ 0 0 ⟨rfl, rfl⟩ ⟨by decide, by decide⟩ (Nat.le_of_ble_eq_true rfl) (fun t3 => ?_)
          refine gg_iload (S := sX7_layAhead) 7 35 rfl dX7_layAhead_33 rfl ?_
          refine gg_ic_ne (S := sX7_layAhead) (tgt := 106) 38 rfl dX7_layAhead_35 (by decide) ?_ ?_
          · exact gg_pure (gg_sub [0, 1, 2, 3, 4, 5, 6, 7, 8] rfl hT23)
          · exact gg_pure (gg_sub [0, 1, 2, 3, 4, 5, 6, 7, 8] rfl hF23)
        · exact gg_pure (gg_sub [0, 1, 2, 3, 4, 5, 6, 7, 8] rfl hF23)
      · refine gg_iconst (S := sX7_layAhead) 39 rfl dX7_layAhead_38 ?_
        refine gg_istore (S := sX7_layAhead) (L' := [(11, vi 0), (0, vr (some x0)), (1, vi x1), (3, vi x3), (4, vi x4), (5, vi x5), (6, vi x6), (8, vi x8), (9, vi y1), (10, vi y2)]) 41 rfl dX7_layAhead_39 (by decide) rfl ?_
        refine gg_sub [1, 2, 3, 4, 5, 6, 7, 8, 9, 0] rfl ?_
        refine gg_loopA (fun y5 => [(0, vr (some x0)), (1, vi x1), (3, vi x3), (4, vi x4), (5, vi x5), (6, vi x6), (8, vi x8), (9, vi y1), (10, vi y2), (11, vi y5)]) (fun _ => [(0, vr (some x0)), (1, vi x1), (3, vi x3), (4, vi x4), (5, vi x5), (6, vi x6), (8, vi x8), (9, vi y1), (10, vi y2)]) 83 mo_N ?_ ?_ 0
        · intro κ41 hr41 he41
          intro y5
          dsimp only [X7_layAhead_L41]
          refine gg_iload (S := sX7_layAhead) 9 43 rfl dX7_layAhead_41 rfl ?_
          refine gg_aload_n (S := sX7_layAhead) 0 44 rfl dX7_layAhead_43 rfl rfl ?_
          refine gg_gr (S := sX7_layAhead) cfX7 (by decide) (fun _ _ => rfl) 47 rfl flX7_34 dX7_layAhead_44 (fun t6 => ?_)
          refine gg_bipush (S := sX7_layAhead) 49 rfl dX7_layAhead_47 (by decide) ?_
          refine gg_iload_n (S := sX7_layAhead) 1 50 rfl dX7_layAhead_49 rfl rfl ?_
          refine gg_imul (S := sX7_layAhead) 51 rfl dX7_layAhead_50 ?_
          refine gg_iload (S := sX7_layAhead) 8 53 rfl dX7_layAhead_51 rfl ?_
          refine gg_iadd (S := sX7_layAhead) 54 rfl dX7_layAhead_53 ?_
          refine gg_ld (S := sX7_layAhead) 55 rfl dX7_layAhead_54 (fun t7 => ?_)
          refine gg_ic_ge (S := sX7_layAhead) (tgt := 83) 58 rfl dX7_layAhead_55 (by decide) ?_ ?_
          · refine gg_aload_n (S := sX7_layAhead) 0 59 rfl dX7_layAhead_58 rfl rfl ?_
            refine gg_aload_n (S := sX7_layAhead) 0 60 rfl dX7_layAhead_59 rfl rfl ?_
            refine gg_gr (S := sX7_layAhead) cfX7 (by decide) (fun _ _ => rfl) 63 rfl flX7_40 dX7_layAhead_60 (fun t8 => ?_)
            refine gg_aload_n (S := sX7_layAhead) 0 64 rfl dX7_layAhead_63 rfl rfl ?_
            refine gg_iload_n (S := sX7_layAhead) 1 65 rfl dX7_layAhead_64 rfl rfl ?_
            refine gg_iload (S := sX7_layAhead) 8 67 rfl dX7_layAhead_65 rfl ?_
            refine gg_callVi (S := sX7_layAhead) (S' := sX7_goFrom) (cs := 0) (sl := 0) (As := [vi x1, vi y2]) (st := [vr t8, vr (some x0)]) 70 rfl (fun b11 => lkX7_goFrom b11 x1 y2) mwX7_goFrom rfl mlX7_168 dX7_layAhead_67 cfX7 ⟨by decide, by decide⟩ 0 0 ⟨rfl, rfl⟩ ⟨by decide, by decide⟩ (Nat.le_of_ble_eq_true rfl) (fun t9 => ?_)
            refine gg_iload (S := sX7_layAhead) 9 72 rfl dX7_layAhead_70 rfl ?_
            refine gg_iadd (S := sX7_layAhead) 73 rfl dX7_layAhead_72 ?_
            refine gg_ld (S := sX7_layAhead) 74 rfl dX7_layAhead_73 (fun t10 => ?_)
            refine gg_callVv (S := sX7_layAhead) (S' := sX7_goes) (cs := 0) (sl := 0) (As := [vi t10]) (st := []) 77 rfl (fun b10 => lkX7_goes b10 t10) mwX7_goes rfl mlX7_138 dX7_layAhead_74 cfX7 ⟨by decide, by decide⟩ 0 0 ⟨rfl, rfl⟩ ⟨by decide, by decide⟩ (Nat.le_of_ble_eq_true rfl) (fun _ => ?_)
            refine gg_iinc (S := sX7_layAhead) (L' := [(11, vi (y5 + 1)), (0, vr (some x0)), (1, vi x1), (3, vi x3), (4, vi x4), (5, vi x5), (6, vi x6), (8, vi x8), (9, vi y1), (10, vi y2)]) 9 80 rfl dX7_layAhead_77 rfl (by decide) rfl ?_
            refine gg_goto (S := sX7_layAhead) (tgt := 41) dX7_layAhead_80 (by decide) ?_
            exact gg_pure (gg_sub [1, 2, 3, 4, 5, 6, 7, 8, 9, 0] rfl (hr41 (y5 + 1)))
          · exact gg_pure (gg_sub [0, 1, 2, 3, 4, 5, 6, 7, 8] rfl (he41 ()))
        · intro _
          refine gg_iload (S := sX7_layAhead) 7 85 rfl dX7_layAhead_83 rfl ?_
          refine gg_aload_n (S := sX7_layAhead) 0 86 rfl dX7_layAhead_85 rfl rfl ?_
          refine gg_gr (S := sX7_layAhead) cfX7 (by decide) (fun _ _ => rfl) 89 rfl flX7_37 dX7_layAhead_86 (fun t13 => ?_)
          refine gg_bipush (S := sX7_layAhead) 91 rfl dX7_layAhead_89 (by decide) ?_
          refine gg_iload_n (S := sX7_layAhead) 1 92 rfl dX7_layAhead_91 rfl rfl ?_
          refine gg_imul (S := sX7_layAhead) 93 rfl dX7_layAhead_92 ?_
          refine gg_iload (S := sX7_layAhead) 8 95 rfl dX7_layAhead_93 rfl ?_
          refine gg_iadd (S := sX7_layAhead) 96 rfl dX7_layAhead_95 ?_
          refine gg_ld (S := sX7_layAhead) 97 rfl dX7_layAhead_96 (fun t14 => ?_)
          refine gg_iadd (S := sX7_layAhead) 98 rfl dX7_layAhead_97 ?_
          refine gg_istore (S := sX7_layAhead) (L' := [(9, vi (y1 + t14)), (0, vr (some x0)), (1, vi x1), (3, vi x3), (4, vi x4), (5, vi x5), (6, vi x6), (8, vi x8), (10, vi y2)]) 100 rfl dX7_layAhead_98 (by decide) rfl ?_
          refine gg_iinc (S := sX7_layAhead) (L' := [(10, vi (y2 + 1)), (9, vi (y1 + t14)), (0, vr (some x0)), (1, vi x1), (3, vi x3), (4, vi x4), (5, vi x5), (6, vi x6), (8, vi x8)]) 8 103 rfl dX7_layAhead_100 rfl (by decide) rfl ?_
          refine gg_goto (S := sX7_layAhead) (tgt := 7) dX7_layAhead_103 (by decide) ?_
          exact gg_pure (gg_sub [2, 3, 4, 5, 6, 7, 8, 1, 0] rfl (hr7 ((y1 + t14), (y2 + 1))))
      · refine gg_aload_n (S := sX7_layAhead) 0 107 rfl dX7_layAhead_106 rfl rfl ?_
        refine gg_aload_n (S := sX7_layAhead) 0 108 rfl dX7_layAhead_107 rfl rfl ?_
        refine gg_iload (S := sX7_layAhead) 3 110 rfl dX7_layAhead_108 rfl ?_
        refine gg_iload (S := sX7_layAhead) 4 112 rfl dX7_layAhead_110 rfl ?_
        refine gg_iload (S := sX7_layAhead) 5 114 rfl dX7_layAhead_112 rfl ?_
        refine gg_iload (S := sX7_layAhead) 7 116 rfl dX7_layAhead_114 rfl ?_
        refine gg_callVi (S := sX7_layAhead) (S' := sX7_takenAt) (cs := 0) (sl := 0) (As := [vi x4, vi x5, vi x6, vi y1]) (st := [vr (some x0)]) 119 rfl (fun b16 => lkX7_takenAt b16 x4 x5 x6 y1) mwX7_takenAt rfl mlX7_219 dX7_layAhead_116 cfX7 ⟨by decide, by decide⟩ 0 0 ⟨rfl, rfl⟩ ⟨by decide, by decide⟩ (Nat.le_of_ble_eq_true rfl) (fun t15 => ?_)
        refine gg_callVv (S := sX7_layAhead) (S' := sX7_goes) (cs := 0) (sl := 0) (As := [vi t15]) (st := []) 122 rfl (fun b15 => lkX7_goes b15 t15) mwX7_goes rfl mlX7_138 dX7_layAhead_119 cfX7 ⟨by decide, by decide⟩ 0 0 ⟨rfl, rfl⟩ ⟨by decide, by decide⟩ (Nat.le_of_ble_eq_true rfl) (fun _ => ?_)
        refine gg_iinc (S := sX7_layAhead) (L' := [(9, vi (y1 + 1)), (0, vr (some x0)), (1, vi x1), (3, vi x3), (4, vi x4), (5, vi x5), (6, vi x6), (8, vi x8), (10, vi y2)]) 7 125 rfl dX7_layAhead_122 rfl (by decide) rfl ?_
        refine gg_goto (S := sX7_layAhead) (tgt := 7) dX7_layAhead_125 (by decide) ?_
        exact gg_pure (gg_sub [1, 2, 3, 4, 5, 6, 7, 0, 8] rfl (hr7 ((y1 + 1), y2)))
    · exact gg_pure (gg_sub [] rfl (he7 ()))
  · intro _
    exact gg_pure (gg_vret (S := sX7_layAhead) rfl dX7_layAhead_128 (by decide) (by decide))
