set_option maxRecDepth 100000 in
set_option maxHeartbeats 4000000 in
theorem lkX7_layBehind (x0 : Nat) (x1 : Int) (x2 : Int) (x3 : Int) (x4 : Int) (x5 : Int) (x6 : Int) (x7 : Int) (x8 : Int) : LK yX7_layBehind sX7_layBehind [vr (some x0), vi x1, vi x2, vi x3, vi x4, vi x5, vi x6, vi x7, vi x8] en_v (X7_layBehind x0 x1 x2 x3 x4 x5 x6 x7 x8) := by
  refine lk_go (L := [(0, vr (some x0)), (1, vi x1), (2, vi x2), (3, vi x3), (4, vi x4), (5, vi x5), (6, vi x6), (7, vi x7), (8, vi x8)]) (by decide +kernel) rfl (fun h => by cases h) (Nat.le_of_ble_eq_true rfl) rfl ?_
  intro K
  unfold X7_layBehind
  refine gg_iload (S := sX7_layBehind) 7 2 rfl dX7_layBehind_0 rfl ?_
  refine gg_istore (S := sX7_layBehind) (L' := [(9, vi x7), (0, vr (some x0)), (1, vi x1), (2, vi x2), (3, vi x3), (4, vi x4), (5, vi x5), (6, vi x6), (7, vi x7), (8, vi x8)]) 4 rfl dX7_layBehind_2 (by decide) rfl ?_
  refine gg_iload (S := sX7_layBehind) 6 6 rfl dX7_layBehind_4 rfl ?_
  refine gg_istore (S := sX7_layBehind) (L' := [(10, vi x5), (9, vi x7), (0, vr (some x0)), (1, vi x1), (2, vi x2), (3, vi x3), (4, vi x4), (5, vi x5), (6, vi x6), (7, vi x7), (8, vi x8)]) 8 rfl dX7_layBehind_6 (by decide) rfl ?_
  refine gg_sub [2, 3, 4, 5, 6, 8, 10, 1, 0] rfl ?_
  refine gg_loopA (fun (y1, y2) => [(0, vr (some x0)), (1, vi x1), (2, vi x2), (3, vi x3), (4, vi x4), (6, vi x6), (8, vi x8), (9, vi y1), (10, vi y2)]) (fun _ => []) 137 mo_N ?_ ?_ (x7, x5)
  · intro κ8 hr8 he8
    rintro ⟨y1, y2⟩
    dsimp only [X7_layBehind_L8]
    refine gg_iload (S := sX7_layBehind) 7 10 rfl dX7_layBehind_8 rfl ?_
    refine gg_iload (S := sX7_layBehind) 6 12 rfl dX7_layBehind_10 rfl ?_
    refine gg_cond [(0, vr (some x0)), (1, vi x1), (2, vi x2), (3, vi x3), (4, vi x4), (6, vi x6), (8, vi x8), (9, vi y1), (10, vi y2)] [] [] 22 137 0 0 (fun κ12 hT12 hF12 => ?_) ?_ ?_
    · refine gg_ic_lt (S := sX7_layBehind) (tgt := 22) 15 rfl dX7_layBehind_12 (by decide) ?_ ?_
      · exact gg_pure (gg_sub [0, 1, 2, 3, 4, 5, 6, 7, 8] rfl hT12)
      · refine gg_iload (S := sX7_layBehind) 8 17 rfl dX7_layBehind_15 rfl ?_
        refine gg_iload (S := sX7_layBehind) 5 19 rfl dX7_layBehind_17 rfl ?_
        refine gg_ic_ge (S := sX7_layBehind) (tgt := 137) 22 rfl dX7_layBehind_19 (by decide) ?_ ?_
        · exact gg_pure (gg_sub [0, 1, 2, 3, 4, 5, 6, 7, 8] rfl hT12)
        · exact gg_pure (gg_sub [] rfl hF12)
    · refine gg_iload (S := sX7_layBehind) 8 24 rfl dX7_layBehind_22 rfl ?_
      refine gg_iload (S := sX7_layBehind) 5 26 rfl dX7_layBehind_24 rfl ?_
      refine gg_cond [(0, vr (some x0)), (1, vi x1), (2, vi x2), (3, vi x3), (4, vi x4), (6, vi x6), (8, vi x8), (9, vi y1), (10, vi y2)] [(0, vr (some x0)), (1, vi x1), (2, vi x2), (3, vi x3), (4, vi x4), (6, vi x6), (8, vi x8), (9, vi y1), (10, vi y2)] [] 47 118 0 0 (fun κ26 hT26 hF26 => ?_) ?_ ?_
      · refine gg_ic_ge (S := sX7_layBehind) (tgt := 118) 29 rfl dX7_layBehind_26 (by decide) ?_ ?_
        · refine gg_aload_n (S := sX7_layBehind) 0 30 rfl dX7_layBehind_29 rfl rfl ?_
          refine gg_gr (S := sX7_layBehind) cfX7 (by decide) (fun _ _ => rfl) 33 rfl flX7_31 dX7_layBehind_30 (fun t3 => ?_)
          refine gg_bipush (S := sX7_layBehind) 35 rfl dX7_layBehind_33 (by decide) ?_
          refine gg_iload (S := sX7_layBehind) 4 37 rfl dX7_layBehind_35 rfl ?_
          refine gg_imul (S := sX7_layBehind) 38 rfl dX7_layBehind_37 ?_
          refine gg_iload (S := sX7_layBehind) 8 40 rfl dX7_layBehind_38 rfl ?_
          refine gg_iadd (S := sX7_layBehind) 41 rfl dX7_layBehind_40 ?_
          refine gg_ld (S := sX7_layBehind) 42 rfl dX7_layBehind_41 (fun t4 => ?_)
          refine gg_iload (S := sX7_layBehind) 7 44 rfl dX7_layBehind_42 rfl ?_
          refine gg_ic_ne (S := sX7_layBehind) (tgt := 118) 47 rfl dX7_layBehind_44 (by decide) ?_ ?_
          · exact gg_pure (gg_sub [0, 1, 2, 3, 4, 5, 6, 7, 8] rfl hT26)
          · exact gg_pure (gg_sub [0, 1, 2, 3, 4, 5, 6, 7, 8] rfl hF26)
        · exact gg_pure (gg_sub [0, 1, 2, 3, 4, 5, 6, 7, 8] rfl hF26)
      · refine gg_iconst (S := sX7_layBehind) 48 rfl dX7_layBehind_47 ?_
        refine gg_istore (S := sX7_layBehind) (L' := [(11, vi 0), (0, vr (some x0)), (1, vi x1), (2, vi x2), (3, vi x3), (4, vi x4), (6, vi x6), (8, vi x8), (9, vi y1), (10, vi y2)]) 50 rfl dX7_layBehind_48 (by decide) rfl ?_
        refine gg_sub [1, 2, 3, 4, 5, 6, 7, 8, 9, 0] rfl ?_
        refine gg_loopA (fun y5 => [(0, vr (some x0)), (1, vi x1), (2, vi x2), (3, vi x3), (4, vi x4), (6, vi x6), (8, vi x8), (9, vi y1), (10, vi y2), (11, vi y5)]) (fun _ => [(0, vr (some x0)), (1, vi x1), (2, vi x2), (3, vi x3), (4, vi x4), (6, vi x6), (8, vi x8), (9, vi y1), (10, vi y2)]) 94 mo_N ?_ ?_ 0
        · intro κ50 hr50 he50
          intro y5
          dsimp only [X7_layBehind_L50]
          refine gg_iload (S := sX7_layBehind) 9 52 rfl dX7_layBehind_50 rfl ?_
          refine gg_aload_n (S := sX7_layBehind) 0 53 rfl dX7_layBehind_52 rfl rfl ?_
          refine gg_gr (S := sX7_layBehind) cfX7 (by decide) (fun _ _ => rfl) 56 rfl flX7_37 dX7_layBehind_53 (fun t6 => ?_)
          refine gg_bipush (S := sX7_layBehind) 58 rfl dX7_layBehind_56 (by decide) ?_
          refine gg_iload (S := sX7_layBehind) 4 60 rfl dX7_layBehind_58 rfl ?_
          refine gg_imul (S := sX7_layBehind) 61 rfl dX7_layBehind_60 ?_
          refine gg_iload (S := sX7_layBehind) 8 63 rfl dX7_layBehind_61 rfl ?_
          refine gg_iadd (S := sX7_layBehind) 64 rfl dX7_layBehind_63 ?_
          refine gg_ld (S := sX7_layBehind) 65 rfl dX7_layBehind_64 (fun t7 => ?_)
          refine gg_ic_ge (S := sX7_layBehind) (tgt := 94) 68 rfl dX7_layBehind_65 (by decide) ?_ ?_
          · refine gg_aload_n (S := sX7_layBehind) 0 69 rfl dX7_layBehind_68 rfl rfl ?_
            refine gg_aload_n (S := sX7_layBehind) 0 70 rfl dX7_layBehind_69 rfl rfl ?_
            refine gg_gr (S := sX7_layBehind) cfX7 (by decide) (fun _ _ => rfl) 73 rfl flX7_43 dX7_layBehind_70 (fun t8 => ?_)
            refine gg_aload_n (S := sX7_layBehind) 0 74 rfl dX7_layBehind_73 rfl rfl ?_
            refine gg_iload (S := sX7_layBehind) 4 76 rfl dX7_layBehind_74 rfl ?_
            refine gg_iload (S := sX7_layBehind) 8 78 rfl dX7_layBehind_76 rfl ?_
            refine gg_callVi (S := sX7_layBehind) (S' := sX7_comeFrom) (cs := 0) (sl := 0) (As := [vi x4, vi y2]) (st := [vr t8, vr (some x0)]) 81 rfl (fun b11 => lkX7_comeFrom b11 x4 y2) mwX7_comeFrom rfl mlX7_171 dX7_layBehind_78 cfX7 ⟨by decide, by decide⟩ 0 0 ⟨rfl, rfl⟩ ⟨by decide, by decide⟩ (Nat.le_of_ble_eq_true rfl) (fun t9 => ?_)
            refine gg_iload (S := sX7_layBehind) 9 83 rfl dX7_layBehind_81 rfl ?_
            refine gg_iadd (S := sX7_layBehind) 84 rfl dX7_layBehind_83 ?_
            refine gg_ld (S := sX7_layBehind) 85 rfl dX7_layBehind_84 (fun t10 => ?_)
            refine gg_callVv (S := sX7_layBehind) (S' := sX7_comes) (cs := 0) (sl := 0) (As := [vi t10]) (st := []) 88 rfl (fun b10 => lkX7_comes b10 t10) mwX7_comes rfl mlX7_141 dX7_layBehind_85 cfX7 ⟨by decide, by decide⟩ 0 0 ⟨rfl, rfl⟩ ⟨by decide, by decide⟩ (Nat.le_of_ble_eq_true rfl) (fun _ => ?_)
            refine gg_iinc (S := sX7_layBehind) (L' := [(11, vi (y5 + 1)), (0, vr (some x0)), (1, vi x1), (2, vi x2), (3, vi x3), (4, vi x4), (6, vi x6), (8, vi x8), (9, vi y1), (10, vi y2)]) 9 91 rfl dX7_layBehind_88 rfl (by decide) rfl ?_
            refine gg_goto (S := sX7_layBehind) (tgt := 50) dX7_layBehind_91 (by decide) ?_
            exact gg_pure (gg_sub [1, 2, 3, 4, 5, 6, 7, 8, 9, 0] rfl (hr50 (y5 + 1)))
          · exact gg_pure (gg_sub [0, 1, 2, 3, 4, 5, 6, 7, 8] rfl (he50 ()))
        · intro _
          refine gg_iload (S := sX7_layBehind) 7 96 rfl dX7_layBehind_94 rfl ?_
          refine gg_aload_n (S := sX7_layBehind) 0 97 rfl dX7_layBehind_96 rfl rfl ?_
          refine gg_gr (S := sX7_layBehind) cfX7 (by decide) (fun _ _ => rfl) 100 rfl flX7_34 dX7_layBehind_97 (fun t13 => ?_)
          refine gg_bipush (S := sX7_layBehind) 102 rfl dX7_layBehind_100 (by decide) ?_
          refine gg_iload (S := sX7_layBehind) 4 104 rfl dX7_layBehind_102 rfl ?_
          refine gg_imul (S := sX7_layBehind) 105 rfl dX7_layBehind_104 ?_
          refine gg_iload (S := sX7_layBehind) 8 107 rfl dX7_layBehind_105 rfl ?_
          refine gg_iadd (S := sX7_layBehind) 108 rfl dX7_layBehind_107 ?_
          refine gg_ld (S := sX7_layBehind) 109 rfl dX7_layBehind_108 (fun t14 => ?_)
          refine gg_iadd (S := sX7_layBehind) 110 rfl dX7_layBehind_109 ?_
          refine gg_istore (S := sX7_layBehind) (L' := [(9, vi (y1 + t14)), (0, vr (some x0)), (1, vi x1), (2, vi x2), (3, vi x3), (4, vi x4), (6, vi x6), (8, vi x8), (10, vi y2)]) 112 rfl dX7_layBehind_110 (by decide) rfl ?_
          refine gg_iinc (S := sX7_layBehind) (L' := [(10, vi (y2 + 1)), (9, vi (y1 + t14)), (0, vr (some x0)), (1, vi x1), (2, vi x2), (3, vi x3), (4, vi x4), (6, vi x6), (8, vi x8)]) 8 115 rfl dX7_layBehind_112 rfl (by decide) rfl ?_
          refine gg_goto (S := sX7_layBehind) (tgt := 8) dX7_layBehind_115 (by decide) ?_
          exact gg_pure (gg_sub [2, 3, 4, 5, 6, 7, 8, 1, 0] rfl (hr8 ((y1 + t14), (y2 + 1))))
      · refine gg_aload_n (S := sX7_layBehind) 0 119 rfl dX7_layBehind_118 rfl rfl ?_
        refine gg_aload_n (S := sX7_layBehind) 0 120 rfl dX7_layBehind_119 rfl rfl ?_
        refine gg_iload_n (S := sX7_layBehind) 1 121 rfl dX7_layBehind_120 rfl rfl ?_
        refine gg_iload_n (S := sX7_layBehind) 2 122 rfl dX7_layBehind_121 rfl rfl ?_
        refine gg_iload_n (S := sX7_layBehind) 3 123 rfl dX7_layBehind_122 rfl rfl ?_
        refine gg_iload (S := sX7_layBehind) 7 125 rfl dX7_layBehind_123 rfl ?_
        refine gg_callVi (S := sX7_layBehind) (S' := sX7_broughtAt) (cs := 0) (sl := 0) (As := [vi x1, vi x2, vi x3, vi y1]) (st := [vr (some x0)]) 128 rfl (fun b16 => lkX7_broughtAt b16 x1 x2 x3 y1) mwX7_broughtAt rfl mlX7_223 dX7_layBehind_125 cfX7 ⟨by decide, by decide⟩ 0 0 ⟨rfl, rfl⟩ ⟨by decide, by decide⟩ (Nat.le_of_ble_eq_true rfl) (fun t15 => ?_)
        refine gg_callVv (S := sX7_layBehind) (S' := sX7_comes) (cs := 0) (sl := 0) (As := [vi t15]) (st := []) 131 rfl (fun b15 => lkX7_comes b15 t15) mwX7_comes rfl mlX7_141 dX7_layBehind_128 cfX7 ⟨by decide, by decide⟩ 0 0 ⟨rfl, rfl⟩ ⟨by decide, by decide⟩ (Nat.le_of_ble_eq_true rfl) (fun _ => ?_)
        refine gg_iinc (S := sX7_layBehind) (L' := [(9, vi (y1 + 1)), (0, vr (some x0)), (1, vi x1), (2, vi x2), (3, vi x3), (4, vi x4), (6, vi x6), (8, vi x8), (10, vi y2)]) 7 134 rfl dX7_layBehind_131 rfl (by decide) rfl ?_
        refine gg_goto (S := sX7_layBehind) (tgt := 8) dX7_layBehind_134 (by decide) ?_
        exact gg_pure (gg_sub [1, 2, 3, 4, 5, 6, 7, 0, 8] rfl (hr8 ((y1 + 1), y2)))
    · exact gg_pure (gg_sub [] rfl (he8 ()))
  · intro _
    exact gg_pure (gg_vret (S := sX7_layBehind) rfl dX7_layBehind_137 (by decide) (by decide))

set_option maxRecDepth 100000 in
set_option maxHeartbeats 4000000 in
theorem lkX7_layCode (x0 : Nat) (x1 : Int) (x2 : Int) : LK yX7_layCode sX7_layCode [vr (some x0), vi x1, vi x2] en_v (X7_layCode x0 x1 x2) := by
  refine lk_go (L := [(0, vr (some x0)), (1, vi x1), (2, vi x2)]) (by decide +kernel) rfl (fun h => by cases h) (Nat.le_of_ble_eq_true rfl) rfl ?_
  intro K
  unfold X7_layCode
  refine gg_iload_n (S := sX7_layCode) 1 1 rfl dX7_layCode_0 rfl rfl ?_
  refine gg_istore_n (S := sX7_layCode) (L' := [(3, vi x1), (0, vr (some x0)), (1, vi x1), (2, vi x2)]) 2 rfl dX7_layCode_1 rfl (by decide) rfl ?_
  refine gg_iload_n (S := sX7_layCode) 3 3 rfl dX7_layCode_2 rfl rfl ?_
  refine gg_iconst (S := sX7_layCode) 4 rfl dX7_layCode_3 ?_
  refine gg_isub (S := sX7_layCode) 5 rfl dX7_layCode_4 ?_
  refine gg_istore (S := sX7_layCode) (L' := [(4, vi (x2 - 1)), (3, vi x1), (0, vr (some x0)), (1, vi x1), (2, vi x2)]) 7 rfl dX7_layCode_5 (by decide) rfl ?_
  refine gg_sub [2, 4, 1, 0] rfl ?_
  refine gg_loopA (fun (y1, y2) => [(0, vr (some x0)), (2, vi x2), (3, vi y1), (4, vi y2)]) (fun _ => []) 61 mo_N ?_ ?_ (x1, (x2 - 1))
  · intro κ7 hr7 he7
    rintro ⟨y1, y2⟩
    dsimp only [X7_layCode_L7]
    refine gg_iload (S := sX7_layCode) 3 9 rfl dX7_layCode_7 rfl ?_
    refine gg_if_lt (S := sX7_layCode) (tgt := 61) 12 rfl dX7_layCode_9 (by decide) ?_ ?_
    · exact gg_pure (gg_sub [] rfl (he7 ()))
    · refine gg_iload_n (S := sX7_layCode) 2 13 rfl dX7_layCode_12 rfl rfl ?_
      refine gg_iload_n (S := sX7_layCode) 1 14 rfl dX7_layCode_13 rfl rfl ?_
      refine gg_rem (S := sX7_layCode) 15 rfl dX7_layCode_14 (fun t3 => ?_)
      refine gg_istore (S := sX7_layCode) (L' := [(5, vi t3), (0, vr (some x0)), (2, vi x2), (3, vi y1), (4, vi y2)]) 17 rfl dX7_layCode_15 (by decide) rfl ?_
      refine gg_iload_n (S := sX7_layCode) 3 18 rfl dX7_layCode_17 rfl rfl ?_
      refine gg_iload_n (S := sX7_layCode) 2 19 rfl dX7_layCode_18 rfl rfl ?_
      refine gg_div (S := sX7_layCode) 20 rfl dX7_layCode_19 (fun t4 => ?_)
      refine gg_istore_n (S := sX7_layCode) (L' := [(3, vi t4), (5, vi t3), (0, vr (some x0)), (2, vi x2), (4, vi y2)]) 21 rfl dX7_layCode_20 rfl (by decide) rfl ?_
      refine gg_aload_n (S := sX7_layCode) 2 22 rfl dX7_layCode_21 rfl rfl ?_
      refine gg_gr (S := sX7_layCode) cfX7 (by decide) (fun _ _ => rfl) 25 rfl flX7_85 dX7_layCode_22 (fun t5 => ?_)
      refine gg_iload (S := sX7_layCode) 4 27 rfl dX7_layCode_25 rfl ?_
      refine gg_iload (S := sX7_layCode) 1 29 rfl dX7_layCode_27 rfl ?_
      refine gg_join (fun t6 => [(0, vr (some x0)), (2, vi x2), (3, vi t4), (4, vi y2)]) (fun t6 => [vi t6, vi y2, vr t5]) 54 0 0 (fun κ29 hJ29 => ?_) ?_
      · refine gg_if_ne (S := sX7_layCode) (tgt := 36) 32 rfl dX7_layCode_29 (by decide) ?_ ?_
        · refine gg_iconst (S := sX7_layCode) 33 rfl dX7_layCode_32 ?_
          refine gg_goto (S := sX7_layCode) (tgt := 54) dX7_layCode_33 (by decide) ?_
          exact gg_pure (gg_sub [2, 3, 0, 4] rfl (hJ29 (-1)))
        · refine gg_iload (S := sX7_layCode) 1 38 rfl dX7_layCode_36 rfl ?_
          refine gg_iconst (S := sX7_layCode) 39 rfl dX7_layCode_38 ?_
          refine gg_isub (S := sX7_layCode) 40 rfl dX7_layCode_39 ?_
          refine gg_iload (S := sX7_layCode) 4 42 rfl dX7_layCode_40 rfl ?_
          refine gg_ic_ge (S := sX7_layCode) (tgt := 52) 45 rfl dX7_layCode_42 (by decide) ?_ ?_
          · refine gg_iload (S := sX7_layCode) 1 47 rfl dX7_layCode_45 rfl ?_
            refine gg_iconst (S := sX7_layCode) 48 rfl dX7_layCode_47 ?_
            refine gg_isub (S := sX7_layCode) 49 rfl dX7_layCode_48 ?_
            refine gg_goto (S := sX7_layCode) (tgt := 54) dX7_layCode_49 (by decide) ?_
            exact gg_pure (gg_sub [2, 3, 0, 4] rfl (hJ29 (t3 - 1)))
          · refine gg_iload (S := sX7_layCode) 1 54 rfl dX7_layCode_52 rfl ?_
            exact gg_pure (gg_sub [2, 3, 0, 4] rfl (hJ29 t3))
      · intro t6
        refine gg_st (S := sX7_layCode) 55 rfl dX7_layCode_54 ?_
        refine gg_iinc (S := sX7_layCode) (L' := [(4, vi (y2 + (-1))), (0, vr (some x0)), (2, vi x2), (3, vi t4)]) 3 58 rfl dX7_layCode_55 rfl (by decide) rfl ?_
        refine gg_goto (S := sX7_layCode) (tgt := 7) dX7_layCode_58 (by decide) ?_
        exact gg_pure (gg_sub [1, 2, 3, 0] rfl (hr7 (t4, (y2 + (-1)))))
  · intro _
    exact gg_pure (gg_vret (S := sX7_layCode) rfl dX7_layCode_61 (by decide) (by decide))

set_option maxRecDepth 100000 in
set_option maxHeartbeats 4000000 in
theorem lkX7_layMoved (x0 : Nat) (x1 : Int) (x2 : Int) (x3 : Int) : LK yX7_layMoved sX7_layMoved [vr (some x0), vi x1, vi x2, vi x3] en_v (X7_layMoved x0 x1 x2 x3) := by
  refine lk_go (L := [(0, vr (some x0)), (1, vi x1), (2, vi x2), (3, vi x3)]) (by decide +kernel) rfl (fun h => by cases h) (Nat.le_of_ble_eq_true rfl) rfl ?_
  intro K
  unfold X7_layMoved
  refine gg_aload_n (S := sX7_layMoved) 0 1 rfl dX7_layMoved_0 rfl rfl ?_
  refine gg_callVv (S := sX7_layMoved) (S' := sX7_newWork) (cs := 0) (sl := 0) (As := []) (st := []) 4 rfl (fun b39 => lkX7_newWork b39) mwX7_newWork rfl mlX7_128 dX7_layMoved_1 cfX7 ⟨by decide, by decide⟩ 0 0 ⟨rfl, rfl⟩ ⟨by decide, by decide⟩ (Nat.le_of_ble_eq_true rfl) (fun _ => ?_)
  refine gg_iconst (S := sX7_layMoved) 5 rfl dX7_layMoved_4 ?_
  refine gg_istore (S := sX7_layMoved) (L' := [(4, vi 0), (0, vr (some x0)), (1, vi x1), (2, vi x2), (3, vi x3)]) 7 rfl dX7_layMoved_5 (by decide) rfl ?_
  refine gg_sub [1, 2, 3, 4, 0] rfl ?_
  refine gg_loopA (fun y1 => [(0, vr (some x0)), (1, vi x1), (2, vi x2), (3, vi x3), (4, vi y1)]) (fun _ => []) 264 mo_N ?_ ?_ 0
  · intro κ7 hr7 he7
    intro y1
    dsimp only [X7_layMoved_L7]
    refine gg_iload (S := sX7_layMoved) 4 9 rfl dX7_layMoved_7 rfl ?_
    refine gg_aload_n (S := sX7_layMoved) 0 10 rfl dX7_layMoved_9 rfl rfl ?_
    refine gg_gr (S := sX7_layMoved) cfX7 (by decide) (fun _ _ => rfl) 13 rfl flX7_28 dX7_layMoved_10 (fun t2 => ?_)
    refine gg_iload_n (S := sX7_layMoved) 1 14 rfl dX7_layMoved_13 rfl rfl ?_
    refine gg_ld (S := sX7_layMoved) 15 rfl dX7_layMoved_14 (fun t3 => ?_)
    refine gg_ic_ge (S := sX7_layMoved) (tgt := 264) 18 rfl dX7_layMoved_15 (by decide) ?_ ?_
    · refine gg_aload_n (S := sX7_layMoved) 0 19 rfl dX7_layMoved_18 rfl rfl ?_
      refine gg_gr (S := sX7_layMoved) cfX7 (by decide) (fun _ _ => rfl) 22 rfl flX7_31 dX7_layMoved_19 (fun t4 => ?_)
      refine gg_bipush (S := sX7_layMoved) 24 rfl dX7_layMoved_22 (by decide) ?_
      refine gg_iload_n (S := sX7_layMoved) 1 25 rfl dX7_layMoved_24 rfl rfl ?_
      refine gg_imul (S := sX7_layMoved) 26 rfl dX7_layMoved_25 ?_
      refine gg_iload (S := sX7_layMoved) 4 28 rfl dX7_layMoved_26 rfl ?_
      refine gg_iadd (S := sX7_layMoved) 29 rfl dX7_layMoved_28 ?_
      refine gg_ld (S := sX7_layMoved) 30 rfl dX7_layMoved_29 (fun t5 => ?_)
      refine gg_istore (S := sX7_layMoved) (L' := [(5, vi t5), (0, vr (some x0)), (1, vi x1), (2, vi x2), (3, vi x3), (4, vi y1)]) 32 rfl dX7_layMoved_30 (by decide) rfl ?_
      refine gg_iload (S := sX7_layMoved) 0 34 rfl dX7_layMoved_32 rfl ?_
      refine gg_istore (S := sX7_layMoved) (L' := [(6, vi t5), (5, vi t5), (0, vr (some x0)), (1, vi x1), (2, vi x2), (3, vi x3), (4, vi y1)]) 36 rfl dX7_layMoved_34 (by decide) rfl ?_
      refine gg_iconst (S := sX7_layMoved) 37 rfl dX7_layMoved_36 ?_
      refine gg_istore (S := sX7_layMoved) (L' := [(7, vi 0), (6, vi t5), (5, vi t5), (0, vr (some x0)), (1, vi x1), (2, vi x2), (3, vi x3), (4, vi y1)]) 39 rfl dX7_layMoved_37 (by decide) rfl ?_
      refine gg_sub [3, 4, 5, 6, 7, 2, 1, 0] rfl ?_
      refine gg_loopA (fun (y6, y7) => [(0, vr (some x0)), (1, vi x1), (2, vi x2), (3, vi x3), (4, vi y1), (5, vi t5), (6, vi y6), (7, vi y7)]) (fun t22 => [(0, vr (some x0)), (1, vi x1), (2, vi x2), (3, vi x3), (4, vi y1), (6, vi t22)]) 162 mo_N ?_ ?_ (t5, 0)
      · intro κ39 hr39 he39
        rintro ⟨y6, y7⟩
        dsimp only [X7_layMoved_L39]
        refine gg_iload (S := sX7_layMoved) 7 41 rfl dX7_layMoved_39 rfl ?_
        refine gg_aload_n (S := sX7_layMoved) 0 42 rfl dX7_layMoved_41 rfl rfl ?_
        refine gg_gr (S := sX7_layMoved) cfX7 (by decide) (fun _ _ => rfl) 45 rfl flX7_28 dX7_layMoved_42 (fun t8 => ?_)
        refine gg_iload_n (S := sX7_layMoved) 2 46 rfl dX7_layMoved_45 rfl rfl ?_
        refine gg_ld (S := sX7_layMoved) 47 rfl dX7_layMoved_46 (fun t9 => ?_)
        refine gg_ic_ge (S := sX7_layMoved) (tgt := 162) 50 rfl dX7_layMoved_47 (by decide) ?_ ?_
        · refine gg_aload_n (S := sX7_layMoved) 0 51 rfl dX7_layMoved_50 rfl rfl ?_
          refine gg_gr (S := sX7_layMoved) cfX7 (by decide) (fun _ _ => rfl) 54 rfl flX7_37 dX7_layMoved_51 (fun t10 => ?_)
          refine gg_bipush (S := sX7_layMoved) 56 rfl dX7_layMoved_54 (by decide) ?_
          refine gg_iload_n (S := sX7_layMoved) 2 57 rfl dX7_layMoved_56 rfl rfl ?_
          refine gg_imul (S := sX7_layMoved) 58 rfl dX7_layMoved_57 ?_
          refine gg_iload (S := sX7_layMoved) 7 60 rfl dX7_layMoved_58 rfl ?_
          refine gg_iadd (S := sX7_layMoved) 61 rfl dX7_layMoved_60 ?_
          refine gg_ld (S := sX7_layMoved) 62 rfl dX7_layMoved_61 (fun t11 => ?_)
          refine gg_aload_n (S := sX7_layMoved) 0 63 rfl dX7_layMoved_62 rfl rfl ?_
          refine gg_gr (S := sX7_layMoved) cfX7 (by decide) (fun _ _ => rfl) 66 rfl flX7_34 dX7_layMoved_63 (fun t12 => ?_)
          refine gg_bipush (S := sX7_layMoved) 68 rfl dX7_layMoved_66 (by decide) ?_
          refine gg_iload_n (S := sX7_layMoved) 2 69 rfl dX7_layMoved_68 rfl rfl ?_
          refine gg_imul (S := sX7_layMoved) 70 rfl dX7_layMoved_69 ?_
          refine gg_iload (S := sX7_layMoved) 7 72 rfl dX7_layMoved_70 rfl ?_
          refine gg_iadd (S := sX7_layMoved) 73 rfl dX7_layMoved_72 ?_
          refine gg_ld (S := sX7_layMoved) 74 rfl dX7_layMoved_73 (fun t13 => ?_)
          refine gg_isub (S := sX7_layMoved) 75 rfl dX7_layMoved_74 ?_
          refine gg_istore (S := sX7_layMoved) (L' := [(8, vi (t11 - t13)), (0, vr (some x0)), (1, vi x1), (2, vi x2), (3, vi x3), (4, vi y1), (5, vi t5), (6, vi y6), (7, vi y7)]) 77 rfl dX7_layMoved_75 (by decide) rfl ?_
          refine gg_iload_n (S := sX7_layMoved) 4 78 rfl dX7_layMoved_77 rfl rfl ?_
          refine gg_join (fun t20 => [(0, vr (some x0)), (1, vi x1), (2, vi x2), (3, vi x3), (4, vi y1), (5, vi t5), (6, vi y6), (7, vi y7), (8, vi (t11 - t13))]) (fun t20 => [vi t20]) 128 0 0 (fun κ78 hJ78 => ?_) ?_
          · refine gg_if_eq (S := sX7_layMoved) (tgt := 101) 81 rfl dX7_layMoved_78 (by decide) ?_ ?_
            · refine gg_aload_n (S := sX7_layMoved) 1 102 rfl dX7_layMoved_101 rfl rfl ?_
              refine gg_gr (S := sX7_layMoved) cfX7 (by decide) (fun _ _ => rfl) 105 rfl flX7_31 dX7_layMoved_102 (fun t14 => ?_)
              refine gg_bipush (S := sX7_layMoved) 107 rfl dX7_layMoved_105 (by decide) ?_
              refine gg_iload_n (S := sX7_layMoved) 3 108 rfl dX7_layMoved_107 rfl rfl ?_
              refine gg_imul (S := sX7_layMoved) 109 rfl dX7_layMoved_108 ?_
              refine gg_iload (S := sX7_layMoved) 8 111 rfl dX7_layMoved_109 rfl ?_
              refine gg_iadd (S := sX7_layMoved) 112 rfl dX7_layMoved_111 ?_
              refine gg_ld (S := sX7_layMoved) 113 rfl dX7_layMoved_112 (fun t15 => ?_)
              refine gg_aload_n (S := sX7_layMoved) 1 114 rfl dX7_layMoved_113 rfl rfl ?_
              refine gg_iload_n (S := sX7_layMoved) 2 115 rfl dX7_layMoved_114 rfl rfl ?_
              refine gg_iload (S := sX7_layMoved) 5 117 rfl dX7_layMoved_115 rfl ?_
              refine gg_callVi (S := sX7_layMoved) (S' := sX7_standsAt) (cs := 0) (sl := 0) (As := [vi x1, vi y1]) (st := [vi t15]) 120 rfl (fun b16 => lkX7_standsAt b16 x1 y1) mwX7_standsAt rfl mlX7_198 dX7_layMoved_117 cfX7 ⟨by decide, by decide⟩ 0 0 ⟨rfl, rfl⟩ ⟨by decide, by decide⟩ (Nat.le_of_ble_eq_true rfl) (fun t16 => ?_)
              refine gg_ic_ge (S := sX7_layMoved) (tgt := 127) 123 rfl dX7_layMoved_120 (by decide) ?_ ?_
              · refine gg_iconst (S := sX7_layMoved) 124 rfl dX7_layMoved_123 ?_
                refine gg_goto (S := sX7_layMoved) (tgt := 128) dX7_layMoved_124 (by decide) ?_
                exact gg_pure (gg_sub [1, 2, 3, 4, 5, 6, 7, 8, 0] rfl (hJ78 1))
              · refine gg_iconst (S := sX7_layMoved) 128 rfl dX7_layMoved_127 ?_
                exact gg_pure (gg_sub [1, 2, 3, 4, 5, 6, 7, 8, 0] rfl (hJ78 0))
            · refine gg_aload_n (S := sX7_layMoved) 1 82 rfl dX7_layMoved_81 rfl rfl ?_
              refine gg_iload_n (S := sX7_layMoved) 3 83 rfl dX7_layMoved_82 rfl rfl ?_
              refine gg_iload (S := sX7_layMoved) 8 85 rfl dX7_layMoved_83 rfl ?_
              refine gg_callVi (S := sX7_layMoved) (S' := sX7_standsAt) (cs := 0) (sl := 0) (As := [vi x2, vi y7]) (st := []) 88 rfl (fun b18 => lkX7_standsAt b18 x2 y7) mwX7_standsAt rfl mlX7_198 dX7_layMoved_85 cfX7 ⟨by decide, by decide⟩ 0 0 ⟨rfl, rfl⟩ ⟨by decide, by decide⟩ (Nat.le_of_ble_eq_true rfl) (fun t18 => ?_)
              refine gg_iload (S := sX7_layMoved) 6 90 rfl dX7_layMoved_88 rfl ?_
              refine gg_ic_ge (S := sX7_layMoved) (tgt := 97) 93 rfl dX7_layMoved_90 (by decide) ?_ ?_
              · refine gg_iconst (S := sX7_layMoved) 94 rfl dX7_layMoved_93 ?_
                refine gg_goto (S := sX7_layMoved) (tgt := 128) dX7_layMoved_94 (by decide) ?_
                exact gg_pure (gg_sub [1, 2, 3, 4, 5, 6, 7, 8, 0] rfl (hJ78 1))
              · refine gg_iconst (S := sX7_layMoved) 98 rfl dX7_layMoved_97 ?_
                refine gg_goto (S := sX7_layMoved) (tgt := 128) dX7_layMoved_98 (by decide) ?_
                exact gg_pure (gg_sub [1, 2, 3, 4, 5, 6, 7, 8, 0] rfl (hJ78 0))
          · intro t20
            refine gg_istore (S := sX7_layMoved) (L' := [(9, vi t20), (0, vr (some x0)), (1, vi x1), (2, vi x2), (3, vi x3), (4, vi y1), (5, vi t5), (6, vi y6), (7, vi y7), (8, vi (t11 - t13))]) 130 rfl dX7_layMoved_128 (by decide) rfl ?_
            refine gg_iload (S := sX7_layMoved) 7 132 rfl dX7_layMoved_130 rfl ?_
            refine gg_iload (S := sX7_layMoved) 0 134 rfl dX7_layMoved_132 rfl ?_
            refine gg_join (fun t21 => [(0, vr (some x0)), (1, vi x1), (2, vi x2), (3, vi x3), (4, vi y1), (5, vi t5), (7, vi y7)]) (fun t21 => [vi t21, vi y6]) 153 0 0 (fun κ134 hJ134 => ?_) ?_
            · refine gg_if_ne (S := sX7_layMoved) (tgt := 141) 137 rfl dX7_layMoved_134 (by decide) ?_ ?_
              · refine gg_iconst (S := sX7_layMoved) 138 rfl dX7_layMoved_137 ?_
                refine gg_goto (S := sX7_layMoved) (tgt := 153) dX7_layMoved_138 (by decide) ?_
                exact gg_pure (gg_sub [1, 2, 3, 4, 5, 6, 8] rfl (hJ134 0))
              · refine gg_iload_n (S := sX7_layMoved) 4 142 rfl dX7_layMoved_141 rfl rfl ?_
                refine gg_if_eq (S := sX7_layMoved) (tgt := 151) 145 rfl dX7_layMoved_142 (by decide) ?_ ?_
                · refine gg_iload (S := sX7_layMoved) 9 153 rfl dX7_layMoved_151 rfl ?_
                  exact gg_pure (gg_sub [1, 2, 3, 4, 5, 6, 8] rfl (hJ134 (t11 - t13)))
                · refine gg_iload (S := sX7_layMoved) 9 147 rfl dX7_layMoved_145 rfl ?_
                  refine gg_ineg (S := sX7_layMoved) 148 rfl dX7_layMoved_147 ?_
                  refine gg_goto (S := sX7_layMoved) (tgt := 153) dX7_layMoved_148 (by decide) ?_
                  exact gg_pure (gg_sub [1, 2, 3, 4, 5, 6, 8] rfl (hJ134 (-(t11 - t13))))
            · intro t21
              refine gg_iadd (S := sX7_layMoved) 154 rfl dX7_layMoved_153 ?_
              refine gg_istore (S := sX7_layMoved) (L' := [(6, vi (y6 + t21)), (0, vr (some x0)), (1, vi x1), (2, vi x2), (3, vi x3), (4, vi y1), (5, vi t5), (7, vi y7)]) 156 rfl dX7_layMoved_154 (by decide) rfl ?_
              refine gg_iinc (S := sX7_layMoved) (L' := [(7, vi (y7 + 1)), (6, vi (y6 + t21)), (0, vr (some x0)), (1, vi x1), (2, vi x2), (3, vi x3), (4, vi y1), (5, vi t5)]) 7 159 rfl dX7_layMoved_156 rfl (by decide) rfl ?_
              refine gg_goto (S := sX7_layMoved) (tgt := 39) dX7_layMoved_159 (by decide) ?_
              exact gg_pure (gg_sub [2, 3, 4, 5, 6, 7, 1, 0] rfl (hr39 ((y6 + t21), (y7 + 1))))
        · exact gg_pure (gg_sub [0, 1, 2, 3, 4, 6] rfl (he39 y6))
      · intro t22
        refine gg_aload_n (S := sX7_layMoved) 0 163 rfl dX7_layMoved_162 rfl rfl ?_
        refine gg_iload (S := sX7_layMoved) 5 165 rfl dX7_layMoved_163 rfl ?_
        refine gg_callVv (S := sX7_layMoved) (S' := sX7_newHunk) (cs := 0) (sl := 0) (As := [vi t22]) (st := []) 168 rfl (fun b38 => lkX7_newHunk b38 t22) mwX7_newHunk rfl mlX7_134 dX7_layMoved_165 cfX7 ⟨by decide, by decide⟩ 0 0 ⟨rfl, rfl⟩ ⟨by decide, by decide⟩ (Nat.le_of_ble_eq_true rfl) (fun _ => ?_)
        refine gg_iconst (S := sX7_layMoved) 169 rfl dX7_layMoved_168 ?_
        refine gg_istore (S := sX7_layMoved) (L' := [(7, vi 0), (0, vr (some x0)), (1, vi x1), (2, vi x2), (3, vi x3), (4, vi y1), (6, vi t22)]) 171 rfl dX7_layMoved_169 (by decide) rfl ?_
        refine gg_sub [1, 2, 3, 4, 5, 0] rfl ?_
        refine gg_loopA (fun y23 => [(0, vr (some x0)), (1, vi x1), (2, vi x2), (3, vi x3), (4, vi y1), (7, vi y23)]) (fun _ => [(0, vr (some x0)), (1, vi x1), (2, vi x2), (3, vi x3), (4, vi y1)]) 213 mo_N ?_ ?_ 0
        · intro κ171 hr171 he171
          intro y23
          dsimp only [X7_layMoved_L171]
          refine gg_iload (S := sX7_layMoved) 5 173 rfl dX7_layMoved_171 rfl ?_
          refine gg_aload_n (S := sX7_layMoved) 0 174 rfl dX7_layMoved_173 rfl rfl ?_
          refine gg_gr (S := sX7_layMoved) cfX7 (by decide) (fun _ _ => rfl) 177 rfl flX7_34 dX7_layMoved_174 (fun t24 => ?_)
          refine gg_bipush (S := sX7_layMoved) 179 rfl dX7_layMoved_177 (by decide) ?_
          refine gg_iload_n (S := sX7_layMoved) 1 180 rfl dX7_layMoved_179 rfl rfl ?_
          refine gg_imul (S := sX7_layMoved) 181 rfl dX7_layMoved_180 ?_
          refine gg_iload (S := sX7_layMoved) 4 183 rfl dX7_layMoved_181 rfl ?_
          refine gg_iadd (S := sX7_layMoved) 184 rfl dX7_layMoved_183 ?_
          refine gg_ld (S := sX7_layMoved) 185 rfl dX7_layMoved_184 (fun t25 => ?_)
          refine gg_ic_ge (S := sX7_layMoved) (tgt := 213) 188 rfl dX7_layMoved_185 (by decide) ?_ ?_
          · refine gg_aload_n (S := sX7_layMoved) 0 189 rfl dX7_layMoved_188 rfl rfl ?_
            refine gg_aload_n (S := sX7_layMoved) 0 190 rfl dX7_layMoved_189 rfl rfl ?_
            refine gg_gr (S := sX7_layMoved) cfX7 (by decide) (fun _ _ => rfl) 193 rfl flX7_40 dX7_layMoved_190 (fun t26 => ?_)
            refine gg_aload_n (S := sX7_layMoved) 0 194 rfl dX7_layMoved_193 rfl rfl ?_
            refine gg_iload_n (S := sX7_layMoved) 1 195 rfl dX7_layMoved_194 rfl rfl ?_
            refine gg_iload (S := sX7_layMoved) 4 197 rfl dX7_layMoved_195 rfl ?_
            refine gg_callVi (S := sX7_layMoved) (S' := sX7_goFrom) (cs := 0) (sl := 0) (As := [vi x1, vi y1]) (st := [vr t26, vr (some x0)]) 200 rfl (fun b29 => lkX7_goFrom b29 x1 y1) mwX7_goFrom rfl mlX7_168 dX7_layMoved_197 cfX7 ⟨by decide, by decide⟩ 0 0 ⟨rfl, rfl⟩ ⟨by decide, by decide⟩ (Nat.le_of_ble_eq_true rfl) (fun t27 => ?_)
            refine gg_iload (S := sX7_layMoved) 5 202 rfl dX7_layMoved_200 rfl ?_
            refine gg_iadd (S := sX7_layMoved) 203 rfl dX7_layMoved_202 ?_
            refine gg_ld (S := sX7_layMoved) 204 rfl dX7_layMoved_203 (fun t28 => ?_)
            refine gg_callVv (S := sX7_layMoved) (S' := sX7_goes) (cs := 0) (sl := 0) (As := [vi t28]) (st := []) 207 rfl (fun b28 => lkX7_goes b28 t28) mwX7_goes rfl mlX7_138 dX7_layMoved_204 cfX7 ⟨by decide, by decide⟩ 0 0 ⟨rfl, rfl⟩ ⟨by decide, by decide⟩ (Nat.le_of_ble_eq_true rfl) (fun _ => ?_)
            refine gg_iinc (S := sX7_layMoved) (L' := [(7, vi (y23 + 1)), (0, vr (some x0)), (1, vi x1), (2, vi x2), (3, vi x3), (4, vi y1)]) 5 210 rfl dX7_layMoved_207 rfl (by decide) rfl ?_
            refine gg_goto (S := sX7_layMoved) (tgt := 171) dX7_layMoved_210 (by decide) ?_
            exact gg_pure (gg_sub [1, 2, 3, 4, 5, 0] rfl (hr171 (y23 + 1)))
          · exact gg_pure (gg_sub [0, 1, 2, 3, 4] rfl (he171 ()))
        · intro _
          refine gg_iconst (S := sX7_layMoved) 214 rfl dX7_layMoved_213 ?_
          refine gg_istore (S := sX7_layMoved) (L' := [(7, vi 0), (0, vr (some x0)), (1, vi x1), (2, vi x2), (3, vi x3), (4, vi y1)]) 216 rfl dX7_layMoved_214 (by decide) rfl ?_
          refine gg_sub [1, 2, 3, 4, 5, 0] rfl ?_
          refine gg_loopA (fun y31 => [(0, vr (some x0)), (1, vi x1), (2, vi x2), (3, vi x3), (4, vi y1), (7, vi y31)]) (fun _ => [(0, vr (some x0)), (1, vi x1), (2, vi x2), (3, vi x3), (4, vi y1)]) 258 mo_N ?_ ?_ 0
          · intro κ216 hr216 he216
            intro y31
            dsimp only [X7_layMoved_L216]
            refine gg_iload (S := sX7_layMoved) 5 218 rfl dX7_layMoved_216 rfl ?_
            refine gg_aload_n (S := sX7_layMoved) 0 219 rfl dX7_layMoved_218 rfl rfl ?_
            refine gg_gr (S := sX7_layMoved) cfX7 (by decide) (fun _ _ => rfl) 222 rfl flX7_37 dX7_layMoved_219 (fun t32 => ?_)
            refine gg_bipush (S := sX7_layMoved) 224 rfl dX7_layMoved_222 (by decide) ?_
            refine gg_iload_n (S := sX7_layMoved) 1 225 rfl dX7_layMoved_224 rfl rfl ?_
            refine gg_imul (S := sX7_layMoved) 226 rfl dX7_layMoved_225 ?_
            refine gg_iload (S := sX7_layMoved) 4 228 rfl dX7_layMoved_226 rfl ?_
            refine gg_iadd (S := sX7_layMoved) 229 rfl dX7_layMoved_228 ?_
            refine gg_ld (S := sX7_layMoved) 230 rfl dX7_layMoved_229 (fun t33 => ?_)
            refine gg_ic_ge (S := sX7_layMoved) (tgt := 258) 233 rfl dX7_layMoved_230 (by decide) ?_ ?_
            · refine gg_aload_n (S := sX7_layMoved) 0 234 rfl dX7_layMoved_233 rfl rfl ?_
              refine gg_aload_n (S := sX7_layMoved) 0 235 rfl dX7_layMoved_234 rfl rfl ?_
              refine gg_gr (S := sX7_layMoved) cfX7 (by decide) (fun _ _ => rfl) 238 rfl flX7_43 dX7_layMoved_235 (fun t34 => ?_)
              refine gg_aload_n (S := sX7_layMoved) 0 239 rfl dX7_layMoved_238 rfl rfl ?_
              refine gg_iload_n (S := sX7_layMoved) 1 240 rfl dX7_layMoved_239 rfl rfl ?_
              refine gg_iload (S := sX7_layMoved) 4 242 rfl dX7_layMoved_240 rfl ?_
              refine gg_callVi (S := sX7_layMoved) (S' := sX7_comeFrom) (cs := 0) (sl := 0) (As := [vi x1, vi y1]) (st := [vr t34, vr (some x0)]) 245 rfl (fun b37 => lkX7_comeFrom b37 x1 y1) mwX7_comeFrom rfl mlX7_171 dX7_layMoved_242 cfX7 ⟨by decide, by decide⟩ 0 0 ⟨rfl, rfl⟩ ⟨by decide, by decide⟩ (Nat.le_of_ble_eq_true rfl) (fun t35 => ?_)
              refine gg_iload (S := sX7_layMoved) 5 247 rfl dX7_layMoved_245 rfl ?_
              refine gg_iadd (S := sX7_layMoved) 248 rfl dX7_layMoved_247 ?_
              refine gg_ld (S := sX7_layMoved) 249 rfl dX7_layMoved_248 (fun t36 => ?_)
              refine gg_callVv (S := sX7_layMoved) (S' := sX7_comes) (cs := 0) (sl := 0) (As := [vi t36]) (st := []) 252 rfl (fun b36 => lkX7_comes b36 t36) mwX7_comes rfl mlX7_141 dX7_layMoved_249 cfX7 ⟨by decide, by decide⟩ 0 0 ⟨rfl, rfl⟩ ⟨by decide, by decide⟩ (Nat.le_of_ble_eq_true rfl) (fun _ => ?_)
              refine gg_iinc (S := sX7_layMoved) (L' := [(7, vi (y31 + 1)), (0, vr (some x0)), (1, vi x1), (2, vi x2), (3, vi x3), (4, vi y1)]) 5 255 rfl dX7_layMoved_252 rfl (by decide) rfl ?_
              refine gg_goto (S := sX7_layMoved) (tgt := 216) dX7_layMoved_255 (by decide) ?_
              exact gg_pure (gg_sub [1, 2, 3, 4, 5, 0] rfl (hr216 (y31 + 1)))
            · exact gg_pure (gg_sub [0, 1, 2, 3, 4] rfl (he216 ()))
          · intro _
            refine gg_iinc (S := sX7_layMoved) (L' := [(4, vi (y1 + 1)), (0, vr (some x0)), (1, vi x1), (2, vi x2), (3, vi x3)]) 4 261 rfl dX7_layMoved_258 rfl (by decide) rfl ?_
            refine gg_goto (S := sX7_layMoved) (tgt := 7) dX7_layMoved_261 (by decide) ?_
            exact gg_pure (gg_sub [1, 2, 3, 4, 0] rfl (hr7 (y1 + 1)))
    · exact gg_pure (gg_sub [] rfl (he7 ()))
  · intro _
    exact gg_pure (gg_vret (S := sX7_layMoved) rfl dX7_layMoved_264 (by decide) (by decide))

set_option maxRecDepth 100000 in
set_option maxHeartbeats 4000000 in
theorem lkX7_layRemade (x0 : Nat) (x1 : Int) : LK yX7_layRemade sX7_layRemade [vr (some x0), vi x1] en_i (X7_layRemade x0 x1) := by
  refine lk_go (L := [(0, vr (some x0)), (1, vi x1)]) (by decide +kernel) rfl (fun h => by cases h) (Nat.le_of_ble_eq_true rfl) rfl ?_
  intro K
  unfold X7_layRemade
  refine gg_iconst (S := sX7_layRemade) 1 rfl dX7_layRemade_0 ?_
  refine gg_istore_n (S := sX7_layRemade) (L' := [(2, vi 0), (0, vr (some x0)), (1, vi x1)]) 2 rfl dX7_layRemade_1 rfl (by decide) rfl ?_
  refine gg_sub [1, 2, 0] rfl ?_
  refine gg_loop (fun y1 => [(0, vr (some x0)), (1, vi x1), (2, vi y1)]) mo_N ?_ 0
  · intro rec2 hr2
    intro y1
    dsimp only [X7_layRemade_L2]
    refine gg_iload_n (S := sX7_layRemade) 2 3 rfl dX7_layRemade_2 rfl rfl ?_
    refine gg_iload_n (S := sX7_layRemade) 1 4 rfl dX7_layRemade_3 rfl rfl ?_
    refine gg_ic_ge (S := sX7_layRemade) (tgt := 100) 7 rfl dX7_layRemade_4 (by decide) ?_ ?_
    · refine gg_iconst (S := sX7_layRemade) 8 rfl dX7_layRemade_7 ?_
      refine gg_istore_n (S := sX7_layRemade) (L' := [(3, vi 0), (0, vr (some x0)), (1, vi x1), (2, vi y1)]) 9 rfl dX7_layRemade_8 rfl (by decide) rfl ?_
      refine gg_iload_n (S := sX7_layRemade) 3 10 rfl dX7_layRemade_9 rfl rfl ?_
      refine gg_istore (S := sX7_layRemade) (L' := [(4, vi y1), (3, vi 0), (0, vr (some x0)), (1, vi x1), (2, vi y1)]) 12 rfl dX7_layRemade_10 (by decide) rfl ?_
      refine gg_iconst (S := sX7_layRemade) 13 rfl dX7_layRemade_12 ?_
      refine gg_istore (S := sX7_layRemade) (L' := [(5, vi 0), (4, vi y1), (3, vi 0), (0, vr (some x0)), (1, vi x1), (2, vi y1)]) 15 rfl dX7_layRemade_13 (by decide) rfl ?_
      refine gg_sub [3, 4, 5, 2, 1, 0] rfl ?_
      refine gg_loopA (fun (y2, y3, y4) => [(0, vr (some x0)), (1, vi x1), (2, vi y1), (3, vi y2), (4, vi y3), (5, vi y4)]) (fun (t13, t14, t15) => [(0, vr (some x0)), (1, vi x1), (2, vi y1), (3, vi t13), (4, vi t14), (5, vi t15)]) 68 mo_N ?_ ?_ (0, y1, 0)
      · intro κ15 hr15 he15
        rintro ⟨y2, y3, y4⟩
        dsimp only [X7_layRemade_L15]
        refine gg_aload_n (S := sX7_layRemade) 0 16 rfl dX7_layRemade_15 rfl rfl ?_
        refine gg_gr (S := sX7_layRemade) cfX7 (by decide) (fun _ _ => rfl) 19 rfl flX7_85 dX7_layRemade_16 (fun t5 => ?_)
        refine gg_iload (S := sX7_layRemade) 4 21 rfl dX7_layRemade_19 rfl ?_
        refine gg_ld (S := sX7_layRemade) 22 rfl dX7_layRemade_21 (fun t6 => ?_)
        refine gg_iconst (S := sX7_layRemade) 23 rfl dX7_layRemade_22 ?_
        refine gg_ic_eq (S := sX7_layRemade) (tgt := 68) 26 rfl dX7_layRemade_23 (by decide) ?_ ?_
        · exact gg_pure (gg_sub [0, 1, 2, 3, 4, 5] rfl (he15 (y2, y3, y4)))
        · refine gg_iload (S := sX7_layRemade) 5 28 rfl dX7_layRemade_26 rfl ?_
          refine gg_iload_n (S := sX7_layRemade) 1 29 rfl dX7_layRemade_28 rfl rfl ?_
          refine gg_ic_gt (S := sX7_layRemade) (tgt := 68) 32 rfl dX7_layRemade_29 (by decide) ?_ ?_
          · refine gg_iload_n (S := sX7_layRemade) 3 33 rfl dX7_layRemade_32 rfl rfl ?_
            refine gg_aload_n (S := sX7_layRemade) 0 34 rfl dX7_layRemade_33 rfl rfl ?_
            refine gg_gr (S := sX7_layRemade) cfX7 (by decide) (fun _ _ => rfl) 37 rfl flX7_82 dX7_layRemade_34 (fun t7 => ?_)
            refine gg_bipush (S := sX7_layRemade) 39 rfl dX7_layRemade_37 (by decide) ?_
            refine gg_iload (S := sX7_layRemade) 4 41 rfl dX7_layRemade_39 rfl ?_
            refine gg_imul (S := sX7_layRemade) 42 rfl dX7_layRemade_41 ?_
            refine gg_aload_n (S := sX7_layRemade) 0 43 rfl dX7_layRemade_42 rfl rfl ?_
            refine gg_gr (S := sX7_layRemade) cfX7 (by decide) (fun _ _ => rfl) 46 rfl flX7_85 dX7_layRemade_43 (fun t8 => ?_)
            refine gg_iload (S := sX7_layRemade) 4 48 rfl dX7_layRemade_46 rfl ?_
            refine gg_ld (S := sX7_layRemade) 49 rfl dX7_layRemade_48 (fun t9 => ?_)
            refine gg_iadd (S := sX7_layRemade) 50 rfl dX7_layRemade_49 ?_
            refine gg_ld (S := sX7_layRemade) 51 rfl dX7_layRemade_50 (fun t10 => ?_)
            refine gg_iadd (S := sX7_layRemade) 52 rfl dX7_layRemade_51 ?_
            refine gg_istore_n (S := sX7_layRemade) (L' := [(3, vi (y2 + t10)), (0, vr (some x0)), (1, vi x1), (2, vi y1), (4, vi y3), (5, vi y4)]) 53 rfl dX7_layRemade_52 rfl (by decide) rfl ?_
            refine gg_aload_n (S := sX7_layRemade) 1 54 rfl dX7_layRemade_53 rfl rfl ?_
            refine gg_gr (S := sX7_layRemade) cfX7 (by decide) (fun _ _ => rfl) 57 rfl flX7_85 dX7_layRemade_54 (fun t11 => ?_)
            refine gg_iload (S := sX7_layRemade) 4 59 rfl dX7_layRemade_57 rfl ?_
            refine gg_ld (S := sX7_layRemade) 60 rfl dX7_layRemade_59 (fun t12 => ?_)
            refine gg_istore (S := sX7_layRemade) (L' := [(4, vi t12), (3, vi (y2 + t10)), (0, vr (some x0)), (1, vi x1), (2, vi y1), (5, vi y4)]) 62 rfl dX7_layRemade_60 (by decide) rfl ?_
            refine gg_iinc (S := sX7_layRemade) (L' := [(5, vi (y4 + 1)), (4, vi t12), (3, vi (y2 + t10)), (0, vr (some x0)), (1, vi x1), (2, vi y1)]) 5 65 rfl dX7_layRemade_62 rfl (by decide) rfl ?_
            refine gg_goto (S := sX7_layRemade) (tgt := 15) dX7_layRemade_65 (by decide) ?_
            exact gg_pure (gg_sub [3, 4, 5, 2, 1, 0] rfl (hr15 ((y2 + t10), t12, (y4 + 1))))
          · exact gg_pure (gg_sub [0, 1, 2, 3, 4, 5] rfl (he15 (y2, y3, y4)))
      · rintro ⟨t13, t14, t15⟩
        dsimp only
        refine gg_iload (S := sX7_layRemade) 5 70 rfl dX7_layRemade_68 rfl ?_
        refine gg_iload_n (S := sX7_layRemade) 1 71 rfl dX7_layRemade_70 rfl rfl ?_
        refine gg_ic_le (S := sX7_layRemade) (tgt := 76) 74 rfl dX7_layRemade_71 (by decide) ?_ ?_
        · refine gg_aload_n (S := sX7_layRemade) 0 77 rfl dX7_layRemade_76 rfl rfl ?_
          refine gg_gr (S := sX7_layRemade) cfX7 (by decide) (fun _ _ => rfl) 80 rfl flX7_88 dX7_layRemade_77 (fun t16 => ?_)
          refine gg_iload_n (S := sX7_layRemade) 2 81 rfl dX7_layRemade_80 rfl rfl ?_
          refine gg_iload_n (S := sX7_layRemade) 3 82 rfl dX7_layRemade_81 rfl rfl ?_
          refine gg_aload_n (S := sX7_layRemade) 0 83 rfl dX7_layRemade_82 rfl rfl ?_
          refine gg_gr (S := sX7_layRemade) cfX7 (by decide) (fun _ _ => rfl) 86 rfl flX7_82 dX7_layRemade_83 (fun t17 => ?_)
          refine gg_bipush (S := sX7_layRemade) 88 rfl dX7_layRemade_86 (by decide) ?_
          refine gg_iload (S := sX7_layRemade) 4 90 rfl dX7_layRemade_88 rfl ?_
          refine gg_imul (S := sX7_layRemade) 91 rfl dX7_layRemade_90 ?_
          refine gg_ld (S := sX7_layRemade) 92 rfl dX7_layRemade_91 (fun t18 => ?_)
          refine gg_iadd (S := sX7_layRemade) 93 rfl dX7_layRemade_92 ?_
          refine gg_st (S := sX7_layRemade) 94 rfl dX7_layRemade_93 ?_
          refine gg_iinc (S := sX7_layRemade) (L' := [(2, vi (y1 + 1)), (0, vr (some x0)), (1, vi x1), (3, vi t13), (4, vi t14), (5, vi t15)]) 2 97 rfl dX7_layRemade_94 rfl (by decide) rfl ?_
          refine gg_goto (S := sX7_layRemade) (tgt := 2) dX7_layRemade_97 (by decide) ?_
          exact gg_pure (gg_sub [1, 2, 0] rfl (hr2 (y1 + 1)))
        · refine gg_iconst (S := sX7_layRemade) 75 rfl dX7_layRemade_74 ?_
          exact gg_pure (gg_zretc (S := sX7_layRemade) (by decide) rfl dX7_layRemade_75 (by decide) (by decide))
    · refine gg_iconst (S := sX7_layRemade) 101 rfl dX7_layRemade_100 ?_
      exact gg_pure (gg_zretc (S := sX7_layRemade) (by decide) rfl dX7_layRemade_101 (by decide) (by decide))

set_option maxRecDepth 100000 in
set_option maxHeartbeats 4000000 in
theorem lkX7_look (x0 : Nat) (x1 : Int) (x2 : Int) : LK yX7_look sX7_look [vr (some x0), vi x1, vi x2] en_v (X7_look x0 x1 x2) := by
  refine lk_go (L := [(0, vr (some x0)), (1, vi x1), (2, vi x2)]) (by decide +kernel) rfl (fun h => by cases h) (Nat.le_of_ble_eq_true rfl) rfl ?_
  intro K
  unfold X7_look
  refine gg_iconst (S := sX7_look) 1 rfl dX7_look_0 ?_
  refine gg_istore_n (S := sX7_look) (L' := [(3, vi 0), (0, vr (some x0)), (1, vi x1), (2, vi x2)]) 2 rfl dX7_look_1 rfl (by decide) rfl ?_
  refine gg_lconst0 (S := sX7_look) 3 rfl dX7_look_2 ?_
  refine gg_lstore (S := sX7_look) (L' := [(4, vl 0), (3, vi 0), (0, vr (some x0)), (1, vi x1), (2, vi x2)]) 5 rfl dX7_look_3 (by decide) rfl ?_
  refine gg_iconst (S := sX7_look) 6 rfl dX7_look_5 ?_
  refine gg_istore (S := sX7_look) (L' := [(6, vi 0), (4, vl 0), (3, vi 0), (0, vr (some x0)), (1, vi x1), (2, vi x2)]) 8 rfl dX7_look_6 (by decide) rfl ?_
  refine gg_sub [3, 4, 5, 2, 1, 0] rfl ?_
  refine gg_loop (fun (y1, y2, y3) => [(0, vr (some x0)), (1, vi x1), (2, vi x2), (3, vi y1), (4, vl y2), (6, vi y3)]) mo_N ?_ (0, 0, 0)
  · intro rec8 hr8
    rintro ⟨y1, y2, y3⟩
    dsimp only [X7_look_L8]
    refine gg_iload (S := sX7_look) 5 10 rfl dX7_look_8 rfl ?_
    refine gg_iload_n (S := sX7_look) 1 11 rfl dX7_look_10 rfl rfl ?_
    refine gg_ic_ge (S := sX7_look) (tgt := 99) 14 rfl dX7_look_11 (by decide) ?_ ?_
    · refine gg_aload_n (S := sX7_look) 0 15 rfl dX7_look_14 rfl rfl ?_
      refine gg_gr (S := sX7_look) cfX7 (by decide) (fun _ _ => rfl) 18 rfl flX7_88 dX7_look_15 (fun t23 => ?_)
      refine gg_iload (S := sX7_look) 5 20 rfl dX7_look_18 rfl ?_
      refine gg_ld (S := sX7_look) 21 rfl dX7_look_20 (fun t24 => ?_)
      refine gg_iload_n (S := sX7_look) 2 22 rfl dX7_look_21 rfl rfl ?_
      refine gg_ic_le (S := sX7_look) (tgt := 26) 25 rfl dX7_look_22 (by decide) ?_ ?_
      · refine gg_iload_n (S := sX7_look) 3 27 rfl dX7_look_26 rfl rfl ?_
        refine gg_aload_n (S := sX7_look) 0 28 rfl dX7_look_27 rfl rfl ?_
        refine gg_gr (S := sX7_look) cfX7 (by decide) (fun _ _ => rfl) 31 rfl flX7_85 dX7_look_28 (fun t25 => ?_)
        refine gg_iload (S := sX7_look) 5 33 rfl dX7_look_31 rfl ?_
        refine gg_ld (S := sX7_look) 34 rfl dX7_look_33 (fun t26 => ?_)
        refine gg_iconst (S := sX7_look) 35 rfl dX7_look_34 ?_
        refine gg_join (fun t33 => [(0, vr (some x0)), (1, vi x1), (2, vi x2), (4, vl y2), (6, vi y3)]) (fun t33 => [vi t33, vi y1]) 69 0 0 (fun κ35 hJ35 => ?_) ?_
        · refine gg_ic_ne (S := sX7_look) (tgt := 51) 38 rfl dX7_look_35 (by decide) ?_ ?_
          · refine gg_aload_n (S := sX7_look) 0 39 rfl dX7_look_38 rfl rfl ?_
            refine gg_gr (S := sX7_look) cfX7 (by decide) (fun _ _ => rfl) 42 rfl flX7_82 dX7_look_39 (fun t31 => ?_)
            refine gg_bipush (S := sX7_look) 44 rfl dX7_look_42 (by decide) ?_
            refine gg_iload (S := sX7_look) 5 46 rfl dX7_look_44 rfl ?_
            refine gg_imul (S := sX7_look) 47 rfl dX7_look_46 ?_
            refine gg_ld (S := sX7_look) 48 rfl dX7_look_47 (fun t32 => ?_)
            refine gg_goto (S := sX7_look) (tgt := 69) dX7_look_48 (by decide) ?_
            exact gg_pure (gg_sub [0, 1, 2, 4, 5] rfl (hJ35 t32))
          · refine gg_aload_n (S := sX7_look) 0 52 rfl dX7_look_51 rfl rfl ?_
            refine gg_gr (S := sX7_look) cfX7 (by decide) (fun _ _ => rfl) 55 rfl flX7_82 dX7_look_52 (fun t27 => ?_)
            refine gg_bipush (S := sX7_look) 57 rfl dX7_look_55 (by decide) ?_
            refine gg_iload (S := sX7_look) 5 59 rfl dX7_look_57 rfl ?_
            refine gg_imul (S := sX7_look) 60 rfl dX7_look_59 ?_
            refine gg_aload_n (S := sX7_look) 0 61 rfl dX7_look_60 rfl rfl ?_
            refine gg_gr (S := sX7_look) cfX7 (by decide) (fun _ _ => rfl) 64 rfl flX7_85 dX7_look_61 (fun t28 => ?_)
            refine gg_iload (S := sX7_look) 5 66 rfl dX7_look_64 rfl ?_
            refine gg_ld (S := sX7_look) 67 rfl dX7_look_66 (fun t29 => ?_)
            refine gg_iadd (S := sX7_look) 68 rfl dX7_look_67 ?_
            refine gg_ld (S := sX7_look) 69 rfl dX7_look_68 (fun t30 => ?_)
            exact gg_pure (gg_sub [0, 1, 2, 4, 5] rfl (hJ35 t30))
        · intro t33
          refine gg_iadd (S := sX7_look) 70 rfl dX7_look_69 ?_
          refine gg_istore_n (S := sX7_look) (L' := [(3, vi (y1 + t33)), (0, vr (some x0)), (1, vi x1), (2, vi x2), (4, vl y2), (6, vi y3)]) 71 rfl dX7_look_70 rfl (by decide) rfl ?_
          refine gg_lload (S := sX7_look) 4 73 rfl dX7_look_71 rfl ?_
          refine gg_aload_n (S := sX7_look) 1 74 rfl dX7_look_73 rfl rfl ?_
          refine gg_gr (S := sX7_look) cfX7 (by decide) (fun _ _ => rfl) 77 rfl flX7_25 dX7_look_74 (fun t34 => ?_)
          refine gg_iload (S := sX7_look) 5 79 rfl dX7_look_77 rfl ?_
          refine gg_ld (S := sX7_look) 80 rfl dX7_look_79 (fun t35 => ?_)
          refine gg_i2l (S := sX7_look) 81 rfl dX7_look_80 ?_
          refine gg_aload_n (S := sX7_look) 1 82 rfl dX7_look_81 rfl rfl ?_
          refine gg_gr (S := sX7_look) cfX7 (by decide) (fun _ _ => rfl) 85 rfl flX7_88 dX7_look_82 (fun t36 => ?_)
          refine gg_iload (S := sX7_look) 5 87 rfl dX7_look_85 rfl ?_
          refine gg_ld (S := sX7_look) 88 rfl dX7_look_87 (fun t37 => ?_)
          refine gg_i2l (S := sX7_look) 89 rfl dX7_look_88 ?_
          refine gg_lmul (S := sX7_look) 90 rfl dX7_look_89 ?_
          refine gg_ladd (S := sX7_look) 91 rfl dX7_look_90 ?_
          refine gg_lstore (S := sX7_look) (L' := [(4, vl (y2 + (t35 * t37))), (3, vi (y1 + t33)), (0, vr (some x0)), (1, vi x1), (2, vi x2), (6, vi y3)]) 93 rfl dX7_look_91 (by decide) rfl ?_
          refine gg_iinc (S := sX7_look) (L' := [(6, vi (y3 + 1)), (4, vl (y2 + (t35 * t37))), (3, vi (y1 + t33)), (0, vr (some x0)), (1, vi x1), (2, vi x2)]) 5 96 rfl dX7_look_93 rfl (by decide) rfl ?_
          refine gg_goto (S := sX7_look) (tgt := 8) dX7_look_96 (by decide) ?_
          exact gg_pure (gg_sub [3, 4, 5, 2, 1, 0] rfl (hr8 ((y1 + t33), (y2 + (t35 * t37)), (y3 + 1))))
      · exact gg_pure (gg_vret (S := sX7_look) rfl dX7_look_25 (by decide) (by decide))
    · refine gg_aload_n (S := sX7_look) 0 100 rfl dX7_look_99 rfl rfl ?_
      refine gg_gi (S := sX7_look) cfX7 (by decide) (fun _ _ => rfl) 103 rfl flX7_263 dX7_look_100 (fun t4 => ?_)
      refine gg_cond [(0, vr (some x0)), (1, vi x1), (3, vi y1), (4, vl y2)] [(0, vr (some x0)), (1, vi x1), (3, vi y1), (4, vl y2)] [] 114 132 0 0 (fun κ103 hT103 hF103 => ?_) ?_ ?_
      · refine gg_if_eq (S := sX7_look) (tgt := 132) 106 rfl dX7_look_103 (by decide) ?_ ?_
        · exact gg_pure (gg_sub [0, 1, 3, 4] rfl hF103)
        · refine gg_iload_n (S := sX7_look) 3 107 rfl dX7_look_106 rfl rfl ?_
          refine gg_aload_n (S := sX7_look) 0 108 rfl dX7_look_107 rfl rfl ?_
          refine gg_gi (S := sX7_look) cfX7 (by decide) (fun _ _ => rfl) 111 rfl flX7_276 dX7_look_108 (fun t5 => ?_)
          refine gg_ic_lt (S := sX7_look) (tgt := 132) 114 rfl dX7_look_111 (by decide) ?_ ?_
          · exact gg_pure (gg_sub [0, 1, 3, 4] rfl hF103)
          · exact gg_pure (gg_sub [0, 1, 3, 4] rfl hT103)
      · refine gg_iload_n (S := sX7_look) 2 115 rfl dX7_look_114 rfl rfl ?_
        refine gg_aload_n (S := sX7_look) 0 116 rfl dX7_look_115 rfl rfl ?_
        refine gg_gi (S := sX7_look) cfX7 (by decide) (fun _ _ => rfl) 119 rfl flX7_276 dX7_look_116 (fun t6 => ?_)
        refine gg_ic_ne (S := sX7_look) (tgt := 191) 122 rfl dX7_look_119 (by decide) ?_ ?_
        · refine gg_lload (S := sX7_look) 3 124 rfl dX7_look_122 rfl ?_
          refine gg_aload_n (S := sX7_look) 0 125 rfl dX7_look_124 rfl rfl ?_
          refine gg_gl (S := sX7_look) cfX7 (by decide) (fun _ _ => rfl) 128 rfl flX7_279 dX7_look_125 (fun t7 => ?_)
          refine gg_lcmp (S := sX7_look) 129 rfl dX7_look_128 (fun t8 => ?_)
          refine gg_if_ge (S := sX7_look) (tgt := 191) 132 rfl dX7_look_129 (by decide) ?_ ?_
          · refine gg_aload_n (S := sX7_look) 0 133 rfl dX7_look_132 rfl rfl ?_
            refine gg_iconst (S := sX7_look) 134 rfl dX7_look_133 ?_
            refine gg_sz (S := sX7_look) cfX7 (by decide) rfl (fun _ _ => rfl) rfl 137 rfl flX7_263 dX7_look_134 ?_
            refine gg_aload_n (S := sX7_look) 0 138 rfl dX7_look_137 rfl rfl ?_
            refine gg_iload_n (S := sX7_look) 2 139 rfl dX7_look_138 rfl rfl ?_
            refine gg_si (S := sX7_look) cfX7 (by decide) rfl (fun _ _ => rfl) rfl 142 rfl flX7_276 dX7_look_139 ?_
            refine gg_aload_n (S := sX7_look) 0 143 rfl dX7_look_142 rfl rfl ?_
            refine gg_lload (S := sX7_look) 3 145 rfl dX7_look_143 rfl ?_
            refine gg_sl (S := sX7_look) cfX7 (by decide) rfl (fun _ _ => rfl) rfl 148 rfl flX7_279 dX7_look_145 ?_
            refine gg_iconst (S := sX7_look) 149 rfl dX7_look_148 ?_
            refine gg_istore (S := sX7_look) (L' := [(6, vi 0), (0, vr (some x0)), (1, vi x1), (3, vi y1), (4, vl y2)]) 151 rfl dX7_look_149 (by decide) rfl ?_
            refine gg_sub [1, 2, 0] rfl ?_
            refine gg_loopA (fun y9 => [(0, vr (some x0)), (1, vi x1), (6, vi y9)]) (fun _ => []) 191 mo_N ?_ ?_ 0
            · intro κ151 hr151 he151
              intro y9
              dsimp only [X7_look_L151]
              refine gg_iload (S := sX7_look) 2 153 rfl dX7_look_151 rfl ?_
              refine gg_iload_n (S := sX7_look) 1 154 rfl dX7_look_153 rfl rfl ?_
              refine gg_ic_ge (S := sX7_look) (tgt := 191) 157 rfl dX7_look_154 (by decide) ?_ ?_
              · refine gg_aload_n (S := sX7_look) 0 158 rfl dX7_look_157 rfl rfl ?_
                refine gg_gr (S := sX7_look) cfX7 (by decide) (fun _ _ => rfl) 161 rfl flX7_91 dX7_look_158 (fun t10 => ?_)
                refine gg_iload (S := sX7_look) 2 163 rfl dX7_look_161 rfl ?_
                refine gg_aload_n (S := sX7_look) 0 164 rfl dX7_look_163 rfl rfl ?_
                refine gg_gr (S := sX7_look) cfX7 (by decide) (fun _ _ => rfl) 167 rfl flX7_85 dX7_look_164 (fun t11 => ?_)
                refine gg_iload (S := sX7_look) 2 169 rfl dX7_look_167 rfl ?_
                refine gg_ld (S := sX7_look) 170 rfl dX7_look_169 (fun t12 => ?_)
                refine gg_st (S := sX7_look) 171 rfl dX7_look_170 ?_
                refine gg_aload_n (S := sX7_look) 0 172 rfl dX7_look_171 rfl rfl ?_
                refine gg_gr (S := sX7_look) cfX7 (by decide) (fun _ _ => rfl) 175 rfl flX7_94 dX7_look_172 (fun t13 => ?_)
                refine gg_iload (S := sX7_look) 2 177 rfl dX7_look_175 rfl ?_
                refine gg_aload_n (S := sX7_look) 0 178 rfl dX7_look_177 rfl rfl ?_
                refine gg_gr (S := sX7_look) cfX7 (by decide) (fun _ _ => rfl) 181 rfl flX7_88 dX7_look_178 (fun t14 => ?_)
                refine gg_iload (S := sX7_look) 2 183 rfl dX7_look_181 rfl ?_
                refine gg_ld (S := sX7_look) 184 rfl dX7_look_183 (fun t15 => ?_)
                refine gg_st (S := sX7_look) 185 rfl dX7_look_184 ?_
                refine gg_iinc (S := sX7_look) (L' := [(6, vi (y9 + 1)), (0, vr (some x0)), (1, vi x1)]) 2 188 rfl dX7_look_185 rfl (by decide) rfl ?_
                refine gg_goto (S := sX7_look) (tgt := 151) dX7_look_188 (by decide) ?_
                exact gg_pure (gg_sub [1, 2, 0] rfl (hr151 (y9 + 1)))
              · exact gg_pure (gg_sub [] rfl (he151 ()))
            · intro _
              exact gg_pure (gg_vret (S := sX7_look) rfl dX7_look_191 (by decide) (by decide))
          · exact gg_pure (gg_vret (S := sX7_look) rfl dX7_look_191 (by decide) (by decide))
        · exact gg_pure (gg_vret (S := sX7_look) rfl dX7_look_191 (by decide) (by decide))
      · refine gg_aload_n (S := sX7_look) 0 133 rfl dX7_look_132 rfl rfl ?_
        refine gg_iconst (S := sX7_look) 134 rfl dX7_look_133 ?_
        refine gg_sz (S := sX7_look) cfX7 (by decide) rfl (fun _ _ => rfl) rfl 137 rfl flX7_263 dX7_look_134 ?_
        refine gg_aload_n (S := sX7_look) 0 138 rfl dX7_look_137 rfl rfl ?_
        refine gg_iload_n (S := sX7_look) 2 139 rfl dX7_look_138 rfl rfl ?_
        refine gg_si (S := sX7_look) cfX7 (by decide) rfl (fun _ _ => rfl) rfl 142 rfl flX7_276 dX7_look_139 ?_
        refine gg_aload_n (S := sX7_look) 0 143 rfl dX7_look_142 rfl rfl ?_
        refine gg_lload (S := sX7_look) 3 145 rfl dX7_look_143 rfl ?_
        refine gg_sl (S := sX7_look) cfX7 (by decide) rfl (fun _ _ => rfl) rfl 148 rfl flX7_279 dX7_look_145 ?_
        refine gg_iconst (S := sX7_look) 149 rfl dX7_look_148 ?_
        refine gg_istore (S := sX7_look) (L' := [(6, vi 0), (0, vr (some x0)), (1, vi x1), (3, vi y1), (4, vl y2)]) 151 rfl dX7_look_149 (by decide) rfl ?_
        refine gg_sub [1, 2, 0] rfl ?_
        refine gg_loopA (fun y16 => [(0, vr (some x0)), (1, vi x1), (6, vi y16)]) (fun _ => []) 191 mo_N ?_ ?_ 0
        · intro κ151 hr151 he151
          intro y16
          dsimp only [X7_look_L151_1]
          refine gg_iload (S := sX7_look) 2 153 rfl dX7_look_151 rfl ?_
          refine gg_iload_n (S := sX7_look) 1 154 rfl dX7_look_153 rfl rfl ?_
          refine gg_ic_ge (S := sX7_look) (tgt := 191) 157 rfl dX7_look_154 (by decide) ?_ ?_
          · refine gg_aload_n (S := sX7_look) 0 158 rfl dX7_look_157 rfl rfl ?_
            refine gg_gr (S := sX7_look) cfX7 (by decide) (fun _ _ => rfl) 161 rfl flX7_91 dX7_look_158 (fun t17 => ?_)
            refine gg_iload (S := sX7_look) 2 163 rfl dX7_look_161 rfl ?_
            refine gg_aload_n (S := sX7_look) 0 164 rfl dX7_look_163 rfl rfl ?_
            refine gg_gr (S := sX7_look) cfX7 (by decide) (fun _ _ => rfl) 167 rfl flX7_85 dX7_look_164 (fun t18 => ?_)
            refine gg_iload (S := sX7_look) 2 169 rfl dX7_look_167 rfl ?_
            refine gg_ld (S := sX7_look) 170 rfl dX7_look_169 (fun t19 => ?_)
            refine gg_st (S := sX7_look) 171 rfl dX7_look_170 ?_
            refine gg_aload_n (S := sX7_look) 0 172 rfl dX7_look_171 rfl rfl ?_
            refine gg_gr (S := sX7_look) cfX7 (by decide) (fun _ _ => rfl) 175 rfl flX7_94 dX7_look_172 (fun t20 => ?_)
            refine gg_iload (S := sX7_look) 2 177 rfl dX7_look_175 rfl ?_
            refine gg_aload_n (S := sX7_look) 0 178 rfl dX7_look_177 rfl rfl ?_
            refine gg_gr (S := sX7_look) cfX7 (by decide) (fun _ _ => rfl) 181 rfl flX7_88 dX7_look_178 (fun t21 => ?_)
            refine gg_iload (S := sX7_look) 2 183 rfl dX7_look_181 rfl ?_
            refine gg_ld (S := sX7_look) 184 rfl dX7_look_183 (fun t22 => ?_)
            refine gg_st (S := sX7_look) 185 rfl dX7_look_184 ?_
            refine gg_iinc (S := sX7_look) (L' := [(6, vi (y16 + 1)), (0, vr (some x0)), (1, vi x1)]) 2 188 rfl dX7_look_185 rfl (by decide) rfl ?_
            refine gg_goto (S := sX7_look) (tgt := 151) dX7_look_188 (by decide) ?_
            exact gg_pure (gg_sub [1, 2, 0] rfl (hr151 (y16 + 1)))
          · exact gg_pure (gg_sub [] rfl (he151 ()))
        · intro _
          exact gg_pure (gg_vret (S := sX7_look) rfl dX7_look_191 (by decide) (by decide))

set_option maxRecDepth 100000 in
set_option maxHeartbeats 4000000 in
theorem lkX7_layStore (x0 : Nat) (x1 : Int) (x2 : Int) : LK yX7_layStore sX7_layStore [vr (some x0), vi x1, vi x2] en_v (X7_layStore x0 x1 x2) := by
  refine lk_go (L := [(0, vr (some x0)), (1, vi x1), (2, vi x2)]) (by decide +kernel) rfl (fun h => by cases h) (Nat.le_of_ble_eq_true rfl) rfl ?_
  intro K
  unfold X7_layStore
  refine gg_iconst (S := sX7_layStore) 1 rfl dX7_layStore_0 ?_
  refine gg_istore_n (S := sX7_layStore) (L' := [(3, vi 0), (0, vr (some x0)), (1, vi x1), (2, vi x2)]) 2 rfl dX7_layStore_1 rfl (by decide) rfl ?_
  refine gg_sub [1, 2, 3, 0] rfl ?_
  refine gg_loopA (fun y1 => [(0, vr (some x0)), (1, vi x1), (2, vi x2), (3, vi y1)]) (fun _ => [(0, vr (some x0)), (1, vi x1), (2, vi x2)]) 68 mo_N ?_ ?_ 0
  · intro κ2 hr2 he2
    intro y1
    dsimp only [X7_layStore_L2]
    refine gg_iload_n (S := sX7_layStore) 3 3 rfl dX7_layStore_2 rfl rfl ?_
    refine gg_iload_n (S := sX7_layStore) 1 4 rfl dX7_layStore_3 rfl rfl ?_
    refine gg_ic_ge (S := sX7_layStore) (tgt := 68) 7 rfl dX7_layStore_4 (by decide) ?_ ?_
    · refine gg_iconst (S := sX7_layStore) 8 rfl dX7_layStore_7 ?_
      refine gg_istore (S := sX7_layStore) (L' := [(4, vi 0), (0, vr (some x0)), (1, vi x1), (2, vi x2), (3, vi y1)]) 10 rfl dX7_layStore_8 (by decide) rfl ?_
      refine gg_sub [1, 2, 3, 4, 0] rfl ?_
      refine gg_loopA (fun y2 => [(0, vr (some x0)), (1, vi x1), (2, vi x2), (3, vi y1), (4, vi y2)]) (fun _ => [(0, vr (some x0)), (1, vi x1), (2, vi x2), (3, vi y1)]) 62 mo_N ?_ ?_ 0
      · intro κ10 hr10 he10
        intro y2
        dsimp only [X7_layStore_L10]
        refine gg_iload (S := sX7_layStore) 4 12 rfl dX7_layStore_10 rfl ?_
        refine gg_iload_n (S := sX7_layStore) 1 13 rfl dX7_layStore_12 rfl rfl ?_
        refine gg_ic_ge (S := sX7_layStore) (tgt := 62) 16 rfl dX7_layStore_13 (by decide) ?_ ?_
        · refine gg_aload_n (S := sX7_layStore) 0 17 rfl dX7_layStore_16 rfl rfl ?_
          refine gg_iload (S := sX7_layStore) 4 19 rfl dX7_layStore_17 rfl ?_
          refine gg_iload_n (S := sX7_layStore) 3 20 rfl dX7_layStore_19 rfl rfl ?_
          refine gg_callVv (S := sX7_layStore) (S' := sX7_layDifference) (cs := 0) (sl := 0) (As := [vi y2, vi y1]) (st := []) 23 rfl (fun b8 => lkX7_layDifference b8 y2 y1) mwX7_layDifference rfl mlX7_144 dX7_layStore_20 cfX7 ⟨by decide, by decide⟩ 0 0 ⟨rfl, rfl⟩ ⟨by decide, by decide⟩ (Nat.le_of_ble_eq_true rfl) (fun _ => ?_)
          refine gg_aload_n (S := sX7_layStore) 0 24 rfl dX7_layStore_23 rfl rfl ?_
          refine gg_gr (S := sX7_layStore) cfX7 (by decide) (fun _ _ => rfl) 27 rfl flX7_82 dX7_layStore_24 (fun t3 => ?_)
          refine gg_bipush (S := sX7_layStore) 29 rfl dX7_layStore_27 (by decide) ?_
          refine gg_iload_n (S := sX7_layStore) 3 30 rfl dX7_layStore_29 rfl rfl ?_
          refine gg_imul (S := sX7_layStore) 31 rfl dX7_layStore_30 ?_
          refine gg_iload (S := sX7_layStore) 4 33 rfl dX7_layStore_31 rfl ?_
          refine gg_iadd (S := sX7_layStore) 34 rfl dX7_layStore_33 ?_
          refine gg_iload_n (S := sX7_layStore) 3 35 rfl dX7_layStore_34 rfl rfl ?_
          refine gg_iload (S := sX7_layStore) 4 37 rfl dX7_layStore_35 rfl ?_
          refine gg_join (fun t8 => [(0, vr (some x0)), (1, vi x1), (2, vi x2), (3, vi y1), (4, vi y2)]) (fun t8 => [vi t8, vi ((6 * y1) + y2), vr t3]) 55 0 0 (fun κ37 hJ37 => ?_) ?_
          · refine gg_ic_ne (S := sX7_layStore) (tgt := 51) 40 rfl dX7_layStore_37 (by decide) ?_ ?_
            · refine gg_aload_n (S := sX7_layStore) 0 41 rfl dX7_layStore_40 rfl rfl ?_
              refine gg_gr (S := sX7_layStore) cfX7 (by decide) (fun _ _ => rfl) 44 rfl flX7_13 dX7_layStore_41 (fun t6 => ?_)
              refine gg_iload_n (S := sX7_layStore) 3 45 rfl dX7_layStore_44 rfl rfl ?_
              refine gg_ld (S := sX7_layStore) 46 rfl dX7_layStore_45 (fun t7 => ?_)
              refine gg_iconst (S := sX7_layStore) 47 rfl dX7_layStore_46 ?_
              refine gg_iadd (S := sX7_layStore) 48 rfl dX7_layStore_47 ?_
              refine gg_goto (S := sX7_layStore) (tgt := 55) dX7_layStore_48 (by decide) ?_
              exact gg_pure (gg_sub [0, 1, 2, 3, 4] rfl (hJ37 (t7 + 1)))
            · refine gg_aload_n (S := sX7_layStore) 0 52 rfl dX7_layStore_51 rfl rfl ?_
              refine gg_callVi (S := sX7_layStore) (S' := sX7_workRoom) (cs := 0) (sl := 0) (As := []) (st := [vi ((6 * y1) + y2), vr t3]) 55 rfl (fun b4 => lkX7_workRoom b4) mwX7_workRoom rfl mlX7_148 dX7_layStore_52 cfX7 ⟨by decide, by decide⟩ 0 0 ⟨rfl, rfl⟩ ⟨by decide, by decide⟩ (Nat.le_of_ble_eq_true rfl) (fun t4 => ?_)
              exact gg_pure (gg_sub [0, 1, 2, 3, 4] rfl (hJ37 t4))
          · intro t8
            refine gg_st (S := sX7_layStore) 56 rfl dX7_layStore_55 ?_
            refine gg_iinc (S := sX7_layStore) (L' := [(4, vi (y2 + 1)), (0, vr (some x0)), (1, vi x1), (2, vi x2), (3, vi y1)]) 4 59 rfl dX7_layStore_56 rfl (by decide) rfl ?_
            refine gg_goto (S := sX7_layStore) (tgt := 10) dX7_layStore_59 (by decide) ?_
            exact gg_pure (gg_sub [1, 2, 3, 4, 0] rfl (hr10 (y2 + 1)))
        · exact gg_pure (gg_sub [0, 1, 2, 3] rfl (he10 ()))
      · intro _
        refine gg_iinc (S := sX7_layStore) (L' := [(3, vi (y1 + 1)), (0, vr (some x0)), (1, vi x1), (2, vi x2)]) 3 65 rfl dX7_layStore_62 rfl (by decide) rfl ?_
        refine gg_goto (S := sX7_layStore) (tgt := 2) dX7_layStore_65 (by decide) ?_
        exact gg_pure (gg_sub [1, 2, 3, 0] rfl (hr2 (y1 + 1)))
    · exact gg_pure (gg_sub [0, 1, 2] rfl (he2 ()))
  · intro _
    refine gg_aload_n (S := sX7_layStore) 0 69 rfl dX7_layStore_68 rfl rfl ?_
    refine gg_iconst (S := sX7_layStore) 70 rfl dX7_layStore_69 ?_
    refine gg_sz (S := sX7_layStore) cfX7 (by decide) rfl (fun _ _ => rfl) rfl 73 rfl flX7_263 dX7_layStore_70 ?_
    refine gg_iconst (S := sX7_layStore) 74 rfl dX7_layStore_73 ?_
    refine gg_istore_n (S := sX7_layStore) (L' := [(3, vi 1), (0, vr (some x0)), (1, vi x1), (2, vi x2)]) 75 rfl dX7_layStore_74 rfl (by decide) rfl ?_
    refine gg_iconst (S := sX7_layStore) 76 rfl dX7_layStore_75 ?_
    refine gg_istore (S := sX7_layStore) (L' := [(4, vi 0), (3, vi 1), (0, vr (some x0)), (1, vi x1), (2, vi x2)]) 78 rfl dX7_layStore_76 (by decide) rfl ?_
    refine gg_sub [2, 3, 4, 1, 0] rfl ?_
    refine gg_loopA (fun (y10, y11) => [(0, vr (some x0)), (1, vi x1), (2, vi x2), (3, vi y10), (4, vi y11)]) (fun t12 => [(0, vr (some x0)), (1, vi x1), (2, vi x2), (3, vi t12)]) 94 mo_N ?_ ?_ (1, 0)
    · intro κ78 hr78 he78
      rintro ⟨y10, y11⟩
      dsimp only [X7_layStore_L78]
      refine gg_iload (S := sX7_layStore) 4 80 rfl dX7_layStore_78 rfl ?_
      refine gg_iload_n (S := sX7_layStore) 1 81 rfl dX7_layStore_80 rfl rfl ?_
      refine gg_ic_ge (S := sX7_layStore) (tgt := 94) 84 rfl dX7_layStore_81 (by decide) ?_ ?_
      · refine gg_iload_n (S := sX7_layStore) 3 85 rfl dX7_layStore_84 rfl rfl ?_
        refine gg_iload_n (S := sX7_layStore) 1 86 rfl dX7_layStore_85 rfl rfl ?_
        refine gg_imul (S := sX7_layStore) 87 rfl dX7_layStore_86 ?_
        refine gg_istore_n (S := sX7_layStore) (L' := [(3, vi (y10 * x1)), (0, vr (some x0)), (1, vi x1), (2, vi x2), (4, vi y11)]) 88 rfl dX7_layStore_87 rfl (by decide) rfl ?_
        refine gg_iinc (S := sX7_layStore) (L' := [(4, vi (y11 + 1)), (3, vi (y10 * x1)), (0, vr (some x0)), (1, vi x1), (2, vi x2)]) 4 91 rfl dX7_layStore_88 rfl (by decide) rfl ?_
        refine gg_goto (S := sX7_layStore) (tgt := 78) dX7_layStore_91 (by decide) ?_
        exact gg_pure (gg_sub [2, 3, 4, 1, 0] rfl (hr78 ((y10 * x1), (y11 + 1))))
      · exact gg_pure (gg_sub [0, 1, 2, 3] rfl (he78 y10))
    · intro t12
      refine gg_iconst (S := sX7_layStore) 95 rfl dX7_layStore_94 ?_
      refine gg_istore (S := sX7_layStore) (L' := [(4, vi 0), (0, vr (some x0)), (1, vi x1), (2, vi x2), (3, vi t12)]) 97 rfl dX7_layStore_95 (by decide) rfl ?_
      refine gg_sub [1, 2, 3, 4, 0] rfl ?_
      refine gg_loopA (fun y13 => [(0, vr (some x0)), (1, vi x1), (2, vi x2), (3, vi t12), (4, vi y13)]) (fun _ => []) 130 mo_N ?_ ?_ 0
      · intro κ97 hr97 he97
        intro y13
        dsimp only [X7_layStore_L97]
        refine gg_iload (S := sX7_layStore) 4 99 rfl dX7_layStore_97 rfl ?_
        refine gg_iload_n (S := sX7_layStore) 3 100 rfl dX7_layStore_99 rfl rfl ?_
        refine gg_ic_ge (S := sX7_layStore) (tgt := 130) 103 rfl dX7_layStore_100 (by decide) ?_ ?_
        · refine gg_aload_n (S := sX7_layStore) 0 104 rfl dX7_layStore_103 rfl rfl ?_
          refine gg_iload (S := sX7_layStore) 4 106 rfl dX7_layStore_104 rfl ?_
          refine gg_iload_n (S := sX7_layStore) 1 107 rfl dX7_layStore_106 rfl rfl ?_
          refine gg_callVv (S := sX7_layStore) (S' := sX7_layCode) (cs := 0) (sl := 0) (As := [vi y13, vi x1]) (st := []) 110 rfl (fun b16 => lkX7_layCode b16 y13 x1) mwX7_layCode rfl mlX7_267 dX7_layStore_107 cfX7 ⟨by decide, by decide⟩ 0 0 ⟨rfl, rfl⟩ ⟨by decide, by decide⟩ (Nat.le_of_ble_eq_true rfl) (fun _ => ?_)
          refine gg_aload_n (S := sX7_layStore) 0 111 rfl dX7_layStore_110 rfl rfl ?_
          refine gg_iload_n (S := sX7_layStore) 1 112 rfl dX7_layStore_111 rfl rfl ?_
          refine gg_callVi (S := sX7_layStore) (S' := sX7_layRemade) (cs := 0) (sl := 0) (As := [vi x1]) (st := []) 115 rfl (fun b15 => lkX7_layRemade b15 x1) mwX7_layRemade rfl mlX7_270 dX7_layStore_112 cfX7 ⟨by decide, by decide⟩ 0 0 ⟨rfl, rfl⟩ ⟨by decide, by decide⟩ (Nat.le_of_ble_eq_true rfl) (fun t14 => ?_)
          refine gg_join (fun _ => [(0, vr (some x0)), (1, vi x1), (2, vi x2), (3, vi t12), (4, vi y13)]) (fun _ => []) 124 0 0 (fun κ115 hJ115 => ?_) ?_
          · refine gg_if_eq (S := sX7_layStore) (tgt := 124) 118 rfl dX7_layStore_115 (by decide) ?_ ?_
            · exact gg_pure (gg_sub [0, 1, 2, 3, 4] rfl (hJ115 ()))
            · refine gg_aload_n (S := sX7_layStore) 0 119 rfl dX7_layStore_118 rfl rfl ?_
              refine gg_iload_n (S := sX7_layStore) 1 120 rfl dX7_layStore_119 rfl rfl ?_
              refine gg_iload_n (S := sX7_layStore) 2 121 rfl dX7_layStore_120 rfl rfl ?_
              refine gg_callVv (S := sX7_layStore) (S' := sX7_look) (cs := 0) (sl := 0) (As := [vi x1, vi x2]) (st := []) 124 rfl (fun b14 => lkX7_look b14 x1 x2) mwX7_look rfl mlX7_273 dX7_layStore_121 cfX7 ⟨by decide, by decide⟩ 0 0 ⟨rfl, rfl⟩ ⟨by decide, by decide⟩ (Nat.le_of_ble_eq_true rfl) (fun _ => ?_)
              exact gg_pure (gg_sub [0, 1, 2, 3, 4] rfl (hJ115 ()))
          · intro _
            refine gg_iinc (S := sX7_layStore) (L' := [(4, vi (y13 + 1)), (0, vr (some x0)), (1, vi x1), (2, vi x2), (3, vi t12)]) 4 127 rfl dX7_layStore_124 rfl (by decide) rfl ?_
            refine gg_goto (S := sX7_layStore) (tgt := 97) dX7_layStore_127 (by decide) ?_
            exact gg_pure (gg_sub [1, 2, 3, 4, 0] rfl (hr97 (y13 + 1)))
        · exact gg_pure (gg_sub [] rfl (he97 ()))
      · intro _
        exact gg_pure (gg_vret (S := sX7_layStore) rfl dX7_layStore_130 (by decide) (by decide))

set_option maxRecDepth 100000 in
set_option maxHeartbeats 4000000 in
theorem lkX7_leaveOutIdle (x0 : Nat) : LK yX7_leaveOutIdle sX7_leaveOutIdle [vr (some x0)] en_v (X7_leaveOutIdle x0) := by
  refine lk_go (L := [(0, vr (some x0))]) (by decide +kernel) rfl (fun h => by cases h) (Nat.le_of_ble_eq_true rfl) rfl ?_
  intro K
  unfold X7_leaveOutIdle
  refine gg_aload_n (S := sX7_leaveOutIdle) 0 1 rfl dX7_leaveOutIdle_0 rfl rfl ?_
  refine gg_gi (S := sX7_leaveOutIdle) cfX7 (by decide) (fun _ _ => rfl) 4 rfl flX7_119 dX7_leaveOutIdle_1 (fun t1 => ?_)
  refine gg_iconst (S := sX7_leaveOutIdle) 5 rfl dX7_leaveOutIdle_4 ?_
  refine gg_isub (S := sX7_leaveOutIdle) 6 rfl dX7_leaveOutIdle_5 ?_
  refine gg_istore_n (S := sX7_leaveOutIdle) (L' := [(1, vi (t1 - 1)), (0, vr (some x0))]) 7 rfl dX7_leaveOutIdle_6 rfl (by decide) rfl ?_
  refine gg_aload_n (S := sX7_leaveOutIdle) 1 8 rfl dX7_leaveOutIdle_7 rfl rfl ?_
  refine gg_gr (S := sX7_leaveOutIdle) cfX7 (by decide) (fun _ _ => rfl) 11 rfl flX7_49 dX7_leaveOutIdle_8 (fun t2 => ?_)
  refine gg_iload_n (S := sX7_leaveOutIdle) 0 12 rfl dX7_leaveOutIdle_11 rfl rfl ?_
  refine gg_ld (S := sX7_leaveOutIdle) 13 rfl dX7_leaveOutIdle_12 (fun t3 => ?_)
  refine gg_aload_n (S := sX7_leaveOutIdle) 1 14 rfl dX7_leaveOutIdle_13 rfl rfl ?_
  refine gg_gr (S := sX7_leaveOutIdle) cfX7 (by decide) (fun _ _ => rfl) 17 rfl flX7_52 dX7_leaveOutIdle_14 (fun t4 => ?_)
  refine gg_iload_n (S := sX7_leaveOutIdle) 0 18 rfl dX7_leaveOutIdle_17 rfl rfl ?_
  refine gg_ld (S := sX7_leaveOutIdle) 19 rfl dX7_leaveOutIdle_18 (fun t5 => ?_)
  refine gg_join (fun t6 => [(0, vr (some x0)), (1, vi (t1 - 1))]) (fun t6 => [vi t6]) 27 0 0 (fun κ19 hJ19 => ?_) ?_
  · refine gg_ic_ne (S := sX7_leaveOutIdle) (tgt := 26) 22 rfl dX7_leaveOutIdle_19 (by decide) ?_ ?_
    · refine gg_iconst (S := sX7_leaveOutIdle) 23 rfl dX7_leaveOutIdle_22 ?_
      refine gg_goto (S := sX7_leaveOutIdle) (tgt := 27) dX7_leaveOutIdle_23 (by decide) ?_
      exact gg_pure (gg_sub [1, 0] rfl (hJ19 1))
    · refine gg_iconst (S := sX7_leaveOutIdle) 27 rfl dX7_leaveOutIdle_26 ?_
      exact gg_pure (gg_sub [1, 0] rfl (hJ19 0))
  · intro t6
    refine gg_istore_n (S := sX7_leaveOutIdle) (L' := [(2, vi t6), (0, vr (some x0)), (1, vi (t1 - 1))]) 28 rfl dX7_leaveOutIdle_27 rfl (by decide) rfl ?_
    refine gg_iconst (S := sX7_leaveOutIdle) 29 rfl dX7_leaveOutIdle_28 ?_
    refine gg_istore_n (S := sX7_leaveOutIdle) (L' := [(3, vi 0), (2, vi t6), (0, vr (some x0)), (1, vi (t1 - 1))]) 30 rfl dX7_leaveOutIdle_29 rfl (by decide) rfl ?_
    refine gg_sub [2, 3, 1, 0] rfl ?_
    refine gg_loopA (fun (y7, y8) => [(0, vr (some x0)), (1, vi (t1 - 1)), (2, vi y7), (3, vi y8)]) (fun t22 => [(0, vr (some x0)), (1, vi (t1 - 1)), (2, vi t22)]) 95 mo_N ?_ ?_ (t6, 0)
    · intro κ30 hr30 he30
      rintro ⟨y7, y8⟩
      dsimp only [X7_leaveOutIdle_L30]
      refine gg_iload_n (S := sX7_leaveOutIdle) 3 31 rfl dX7_leaveOutIdle_30 rfl rfl ?_
      refine gg_aload_n (S := sX7_leaveOutIdle) 0 32 rfl dX7_leaveOutIdle_31 rfl rfl ?_
      refine gg_gr (S := sX7_leaveOutIdle) cfX7 (by decide) (fun _ _ => rfl) 35 rfl flX7_49 dX7_leaveOutIdle_32 (fun t9 => ?_)
      refine gg_iload_n (S := sX7_leaveOutIdle) 1 36 rfl dX7_leaveOutIdle_35 rfl rfl ?_
      refine gg_ld (S := sX7_leaveOutIdle) 37 rfl dX7_leaveOutIdle_36 (fun t10 => ?_)
      refine gg_ic_ge (S := sX7_leaveOutIdle) (tgt := 95) 40 rfl dX7_leaveOutIdle_37 (by decide) ?_ ?_
      · refine gg_iload_n (S := sX7_leaveOutIdle) 2 41 rfl dX7_leaveOutIdle_40 rfl rfl ?_
        refine gg_if_eq (S := sX7_leaveOutIdle) (tgt := 95) 44 rfl dX7_leaveOutIdle_41 (by decide) ?_ ?_
        · exact gg_pure (gg_sub [0, 1, 2] rfl (he30 y7))
        · refine gg_aload_n (S := sX7_leaveOutIdle) 0 45 rfl dX7_leaveOutIdle_44 rfl rfl ?_
          refine gg_gr (S := sX7_leaveOutIdle) cfX7 (by decide) (fun _ _ => rfl) 48 rfl flX7_55 dX7_leaveOutIdle_45 (fun t11 => ?_)
          refine gg_aload_n (S := sX7_leaveOutIdle) 0 49 rfl dX7_leaveOutIdle_48 rfl rfl ?_
          refine gg_gi (S := sX7_leaveOutIdle) cfX7 (by decide) (fun _ _ => rfl) 52 rfl flX7_122 dX7_leaveOutIdle_49 (fun t12 => ?_)
          refine gg_aload_n (S := sX7_leaveOutIdle) 0 53 rfl dX7_leaveOutIdle_52 rfl rfl ?_
          refine gg_gr (S := sX7_leaveOutIdle) cfX7 (by decide) (fun _ _ => rfl) 56 rfl flX7_49 dX7_leaveOutIdle_53 (fun t13 => ?_)
          refine gg_iload_n (S := sX7_leaveOutIdle) 1 57 rfl dX7_leaveOutIdle_56 rfl rfl ?_
          refine gg_ld (S := sX7_leaveOutIdle) 58 rfl dX7_leaveOutIdle_57 (fun t14 => ?_)
          refine gg_isub (S := sX7_leaveOutIdle) 59 rfl dX7_leaveOutIdle_58 ?_
          refine gg_iload_n (S := sX7_leaveOutIdle) 3 60 rfl dX7_leaveOutIdle_59 rfl rfl ?_
          refine gg_iadd (S := sX7_leaveOutIdle) 61 rfl dX7_leaveOutIdle_60 ?_
          refine gg_ld (S := sX7_leaveOutIdle) 62 rfl dX7_leaveOutIdle_61 (fun t15 => ?_)
          refine gg_aload_n (S := sX7_leaveOutIdle) 0 63 rfl dX7_leaveOutIdle_62 rfl rfl ?_
          refine gg_gr (S := sX7_leaveOutIdle) cfX7 (by decide) (fun _ _ => rfl) 66 rfl flX7_58 dX7_leaveOutIdle_63 (fun t16 => ?_)
          refine gg_aload_n (S := sX7_leaveOutIdle) 0 67 rfl dX7_leaveOutIdle_66 rfl rfl ?_
          refine gg_gi (S := sX7_leaveOutIdle) cfX7 (by decide) (fun _ _ => rfl) 70 rfl flX7_125 dX7_leaveOutIdle_67 (fun t17 => ?_)
          refine gg_aload_n (S := sX7_leaveOutIdle) 0 71 rfl dX7_leaveOutIdle_70 rfl rfl ?_
          refine gg_gr (S := sX7_leaveOutIdle) cfX7 (by decide) (fun _ _ => rfl) 74 rfl flX7_52 dX7_leaveOutIdle_71 (fun t18 => ?_)
          refine gg_iload_n (S := sX7_leaveOutIdle) 1 75 rfl dX7_leaveOutIdle_74 rfl rfl ?_
          refine gg_ld (S := sX7_leaveOutIdle) 76 rfl dX7_leaveOutIdle_75 (fun t19 => ?_)
          refine gg_isub (S := sX7_leaveOutIdle) 77 rfl dX7_leaveOutIdle_76 ?_
          refine gg_iload_n (S := sX7_leaveOutIdle) 3 78 rfl dX7_leaveOutIdle_77 rfl rfl ?_
          refine gg_iadd (S := sX7_leaveOutIdle) 79 rfl dX7_leaveOutIdle_78 ?_
          refine gg_ld (S := sX7_leaveOutIdle) 80 rfl dX7_leaveOutIdle_79 (fun t20 => ?_)
          refine gg_join (fun t21 => [(0, vr (some x0)), (1, vi (t1 - 1)), (3, vi y8)]) (fun t21 => [vi t21]) 88 0 0 (fun κ80 hJ80 => ?_) ?_
          · refine gg_ic_ne (S := sX7_leaveOutIdle) (tgt := 87) 83 rfl dX7_leaveOutIdle_80 (by decide) ?_ ?_
            · refine gg_iconst (S := sX7_leaveOutIdle) 84 rfl dX7_leaveOutIdle_83 ?_
              refine gg_goto (S := sX7_leaveOutIdle) (tgt := 88) dX7_leaveOutIdle_84 (by decide) ?_
              exact gg_pure (gg_sub [0, 1, 3] rfl (hJ80 1))
            · refine gg_iconst (S := sX7_leaveOutIdle) 88 rfl dX7_leaveOutIdle_87 ?_
              exact gg_pure (gg_sub [0, 1, 3] rfl (hJ80 0))
          · intro t21
            refine gg_istore_n (S := sX7_leaveOutIdle) (L' := [(2, vi t21), (0, vr (some x0)), (1, vi (t1 - 1)), (3, vi y8)]) 89 rfl dX7_leaveOutIdle_88 rfl (by decide) rfl ?_
            refine gg_iinc (S := sX7_leaveOutIdle) (L' := [(3, vi (y8 + 1)), (2, vi t21), (0, vr (some x0)), (1, vi (t1 - 1))]) 3 92 rfl dX7_leaveOutIdle_89 rfl (by decide) rfl ?_
            refine gg_goto (S := sX7_leaveOutIdle) (tgt := 30) dX7_leaveOutIdle_92 (by decide) ?_
            exact gg_pure (gg_sub [2, 3, 1, 0] rfl (hr30 (t21, (y8 + 1))))
      · exact gg_pure (gg_sub [0, 1, 2] rfl (he30 y7))
    · intro t22
      refine gg_iload_n (S := sX7_leaveOutIdle) 2 96 rfl dX7_leaveOutIdle_95 rfl rfl ?_
      refine gg_if_eq (S := sX7_leaveOutIdle) (tgt := 139) 99 rfl dX7_leaveOutIdle_96 (by decide) ?_ ?_
      · exact gg_pure (gg_vret (S := sX7_leaveOutIdle) rfl dX7_leaveOutIdle_139 (by decide) (by decide))
      · refine gg_aload_n (S := sX7_leaveOutIdle) 0 100 rfl dX7_leaveOutIdle_99 rfl rfl ?_
        refine gg_dup (S := sX7_leaveOutIdle) 101 rfl dX7_leaveOutIdle_100 rfl ?_
        refine gg_gi (S := sX7_leaveOutIdle) cfX7 (by decide) (fun _ _ => rfl) 104 rfl flX7_122 dX7_leaveOutIdle_101 (fun t23 => ?_)
        refine gg_aload_n (S := sX7_leaveOutIdle) 0 105 rfl dX7_leaveOutIdle_104 rfl rfl ?_
        refine gg_gr (S := sX7_leaveOutIdle) cfX7 (by decide) (fun _ _ => rfl) 108 rfl flX7_49 dX7_leaveOutIdle_105 (fun t24 => ?_)
        refine gg_iload_n (S := sX7_leaveOutIdle) 1 109 rfl dX7_leaveOutIdle_108 rfl rfl ?_
        refine gg_ld (S := sX7_leaveOutIdle) 110 rfl dX7_leaveOutIdle_109 (fun t25 => ?_)
        refine gg_isub (S := sX7_leaveOutIdle) 111 rfl dX7_leaveOutIdle_110 ?_
        refine gg_si (S := sX7_leaveOutIdle) cfX7 (by decide) rfl (fun _ _ => rfl) rfl 114 rfl flX7_122 dX7_leaveOutIdle_111 ?_
        refine gg_aload_n (S := sX7_leaveOutIdle) 0 115 rfl dX7_leaveOutIdle_114 rfl rfl ?_
        refine gg_dup (S := sX7_leaveOutIdle) 116 rfl dX7_leaveOutIdle_115 rfl ?_
        refine gg_gi (S := sX7_leaveOutIdle) cfX7 (by decide) (fun _ _ => rfl) 119 rfl flX7_125 dX7_leaveOutIdle_116 (fun t26 => ?_)
        refine gg_aload_n (S := sX7_leaveOutIdle) 0 120 rfl dX7_leaveOutIdle_119 rfl rfl ?_
        refine gg_gr (S := sX7_leaveOutIdle) cfX7 (by decide) (fun _ _ => rfl) 123 rfl flX7_52 dX7_leaveOutIdle_120 (fun t27 => ?_)
        refine gg_iload_n (S := sX7_leaveOutIdle) 1 124 rfl dX7_leaveOutIdle_123 rfl rfl ?_
        refine gg_ld (S := sX7_leaveOutIdle) 125 rfl dX7_leaveOutIdle_124 (fun t28 => ?_)
        refine gg_isub (S := sX7_leaveOutIdle) 126 rfl dX7_leaveOutIdle_125 ?_
        refine gg_si (S := sX7_leaveOutIdle) cfX7 (by decide) rfl (fun _ _ => rfl) rfl 129 rfl flX7_125 dX7_leaveOutIdle_126 ?_
        refine gg_aload_n (S := sX7_leaveOutIdle) 0 130 rfl dX7_leaveOutIdle_129 rfl rfl ?_
        refine gg_dup (S := sX7_leaveOutIdle) 131 rfl dX7_leaveOutIdle_130 rfl ?_
        refine gg_gi (S := sX7_leaveOutIdle) cfX7 (by decide) (fun _ _ => rfl) 134 rfl flX7_119 dX7_leaveOutIdle_131 (fun t29 => ?_)
        refine gg_iconst (S := sX7_leaveOutIdle) 135 rfl dX7_leaveOutIdle_134 ?_
        refine gg_isub (S := sX7_leaveOutIdle) 136 rfl dX7_leaveOutIdle_135 ?_
        refine gg_si (S := sX7_leaveOutIdle) cfX7 (by decide) rfl (fun _ _ => rfl) rfl 139 rfl flX7_119 dX7_leaveOutIdle_136 ?_
        exact gg_pure (gg_vret (S := sX7_leaveOutIdle) rfl dX7_leaveOutIdle_139 (by decide) (by decide))

set_option maxRecDepth 100000 in
set_option maxHeartbeats 4000000 in
theorem lkX7_line (x0 : Nat) (x1 : Int) (x2 : Int) : LK yX7_line sX7_line [vr (some x0), vi x1, vi x2] en_i (X7_line x0 x1 x2) := by
  refine lk_go (L := [(0, vr (some x0)), (1, vi x1), (2, vi x2)]) (by decide +kernel) rfl (fun h => by cases h) (Nat.le_of_ble_eq_true rfl) rfl ?_
  intro K
  unfold X7_line
  refine gg_iload_n (S := sX7_line) 1 1 rfl dX7_line_0 rfl rfl ?_
  refine gg_iconst (S := sX7_line) 2 rfl dX7_line_1 ?_
  refine gg_aload_n (S := sX7_line) 0 3 rfl dX7_line_2 rfl rfl ?_
  refine gg_gi (S := sX7_line) cfX7 (by decide) (fun _ _ => rfl) 6 rfl flX7_108 dX7_line_3 (fun t1 => ?_)
  refine gg_callSi (S := sX7_line) (S' := sX7_within) (cs := 0) (sl := 0) (As := [vi x1, vi 0, vi t1]) (st := []) 9 rfl (lkX7_within x1 0 t1) mwX7_within rfl mlX7_101 dX7_line_6 ⟨by decide, by decide⟩ 0 0 ⟨rfl, rfl⟩ ⟨by decide, by decide⟩ (Nat.le_of_ble_eq_true rfl) (fun t2 => ?_)
  refine gg_if_eq (S := sX7_line) (tgt := 22) 12 rfl dX7_line_9 (by decide) ?_ ?_
  · refine gg_bipush (S := sX7_line) 24 rfl dX7_line_22 (by decide) ?_
    exact gg_pure (gg_iret (S := sX7_line) rfl dX7_line_24 (by decide) (by decide))
  · refine gg_iload_n (S := sX7_line) 2 13 rfl dX7_line_12 rfl rfl ?_
    refine gg_iconst (S := sX7_line) 14 rfl dX7_line_13 ?_
    refine gg_bipush (S := sX7_line) 16 rfl dX7_line_14 (by decide) ?_
    refine gg_callSi (S := sX7_line) (S' := sX7_within) (cs := 0) (sl := 0) (As := [vi x2, vi 0, vi 99]) (st := []) 19 rfl (lkX7_within x2 0 99) mwX7_within rfl mlX7_101 dX7_line_16 ⟨by decide, by decide⟩ 0 0 ⟨rfl, rfl⟩ ⟨by decide, by decide⟩ (Nat.le_of_ble_eq_true rfl) (fun t3 => ?_)
    refine gg_if_ne (S := sX7_line) (tgt := 25) 22 rfl dX7_line_19 (by decide) ?_ ?_
    · refine gg_bipush (S := sX7_line) 24 rfl dX7_line_22 (by decide) ?_
      exact gg_pure (gg_iret (S := sX7_line) rfl dX7_line_24 (by decide) (by decide))
    · refine gg_aload_n (S := sX7_line) 0 26 rfl dX7_line_25 rfl rfl ?_
      refine gg_gi (S := sX7_line) cfX7 (by decide) (fun _ _ => rfl) 29 rfl flX7_108 dX7_line_26 (fun t4 => ?_)
      refine gg_bipush (S := sX7_line) 31 rfl dX7_line_29 (by decide) ?_
      refine gg_ic_ne (S := sX7_line) (tgt := 37) 34 rfl dX7_line_31 (by decide) ?_ ?_
      · refine gg_bipush (S := sX7_line) 36 rfl dX7_line_34 (by decide) ?_
        exact gg_pure (gg_iret (S := sX7_line) rfl dX7_line_36 (by decide) (by decide))
      · refine gg_aload_n (S := sX7_line) 0 38 rfl dX7_line_37 rfl rfl ?_
        refine gg_gi (S := sX7_line) cfX7 (by decide) (fun _ _ => rfl) 41 rfl flX7_108 dX7_line_38 (fun t5 => ?_)
        refine gg_istore_n (S := sX7_line) (L' := [(3, vi t5), (0, vr (some x0)), (1, vi x1), (2, vi x2)]) 42 rfl dX7_line_41 rfl (by decide) rfl ?_
        refine gg_sub [1, 2, 3, 0] rfl ?_
        refine gg_loopA (fun y6 => [(0, vr (some x0)), (1, vi x1), (2, vi x2), (3, vi y6)]) (fun _ => [(0, vr (some x0)), (1, vi x1), (2, vi x2)]) 67 mo_N ?_ ?_ t5
        · intro κ42 hr42 he42
          intro y6
          dsimp only [X7_line_L42]
          refine gg_iload_n (S := sX7_line) 3 43 rfl dX7_line_42 rfl rfl ?_
          refine gg_iload_n (S := sX7_line) 1 44 rfl dX7_line_43 rfl rfl ?_
          refine gg_ic_le (S := sX7_line) (tgt := 67) 47 rfl dX7_line_44 (by decide) ?_ ?_
          · exact gg_pure (gg_sub [0, 1, 2] rfl (he42 ()))
          · refine gg_aload_n (S := sX7_line) 0 48 rfl dX7_line_47 rfl rfl ?_
            refine gg_gr (S := sX7_line) cfX7 (by decide) (fun _ _ => rfl) 51 rfl flX7_7 dX7_line_48 (fun t7 => ?_)
            refine gg_iload_n (S := sX7_line) 3 52 rfl dX7_line_51 rfl rfl ?_
            refine gg_aload_n (S := sX7_line) 0 53 rfl dX7_line_52 rfl rfl ?_
            refine gg_gr (S := sX7_line) cfX7 (by decide) (fun _ _ => rfl) 56 rfl flX7_7 dX7_line_53 (fun t8 => ?_)
            refine gg_iload_n (S := sX7_line) 3 57 rfl dX7_line_56 rfl rfl ?_
            refine gg_iconst (S := sX7_line) 58 rfl dX7_line_57 ?_
            refine gg_isub (S := sX7_line) 59 rfl dX7_line_58 ?_
            refine gg_ld (S := sX7_line) 60 rfl dX7_line_59 (fun t9 => ?_)
            refine gg_st (S := sX7_line) 61 rfl dX7_line_60 ?_
            refine gg_iinc (S := sX7_line) (L' := [(3, vi (y6 + (-1))), (0, vr (some x0)), (1, vi x1), (2, vi x2)]) 3 64 rfl dX7_line_61 rfl (by decide) rfl ?_
            refine gg_goto (S := sX7_line) (tgt := 42) dX7_line_64 (by decide) ?_
            exact gg_pure (gg_sub [1, 2, 3, 0] rfl (hr42 (y6 + (-1))))
        · intro _
          refine gg_aload_n (S := sX7_line) 0 68 rfl dX7_line_67 rfl rfl ?_
          refine gg_gr (S := sX7_line) cfX7 (by decide) (fun _ _ => rfl) 71 rfl flX7_7 dX7_line_68 (fun t10 => ?_)
          refine gg_iload_n (S := sX7_line) 1 72 rfl dX7_line_71 rfl rfl ?_
          refine gg_iload_n (S := sX7_line) 2 73 rfl dX7_line_72 rfl rfl ?_
          refine gg_st (S := sX7_line) 74 rfl dX7_line_73 ?_
          refine gg_aload_n (S := sX7_line) 0 75 rfl dX7_line_74 rfl rfl ?_
          refine gg_dup (S := sX7_line) 76 rfl dX7_line_75 rfl ?_
          refine gg_gi (S := sX7_line) cfX7 (by decide) (fun _ _ => rfl) 79 rfl flX7_108 dX7_line_76 (fun t11 => ?_)
          refine gg_iconst (S := sX7_line) 80 rfl dX7_line_79 ?_
          refine gg_iadd (S := sX7_line) 81 rfl dX7_line_80 ?_
          refine gg_si (S := sX7_line) cfX7 (by decide) rfl (fun _ _ => rfl) rfl 84 rfl flX7_108 dX7_line_81 ?_
          refine gg_aload_n (S := sX7_line) 0 85 rfl dX7_line_84 rfl rfl ?_
          refine gg_gi (S := sX7_line) cfX7 (by decide) (fun _ _ => rfl) 88 rfl flX7_108 dX7_line_85 (fun t12 => ?_)
          exact gg_pure (gg_iret (S := sX7_line) rfl dX7_line_88 (by decide) (by decide))

set_option maxRecDepth 100000 in
set_option maxHeartbeats 4000000 in
theorem lkX7_loose (x0 : Nat) (x1 : Int) : LK yX7_loose sX7_loose [vr (some x0), vi x1] en_i (X7_loose x0 x1) := by
  refine lk_go (L := [(0, vr (some x0)), (1, vi x1)]) (by decide +kernel) rfl (fun h => by cases h) (Nat.le_of_ble_eq_true rfl) rfl ?_
  intro K
  unfold X7_loose
  refine gg_aload_n (S := sX7_loose) 0 1 rfl dX7_loose_0 rfl rfl ?_
  refine gg_iload_n (S := sX7_loose) 1 2 rfl dX7_loose_1 rfl rfl ?_
  refine gg_callVi (S := sX7_loose) (S' := sX7_isPatch) (cs := 0) (sl := 0) (As := [vi x1]) (st := []) 5 rfl (fun b30 => lkX7_isPatch b30 x1) mwX7_isPatch rfl mlX7_155 dX7_loose_2 cfX7 ⟨by decide, by decide⟩ 0 0 ⟨rfl, rfl⟩ ⟨by decide, by decide⟩ (Nat.le_of_ble_eq_true rfl) (fun t1 => ?_)
  refine gg_if_ne (S := sX7_loose) (tgt := 11) 8 rfl dX7_loose_5 (by decide) ?_ ?_
  · refine gg_bipush (S := sX7_loose) 10 rfl dX7_loose_8 (by decide) ?_
    exact gg_pure (gg_iret (S := sX7_loose) rfl dX7_loose_10 (by decide) (by decide))
  · refine gg_aload_n (S := sX7_loose) 0 12 rfl dX7_loose_11 rfl rfl ?_
    refine gg_callVv (S := sX7_loose) (S' := sX7_workOnDesk) (cs := 0) (sl := 0) (As := []) (st := []) 15 rfl (fun b29 => lkX7_workOnDesk b29) mwX7_workOnDesk rfl mlX7_185 dX7_loose_12 cfX7 ⟨by decide, by decide⟩ 0 0 ⟨rfl, rfl⟩ ⟨by decide, by decide⟩ (Nat.le_of_ble_eq_true rfl) (fun _ => ?_)
    refine gg_iconst (S := sX7_loose) 16 rfl dX7_loose_15 ?_
    refine gg_istore_n (S := sX7_loose) (L' := [(2, vi 0), (0, vr (some x0)), (1, vi x1)]) 17 rfl dX7_loose_16 rfl (by decide) rfl ?_
    refine gg_iconst (S := sX7_loose) 18 rfl dX7_loose_17 ?_
    refine gg_istore_n (S := sX7_loose) (L' := [(3, vi 0), (2, vi 0), (0, vr (some x0)), (1, vi x1)]) 19 rfl dX7_loose_18 rfl (by decide) rfl ?_
    refine gg_iconst (S := sX7_loose) 20 rfl dX7_loose_19 ?_
    refine gg_istore (S := sX7_loose) (L' := [(4, vi 0), (3, vi 0), (2, vi 0), (0, vr (some x0)), (1, vi x1)]) 22 rfl dX7_loose_20 (by decide) rfl ?_
    refine gg_iconst (S := sX7_loose) 23 rfl dX7_loose_22 ?_
    refine gg_istore (S := sX7_loose) (L' := [(5, vi 0), (4, vi 0), (3, vi 0), (2, vi 0), (0, vr (some x0)), (1, vi x1)]) 25 rfl dX7_loose_23 (by decide) rfl ?_
    refine gg_sub [4, 5, 3, 2, 1, 0] rfl ?_
    refine gg_loop (fun (y2, y3, y4, y5) => [(0, vr (some x0)), (1, vi x1), (2, vi y2), (3, vi y3), (4, vi y4), (5, vi y5)]) mo_N ?_ (0, 0, 0, 0)
    · intro rec25 hr25
      rintro ⟨y2, y3, y4, y5⟩
      dsimp only [X7_loose_L25]
      refine gg_iload (S := sX7_loose) 5 27 rfl dX7_loose_25 rfl ?_
      refine gg_aload_n (S := sX7_loose) 0 28 rfl dX7_loose_27 rfl rfl ?_
      refine gg_gr (S := sX7_loose) cfX7 (by decide) (fun _ _ => rfl) 31 rfl flX7_28 dX7_loose_28 (fun t6 => ?_)
      refine gg_iload_n (S := sX7_loose) 1 32 rfl dX7_loose_31 rfl rfl ?_
      refine gg_ld (S := sX7_loose) 33 rfl dX7_loose_32 (fun t7 => ?_)
      refine gg_ic_ge (S := sX7_loose) (tgt := 249) 36 rfl dX7_loose_33 (by decide) ?_ ?_
      · refine gg_aload_n (S := sX7_loose) 0 37 rfl dX7_loose_36 rfl rfl ?_
        refine gg_gr (S := sX7_loose) cfX7 (by decide) (fun _ _ => rfl) 40 rfl flX7_31 dX7_loose_37 (fun t10 => ?_)
        refine gg_bipush (S := sX7_loose) 42 rfl dX7_loose_40 (by decide) ?_
        refine gg_iload_n (S := sX7_loose) 1 43 rfl dX7_loose_42 rfl rfl ?_
        refine gg_imul (S := sX7_loose) 44 rfl dX7_loose_43 ?_
        refine gg_iload (S := sX7_loose) 5 46 rfl dX7_loose_44 rfl ?_
        refine gg_iadd (S := sX7_loose) 47 rfl dX7_loose_46 ?_
        refine gg_ld (S := sX7_loose) 48 rfl dX7_loose_47 (fun t11 => ?_)
        refine gg_iload_n (S := sX7_loose) 2 49 rfl dX7_loose_48 rfl rfl ?_
        refine gg_iadd (S := sX7_loose) 50 rfl dX7_loose_49 ?_
        refine gg_istore (S := sX7_loose) (L' := [(6, vi (t11 + y2)), (0, vr (some x0)), (1, vi x1), (2, vi y2), (3, vi y3), (4, vi y4), (5, vi y5)]) 52 rfl dX7_loose_50 (by decide) rfl ?_
        refine gg_iconst (S := sX7_loose) 53 rfl dX7_loose_52 ?_
        refine gg_istore (S := sX7_loose) (L' := [(7, vi (-1)), (6, vi (t11 + y2)), (0, vr (some x0)), (1, vi x1), (2, vi y2), (3, vi y3), (4, vi y4), (5, vi y5)]) 55 rfl dX7_loose_53 (by decide) rfl ?_
        refine gg_iconst (S := sX7_loose) 56 rfl dX7_loose_55 ?_
        refine gg_istore (S := sX7_loose) (L' := [(8, vi 0), (7, vi (-1)), (6, vi (t11 + y2)), (0, vr (some x0)), (1, vi x1), (2, vi y2), (3, vi y3), (4, vi y4), (5, vi y5)]) 58 rfl dX7_loose_56 (by decide) rfl ?_
        refine gg_sub [3, 4, 5, 6, 7, 8, 2, 1, 0] rfl ?_
        refine gg_loopA (fun (y12, y13) => [(0, vr (some x0)), (1, vi x1), (2, vi y2), (3, vi y3), (4, vi y4), (5, vi y5), (6, vi (t11 + y2)), (7, vi y12), (8, vi y13)]) (fun t21 => [(0, vr (some x0)), (1, vi x1), (2, vi y2), (4, vi y4), (5, vi y5), (6, vi (t11 + y2)), (7, vi t21)]) 151 mo_N ?_ ?_ ((-1), 0)
        · intro κ58 hr58 he58
          rintro ⟨y12, y13⟩
          dsimp only [X7_loose_L58]
          refine gg_iload (S := sX7_loose) 8 60 rfl dX7_loose_58 rfl ?_
          refine gg_sipush (S := sX7_loose) 63 rfl dX7_loose_60 (by decide) ?_
          refine gg_ic_ge (S := sX7_loose) (tgt := 151) 66 rfl dX7_loose_63 (by decide) ?_ ?_
          · refine gg_iload (S := sX7_loose) 7 68 rfl dX7_loose_66 rfl ?_
            refine gg_iconst (S := sX7_loose) 69 rfl dX7_loose_68 ?_
            refine gg_ic_ne (S := sX7_loose) (tgt := 151) 72 rfl dX7_loose_69 (by decide) ?_ ?_
            · refine gg_iload (S := sX7_loose) 6 74 rfl dX7_loose_72 rfl ?_
              refine gg_iload (S := sX7_loose) 8 76 rfl dX7_loose_74 rfl ?_
              refine gg_isub (S := sX7_loose) 77 rfl dX7_loose_76 ?_
              refine gg_iload_n (S := sX7_loose) 3 78 rfl dX7_loose_77 rfl rfl ?_
              refine gg_join (fun t20 => [(0, vr (some x0)), (1, vi x1), (2, vi y2), (3, vi y3), (4, vi y4), (5, vi y5), (6, vi (t11 + y2)), (7, vi t20), (8, vi y13)]) (fun t20 => []) 145 0 0 (fun κ78 hJ78 => ?_) ?_
              · refine gg_cond [(0, vr (some x0)), (1, vi x1), (2, vi y2), (3, vi y3), (4, vi y4), (5, vi y5), (6, vi (t11 + y2)), (8, vi y13)] [(0, vr (some x0)), (1, vi x1), (2, vi y2), (3, vi y3), (4, vi y4), (5, vi y5), (6, vi (t11 + y2)), (7, vi y12), (8, vi y13)] [] 100 110 0 0 (fun κ78 hT78 hF78 => ?_) ?_ ?_
                · refine gg_ic_lt (S := sX7_loose) (tgt := 110) 81 rfl dX7_loose_78 (by decide) ?_ ?_
                  · exact gg_pure (gg_sub [0, 1, 2, 3, 4, 5, 6, 7, 8] rfl hF78)
                  · refine gg_aload_n (S := sX7_loose) 0 82 rfl dX7_loose_81 rfl rfl ?_
                    refine gg_iload_n (S := sX7_loose) 1 83 rfl dX7_loose_82 rfl rfl ?_
                    refine gg_iload (S := sX7_loose) 5 85 rfl dX7_loose_83 rfl ?_
                    refine gg_iload (S := sX7_loose) 6 87 rfl dX7_loose_85 rfl ?_
                    refine gg_iload (S := sX7_loose) 8 89 rfl dX7_loose_87 rfl ?_
                    refine gg_isub (S := sX7_loose) 90 rfl dX7_loose_89 ?_
                    refine gg_aload_n (S := sX7_loose) 0 91 rfl dX7_loose_90 rfl rfl ?_
                    refine gg_gi (S := sX7_loose) cfX7 (by decide) (fun _ _ => rfl) 94 rfl flX7_178 dX7_loose_91 (fun t14 => ?_)
                    refine gg_callVi (S := sX7_loose) (S' := sX7_stands) (cs := 0) (sl := 0) (As := [vi x1, vi y5, vi ((t11 + y2) - y13), vi t14]) (st := []) 97 rfl (fun b15 => lkX7_stands b15 x1 y5 ((t11 + y2) - y13) t14) mwX7_stands rfl mlX7_181 dX7_loose_94 cfX7 ⟨by decide, by decide⟩ 0 0 ⟨rfl, rfl⟩ ⟨by decide, by decide⟩ (Nat.le_of_ble_eq_true rfl) (fun t15 => ?_)
                    refine gg_if_eq (S := sX7_loose) (tgt := 110) 100 rfl dX7_loose_97 (by decide) ?_ ?_
                    · exact gg_pure (gg_sub [0, 1, 2, 3, 4, 5, 6, 7, 8] rfl hF78)
                    · exact gg_pure (gg_sub [0, 1, 2, 3, 4, 5, 6, 8] rfl hT78)
                · refine gg_iload (S := sX7_loose) 6 102 rfl dX7_loose_100 rfl ?_
                  refine gg_iload (S := sX7_loose) 7 104 rfl dX7_loose_102 rfl ?_
                  refine gg_isub (S := sX7_loose) 105 rfl dX7_loose_104 ?_
                  refine gg_istore (S := sX7_loose) (L' := [(7, vi ((t11 + y2) - y13)), (0, vr (some x0)), (1, vi x1), (2, vi y2), (3, vi y3), (4, vi y4), (5, vi y5), (6, vi (t11 + y2)), (8, vi y13)]) 107 rfl dX7_loose_105 (by decide) rfl ?_
                  refine gg_goto (S := sX7_loose) (tgt := 145) dX7_loose_107 (by decide) ?_
                  exact gg_pure (gg_sub [1, 2, 3, 4, 5, 6, 7, 0, 8] rfl (hJ78 ((t11 + y2) - y13)))
                · refine gg_iload (S := sX7_loose) 6 112 rfl dX7_loose_110 rfl ?_
                  refine gg_iload (S := sX7_loose) 8 114 rfl dX7_loose_112 rfl ?_
                  refine gg_iadd (S := sX7_loose) 115 rfl dX7_loose_114 ?_
                  refine gg_iload_n (S := sX7_loose) 3 116 rfl dX7_loose_115 rfl rfl ?_
                  refine gg_ic_lt (S := sX7_loose) (tgt := 145) 119 rfl dX7_loose_116 (by decide) ?_ ?_
                  · exact gg_pure (gg_sub [0, 1, 2, 3, 4, 5, 6, 7, 8] rfl (hJ78 y12))
                  · refine gg_aload_n (S := sX7_loose) 0 120 rfl dX7_loose_119 rfl rfl ?_
                    refine gg_iload_n (S := sX7_loose) 1 121 rfl dX7_loose_120 rfl rfl ?_
                    refine gg_iload (S := sX7_loose) 5 123 rfl dX7_loose_121 rfl ?_
                    refine gg_iload (S := sX7_loose) 6 125 rfl dX7_loose_123 rfl ?_
                    refine gg_iload (S := sX7_loose) 8 127 rfl dX7_loose_125 rfl ?_
                    refine gg_iadd (S := sX7_loose) 128 rfl dX7_loose_127 ?_
                    refine gg_aload_n (S := sX7_loose) 0 129 rfl dX7_loose_128 rfl rfl ?_
                    refine gg_gi (S := sX7_loose) cfX7 (by decide) (fun _ _ => rfl) 132 rfl flX7_178 dX7_loose_129 (fun t17 => ?_)
                    refine gg_callVi (S := sX7_loose) (S' := sX7_stands) (cs := 0) (sl := 0) (As := [vi x1, vi y5, vi ((t11 + y2) + y13), vi t17]) (st := []) 135 rfl (fun b18 => lkX7_stands b18 x1 y5 ((t11 + y2) + y13) t17) mwX7_stands rfl mlX7_181 dX7_loose_132 cfX7 ⟨by decide, by decide⟩ 0 0 ⟨rfl, rfl⟩ ⟨by decide, by decide⟩ (Nat.le_of_ble_eq_true rfl) (fun t18 => ?_)
                    refine gg_if_eq (S := sX7_loose) (tgt := 145) 138 rfl dX7_loose_135 (by decide) ?_ ?_
                    · exact gg_pure (gg_sub [0, 1, 2, 3, 4, 5, 6, 7, 8] rfl (hJ78 y12))
                    · refine gg_iload (S := sX7_loose) 6 140 rfl dX7_loose_138 rfl ?_
                      refine gg_iload (S := sX7_loose) 8 142 rfl dX7_loose_140 rfl ?_
                      refine gg_iadd (S := sX7_loose) 143 rfl dX7_loose_142 ?_
                      refine gg_istore (S := sX7_loose) (L' := [(7, vi ((t11 + y2) + y13)), (0, vr (some x0)), (1, vi x1), (2, vi y2), (3, vi y3), (4, vi y4), (5, vi y5), (6, vi (t11 + y2)), (8, vi y13)]) 145 rfl dX7_loose_143 (by decide) rfl ?_
                      exact gg_pure (gg_sub [1, 2, 3, 4, 5, 6, 7, 0, 8] rfl (hJ78 ((t11 + y2) + y13)))
              · intro t20
                refine gg_iinc (S := sX7_loose) (L' := [(8, vi (y13 + 1)), (0, vr (some x0)), (1, vi x1), (2, vi y2), (3, vi y3), (4, vi y4), (5, vi y5), (6, vi (t11 + y2)), (7, vi t20)]) 8 148 rfl dX7_loose_145 rfl (by decide) rfl ?_
                refine gg_goto (S := sX7_loose) (tgt := 58) dX7_loose_148 (by decide) ?_
                exact gg_pure (gg_sub [1, 2, 3, 4, 5, 6, 7, 8, 0] rfl (hr58 (t20, (y13 + 1))))
            · exact gg_pure (gg_sub [0, 1, 2, 4, 5, 6, 7] rfl (he58 y12))
          · exact gg_pure (gg_sub [0, 1, 2, 4, 5, 6, 7] rfl (he58 y12))
        · intro t21
          refine gg_iload (S := sX7_loose) 6 153 rfl dX7_loose_151 rfl ?_
          refine gg_iconst (S := sX7_loose) 154 rfl dX7_loose_153 ?_
          refine gg_ic_ne (S := sX7_loose) (tgt := 160) 157 rfl dX7_loose_154 (by decide) ?_ ?_
          · refine gg_bipush (S := sX7_loose) 159 rfl dX7_loose_157 (by decide) ?_
            exact gg_pure (gg_iret (S := sX7_loose) rfl dX7_loose_159 (by decide) (by decide))
          · refine gg_aload_n (S := sX7_loose) 0 161 rfl dX7_loose_160 rfl rfl ?_
            refine gg_iload_n (S := sX7_loose) 1 162 rfl dX7_loose_161 rfl rfl ?_
            refine gg_iload (S := sX7_loose) 4 164 rfl dX7_loose_162 rfl ?_
            refine gg_iload (S := sX7_loose) 6 166 rfl dX7_loose_164 rfl ?_
            refine gg_callVv (S := sX7_loose) (S' := sX7_layHunk) (cs := 0) (sl := 0) (As := [vi x1, vi y5, vi t21]) (st := []) 169 rfl (fun b28 => lkX7_layHunk b28 x1 y5 t21) mwX7_layHunk rfl mlX7_191 dX7_loose_166 cfX7 ⟨by decide, by decide⟩ 0 0 ⟨rfl, rfl⟩ ⟨by decide, by decide⟩ (Nat.le_of_ble_eq_true rfl) (fun _ => ?_)
            refine gg_iload (S := sX7_loose) 6 171 rfl dX7_loose_169 rfl ?_
            refine gg_iload (S := sX7_loose) 5 173 rfl dX7_loose_171 rfl ?_
            refine gg_isub (S := sX7_loose) 174 rfl dX7_loose_173 ?_
            refine gg_istore (S := sX7_loose) (L' := [(8, vi (t21 - (t11 + y2))), (0, vr (some x0)), (1, vi x1), (2, vi y2), (4, vi y4), (5, vi y5), (6, vi (t11 + y2)), (7, vi t21)]) 176 rfl dX7_loose_174 (by decide) rfl ?_
            refine gg_iload (S := sX7_loose) 4 178 rfl dX7_loose_176 rfl ?_
            refine gg_iload (S := sX7_loose) 0 180 rfl dX7_loose_178 rfl ?_
            refine gg_join (fun t22 => [(0, vr (some x0)), (1, vi x1), (2, vi y2), (5, vi y5), (7, vi t21), (8, vi (t21 - (t11 + y2)))]) (fun t22 => [vi t22, vi y4]) 191 0 0 (fun κ180 hJ180 => ?_) ?_
            · refine gg_if_ge (S := sX7_loose) (tgt := 189) 183 rfl dX7_loose_180 (by decide) ?_ ?_
              · refine gg_iload (S := sX7_loose) 0 185 rfl dX7_loose_183 rfl ?_
                refine gg_ineg (S := sX7_loose) 186 rfl dX7_loose_185 ?_
                refine gg_goto (S := sX7_loose) (tgt := 191) dX7_loose_186 (by decide) ?_
                exact gg_pure (gg_sub [1, 2, 3, 5, 7, 0] rfl (hJ180 (-(t21 - (t11 + y2)))))
              · refine gg_iload (S := sX7_loose) 0 191 rfl dX7_loose_189 rfl ?_
                exact gg_pure (gg_sub [1, 2, 3, 5, 7, 0] rfl (hJ180 (t21 - (t11 + y2))))
            · intro t22
              refine gg_iadd (S := sX7_loose) 192 rfl dX7_loose_191 ?_
              refine gg_istore (S := sX7_loose) (L' := [(4, vi (y4 + t22)), (0, vr (some x0)), (1, vi x1), (2, vi y2), (5, vi y5), (7, vi t21), (8, vi (t21 - (t11 + y2)))]) 194 rfl dX7_loose_192 (by decide) rfl ?_
              refine gg_iload_n (S := sX7_loose) 3 195 rfl dX7_loose_194 rfl rfl ?_
              refine gg_iload (S := sX7_loose) 6 197 rfl dX7_loose_195 rfl ?_
              refine gg_aload_n (S := sX7_loose) 1 198 rfl dX7_loose_197 rfl rfl ?_
              refine gg_gr (S := sX7_loose) cfX7 (by decide) (fun _ _ => rfl) 201 rfl flX7_37 dX7_loose_198 (fun t23 => ?_)
              refine gg_bipush (S := sX7_loose) 203 rfl dX7_loose_201 (by decide) ?_
              refine gg_iload_n (S := sX7_loose) 2 204 rfl dX7_loose_203 rfl rfl ?_
              refine gg_imul (S := sX7_loose) 205 rfl dX7_loose_204 ?_
              refine gg_iload (S := sX7_loose) 4 207 rfl dX7_loose_205 rfl ?_
              refine gg_iadd (S := sX7_loose) 208 rfl dX7_loose_207 ?_
              refine gg_ld (S := sX7_loose) 209 rfl dX7_loose_208 (fun t24 => ?_)
              refine gg_iadd (S := sX7_loose) 210 rfl dX7_loose_209 ?_
              refine gg_aload_n (S := sX7_loose) 1 211 rfl dX7_loose_210 rfl rfl ?_
              refine gg_gr (S := sX7_loose) cfX7 (by decide) (fun _ _ => rfl) 214 rfl flX7_34 dX7_loose_211 (fun t25 => ?_)
              refine gg_bipush (S := sX7_loose) 216 rfl dX7_loose_214 (by decide) ?_
              refine gg_iload_n (S := sX7_loose) 2 217 rfl dX7_loose_216 rfl rfl ?_
              refine gg_imul (S := sX7_loose) 218 rfl dX7_loose_217 ?_
              refine gg_iload (S := sX7_loose) 4 220 rfl dX7_loose_218 rfl ?_
              refine gg_iadd (S := sX7_loose) 221 rfl dX7_loose_220 ?_
              refine gg_ld (S := sX7_loose) 222 rfl dX7_loose_221 (fun t26 => ?_)
              refine gg_isub (S := sX7_loose) 223 rfl dX7_loose_222 ?_
              refine gg_iadd (S := sX7_loose) 224 rfl dX7_loose_223 ?_
              refine gg_istore_n (S := sX7_loose) (L' := [(2, vi (y2 + (((t21 - (t11 + y2)) + t24) - t26))), (4, vi (y4 + t22)), (0, vr (some x0)), (1, vi x1), (5, vi y5), (7, vi t21), (8, vi (t21 - (t11 + y2)))]) 225 rfl dX7_loose_224 rfl (by decide) rfl ?_
              refine gg_iload (S := sX7_loose) 5 227 rfl dX7_loose_225 rfl ?_
              refine gg_aload_n (S := sX7_loose) 2 228 rfl dX7_loose_227 rfl rfl ?_
              refine gg_gr (S := sX7_loose) cfX7 (by decide) (fun _ _ => rfl) 231 rfl flX7_37 dX7_loose_228 (fun t27 => ?_)
              refine gg_bipush (S := sX7_loose) 233 rfl dX7_loose_231 (by decide) ?_
              refine gg_iload_n (S := sX7_loose) 3 234 rfl dX7_loose_233 rfl rfl ?_
              refine gg_imul (S := sX7_loose) 235 rfl dX7_loose_234 ?_
              refine gg_iload (S := sX7_loose) 4 237 rfl dX7_loose_235 rfl ?_
              refine gg_iadd (S := sX7_loose) 238 rfl dX7_loose_237 ?_
              refine gg_ld (S := sX7_loose) 239 rfl dX7_loose_238 (fun t28 => ?_)
              refine gg_iadd (S := sX7_loose) 240 rfl dX7_loose_239 ?_
              refine gg_iconst (S := sX7_loose) 241 rfl dX7_loose_240 ?_
              refine gg_iadd (S := sX7_loose) 242 rfl dX7_loose_241 ?_
              refine gg_istore_n (S := sX7_loose) (L' := [(3, vi ((t21 + t28) + 1)), (2, vi (y2 + (((t21 - (t11 + y2)) + t24) - t26))), (4, vi (y4 + t22)), (0, vr (some x0)), (1, vi x1), (5, vi y5), (7, vi t21), (8, vi (t21 - (t11 + y2)))]) 243 rfl dX7_loose_242 rfl (by decide) rfl ?_
              refine gg_iinc (S := sX7_loose) (L' := [(5, vi (y5 + 1)), (3, vi ((t21 + t28) + 1)), (2, vi (y2 + (((t21 - (t11 + y2)) + t24) - t26))), (4, vi (y4 + t22)), (0, vr (some x0)), (1, vi x1), (7, vi t21), (8, vi (t21 - (t11 + y2)))]) 5 246 rfl dX7_loose_243 rfl (by decide) rfl ?_
              refine gg_goto (S := sX7_loose) (tgt := 25) dX7_loose_246 (by decide) ?_
              exact gg_pure (gg_sub [4, 5, 2, 1, 3, 0] rfl (hr25 ((y2 + (((t21 - (t11 + y2)) + t24) - t26)), ((t21 + t28) + 1), (y4 + t22), (y5 + 1))))
      · refine gg_aload_n (S := sX7_loose) 0 250 rfl dX7_loose_249 rfl rfl ?_
        refine gg_gi (S := sX7_loose) cfX7 (by decide) (fun _ _ => rfl) 253 rfl flX7_178 dX7_loose_250 (fun t8 => ?_)
        refine gg_bipush (S := sX7_loose) 255 rfl dX7_loose_253 (by decide) ?_
        refine gg_ic_le (S := sX7_loose) (tgt := 261) 258 rfl dX7_loose_255 (by decide) ?_ ?_
        · refine gg_aload_n (S := sX7_loose) 0 262 rfl dX7_loose_261 rfl rfl ?_
          refine gg_callVv (S := sX7_loose) (S' := sX7_toDesk) (cs := 0) (sl := 0) (As := []) (st := []) 265 rfl (fun b8 => lkX7_toDesk b8) mwX7_toDesk rfl mlX7_195 dX7_loose_262 cfX7 ⟨by decide, by decide⟩ 0 0 ⟨rfl, rfl⟩ ⟨by decide, by decide⟩ (Nat.le_of_ble_eq_true rfl) (fun _ => ?_)
          refine gg_iload (S := sX7_loose) 4 267 rfl dX7_loose_265 rfl ?_
          exact gg_pure (gg_iret (S := sX7_loose) rfl dX7_loose_267 (by decide) (by decide))
        · refine gg_bipush (S := sX7_loose) 260 rfl dX7_loose_258 (by decide) ?_
          exact gg_pure (gg_iret (S := sX7_loose) rfl dX7_loose_260 (by decide) (by decide))

set_option maxRecDepth 100000 in
set_option maxHeartbeats 4000000 in
theorem lkX7_lostBy (x0 : Nat) (x1 : Int) (x2 : Int) : LK yX7_lostBy sX7_lostBy [vr (some x0), vi x1, vi x2] en_i (X7_lostBy x0 x1 x2) := by
  refine lk_go (L := [(0, vr (some x0)), (1, vi x1), (2, vi x2)]) (by decide +kernel) rfl (fun h => by cases h) (Nat.le_of_ble_eq_true rfl) rfl ?_
  intro K
  unfold X7_lostBy
  refine gg_iconst (S := sX7_lostBy) 1 rfl dX7_lostBy_0 ?_
  refine gg_istore_n (S := sX7_lostBy) (L' := [(3, vi 0), (0, vr (some x0)), (1, vi x1), (2, vi x2)]) 2 rfl dX7_lostBy_1 rfl (by decide) rfl ?_
  refine gg_iconst (S := sX7_lostBy) 3 rfl dX7_lostBy_2 ?_
  refine gg_istore (S := sX7_lostBy) (L' := [(4, vi 0), (3, vi 0), (0, vr (some x0)), (1, vi x1), (2, vi x2)]) 5 rfl dX7_lostBy_3 (by decide) rfl ?_
  refine gg_sub [2, 3, 4, 1, 0] rfl ?_
  refine gg_loopA (fun (y1, y2) => [(0, vr (some x0)), (1, vi x1), (2, vi x2), (3, vi y1), (4, vi y2)]) (fun t12 => [(3, vi t12)]) 79 mo_N ?_ ?_ (0, 0)
  · intro κ5 hr5 he5
    rintro ⟨y1, y2⟩
    dsimp only [X7_lostBy_L5]
    refine gg_iload (S := sX7_lostBy) 4 7 rfl dX7_lostBy_5 rfl ?_
    refine gg_iload_n (S := sX7_lostBy) 2 8 rfl dX7_lostBy_7 rfl rfl ?_
    refine gg_ic_ge (S := sX7_lostBy) (tgt := 79) 11 rfl dX7_lostBy_8 (by decide) ?_ ?_
    · refine gg_iconst (S := sX7_lostBy) 12 rfl dX7_lostBy_11 ?_
      refine gg_istore (S := sX7_lostBy) (L' := [(5, vi 0), (0, vr (some x0)), (1, vi x1), (2, vi x2), (3, vi y1), (4, vi y2)]) 14 rfl dX7_lostBy_12 (by decide) rfl ?_
      refine gg_iload (S := sX7_lostBy) 5 16 rfl dX7_lostBy_14 rfl ?_
      refine gg_istore (S := sX7_lostBy) (L' := [(6, vi y2), (5, vi 0), (0, vr (some x0)), (1, vi x1), (2, vi x2), (3, vi y1), (4, vi y2)]) 18 rfl dX7_lostBy_16 (by decide) rfl ?_
      refine gg_sub [2, 3, 4, 5, 6, 1, 0] rfl ?_
      refine gg_loopA (fun (y3, y4) => [(0, vr (some x0)), (1, vi x1), (2, vi x2), (3, vi y1), (4, vi y2), (5, vi y3), (6, vi y4)]) (fun t8 => [(0, vr (some x0)), (1, vi x1), (2, vi x2), (3, vi y1), (4, vi y2), (5, vi t8)]) 54 mo_N ?_ ?_ (0, y2)
      · intro κ18 hr18 he18
        rintro ⟨y3, y4⟩
        dsimp only [X7_lostBy_L18]
        refine gg_iload (S := sX7_lostBy) 6 20 rfl dX7_lostBy_18 rfl ?_
        refine gg_iconst (S := sX7_lostBy) 21 rfl dX7_lostBy_20 ?_
        refine gg_ic_eq (S := sX7_lostBy) (tgt := 54) 24 rfl dX7_lostBy_21 (by decide) ?_ ?_
        · exact gg_pure (gg_sub [0, 1, 2, 3, 4, 5] rfl (he18 y3))
        · refine gg_iload (S := sX7_lostBy) 5 26 rfl dX7_lostBy_24 rfl ?_
          refine gg_join (fun t5 => [(0, vr (some x0)), (1, vi x1), (2, vi x2), (3, vi y1), (4, vi y2), (6, vi y4)]) (fun t5 => [vi t5]) 40 0 0 (fun κ26 hJ26 => ?_) ?_
          · refine gg_if_ne (S := sX7_lostBy) (tgt := 35) 29 rfl dX7_lostBy_26 (by decide) ?_ ?_
            · refine gg_iload (S := sX7_lostBy) 6 31 rfl dX7_lostBy_29 rfl ?_
              refine gg_iload_n (S := sX7_lostBy) 1 32 rfl dX7_lostBy_31 rfl rfl ?_
              refine gg_ic_ne (S := sX7_lostBy) (tgt := 39) 35 rfl dX7_lostBy_32 (by decide) ?_ ?_
              · refine gg_iconst (S := sX7_lostBy) 36 rfl dX7_lostBy_35 ?_
                refine gg_goto (S := sX7_lostBy) (tgt := 40) dX7_lostBy_36 (by decide) ?_
                exact gg_pure (gg_sub [0, 1, 2, 3, 4, 6] rfl (hJ26 1))
              · refine gg_iconst (S := sX7_lostBy) 40 rfl dX7_lostBy_39 ?_
                exact gg_pure (gg_sub [0, 1, 2, 3, 4, 6] rfl (hJ26 0))
            · refine gg_iconst (S := sX7_lostBy) 36 rfl dX7_lostBy_35 ?_
              refine gg_goto (S := sX7_lostBy) (tgt := 40) dX7_lostBy_36 (by decide) ?_
              exact gg_pure (gg_sub [0, 1, 2, 3, 4, 6] rfl (hJ26 1))
          · intro t5
            refine gg_istore (S := sX7_lostBy) (L' := [(5, vi t5), (0, vr (some x0)), (1, vi x1), (2, vi x2), (3, vi y1), (4, vi y2), (6, vi y4)]) 42 rfl dX7_lostBy_40 (by decide) rfl ?_
            refine gg_aload_n (S := sX7_lostBy) 1 43 rfl dX7_lostBy_42 rfl rfl ?_
            refine gg_gr (S := sX7_lostBy) cfX7 (by decide) (fun _ _ => rfl) 46 rfl flX7_91 dX7_lostBy_43 (fun t6 => ?_)
            refine gg_iload (S := sX7_lostBy) 6 48 rfl dX7_lostBy_46 rfl ?_
            refine gg_ld (S := sX7_lostBy) 49 rfl dX7_lostBy_48 (fun t7 => ?_)
            refine gg_istore (S := sX7_lostBy) (L' := [(6, vi t7), (5, vi t5), (0, vr (some x0)), (1, vi x1), (2, vi x2), (3, vi y1), (4, vi y2)]) 51 rfl dX7_lostBy_49 (by decide) rfl ?_
            refine gg_goto (S := sX7_lostBy) (tgt := 18) dX7_lostBy_51 (by decide) ?_
            exact gg_pure (gg_sub [2, 3, 4, 5, 6, 1, 0] rfl (hr18 (t5, t7)))
      · intro t8
        refine gg_iload_n (S := sX7_lostBy) 3 55 rfl dX7_lostBy_54 rfl rfl ?_
        refine gg_iload (S := sX7_lostBy) 5 57 rfl dX7_lostBy_55 rfl ?_
        refine gg_join (fun t11 => [(0, vr (some x0)), (1, vi x1), (2, vi x2), (4, vi y2)]) (fun t11 => [vi t11, vi y1]) 71 0 0 (fun κ57 hJ57 => ?_) ?_
        · refine gg_if_eq (S := sX7_lostBy) (tgt := 70) 60 rfl dX7_lostBy_57 (by decide) ?_ ?_
          · refine gg_iconst (S := sX7_lostBy) 71 rfl dX7_lostBy_70 ?_
            exact gg_pure (gg_sub [0, 1, 2, 4] rfl (hJ57 0))
          · refine gg_aload_n (S := sX7_lostBy) 0 61 rfl dX7_lostBy_60 rfl rfl ?_
            refine gg_gr (S := sX7_lostBy) cfX7 (by decide) (fun _ _ => rfl) 64 rfl flX7_25 dX7_lostBy_61 (fun t9 => ?_)
            refine gg_iload (S := sX7_lostBy) 4 66 rfl dX7_lostBy_64 rfl ?_
            refine gg_ld (S := sX7_lostBy) 67 rfl dX7_lostBy_66 (fun t10 => ?_)
            refine gg_goto (S := sX7_lostBy) (tgt := 71) dX7_lostBy_67 (by decide) ?_
            exact gg_pure (gg_sub [0, 1, 2, 4] rfl (hJ57 t10))
        · intro t11
          refine gg_iadd (S := sX7_lostBy) 72 rfl dX7_lostBy_71 ?_
          refine gg_istore_n (S := sX7_lostBy) (L' := [(3, vi (y1 + t11)), (0, vr (some x0)), (1, vi x1), (2, vi x2), (4, vi y2)]) 73 rfl dX7_lostBy_72 rfl (by decide) rfl ?_
          refine gg_iinc (S := sX7_lostBy) (L' := [(4, vi (y2 + 1)), (3, vi (y1 + t11)), (0, vr (some x0)), (1, vi x1), (2, vi x2)]) 4 76 rfl dX7_lostBy_73 rfl (by decide) rfl ?_
          refine gg_goto (S := sX7_lostBy) (tgt := 5) dX7_lostBy_76 (by decide) ?_
          exact gg_pure (gg_sub [2, 3, 4, 1, 0] rfl (hr5 ((y1 + t11), (y2 + 1))))
    · exact gg_pure (gg_sub [3] rfl (he5 y1))
  · intro t12
    refine gg_iload_n (S := sX7_lostBy) 0 80 rfl dX7_lostBy_79 rfl rfl ?_
    exact gg_pure (gg_iret (S := sX7_lostBy) rfl dX7_lostBy_80 (by decide) (by decide))

set_option maxRecDepth 100000 in
set_option maxHeartbeats 4000000 in
theorem lkX7_of (x0 : Nat) (x1 : Int) (x2 : Int) : LK yX7_of sX7_of [vr (some x0), vi x1, vi x2] en_i (X7_of x0 x1 x2) := by
  refine lk_go (L := [(0, vr (some x0)), (1, vi x1), (2, vi x2)]) (by decide +kernel) rfl (fun h => by cases h) (Nat.le_of_ble_eq_true rfl) rfl ?_
  intro K
  unfold X7_of
  refine gg_aload_n (S := sX7_of) 0 1 rfl dX7_of_0 rfl rfl ?_
  refine gg_iload_n (S := sX7_of) 1 2 rfl dX7_of_1 rfl rfl ?_
  refine gg_callVi (S := sX7_of) (S' := sX7_isPatch) (cs := 0) (sl := 0) (As := [vi x1]) (st := []) 5 rfl (fun b5 => lkX7_isPatch b5 x1) mwX7_isPatch rfl mlX7_155 dX7_of_2 cfX7 ⟨by decide, by decide⟩ 0 0 ⟨rfl, rfl⟩ ⟨by decide, by decide⟩ (Nat.le_of_ble_eq_true rfl) (fun t1 => ?_)
  refine gg_if_ne (S := sX7_of) (tgt := 13) 8 rfl dX7_of_5 (by decide) ?_ ?_
  · refine gg_bipush (S := sX7_of) 10 rfl dX7_of_8 (by decide) ?_
    refine gg_goto (S := sX7_of) (tgt := 33) dX7_of_10 (by decide) ?_
    exact gg_pure (gg_iret (S := sX7_of) rfl dX7_of_33 (by decide) (by decide))
  · refine gg_iload_n (S := sX7_of) 2 14 rfl dX7_of_13 rfl rfl ?_
    refine gg_iconst (S := sX7_of) 15 rfl dX7_of_14 ?_
    refine gg_iconst (S := sX7_of) 16 rfl dX7_of_15 ?_
    refine gg_callSi (S := sX7_of) (S' := sX7_within) (cs := 0) (sl := 0) (As := [vi x2, vi 0, vi 3]) (st := []) 19 rfl (lkX7_within x2 0 3) mwX7_within rfl mlX7_101 dX7_of_16 ⟨by decide, by decide⟩ 0 0 ⟨rfl, rfl⟩ ⟨by decide, by decide⟩ (Nat.le_of_ble_eq_true rfl) (fun t2 => ?_)
    refine gg_if_eq (S := sX7_of) (tgt := 31) 22 rfl dX7_of_19 (by decide) ?_ ?_
    · refine gg_bipush (S := sX7_of) 33 rfl dX7_of_31 (by decide) ?_
      exact gg_pure (gg_iret (S := sX7_of) rfl dX7_of_33 (by decide) (by decide))
    · refine gg_aload_n (S := sX7_of) 0 23 rfl dX7_of_22 rfl rfl ?_
      refine gg_iload_n (S := sX7_of) 1 24 rfl dX7_of_23 rfl rfl ?_
      refine gg_iload_n (S := sX7_of) 2 25 rfl dX7_of_24 rfl rfl ?_
      refine gg_callVi (S := sX7_of) (S' := sX7_ofPatch) (cs := 0) (sl := 0) (As := [vi x1, vi x2]) (st := []) 28 rfl (fun b3 => lkX7_ofPatch b3 x1 x2) mwX7_ofPatch rfl mlX7_165 dX7_of_25 cfX7 ⟨by decide, by decide⟩ 0 0 ⟨rfl, rfl⟩ ⟨by decide, by decide⟩ (Nat.le_of_ble_eq_true rfl) (fun t3 => ?_)
      refine gg_goto (S := sX7_of) (tgt := 33) dX7_of_28 (by decide) ?_
      exact gg_pure (gg_iret (S := sX7_of) rfl dX7_of_33 (by decide) (by decide))

set_option maxRecDepth 100000 in
set_option maxHeartbeats 4000000 in
theorem lkX7_patch (x0 : Nat) (x1 : Int) (x2 : Int) : LK yX7_patch sX7_patch [vr (some x0), vi x1, vi x2] en_i (X7_patch x0 x1 x2) := by
  refine lk_go (L := [(0, vr (some x0)), (1, vi x1), (2, vi x2)]) (by decide +kernel) rfl (fun h => by cases h) (Nat.le_of_ble_eq_true rfl) rfl ?_
  intro K
  unfold X7_patch
  refine gg_aload_n (S := sX7_patch) 0 1 rfl dX7_patch_0 rfl rfl ?_
  refine gg_iload_n (S := sX7_patch) 1 2 rfl dX7_patch_1 rfl rfl ?_
  refine gg_callVi (S := sX7_patch) (S' := sX7_isVersion) (cs := 0) (sl := 0) (As := [vi x1]) (st := []) 5 rfl (fun b7 => lkX7_isVersion b7 x1) mwX7_isVersion rfl mlX7_111 dX7_patch_2 cfX7 ⟨by decide, by decide⟩ 0 0 ⟨rfl, rfl⟩ ⟨by decide, by decide⟩ (Nat.le_of_ble_eq_true rfl) (fun t1 => ?_)
  refine gg_if_eq (S := sX7_patch) (tgt := 16) 8 rfl dX7_patch_5 (by decide) ?_ ?_
  · refine gg_bipush (S := sX7_patch) 18 rfl dX7_patch_16 (by decide) ?_
    exact gg_pure (gg_iret (S := sX7_patch) rfl dX7_patch_18 (by decide) (by decide))
  · refine gg_aload_n (S := sX7_patch) 0 9 rfl dX7_patch_8 rfl rfl ?_
    refine gg_iload_n (S := sX7_patch) 2 10 rfl dX7_patch_9 rfl rfl ?_
    refine gg_callVi (S := sX7_patch) (S' := sX7_isVersion) (cs := 0) (sl := 0) (As := [vi x2]) (st := []) 13 rfl (fun b6 => lkX7_isVersion b6 x2) mwX7_isVersion rfl mlX7_111 dX7_patch_10 cfX7 ⟨by decide, by decide⟩ 0 0 ⟨rfl, rfl⟩ ⟨by decide, by decide⟩ (Nat.le_of_ble_eq_true rfl) (fun t2 => ?_)
    refine gg_if_ne (S := sX7_patch) (tgt := 19) 16 rfl dX7_patch_13 (by decide) ?_ ?_
    · refine gg_bipush (S := sX7_patch) 18 rfl dX7_patch_16 (by decide) ?_
      exact gg_pure (gg_iret (S := sX7_patch) rfl dX7_patch_18 (by decide) (by decide))
    · refine gg_aload_n (S := sX7_patch) 0 20 rfl dX7_patch_19 rfl rfl ?_
      refine gg_gi (S := sX7_patch) cfX7 (by decide) (fun _ _ => rfl) 23 rfl flX7_105 dX7_patch_20 (fun t3 => ?_)
      refine gg_bipush (S := sX7_patch) 25 rfl dX7_patch_23 (by decide) ?_
      refine gg_ic_ne (S := sX7_patch) (tgt := 31) 28 rfl dX7_patch_25 (by decide) ?_ ?_
      · refine gg_bipush (S := sX7_patch) 30 rfl dX7_patch_28 (by decide) ?_
        exact gg_pure (gg_iret (S := sX7_patch) rfl dX7_patch_30 (by decide) (by decide))
      · refine gg_aload_n (S := sX7_patch) 0 32 rfl dX7_patch_31 rfl rfl ?_
        refine gg_iload_n (S := sX7_patch) 1 33 rfl dX7_patch_32 rfl rfl ?_
        refine gg_iload_n (S := sX7_patch) 2 34 rfl dX7_patch_33 rfl rfl ?_
        refine gg_callVv (S := sX7_patch) (S' := sX7_layDifference) (cs := 0) (sl := 0) (As := [vi x1, vi x2]) (st := []) 37 rfl (fun b5 => lkX7_layDifference b5 x1 x2) mwX7_layDifference rfl mlX7_144 dX7_patch_34 cfX7 ⟨by decide, by decide⟩ 0 0 ⟨rfl, rfl⟩ ⟨by decide, by decide⟩ (Nat.le_of_ble_eq_true rfl) (fun _ => ?_)
        refine gg_aload_n (S := sX7_patch) 0 38 rfl dX7_patch_37 rfl rfl ?_
        refine gg_callVi (S := sX7_patch) (S' := sX7_storeWork) (cs := 0) (sl := 0) (As := []) (st := []) 41 rfl (fun b4 => lkX7_storeWork b4) mwX7_storeWork rfl mlX7_152 dX7_patch_38 cfX7 ⟨by decide, by decide⟩ 0 0 ⟨rfl, rfl⟩ ⟨by decide, by decide⟩ (Nat.le_of_ble_eq_true rfl) (fun t4 => ?_)
        exact gg_pure (gg_iret (S := sX7_patch) rfl dX7_patch_41 (by decide) (by decide))

set_option maxRecDepth 100000 in
set_option maxHeartbeats 4000000 in
theorem lkX7_pieceRoom (x0 : Nat) (x1 : Int) : LK yX7_pieceRoom sX7_pieceRoom [vr (some x0), vi x1] en_i (X7_pieceRoom x0 x1) := by
  refine lk_go (L := [(0, vr (some x0)), (1, vi x1)]) (by decide +kernel) rfl (fun h => by cases h) (Nat.le_of_ble_eq_true rfl) rfl ?_
  intro K
  unfold X7_pieceRoom
  refine gg_aload_n (S := sX7_pieceRoom) 0 1 rfl dX7_pieceRoom_0 rfl rfl ?_
  refine gg_gr (S := sX7_pieceRoom) cfX7 (by decide) (fun _ _ => rfl) 4 rfl flX7_91 dX7_pieceRoom_1 (fun t1 => ?_)
  refine gg_iload_n (S := sX7_pieceRoom) 1 5 rfl dX7_pieceRoom_4 rfl rfl ?_
  refine gg_ld (S := sX7_pieceRoom) 6 rfl dX7_pieceRoom_5 (fun t2 => ?_)
  refine gg_iconst (S := sX7_pieceRoom) 7 rfl dX7_pieceRoom_6 ?_
  refine gg_ic_ne (S := sX7_pieceRoom) (tgt := 22) 10 rfl dX7_pieceRoom_7 (by decide) ?_ ?_
  · refine gg_aload_n (S := sX7_pieceRoom) 0 11 rfl dX7_pieceRoom_10 rfl rfl ?_
    refine gg_gr (S := sX7_pieceRoom) cfX7 (by decide) (fun _ _ => rfl) 14 rfl flX7_82 dX7_pieceRoom_11 (fun t7 => ?_)
    refine gg_bipush (S := sX7_pieceRoom) 16 rfl dX7_pieceRoom_14 (by decide) ?_
    refine gg_iload_n (S := sX7_pieceRoom) 1 17 rfl dX7_pieceRoom_16 rfl rfl ?_
    refine gg_imul (S := sX7_pieceRoom) 18 rfl dX7_pieceRoom_17 ?_
    refine gg_ld (S := sX7_pieceRoom) 19 rfl dX7_pieceRoom_18 (fun t8 => ?_)
    refine gg_goto (S := sX7_pieceRoom) (tgt := 38) dX7_pieceRoom_19 (by decide) ?_
    exact gg_pure (gg_iret (S := sX7_pieceRoom) rfl dX7_pieceRoom_38 (by decide) (by decide))
  · refine gg_aload_n (S := sX7_pieceRoom) 0 23 rfl dX7_pieceRoom_22 rfl rfl ?_
    refine gg_gr (S := sX7_pieceRoom) cfX7 (by decide) (fun _ _ => rfl) 26 rfl flX7_82 dX7_pieceRoom_23 (fun t3 => ?_)
    refine gg_bipush (S := sX7_pieceRoom) 28 rfl dX7_pieceRoom_26 (by decide) ?_
    refine gg_iload_n (S := sX7_pieceRoom) 1 29 rfl dX7_pieceRoom_28 rfl rfl ?_
    refine gg_imul (S := sX7_pieceRoom) 30 rfl dX7_pieceRoom_29 ?_
    refine gg_aload_n (S := sX7_pieceRoom) 0 31 rfl dX7_pieceRoom_30 rfl rfl ?_
    refine gg_gr (S := sX7_pieceRoom) cfX7 (by decide) (fun _ _ => rfl) 34 rfl flX7_91 dX7_pieceRoom_31 (fun t4 => ?_)
    refine gg_iload_n (S := sX7_pieceRoom) 1 35 rfl dX7_pieceRoom_34 rfl rfl ?_
    refine gg_ld (S := sX7_pieceRoom) 36 rfl dX7_pieceRoom_35 (fun t5 => ?_)
    refine gg_iadd (S := sX7_pieceRoom) 37 rfl dX7_pieceRoom_36 ?_
    refine gg_ld (S := sX7_pieceRoom) 38 rfl dX7_pieceRoom_37 (fun t6 => ?_)
    exact gg_pure (gg_iret (S := sX7_pieceRoom) rfl dX7_pieceRoom_38 (by decide) (by decide))

set_option maxRecDepth 100000 in
set_option maxHeartbeats 4000000 in
theorem lkX7_worstPiece (x0 : Nat) (x1 : Int) (x2 : Int) : LK yX7_worstPiece sX7_worstPiece [vr (some x0), vi x1, vi x2] en_i (X7_worstPiece x0 x1 x2) := by
  refine lk_go (L := [(0, vr (some x0)), (1, vi x1), (2, vi x2)]) (by decide +kernel) rfl (fun h => by cases h) (Nat.le_of_ble_eq_true rfl) rfl ?_
  intro K
  unfold X7_worstPiece
  refine gg_iconst (S := sX7_worstPiece) 1 rfl dX7_worstPiece_0 ?_
  refine gg_istore_n (S := sX7_worstPiece) (L' := [(3, vi (-1)), (0, vr (some x0)), (1, vi x1), (2, vi x2)]) 2 rfl dX7_worstPiece_1 rfl (by decide) rfl ?_
  refine gg_iconst (S := sX7_worstPiece) 3 rfl dX7_worstPiece_2 ?_
  refine gg_istore (S := sX7_worstPiece) (L' := [(4, vi 0), (3, vi (-1)), (0, vr (some x0)), (1, vi x1), (2, vi x2)]) 5 rfl dX7_worstPiece_3 (by decide) rfl ?_
  refine gg_sub [2, 3, 4, 1, 0] rfl ?_
  refine gg_loopA (fun (y1, y2) => [(0, vr (some x0)), (1, vi x1), (2, vi x2), (3, vi y1), (4, vi y2)]) (fun t8 => [(3, vi t8)]) 51 mo_N ?_ ?_ ((-1), 0)
  · intro κ5 hr5 he5
    rintro ⟨y1, y2⟩
    dsimp only [X7_worstPiece_L5]
    refine gg_iload (S := sX7_worstPiece) 4 7 rfl dX7_worstPiece_5 rfl ?_
    refine gg_iload_n (S := sX7_worstPiece) 1 8 rfl dX7_worstPiece_7 rfl rfl ?_
    refine gg_ic_ge (S := sX7_worstPiece) (tgt := 51) 11 rfl dX7_worstPiece_8 (by decide) ?_ ?_
    · refine gg_iload (S := sX7_worstPiece) 4 13 rfl dX7_worstPiece_11 rfl ?_
      refine gg_iload_n (S := sX7_worstPiece) 2 14 rfl dX7_worstPiece_13 rfl rfl ?_
      refine gg_join (fun t7 => [(0, vr (some x0)), (1, vi x1), (2, vi x2), (4, vi y2)]) (fun t7 => [vi t7]) 44 0 0 (fun κ14 hJ14 => ?_) ?_
      · refine gg_ic_eq (S := sX7_worstPiece) (tgt := 43) 17 rfl dX7_worstPiece_14 (by decide) ?_ ?_
        · refine gg_iload_n (S := sX7_worstPiece) 3 44 rfl dX7_worstPiece_43 rfl rfl ?_
          exact gg_pure (gg_sub [0, 1, 2, 4] rfl (hJ14 y1))
        · refine gg_iload_n (S := sX7_worstPiece) 3 18 rfl dX7_worstPiece_17 rfl rfl ?_
          refine gg_iconst (S := sX7_worstPiece) 19 rfl dX7_worstPiece_18 ?_
          refine gg_ic_eq (S := sX7_worstPiece) (tgt := 38) 22 rfl dX7_worstPiece_19 (by decide) ?_ ?_
          · refine gg_iload (S := sX7_worstPiece) 4 40 rfl dX7_worstPiece_38 rfl ?_
            refine gg_goto (S := sX7_worstPiece) (tgt := 44) dX7_worstPiece_40 (by decide) ?_
            exact gg_pure (gg_sub [0, 1, 2, 4] rfl (hJ14 y2))
          · refine gg_aload_n (S := sX7_worstPiece) 0 23 rfl dX7_worstPiece_22 rfl rfl ?_
            refine gg_iload (S := sX7_worstPiece) 4 25 rfl dX7_worstPiece_23 rfl ?_
            refine gg_iload_n (S := sX7_worstPiece) 1 26 rfl dX7_worstPiece_25 rfl rfl ?_
            refine gg_callVi (S := sX7_worstPiece) (S' := sX7_lostBy) (cs := 0) (sl := 0) (As := [vi y2, vi x1]) (st := []) 29 rfl (fun b5 => lkX7_lostBy b5 y2 x1) mwX7_lostBy rfl mlX7_292 dX7_worstPiece_26 cfX7 ⟨by decide, by decide⟩ 0 0 ⟨rfl, rfl⟩ ⟨by decide, by decide⟩ (Nat.le_of_ble_eq_true rfl) (fun t3 => ?_)
            refine gg_aload_n (S := sX7_worstPiece) 0 30 rfl dX7_worstPiece_29 rfl rfl ?_
            refine gg_iload_n (S := sX7_worstPiece) 3 31 rfl dX7_worstPiece_30 rfl rfl ?_
            refine gg_iload_n (S := sX7_worstPiece) 1 32 rfl dX7_worstPiece_31 rfl rfl ?_
            refine gg_callVi (S := sX7_worstPiece) (S' := sX7_lostBy) (cs := 0) (sl := 0) (As := [vi y1, vi x1]) (st := [vi t3]) 35 rfl (fun b4 => lkX7_lostBy b4 y1 x1) mwX7_lostBy rfl mlX7_292 dX7_worstPiece_32 cfX7 ⟨by decide, by decide⟩ 0 0 ⟨rfl, rfl⟩ ⟨by decide, by decide⟩ (Nat.le_of_ble_eq_true rfl) (fun t4 => ?_)
            refine gg_ic_le (S := sX7_worstPiece) (tgt := 43) 38 rfl dX7_worstPiece_35 (by decide) ?_ ?_
            · refine gg_iload_n (S := sX7_worstPiece) 3 44 rfl dX7_worstPiece_43 rfl rfl ?_
              exact gg_pure (gg_sub [0, 1, 2, 4] rfl (hJ14 y1))
            · refine gg_iload (S := sX7_worstPiece) 4 40 rfl dX7_worstPiece_38 rfl ?_
              refine gg_goto (S := sX7_worstPiece) (tgt := 44) dX7_worstPiece_40 (by decide) ?_
              exact gg_pure (gg_sub [0, 1, 2, 4] rfl (hJ14 y2))
      · intro t7
        refine gg_istore_n (S := sX7_worstPiece) (L' := [(3, vi t7), (0, vr (some x0)), (1, vi x1), (2, vi x2), (4, vi y2)]) 45 rfl dX7_worstPiece_44 rfl (by decide) rfl ?_
        refine gg_iinc (S := sX7_worstPiece) (L' := [(4, vi (y2 + 1)), (3, vi t7), (0, vr (some x0)), (1, vi x1), (2, vi x2)]) 4 48 rfl dX7_worstPiece_45 rfl (by decide) rfl ?_
        refine gg_goto (S := sX7_worstPiece) (tgt := 5) dX7_worstPiece_48 (by decide) ?_
        exact gg_pure (gg_sub [2, 3, 4, 1, 0] rfl (hr5 (t7, (y2 + 1))))
    · exact gg_pure (gg_sub [3] rfl (he5 y1))
  · intro t8
    refine gg_iload_n (S := sX7_worstPiece) 0 52 rfl dX7_worstPiece_51 rfl rfl ?_
    exact gg_pure (gg_iret (S := sX7_worstPiece) rfl dX7_worstPiece_52 (by decide) (by decide))

set_option maxRecDepth 100000 in
set_option maxHeartbeats 4000000 in
theorem lkX7_worstThen (x0 : Nat) (x1 : Int) (x2 : Int) : LK yX7_worstThen sX7_worstThen [vr (some x0), vi x1, vi x2] en_i (X7_worstThen x0 x1 x2) := by
  refine lk_go (L := [(0, vr (some x0)), (1, vi x1), (2, vi x2)]) (by decide +kernel) rfl (fun h => by cases h) (Nat.le_of_ble_eq_true rfl) rfl ?_
  intro K
  unfold X7_worstThen
  refine gg_aload_n (S := sX7_worstThen) 0 1 rfl dX7_worstThen_0 rfl rfl ?_
  refine gg_iload_n (S := sX7_worstThen) 1 2 rfl dX7_worstThen_1 rfl rfl ?_
  refine gg_iload_n (S := sX7_worstThen) 2 3 rfl dX7_worstThen_2 rfl rfl ?_
  refine gg_callVi (S := sX7_worstThen) (S' := sX7_worstPiece) (cs := 0) (sl := 0) (As := [vi x1, vi x2]) (st := []) 6 rfl (fun b3 => lkX7_worstPiece b3 x1 x2) mwX7_worstPiece rfl mlX7_295 dX7_worstThen_3 cfX7 ⟨by decide, by decide⟩ 0 0 ⟨rfl, rfl⟩ ⟨by decide, by decide⟩ (Nat.le_of_ble_eq_true rfl) (fun t1 => ?_)
  refine gg_istore_n (S := sX7_worstThen) (L' := [(3, vi t1), (0, vr (some x0)), (1, vi x1), (2, vi x2)]) 7 rfl dX7_worstThen_6 rfl (by decide) rfl ?_
  refine gg_iload_n (S := sX7_worstThen) 0 8 rfl dX7_worstThen_7 rfl rfl ?_
  refine gg_iconst (S := sX7_worstThen) 9 rfl dX7_worstThen_8 ?_
  refine gg_ic_ne (S := sX7_worstThen) (tgt := 16) 12 rfl dX7_worstThen_9 (by decide) ?_ ?_
  · refine gg_iconst (S := sX7_worstThen) 13 rfl dX7_worstThen_12 ?_
    refine gg_goto (S := sX7_worstThen) (tgt := 22) dX7_worstThen_13 (by decide) ?_
    exact gg_pure (gg_iret (S := sX7_worstThen) rfl dX7_worstThen_22 (by decide) (by decide))
  · refine gg_aload_n (S := sX7_worstThen) 1 17 rfl dX7_worstThen_16 rfl rfl ?_
    refine gg_iload_n (S := sX7_worstThen) 0 18 rfl dX7_worstThen_17 rfl rfl ?_
    refine gg_iload_n (S := sX7_worstThen) 2 19 rfl dX7_worstThen_18 rfl rfl ?_
    refine gg_callVi (S := sX7_worstThen) (S' := sX7_lostBy) (cs := 0) (sl := 0) (As := [vi t1, vi x1]) (st := []) 22 rfl (fun b2 => lkX7_lostBy b2 t1 x1) mwX7_lostBy rfl mlX7_292 dX7_worstThen_19 cfX7 ⟨by decide, by decide⟩ 0 0 ⟨rfl, rfl⟩ ⟨by decide, by decide⟩ (Nat.le_of_ble_eq_true rfl) (fun t2 => ?_)
    exact gg_pure (gg_iret (S := sX7_worstThen) rfl dX7_worstThen_22 (by decide) (by decide))

set_option maxRecDepth 100000 in
set_option maxHeartbeats 4000000 in
theorem lkX7_saved (x0 : Nat) (x1 : Int) (x2 : Int) (x3 : Int) (x4 : Int) : LK yX7_saved sX7_saved [vr (some x0), vi x1, vi x2, vi x3, vi x4] en_i (X7_saved x0 x1 x2 x3 x4) := by
  refine lk_go (L := [(0, vr (some x0)), (1, vi x1), (2, vi x2), (3, vi x3), (4, vi x4)]) (by decide +kernel) rfl (fun h => by cases h) (Nat.le_of_ble_eq_true rfl) rfl ?_
  intro K
  unfold X7_saved
  refine gg_aload_n (S := sX7_saved) 0 1 rfl dX7_saved_0 rfl rfl ?_
  refine gg_iload_n (S := sX7_saved) 1 2 rfl dX7_saved_1 rfl rfl ?_
  refine gg_iload_n (S := sX7_saved) 2 3 rfl dX7_saved_2 rfl rfl ?_
  refine gg_callVi (S := sX7_saved) (S' := sX7_isAsk) (cs := 0) (sl := 0) (As := [vi x1, vi x2]) (st := []) 6 rfl (fun b27 => lkX7_isAsk b27 x1 x2) mwX7_isAsk rfl mlX7_283 dX7_saved_3 cfX7 ⟨by decide, by decide⟩ 0 0 ⟨rfl, rfl⟩ ⟨by decide, by decide⟩ (Nat.le_of_ble_eq_true rfl) (fun t1 => ?_)
  refine gg_if_eq (S := sX7_saved) (tgt := 29) 9 rfl dX7_saved_6 (by decide) ?_ ?_
  · refine gg_bipush (S := sX7_saved) 31 rfl dX7_saved_29 (by decide) ?_
    exact gg_pure (gg_iret (S := sX7_saved) rfl dX7_saved_31 (by decide) (by decide))
  · refine gg_iload_n (S := sX7_saved) 3 10 rfl dX7_saved_9 rfl rfl ?_
    refine gg_iconst (S := sX7_saved) 11 rfl dX7_saved_10 ?_
    refine gg_bipush (S := sX7_saved) 13 rfl dX7_saved_11 (by decide) ?_
    refine gg_callSi (S := sX7_saved) (S' := sX7_within) (cs := 0) (sl := 0) (As := [vi x3, vi 0, vi 99]) (st := []) 16 rfl (lkX7_within x3 0 99) mwX7_within rfl mlX7_101 dX7_saved_13 ⟨by decide, by decide⟩ 0 0 ⟨rfl, rfl⟩ ⟨by decide, by decide⟩ (Nat.le_of_ble_eq_true rfl) (fun t2 => ?_)
    refine gg_if_eq (S := sX7_saved) (tgt := 29) 19 rfl dX7_saved_16 (by decide) ?_ ?_
    · refine gg_bipush (S := sX7_saved) 31 rfl dX7_saved_29 (by decide) ?_
      exact gg_pure (gg_iret (S := sX7_saved) rfl dX7_saved_31 (by decide) (by decide))
    · refine gg_iload (S := sX7_saved) 4 21 rfl dX7_saved_19 rfl ?_
      refine gg_iconst (S := sX7_saved) 22 rfl dX7_saved_21 ?_
      refine gg_iconst (S := sX7_saved) 23 rfl dX7_saved_22 ?_
      refine gg_callSi (S := sX7_saved) (S' := sX7_within) (cs := 0) (sl := 0) (As := [vi x4, vi 0, vi 1]) (st := []) 26 rfl (lkX7_within x4 0 1) mwX7_within rfl mlX7_101 dX7_saved_23 ⟨by decide, by decide⟩ 0 0 ⟨rfl, rfl⟩ ⟨by decide, by decide⟩ (Nat.le_of_ble_eq_true rfl) (fun t3 => ?_)
      refine gg_if_ne (S := sX7_saved) (tgt := 32) 29 rfl dX7_saved_26 (by decide) ?_ ?_
      · refine gg_bipush (S := sX7_saved) 31 rfl dX7_saved_29 (by decide) ?_
        exact gg_pure (gg_iret (S := sX7_saved) rfl dX7_saved_31 (by decide) (by decide))
      · refine gg_aload_n (S := sX7_saved) 0 33 rfl dX7_saved_32 rfl rfl ?_
        refine gg_gi (S := sX7_saved) cfX7 (by decide) (fun _ _ => rfl) 36 rfl flX7_286 dX7_saved_33 (fun t4 => ?_)
        refine gg_bipush (S := sX7_saved) 38 rfl dX7_saved_36 (by decide) ?_
        refine gg_ic_ne (S := sX7_saved) (tgt := 44) 41 rfl dX7_saved_38 (by decide) ?_ ?_
        · refine gg_bipush (S := sX7_saved) 43 rfl dX7_saved_41 (by decide) ?_
          exact gg_pure (gg_iret (S := sX7_saved) rfl dX7_saved_43 (by decide) (by decide))
        · refine gg_aload_n (S := sX7_saved) 0 45 rfl dX7_saved_44 rfl rfl ?_
          refine gg_dup (S := sX7_saved) 46 rfl dX7_saved_45 rfl ?_
          refine gg_gi (S := sX7_saved) cfX7 (by decide) (fun _ _ => rfl) 49 rfl flX7_286 dX7_saved_46 (fun t5 => ?_)
          refine gg_iconst (S := sX7_saved) 50 rfl dX7_saved_49 ?_
          refine gg_iadd (S := sX7_saved) 51 rfl dX7_saved_50 ?_
          refine gg_si (S := sX7_saved) cfX7 (by decide) rfl (fun _ _ => rfl) rfl 54 rfl flX7_286 dX7_saved_51 ?_
          refine gg_aload_n (S := sX7_saved) 0 55 rfl dX7_saved_54 rfl rfl ?_
          refine gg_iload_n (S := sX7_saved) 1 56 rfl dX7_saved_55 rfl rfl ?_
          refine gg_iload_n (S := sX7_saved) 2 57 rfl dX7_saved_56 rfl rfl ?_
          refine gg_callVv (S := sX7_saved) (S' := sX7_layStore) (cs := 0) (sl := 0) (As := [vi x1, vi x2]) (st := []) 60 rfl (fun b24 => lkX7_layStore b24 x1 x2) mwX7_layStore rfl mlX7_289 dX7_saved_57 cfX7 ⟨by decide, by decide⟩ 0 0 ⟨rfl, rfl⟩ ⟨by decide, by decide⟩ (Nat.le_of_ble_eq_true rfl) (fun _ => ?_)
          refine gg_iconst (S := sX7_saved) 61 rfl dX7_saved_60 ?_
          refine gg_istore (S := sX7_saved) (L' := [(5, vi (-1)), (0, vr (some x0)), (1, vi x1), (2, vi x2), (3, vi x3), (4, vi x4)]) 63 rfl dX7_saved_61 (by decide) rfl ?_
          refine gg_iconst (S := sX7_saved) 64 rfl dX7_saved_63 ?_
          refine gg_istore (S := sX7_saved) (L' := [(6, vi 0), (5, vi (-1)), (0, vr (some x0)), (1, vi x1), (2, vi x2), (3, vi x3), (4, vi x4)]) 66 rfl dX7_saved_64 (by decide) rfl ?_
          refine gg_sub [2, 3, 5, 6, 1, 0] rfl ?_
          refine gg_loopA (fun (y6, y7) => [(0, vr (some x0)), (1, vi x1), (3, vi x3), (4, vi x4), (5, vi y6), (6, vi y7)]) (fun t22 => [(0, vr (some x0)), (1, vi x1), (4, vi x4), (5, vi t22)]) 156 mo_N ?_ ?_ ((-1), 0)
          · intro κ66 hr66 he66
            rintro ⟨y6, y7⟩
            dsimp only [X7_saved_L66]
            refine gg_iload (S := sX7_saved) 5 68 rfl dX7_saved_66 rfl ?_
            refine gg_iload_n (S := sX7_saved) 1 69 rfl dX7_saved_68 rfl rfl ?_
            refine gg_ic_ge (S := sX7_saved) (tgt := 156) 72 rfl dX7_saved_69 (by decide) ?_ ?_
            · refine gg_aload_n (S := sX7_saved) 0 73 rfl dX7_saved_72 rfl rfl ?_
              refine gg_gi (S := sX7_saved) cfX7 (by decide) (fun _ _ => rfl) 76 rfl flX7_263 dX7_saved_73 (fun t8 => ?_)
              refine gg_if_eq (S := sX7_saved) (tgt := 156) 79 rfl dX7_saved_76 (by decide) ?_ ?_
              · exact gg_pure (gg_sub [0, 1, 3, 4] rfl (he66 y6))
              · refine gg_aload_n (S := sX7_saved) 0 80 rfl dX7_saved_79 rfl rfl ?_
                refine gg_iload (S := sX7_saved) 5 82 rfl dX7_saved_80 rfl ?_
                refine gg_callVi (S := sX7_saved) (S' := sX7_pieceRoom) (cs := 0) (sl := 0) (As := [vi y7]) (st := []) 85 rfl (fun b20 => lkX7_pieceRoom b20 y7) mwX7_pieceRoom rfl mlX7_298 dX7_saved_82 cfX7 ⟨by decide, by decide⟩ 0 0 ⟨rfl, rfl⟩ ⟨by decide, by decide⟩ (Nat.le_of_ble_eq_true rfl) (fun t9 => ?_)
                refine gg_iload_n (S := sX7_saved) 2 86 rfl dX7_saved_85 rfl rfl ?_
                refine gg_join (fun t20 => [(0, vr (some x0)), (1, vi x1), (3, vi x3), (4, vi x4), (5, vi t20), (6, vi y7)]) (fun t20 => []) 150 0 0 (fun κ86 hJ86 => ?_) ?_
                · refine gg_ic_gt (S := sX7_saved) (tgt := 150) 89 rfl dX7_saved_86 (by decide) ?_ ?_
                  · refine gg_iload (S := sX7_saved) 4 91 rfl dX7_saved_89 rfl ?_
                    refine gg_iconst (S := sX7_saved) 92 rfl dX7_saved_91 ?_
                    refine gg_join (fun t14 => [(0, vr (some x0)), (1, vi x1), (3, vi x3), (4, vi x4), (5, vi y6), (6, vi y7)]) (fun t14 => [vi t14]) 114 0 0 (fun κ92 hJ92 => ?_) ?_
                    · refine gg_ic_ne (S := sX7_saved) (tgt := 99) 95 rfl dX7_saved_92 (by decide) ?_ ?_
                      · refine gg_iconst (S := sX7_saved) 96 rfl dX7_saved_95 ?_
                        refine gg_goto (S := sX7_saved) (tgt := 114) dX7_saved_96 (by decide) ?_
                        exact gg_pure (gg_sub [0, 1, 2, 3, 4, 5] rfl (hJ92 (-1)))
                      · refine gg_aload_n (S := sX7_saved) 0 100 rfl dX7_saved_99 rfl rfl ?_
                        refine gg_iload_n (S := sX7_saved) 1 101 rfl dX7_saved_100 rfl rfl ?_
                        refine gg_iload (S := sX7_saved) 5 103 rfl dX7_saved_101 rfl ?_
                        refine gg_callVi (S := sX7_saved) (S' := sX7_worstThen) (cs := 0) (sl := 0) (As := [vi x1, vi y7]) (st := []) 106 rfl (fun b12 => lkX7_worstThen b12 x1 y7) mwX7_worstThen rfl mlX7_301 dX7_saved_103 cfX7 ⟨by decide, by decide⟩ 0 0 ⟨rfl, rfl⟩ ⟨by decide, by decide⟩ (Nat.le_of_ble_eq_true rfl) (fun t10 => ?_)
                        refine gg_aload_n (S := sX7_saved) 0 107 rfl dX7_saved_106 rfl rfl ?_
                        refine gg_iload_n (S := sX7_saved) 1 108 rfl dX7_saved_107 rfl rfl ?_
                        refine gg_iload (S := sX7_saved) 4 110 rfl dX7_saved_108 rfl ?_
                        refine gg_callVi (S := sX7_saved) (S' := sX7_worstThen) (cs := 0) (sl := 0) (As := [vi x1, vi y6]) (st := [vi t10]) 113 rfl (fun b11 => lkX7_worstThen b11 x1 y6) mwX7_worstThen rfl mlX7_301 dX7_saved_110 cfX7 ⟨by decide, by decide⟩ 0 0 ⟨rfl, rfl⟩ ⟨by decide, by decide⟩ (Nat.le_of_ble_eq_true rfl) (fun t11 => ?_)
                        refine gg_isub (S := sX7_saved) 114 rfl dX7_saved_113 ?_
                        exact gg_pure (gg_sub [0, 1, 2, 3, 4, 5] rfl (hJ92 (t10 - t11)))
                    · intro t14
                      refine gg_istore (S := sX7_saved) (L' := [(7, vi t14), (0, vr (some x0)), (1, vi x1), (3, vi x3), (4, vi x4), (5, vi y6), (6, vi y7)]) 116 rfl dX7_saved_114 (by decide) rfl ?_
                      refine gg_iload (S := sX7_saved) 0 118 rfl dX7_saved_116 rfl ?_
                      refine gg_join (fun t19 => [(0, vr (some x0)), (1, vi x1), (3, vi x3), (4, vi x4), (6, vi y7)]) (fun t19 => [vi t19]) 148 0 0 (fun κ118 hJ118 => ?_) ?_
                      · refine gg_if_lt (S := sX7_saved) (tgt := 141) 121 rfl dX7_saved_118 (by decide) ?_ ?_
                        · refine gg_iload (S := sX7_saved) 6 143 rfl dX7_saved_141 rfl ?_
                          refine gg_goto (S := sX7_saved) (tgt := 148) dX7_saved_143 (by decide) ?_
                          exact gg_pure (gg_sub [1, 2, 3, 4, 6] rfl (hJ118 y7))
                        · refine gg_iload (S := sX7_saved) 0 123 rfl dX7_saved_121 rfl ?_
                          refine gg_if_ne (S := sX7_saved) (tgt := 146) 126 rfl dX7_saved_123 (by decide) ?_ ?_
                          · refine gg_aload_n (S := sX7_saved) 1 127 rfl dX7_saved_126 rfl rfl ?_
                            refine gg_iload (S := sX7_saved) 6 129 rfl dX7_saved_127 rfl ?_
                            refine gg_callVi (S := sX7_saved) (S' := sX7_pieceRoom) (cs := 0) (sl := 0) (As := [vi y7]) (st := []) 132 rfl (fun b17 => lkX7_pieceRoom b17 y7) mwX7_pieceRoom rfl mlX7_298 dX7_saved_129 cfX7 ⟨by decide, by decide⟩ 0 0 ⟨rfl, rfl⟩ ⟨by decide, by decide⟩ (Nat.le_of_ble_eq_true rfl) (fun t15 => ?_)
                            refine gg_aload_n (S := sX7_saved) 1 133 rfl dX7_saved_132 rfl rfl ?_
                            refine gg_iload (S := sX7_saved) 5 135 rfl dX7_saved_133 rfl ?_
                            refine gg_callVi (S := sX7_saved) (S' := sX7_pieceRoom) (cs := 0) (sl := 0) (As := [vi y6]) (st := [vi t15]) 138 rfl (fun b16 => lkX7_pieceRoom b16 y6) mwX7_pieceRoom rfl mlX7_298 dX7_saved_135 cfX7 ⟨by decide, by decide⟩ 0 0 ⟨rfl, rfl⟩ ⟨by decide, by decide⟩ (Nat.le_of_ble_eq_true rfl) (fun t16 => ?_)
                            refine gg_ic_ge (S := sX7_saved) (tgt := 146) 141 rfl dX7_saved_138 (by decide) ?_ ?_
                            · refine gg_iload (S := sX7_saved) 6 143 rfl dX7_saved_141 rfl ?_
                              refine gg_goto (S := sX7_saved) (tgt := 148) dX7_saved_143 (by decide) ?_
                              exact gg_pure (gg_sub [1, 2, 3, 4, 6] rfl (hJ118 y7))
                            · refine gg_iload (S := sX7_saved) 5 148 rfl dX7_saved_146 rfl ?_
                              exact gg_pure (gg_sub [1, 2, 3, 4, 6] rfl (hJ118 y6))
                          · refine gg_iload (S := sX7_saved) 5 148 rfl dX7_saved_146 rfl ?_
                            exact gg_pure (gg_sub [1, 2, 3, 4, 6] rfl (hJ118 y6))
                      · intro t19
                        refine gg_istore (S := sX7_saved) (L' := [(5, vi t19), (0, vr (some x0)), (1, vi x1), (3, vi x3), (4, vi x4), (6, vi y7)]) 150 rfl dX7_saved_148 (by decide) rfl ?_
                        exact gg_pure (gg_sub [1, 2, 3, 4, 0, 5] rfl (hJ86 t19))
                  · exact gg_pure (gg_sub [0, 1, 2, 3, 4, 5] rfl (hJ86 y6))
                · intro t20
                  refine gg_iinc (S := sX7_saved) (L' := [(6, vi (y7 + 1)), (0, vr (some x0)), (1, vi x1), (3, vi x3), (4, vi x4), (5, vi t20)]) 5 153 rfl dX7_saved_150 rfl (by decide) rfl ?_
                  refine gg_goto (S := sX7_saved) (tgt := 66) dX7_saved_153 (by decide) ?_
                  exact gg_pure (gg_sub [1, 2, 3, 4, 5, 0] rfl (hr66 (t20, (y7 + 1))))
            · exact gg_pure (gg_sub [0, 1, 3, 4] rfl (he66 y6))
          · intro t22
            refine gg_iload (S := sX7_saved) 3 158 rfl dX7_saved_156 rfl ?_
            refine gg_iconst (S := sX7_saved) 159 rfl dX7_saved_158 ?_
            refine gg_ic_ne (S := sX7_saved) (tgt := 166) 162 rfl dX7_saved_159 (by decide) ?_ ?_
            · refine gg_iconst (S := sX7_saved) 163 rfl dX7_saved_162 ?_
              refine gg_goto (S := sX7_saved) (tgt := 183) dX7_saved_163 (by decide) ?_
              exact gg_pure (gg_iret (S := sX7_saved) rfl dX7_saved_183 (by decide) (by decide))
            · refine gg_iload (S := sX7_saved) 2 168 rfl dX7_saved_166 rfl ?_
              refine gg_if_ne (S := sX7_saved) (tgt := 176) 171 rfl dX7_saved_168 (by decide) ?_ ?_
              · refine gg_iload (S := sX7_saved) 3 173 rfl dX7_saved_171 rfl ?_
                refine gg_goto (S := sX7_saved) (tgt := 183) dX7_saved_173 (by decide) ?_
                exact gg_pure (gg_iret (S := sX7_saved) rfl dX7_saved_183 (by decide) (by decide))
              · refine gg_aload_n (S := sX7_saved) 0 177 rfl dX7_saved_176 rfl rfl ?_
                refine gg_iload_n (S := sX7_saved) 1 178 rfl dX7_saved_177 rfl rfl ?_
                refine gg_iload (S := sX7_saved) 3 180 rfl dX7_saved_178 rfl ?_
                refine gg_callVi (S := sX7_saved) (S' := sX7_worstThen) (cs := 0) (sl := 0) (As := [vi x1, vi t22]) (st := []) 183 rfl (fun b23 => lkX7_worstThen b23 x1 t22) mwX7_worstThen rfl mlX7_301 dX7_saved_180 cfX7 ⟨by decide, by decide⟩ 0 0 ⟨rfl, rfl⟩ ⟨by decide, by decide⟩ (Nat.le_of_ble_eq_true rfl) (fun t23 => ?_)
                exact gg_pure (gg_iret (S := sX7_saved) rfl dX7_saved_183 (by decide) (by decide))

set_option maxRecDepth 100000 in
set_option maxHeartbeats 4000000 in
theorem lkX7_share (x0 : Nat) (x1 : Int) (x2 : Int) : LK yX7_share sX7_share [vr (some x0), vi x1, vi x2] en_i (X7_share x0 x1 x2) := by
  refine lk_go (L := [(0, vr (some x0)), (1, vi x1), (2, vi x2)]) (by decide +kernel) rfl (fun h => by cases h) (Nat.le_of_ble_eq_true rfl) rfl ?_
  intro K
  unfold X7_share
  refine gg_aload_n (S := sX7_share) 0 1 rfl dX7_share_0 rfl rfl ?_
  refine gg_iload_n (S := sX7_share) 1 2 rfl dX7_share_1 rfl rfl ?_
  refine gg_callVi (S := sX7_share) (S' := sX7_isVersion) (cs := 0) (sl := 0) (As := [vi x1]) (st := []) 5 rfl (fun b11 => lkX7_isVersion b11 x1) mwX7_isVersion rfl mlX7_111 dX7_share_2 cfX7 ⟨by decide, by decide⟩ 0 0 ⟨rfl, rfl⟩ ⟨by decide, by decide⟩ (Nat.le_of_ble_eq_true rfl) (fun t1 => ?_)
  refine gg_if_eq (S := sX7_share) (tgt := 16) 8 rfl dX7_share_5 (by decide) ?_ ?_
  · refine gg_bipush (S := sX7_share) 18 rfl dX7_share_16 (by decide) ?_
    exact gg_pure (gg_iret (S := sX7_share) rfl dX7_share_18 (by decide) (by decide))
  · refine gg_aload_n (S := sX7_share) 0 9 rfl dX7_share_8 rfl rfl ?_
    refine gg_iload_n (S := sX7_share) 2 10 rfl dX7_share_9 rfl rfl ?_
    refine gg_callVi (S := sX7_share) (S' := sX7_isVersion) (cs := 0) (sl := 0) (As := [vi x2]) (st := []) 13 rfl (fun b10 => lkX7_isVersion b10 x2) mwX7_isVersion rfl mlX7_111 dX7_share_10 cfX7 ⟨by decide, by decide⟩ 0 0 ⟨rfl, rfl⟩ ⟨by decide, by decide⟩ (Nat.le_of_ble_eq_true rfl) (fun t2 => ?_)
    refine gg_if_ne (S := sX7_share) (tgt := 19) 16 rfl dX7_share_13 (by decide) ?_ ?_
    · refine gg_bipush (S := sX7_share) 18 rfl dX7_share_16 (by decide) ?_
      exact gg_pure (gg_iret (S := sX7_share) rfl dX7_share_18 (by decide) (by decide))
    · refine gg_iconst (S := sX7_share) 20 rfl dX7_share_19 ?_
      refine gg_istore_n (S := sX7_share) (L' := [(3, vi 0), (0, vr (some x0)), (1, vi x1), (2, vi x2)]) 21 rfl dX7_share_20 rfl (by decide) rfl ?_
      refine gg_iconst (S := sX7_share) 22 rfl dX7_share_21 ?_
      refine gg_istore (S := sX7_share) (L' := [(4, vi 0), (3, vi 0), (0, vr (some x0)), (1, vi x1), (2, vi x2)]) 24 rfl dX7_share_22 (by decide) rfl ?_
      refine gg_sub [2, 3, 4, 1, 0] rfl ?_
      refine gg_loopA (fun (y3, y4) => [(0, vr (some x0)), (1, vi x1), (2, vi x2), (3, vi y3), (4, vi y4)]) (fun t10 => [(3, vi t10)]) 60 mo_N ?_ ?_ (0, 0)
      · intro κ24 hr24 he24
        rintro ⟨y3, y4⟩
        dsimp only [X7_share_L24]
        refine gg_iload (S := sX7_share) 4 26 rfl dX7_share_24 rfl ?_
        refine gg_aload_n (S := sX7_share) 0 27 rfl dX7_share_26 rfl rfl ?_
        refine gg_gr (S := sX7_share) cfX7 (by decide) (fun _ _ => rfl) 30 rfl flX7_13 dX7_share_27 (fun t5 => ?_)
        refine gg_iload_n (S := sX7_share) 1 31 rfl dX7_share_30 rfl rfl ?_
        refine gg_ld (S := sX7_share) 32 rfl dX7_share_31 (fun t6 => ?_)
        refine gg_ic_ge (S := sX7_share) (tgt := 60) 35 rfl dX7_share_32 (by decide) ?_ ?_
        · refine gg_iload_n (S := sX7_share) 3 36 rfl dX7_share_35 rfl rfl ?_
          refine gg_aload_n (S := sX7_share) 0 37 rfl dX7_share_36 rfl rfl ?_
          refine gg_iload_n (S := sX7_share) 1 38 rfl dX7_share_37 rfl rfl ?_
          refine gg_iload (S := sX7_share) 4 40 rfl dX7_share_38 rfl ?_
          refine gg_callVi (S := sX7_share) (S' := sX7_broughtBy) (cs := 0) (sl := 0) (As := [vi x1, vi y4]) (st := [vi y3]) 43 rfl (fun b8 => lkX7_broughtBy b8 x1 y4) mwX7_broughtBy rfl mlX7_260 dX7_share_40 cfX7 ⟨by decide, by decide⟩ 0 0 ⟨rfl, rfl⟩ ⟨by decide, by decide⟩ (Nat.le_of_ble_eq_true rfl) (fun t7 => ?_)
          refine gg_iload_n (S := sX7_share) 2 44 rfl dX7_share_43 rfl rfl ?_
          refine gg_join (fun t8 => [(0, vr (some x0)), (1, vi x1), (2, vi x2), (4, vi y4)]) (fun t8 => [vi t8, vi y3]) 52 0 0 (fun κ44 hJ44 => ?_) ?_
          · refine gg_ic_ne (S := sX7_share) (tgt := 51) 47 rfl dX7_share_44 (by decide) ?_ ?_
            · refine gg_iconst (S := sX7_share) 48 rfl dX7_share_47 ?_
              refine gg_goto (S := sX7_share) (tgt := 52) dX7_share_48 (by decide) ?_
              exact gg_pure (gg_sub [0, 1, 2, 4] rfl (hJ44 1))
            · refine gg_iconst (S := sX7_share) 52 rfl dX7_share_51 ?_
              exact gg_pure (gg_sub [0, 1, 2, 4] rfl (hJ44 0))
          · intro t8
            refine gg_iadd (S := sX7_share) 53 rfl dX7_share_52 ?_
            refine gg_istore_n (S := sX7_share) (L' := [(3, vi (y3 + t8)), (0, vr (some x0)), (1, vi x1), (2, vi x2), (4, vi y4)]) 54 rfl dX7_share_53 rfl (by decide) rfl ?_
            refine gg_iinc (S := sX7_share) (L' := [(4, vi (y4 + 1)), (3, vi (y3 + t8)), (0, vr (some x0)), (1, vi x1), (2, vi x2)]) 4 57 rfl dX7_share_54 rfl (by decide) rfl ?_
            refine gg_goto (S := sX7_share) (tgt := 24) dX7_share_57 (by decide) ?_
            exact gg_pure (gg_sub [2, 3, 4, 1, 0] rfl (hr24 ((y3 + t8), (y4 + 1))))
        · exact gg_pure (gg_sub [3] rfl (he24 y3))
      · intro t10
        refine gg_iload_n (S := sX7_share) 0 61 rfl dX7_share_60 rfl rfl ?_
        exact gg_pure (gg_iret (S := sX7_share) rfl dX7_share_61 (by decide) (by decide))

set_option maxRecDepth 100000 in
set_option maxHeartbeats 4000000 in
theorem lkX7_store (x0 : Nat) (x1 : Int) (x2 : Int) (x3 : Int) : LK yX7_store sX7_store [vr (some x0), vi x1, vi x2, vi x3] en_i (X7_store x0 x1 x2 x3) := by
  refine lk_go (L := [(0, vr (some x0)), (1, vi x1), (2, vi x2), (3, vi x3)]) (by decide +kernel) rfl (fun h => by cases h) (Nat.le_of_ble_eq_true rfl) rfl ?_
  intro K
  unfold X7_store
  refine gg_aload_n (S := sX7_store) 0 1 rfl dX7_store_0 rfl rfl ?_
  refine gg_iload_n (S := sX7_store) 1 2 rfl dX7_store_1 rfl rfl ?_
  refine gg_iload_n (S := sX7_store) 2 3 rfl dX7_store_2 rfl rfl ?_
  refine gg_callVi (S := sX7_store) (S' := sX7_isAsk) (cs := 0) (sl := 0) (As := [vi x1, vi x2]) (st := []) 6 rfl (fun b19 => lkX7_isAsk b19 x1 x2) mwX7_isAsk rfl mlX7_283 dX7_store_3 cfX7 ⟨by decide, by decide⟩ 0 0 ⟨rfl, rfl⟩ ⟨by decide, by decide⟩ (Nat.le_of_ble_eq_true rfl) (fun t1 => ?_)
  refine gg_cond [] [(0, vr (some x0)), (1, vi x1), (2, vi x2), (3, vi x3)] [] 40 43 0 0 (fun κ6 hT6 hF6 => ?_) ?_ ?_
  · refine gg_if_eq (S := sX7_store) (tgt := 40) 9 rfl dX7_store_6 (by decide) ?_ ?_
    · exact gg_pure (gg_sub [] rfl hT6)
    · refine gg_iload_n (S := sX7_store) 3 10 rfl dX7_store_9 rfl rfl ?_
      refine gg_iconst (S := sX7_store) 11 rfl dX7_store_10 ?_
      refine gg_iconst (S := sX7_store) 12 rfl dX7_store_11 ?_
      refine gg_callSi (S := sX7_store) (S' := sX7_within) (cs := 0) (sl := 0) (As := [vi x3, vi 0, vi 1]) (st := []) 15 rfl (lkX7_within x3 0 1) mwX7_within rfl mlX7_101 dX7_store_12 ⟨by decide, by decide⟩ 0 0 ⟨rfl, rfl⟩ ⟨by decide, by decide⟩ (Nat.le_of_ble_eq_true rfl) (fun t2 => ?_)
      refine gg_if_ne (S := sX7_store) (tgt := 43) 18 rfl dX7_store_15 (by decide) ?_ ?_
      · refine gg_iload_n (S := sX7_store) 3 19 rfl dX7_store_18 rfl rfl ?_
        refine gg_bipush (S := sX7_store) 21 rfl dX7_store_19 (by decide) ?_
        refine gg_bipush (S := sX7_store) 23 rfl dX7_store_21 (by decide) ?_
        refine gg_callSi (S := sX7_store) (S' := sX7_within) (cs := 0) (sl := 0) (As := [vi x3, vi 10, vi 15]) (st := []) 26 rfl (lkX7_within x3 10 15) mwX7_within rfl mlX7_101 dX7_store_23 ⟨by decide, by decide⟩ 0 0 ⟨rfl, rfl⟩ ⟨by decide, by decide⟩ (Nat.le_of_ble_eq_true rfl) (fun t3 => ?_)
        refine gg_if_ne (S := sX7_store) (tgt := 43) 29 rfl dX7_store_26 (by decide) ?_ ?_
        · refine gg_iload_n (S := sX7_store) 3 30 rfl dX7_store_29 rfl rfl ?_
          refine gg_bipush (S := sX7_store) 32 rfl dX7_store_30 (by decide) ?_
          refine gg_bipush (S := sX7_store) 34 rfl dX7_store_32 (by decide) ?_
          refine gg_callSi (S := sX7_store) (S' := sX7_within) (cs := 0) (sl := 0) (As := [vi x3, vi 20, vi 25]) (st := []) 37 rfl (lkX7_within x3 20 25) mwX7_within rfl mlX7_101 dX7_store_34 ⟨by decide, by decide⟩ 0 0 ⟨rfl, rfl⟩ ⟨by decide, by decide⟩ (Nat.le_of_ble_eq_true rfl) (fun t4 => ?_)
          refine gg_if_ne (S := sX7_store) (tgt := 43) 40 rfl dX7_store_37 (by decide) ?_ ?_
          · exact gg_pure (gg_sub [] rfl hT6)
          · exact gg_pure (gg_sub [0, 1, 2, 3] rfl hF6)
        · exact gg_pure (gg_sub [0, 1, 2, 3] rfl hF6)
      · exact gg_pure (gg_sub [0, 1, 2, 3] rfl hF6)
  · refine gg_bipush (S := sX7_store) 42 rfl dX7_store_40 (by decide) ?_
    exact gg_pure (gg_iret (S := sX7_store) rfl dX7_store_42 (by decide) (by decide))
  · refine gg_aload_n (S := sX7_store) 0 44 rfl dX7_store_43 rfl rfl ?_
    refine gg_gi (S := sX7_store) cfX7 (by decide) (fun _ _ => rfl) 47 rfl flX7_286 dX7_store_44 (fun t8 => ?_)
    refine gg_bipush (S := sX7_store) 49 rfl dX7_store_47 (by decide) ?_
    refine gg_ic_ne (S := sX7_store) (tgt := 55) 52 rfl dX7_store_49 (by decide) ?_ ?_
    · refine gg_bipush (S := sX7_store) 54 rfl dX7_store_52 (by decide) ?_
      exact gg_pure (gg_iret (S := sX7_store) rfl dX7_store_54 (by decide) (by decide))
    · refine gg_aload_n (S := sX7_store) 0 56 rfl dX7_store_55 rfl rfl ?_
      refine gg_dup (S := sX7_store) 57 rfl dX7_store_56 rfl ?_
      refine gg_gi (S := sX7_store) cfX7 (by decide) (fun _ _ => rfl) 60 rfl flX7_286 dX7_store_57 (fun t9 => ?_)
      refine gg_iconst (S := sX7_store) 61 rfl dX7_store_60 ?_
      refine gg_iadd (S := sX7_store) 62 rfl dX7_store_61 ?_
      refine gg_si (S := sX7_store) cfX7 (by decide) rfl (fun _ _ => rfl) rfl 65 rfl flX7_286 dX7_store_62 ?_
      refine gg_aload_n (S := sX7_store) 0 66 rfl dX7_store_65 rfl rfl ?_
      refine gg_iload_n (S := sX7_store) 1 67 rfl dX7_store_66 rfl rfl ?_
      refine gg_iload_n (S := sX7_store) 2 68 rfl dX7_store_67 rfl rfl ?_
      refine gg_callVv (S := sX7_store) (S' := sX7_layStore) (cs := 0) (sl := 0) (As := [vi x1, vi x2]) (st := []) 71 rfl (fun b18 => lkX7_layStore b18 x1 x2) mwX7_layStore rfl mlX7_289 dX7_store_68 cfX7 ⟨by decide, by decide⟩ 0 0 ⟨rfl, rfl⟩ ⟨by decide, by decide⟩ (Nat.le_of_ble_eq_true rfl) (fun _ => ?_)
      refine gg_iload_n (S := sX7_store) 3 72 rfl dX7_store_71 rfl rfl ?_
      refine gg_iconst (S := sX7_store) 73 rfl dX7_store_72 ?_
      refine gg_ic_ge (S := sX7_store) (tgt := 104) 76 rfl dX7_store_73 (by decide) ?_ ?_
      · refine gg_aload_n (S := sX7_store) 0 77 rfl dX7_store_76 rfl rfl ?_
        refine gg_gi (S := sX7_store) cfX7 (by decide) (fun _ _ => rfl) 80 rfl flX7_263 dX7_store_77 (fun t16 => ?_)
        refine gg_if_ne (S := sX7_store) (tgt := 87) 83 rfl dX7_store_80 (by decide) ?_ ?_
        · refine gg_iconst (S := sX7_store) 84 rfl dX7_store_83 ?_
          refine gg_goto (S := sX7_store) (tgt := 103) dX7_store_84 (by decide) ?_
          exact gg_pure (gg_iret (S := sX7_store) rfl dX7_store_103 (by decide) (by decide))
        · refine gg_iload_n (S := sX7_store) 3 88 rfl dX7_store_87 rfl rfl ?_
          refine gg_if_ne (S := sX7_store) (tgt := 98) 91 rfl dX7_store_88 (by decide) ?_ ?_
          · refine gg_aload_n (S := sX7_store) 0 92 rfl dX7_store_91 rfl rfl ?_
            refine gg_gi (S := sX7_store) cfX7 (by decide) (fun _ _ => rfl) 95 rfl flX7_276 dX7_store_92 (fun t18 => ?_)
            refine gg_goto (S := sX7_store) (tgt := 103) dX7_store_95 (by decide) ?_
            exact gg_pure (gg_iret (S := sX7_store) rfl dX7_store_103 (by decide) (by decide))
          · refine gg_aload_n (S := sX7_store) 0 99 rfl dX7_store_98 rfl rfl ?_
            refine gg_gl (S := sX7_store) cfX7 (by decide) (fun _ _ => rfl) 102 rfl flX7_279 dX7_store_99 (fun t17 => ?_)
            refine gg_l2i (S := sX7_store) 103 rfl dX7_store_102 ?_
            exact gg_pure (gg_iret (S := sX7_store) rfl dX7_store_103 (by decide) (by decide))
      · refine gg_iload_n (S := sX7_store) 3 105 rfl dX7_store_104 rfl rfl ?_
        refine gg_bipush (S := sX7_store) 107 rfl dX7_store_105 (by decide) ?_
        refine gg_rem (S := sX7_store) 108 rfl dX7_store_107 (fun t10 => ?_)
        refine gg_istore (S := sX7_store) (L' := [(4, vi t10), (0, vr (some x0)), (1, vi x1), (2, vi x2), (3, vi x3)]) 110 rfl dX7_store_108 (by decide) rfl ?_
        refine gg_aload_n (S := sX7_store) 1 111 rfl dX7_store_110 rfl rfl ?_
        refine gg_gi (S := sX7_store) cfX7 (by decide) (fun _ _ => rfl) 114 rfl flX7_263 dX7_store_111 (fun t11 => ?_)
        refine gg_if_eq (S := sX7_store) (tgt := 123) 117 rfl dX7_store_114 (by decide) ?_ ?_
        · refine gg_bipush (S := sX7_store) 125 rfl dX7_store_123 (by decide) ?_
          refine gg_goto (S := sX7_store) (tgt := 151) dX7_store_125 (by decide) ?_
          exact gg_pure (gg_iret (S := sX7_store) rfl dX7_store_151 (by decide) (by decide))
        · refine gg_iload (S := sX7_store) 0 119 rfl dX7_store_117 rfl ?_
          refine gg_iload_n (S := sX7_store) 2 120 rfl dX7_store_119 rfl rfl ?_
          refine gg_ic_lt (S := sX7_store) (tgt := 128) 123 rfl dX7_store_120 (by decide) ?_ ?_
          · refine gg_iload_n (S := sX7_store) 4 129 rfl dX7_store_128 rfl rfl ?_
            refine gg_bipush (S := sX7_store) 131 rfl dX7_store_129 (by decide) ?_
            refine gg_ic_ge (S := sX7_store) (tgt := 144) 134 rfl dX7_store_131 (by decide) ?_ ?_
            · refine gg_aload_n (S := sX7_store) 1 135 rfl dX7_store_134 rfl rfl ?_
              refine gg_gr (S := sX7_store) cfX7 (by decide) (fun _ _ => rfl) 138 rfl flX7_91 dX7_store_135 (fun t14 => ?_)
              refine gg_iload (S := sX7_store) 0 140 rfl dX7_store_138 rfl ?_
              refine gg_ld (S := sX7_store) 141 rfl dX7_store_140 (fun t15 => ?_)
              refine gg_goto (S := sX7_store) (tgt := 151) dX7_store_141 (by decide) ?_
              exact gg_pure (gg_iret (S := sX7_store) rfl dX7_store_151 (by decide) (by decide))
            · refine gg_aload_n (S := sX7_store) 1 145 rfl dX7_store_144 rfl rfl ?_
              refine gg_gr (S := sX7_store) cfX7 (by decide) (fun _ _ => rfl) 148 rfl flX7_94 dX7_store_145 (fun t12 => ?_)
              refine gg_iload (S := sX7_store) 0 150 rfl dX7_store_148 rfl ?_
              refine gg_ld (S := sX7_store) 151 rfl dX7_store_150 (fun t13 => ?_)
              exact gg_pure (gg_iret (S := sX7_store) rfl dX7_store_151 (by decide) (by decide))
          · refine gg_bipush (S := sX7_store) 125 rfl dX7_store_123 (by decide) ?_
            refine gg_goto (S := sX7_store) (tgt := 151) dX7_store_125 (by decide) ?_
            exact gg_pure (gg_iret (S := sX7_store) rfl dX7_store_151 (by decide) (by decide))

set_option maxRecDepth 100000 in
set_option maxHeartbeats 4000000 in
theorem lkX7_touches (x0 : Nat) (x1 : Int) (x2 : Int) (x3 : Int) (x4 : Int) : LK yX7_touches sX7_touches [vr (some x0), vi x1, vi x2, vi x3, vi x4] en_i (X7_touches x0 x1 x2 x3 x4) := by
  refine lk_go (L := [(0, vr (some x0)), (1, vi x1), (2, vi x2), (3, vi x3), (4, vi x4)]) (by decide +kernel) rfl (fun h => by cases h) (Nat.le_of_ble_eq_true rfl) rfl ?_
  intro K
  unfold X7_touches
  refine gg_aload_n (S := sX7_touches) 0 1 rfl dX7_touches_0 rfl rfl ?_
  refine gg_iload_n (S := sX7_touches) 1 2 rfl dX7_touches_1 rfl rfl ?_
  refine gg_iload_n (S := sX7_touches) 2 3 rfl dX7_touches_2 rfl rfl ?_
  refine gg_callVi (S := sX7_touches) (S' := sX7_standsAt) (cs := 0) (sl := 0) (As := [vi x1, vi x2]) (st := []) 6 rfl (fun b7 => lkX7_standsAt b7 x1 x2) mwX7_standsAt rfl mlX7_198 dX7_touches_3 cfX7 ⟨by decide, by decide⟩ 0 0 ⟨rfl, rfl⟩ ⟨by decide, by decide⟩ (Nat.le_of_ble_eq_true rfl) (fun t1 => ?_)
  refine gg_istore (S := sX7_touches) (L' := [(5, vi t1), (0, vr (some x0)), (1, vi x1), (2, vi x2), (3, vi x3), (4, vi x4)]) 8 rfl dX7_touches_6 (by decide) rfl ?_
  refine gg_aload_n (S := sX7_touches) 1 9 rfl dX7_touches_8 rfl rfl ?_
  refine gg_gr (S := sX7_touches) cfX7 (by decide) (fun _ _ => rfl) 12 rfl flX7_31 dX7_touches_9 (fun t2 => ?_)
  refine gg_bipush (S := sX7_touches) 14 rfl dX7_touches_12 (by decide) ?_
  refine gg_iload_n (S := sX7_touches) 4 15 rfl dX7_touches_14 rfl rfl ?_
  refine gg_imul (S := sX7_touches) 16 rfl dX7_touches_15 ?_
  refine gg_iload (S := sX7_touches) 5 18 rfl dX7_touches_16 rfl ?_
  refine gg_iadd (S := sX7_touches) 19 rfl dX7_touches_18 ?_
  refine gg_ld (S := sX7_touches) 20 rfl dX7_touches_19 (fun t3 => ?_)
  refine gg_istore (S := sX7_touches) (L' := [(6, vi t3), (5, vi t1), (0, vr (some x0)), (1, vi x1), (2, vi x2), (3, vi x3), (4, vi x4)]) 22 rfl dX7_touches_20 (by decide) rfl ?_
  refine gg_iload (S := sX7_touches) 1 24 rfl dX7_touches_22 rfl ?_
  refine gg_iload (S := sX7_touches) 0 26 rfl dX7_touches_24 rfl ?_
  refine gg_aload_n (S := sX7_touches) 2 27 rfl dX7_touches_26 rfl rfl ?_
  refine gg_gr (S := sX7_touches) cfX7 (by decide) (fun _ _ => rfl) 30 rfl flX7_34 dX7_touches_27 (fun t4 => ?_)
  refine gg_bipush (S := sX7_touches) 32 rfl dX7_touches_30 (by decide) ?_
  refine gg_iload_n (S := sX7_touches) 5 33 rfl dX7_touches_32 rfl rfl ?_
  refine gg_imul (S := sX7_touches) 34 rfl dX7_touches_33 ?_
  refine gg_iload (S := sX7_touches) 6 36 rfl dX7_touches_34 rfl ?_
  refine gg_iadd (S := sX7_touches) 37 rfl dX7_touches_36 ?_
  refine gg_ld (S := sX7_touches) 38 rfl dX7_touches_37 (fun t5 => ?_)
  refine gg_iadd (S := sX7_touches) 39 rfl dX7_touches_38 ?_
  refine gg_ic_gt (S := sX7_touches) (tgt := 65) 42 rfl dX7_touches_39 (by decide) ?_ ?_
  · refine gg_iload (S := sX7_touches) 0 44 rfl dX7_touches_42 rfl ?_
    refine gg_iload (S := sX7_touches) 1 46 rfl dX7_touches_44 rfl ?_
    refine gg_aload_n (S := sX7_touches) 2 47 rfl dX7_touches_46 rfl rfl ?_
    refine gg_gr (S := sX7_touches) cfX7 (by decide) (fun _ _ => rfl) 50 rfl flX7_37 dX7_touches_47 (fun t6 => ?_)
    refine gg_bipush (S := sX7_touches) 52 rfl dX7_touches_50 (by decide) ?_
    refine gg_iload_n (S := sX7_touches) 3 53 rfl dX7_touches_52 rfl rfl ?_
    refine gg_imul (S := sX7_touches) 54 rfl dX7_touches_53 ?_
    refine gg_iload_n (S := sX7_touches) 4 55 rfl dX7_touches_54 rfl rfl ?_
    refine gg_iadd (S := sX7_touches) 56 rfl dX7_touches_55 ?_
    refine gg_ld (S := sX7_touches) 57 rfl dX7_touches_56 (fun t7 => ?_)
    refine gg_iadd (S := sX7_touches) 58 rfl dX7_touches_57 ?_
    refine gg_ic_gt (S := sX7_touches) (tgt := 65) 61 rfl dX7_touches_58 (by decide) ?_ ?_
    · refine gg_iconst (S := sX7_touches) 62 rfl dX7_touches_61 ?_
      refine gg_goto (S := sX7_touches) (tgt := 66) dX7_touches_62 (by decide) ?_
      exact gg_pure (gg_zretc (S := sX7_touches) (by decide) rfl dX7_touches_66 (by decide) (by decide))
    · refine gg_iconst (S := sX7_touches) 66 rfl dX7_touches_65 ?_
      exact gg_pure (gg_zretc (S := sX7_touches) (by decide) rfl dX7_touches_66 (by decide) (by decide))
  · refine gg_iconst (S := sX7_touches) 66 rfl dX7_touches_65 ?_
    exact gg_pure (gg_zretc (S := sX7_touches) (by decide) rfl dX7_touches_66 (by decide) (by decide))

set_option maxRecDepth 100000 in
set_option maxHeartbeats 4000000 in
theorem lkX7_swap (x0 : Nat) (x1 : Int) (x2 : Int) : LK yX7_swap sX7_swap [vr (some x0), vi x1, vi x2] en_i (X7_swap x0 x1 x2) := by
  refine lk_go (L := [(0, vr (some x0)), (1, vi x1), (2, vi x2)]) (by decide +kernel) rfl (fun h => by cases h) (Nat.le_of_ble_eq_true rfl) rfl ?_
  intro K
  unfold X7_swap
  refine gg_aload_n (S := sX7_swap) 0 1 rfl dX7_swap_0 rfl rfl ?_
  refine gg_iload_n (S := sX7_swap) 1 2 rfl dX7_swap_1 rfl rfl ?_
  refine gg_callVi (S := sX7_swap) (S' := sX7_isPatch) (cs := 0) (sl := 0) (As := [vi x1]) (st := []) 5 rfl (fun b18 => lkX7_isPatch b18 x1) mwX7_isPatch rfl mlX7_155 dX7_swap_2 cfX7 ⟨by decide, by decide⟩ 0 0 ⟨rfl, rfl⟩ ⟨by decide, by decide⟩ (Nat.le_of_ble_eq_true rfl) (fun t1 => ?_)
  refine gg_if_eq (S := sX7_swap) (tgt := 16) 8 rfl dX7_swap_5 (by decide) ?_ ?_
  · refine gg_bipush (S := sX7_swap) 18 rfl dX7_swap_16 (by decide) ?_
    exact gg_pure (gg_iret (S := sX7_swap) rfl dX7_swap_18 (by decide) (by decide))
  · refine gg_aload_n (S := sX7_swap) 0 9 rfl dX7_swap_8 rfl rfl ?_
    refine gg_iload_n (S := sX7_swap) 2 10 rfl dX7_swap_9 rfl rfl ?_
    refine gg_callVi (S := sX7_swap) (S' := sX7_isPatch) (cs := 0) (sl := 0) (As := [vi x2]) (st := []) 13 rfl (fun b17 => lkX7_isPatch b17 x2) mwX7_isPatch rfl mlX7_155 dX7_swap_10 cfX7 ⟨by decide, by decide⟩ 0 0 ⟨rfl, rfl⟩ ⟨by decide, by decide⟩ (Nat.le_of_ble_eq_true rfl) (fun t2 => ?_)
    refine gg_if_ne (S := sX7_swap) (tgt := 19) 16 rfl dX7_swap_13 (by decide) ?_ ?_
    · refine gg_bipush (S := sX7_swap) 18 rfl dX7_swap_16 (by decide) ?_
      exact gg_pure (gg_iret (S := sX7_swap) rfl dX7_swap_18 (by decide) (by decide))
    · refine gg_iconst (S := sX7_swap) 20 rfl dX7_swap_19 ?_
      refine gg_istore_n (S := sX7_swap) (L' := [(3, vi 0), (0, vr (some x0)), (1, vi x1), (2, vi x2)]) 21 rfl dX7_swap_20 rfl (by decide) rfl ?_
      refine gg_sub [1, 2, 3, 0] rfl ?_
      refine gg_loop (fun y3 => [(0, vr (some x0)), (1, vi x1), (2, vi x2), (3, vi y3)]) mo_N ?_ 0
      · intro rec21 hr21
        intro y3
        dsimp only [X7_swap_L21]
        refine gg_iload_n (S := sX7_swap) 3 22 rfl dX7_swap_21 rfl rfl ?_
        refine gg_aload_n (S := sX7_swap) 0 23 rfl dX7_swap_22 rfl rfl ?_
        refine gg_gr (S := sX7_swap) cfX7 (by decide) (fun _ _ => rfl) 26 rfl flX7_28 dX7_swap_23 (fun t4 => ?_)
        refine gg_iload_n (S := sX7_swap) 1 27 rfl dX7_swap_26 rfl rfl ?_
        refine gg_ld (S := sX7_swap) 28 rfl dX7_swap_27 (fun t5 => ?_)
        refine gg_ic_ge (S := sX7_swap) (tgt := 72) 31 rfl dX7_swap_28 (by decide) ?_ ?_
        · refine gg_iconst (S := sX7_swap) 32 rfl dX7_swap_31 ?_
          refine gg_istore (S := sX7_swap) (L' := [(4, vi 0), (0, vr (some x0)), (1, vi x1), (2, vi x2), (3, vi y3)]) 34 rfl dX7_swap_32 (by decide) rfl ?_
          refine gg_sub [1, 2, 3, 4, 0] rfl ?_
          refine gg_loop (fun y13 => [(0, vr (some x0)), (1, vi x1), (2, vi x2), (3, vi y3), (4, vi y13)]) mo_N ?_ 0
          · intro rec34 hr34
            intro y13
            dsimp only [X7_swap_L34]
            refine gg_iload (S := sX7_swap) 4 36 rfl dX7_swap_34 rfl ?_
            refine gg_aload_n (S := sX7_swap) 0 37 rfl dX7_swap_36 rfl rfl ?_
            refine gg_gr (S := sX7_swap) cfX7 (by decide) (fun _ _ => rfl) 40 rfl flX7_28 dX7_swap_37 (fun t14 => ?_)
            refine gg_iload_n (S := sX7_swap) 2 41 rfl dX7_swap_40 rfl rfl ?_
            refine gg_ld (S := sX7_swap) 42 rfl dX7_swap_41 (fun t15 => ?_)
            refine gg_ic_ge (S := sX7_swap) (tgt := 66) 45 rfl dX7_swap_42 (by decide) ?_ ?_
            · refine gg_aload_n (S := sX7_swap) 0 46 rfl dX7_swap_45 rfl rfl ?_
              refine gg_iload_n (S := sX7_swap) 1 47 rfl dX7_swap_46 rfl rfl ?_
              refine gg_iload_n (S := sX7_swap) 3 48 rfl dX7_swap_47 rfl rfl ?_
              refine gg_iload_n (S := sX7_swap) 2 49 rfl dX7_swap_48 rfl rfl ?_
              refine gg_iload (S := sX7_swap) 4 51 rfl dX7_swap_49 rfl ?_
              refine gg_callVi (S := sX7_swap) (S' := sX7_touches) (cs := 0) (sl := 0) (As := [vi x1, vi y3, vi x2, vi y13]) (st := []) 54 rfl (fun b16 => lkX7_touches b16 x1 y3 x2 y13) mwX7_touches rfl mlX7_226 dX7_swap_51 cfX7 ⟨by decide, by decide⟩ 0 0 ⟨rfl, rfl⟩ ⟨by decide, by decide⟩ (Nat.le_of_ble_eq_true rfl) (fun t16 => ?_)
              refine gg_if_eq (S := sX7_swap) (tgt := 60) 57 rfl dX7_swap_54 (by decide) ?_ ?_
              · refine gg_iinc (S := sX7_swap) (L' := [(4, vi (y13 + 1)), (0, vr (some x0)), (1, vi x1), (2, vi x2), (3, vi y3)]) 4 63 rfl dX7_swap_60 rfl (by decide) rfl ?_
                refine gg_goto (S := sX7_swap) (tgt := 34) dX7_swap_63 (by decide) ?_
                exact gg_pure (gg_sub [1, 2, 3, 4, 0] rfl (hr34 (y13 + 1)))
              · refine gg_bipush (S := sX7_swap) 59 rfl dX7_swap_57 (by decide) ?_
                exact gg_pure (gg_iret (S := sX7_swap) rfl dX7_swap_59 (by decide) (by decide))
            · refine gg_iinc (S := sX7_swap) (L' := [(3, vi (y3 + 1)), (0, vr (some x0)), (1, vi x1), (2, vi x2), (4, vi y13)]) 3 69 rfl dX7_swap_66 rfl (by decide) rfl ?_
              refine gg_goto (S := sX7_swap) (tgt := 21) dX7_swap_69 (by decide) ?_
              exact gg_pure (gg_sub [1, 2, 3, 0] rfl (hr21 (y3 + 1)))
        · refine gg_aload_n (S := sX7_swap) 0 73 rfl dX7_swap_72 rfl rfl ?_
          refine gg_gi (S := sX7_swap) cfX7 (by decide) (fun _ _ => rfl) 76 rfl flX7_105 dX7_swap_73 (fun t6 => ?_)
          refine gg_iconst (S := sX7_swap) 77 rfl dX7_swap_76 ?_
          refine gg_iadd (S := sX7_swap) 78 rfl dX7_swap_77 ?_
          refine gg_bipush (S := sX7_swap) 80 rfl dX7_swap_78 (by decide) ?_
          refine gg_ic_le (S := sX7_swap) (tgt := 86) 83 rfl dX7_swap_80 (by decide) ?_ ?_
          · refine gg_aload_n (S := sX7_swap) 0 87 rfl dX7_swap_86 rfl rfl ?_
            refine gg_iload_n (S := sX7_swap) 2 88 rfl dX7_swap_87 rfl rfl ?_
            refine gg_iload_n (S := sX7_swap) 1 89 rfl dX7_swap_88 rfl rfl ?_
            refine gg_iconst (S := sX7_swap) 90 rfl dX7_swap_89 ?_
            refine gg_callVv (S := sX7_swap) (S' := sX7_layMoved) (cs := 0) (sl := 0) (As := [vi x2, vi x1, vi 1]) (st := []) 93 rfl (fun b11 => lkX7_layMoved b11 x2 x1 1) mwX7_layMoved rfl mlX7_229 dX7_swap_90 cfX7 ⟨by decide, by decide⟩ 0 0 ⟨rfl, rfl⟩ ⟨by decide, by decide⟩ (Nat.le_of_ble_eq_true rfl) (fun _ => ?_)
            refine gg_aload_n (S := sX7_swap) 0 94 rfl dX7_swap_93 rfl rfl ?_
            refine gg_callVi (S := sX7_swap) (S' := sX7_storeWork) (cs := 0) (sl := 0) (As := []) (st := []) 97 rfl (fun b10 => lkX7_storeWork b10) mwX7_storeWork rfl mlX7_152 dX7_swap_94 cfX7 ⟨by decide, by decide⟩ 0 0 ⟨rfl, rfl⟩ ⟨by decide, by decide⟩ (Nat.le_of_ble_eq_true rfl) (fun t7 => ?_)
            refine gg_istore_n (S := sX7_swap) (L' := [(3, vi t7), (0, vr (some x0)), (1, vi x1), (2, vi x2)]) 98 rfl dX7_swap_97 rfl (by decide) rfl ?_
            refine gg_aload_n (S := sX7_swap) 1 99 rfl dX7_swap_98 rfl rfl ?_
            refine gg_iload_n (S := sX7_swap) 2 100 rfl dX7_swap_99 rfl rfl ?_
            refine gg_iload_n (S := sX7_swap) 3 101 rfl dX7_swap_100 rfl rfl ?_
            refine gg_iconst (S := sX7_swap) 102 rfl dX7_swap_101 ?_
            refine gg_callVv (S := sX7_swap) (S' := sX7_layMoved) (cs := 0) (sl := 0) (As := [vi x1, vi x2, vi 0]) (st := []) 105 rfl (fun b9 => lkX7_layMoved b9 x1 x2 0) mwX7_layMoved rfl mlX7_229 dX7_swap_102 cfX7 ⟨by decide, by decide⟩ 0 0 ⟨rfl, rfl⟩ ⟨by decide, by decide⟩ (Nat.le_of_ble_eq_true rfl) (fun _ => ?_)
            refine gg_aload_n (S := sX7_swap) 1 106 rfl dX7_swap_105 rfl rfl ?_
            refine gg_callVi (S := sX7_swap) (S' := sX7_storeWork) (cs := 0) (sl := 0) (As := []) (st := []) 109 rfl (fun b8 => lkX7_storeWork b8) mwX7_storeWork rfl mlX7_152 dX7_swap_106 cfX7 ⟨by decide, by decide⟩ 0 0 ⟨rfl, rfl⟩ ⟨by decide, by decide⟩ (Nat.le_of_ble_eq_true rfl) (fun t8 => ?_)
            refine gg_pop (S := sX7_swap) 110 rfl dX7_swap_109 rfl ?_
            refine gg_iload_n (S := sX7_swap) 0 111 rfl dX7_swap_110 rfl rfl ?_
            exact gg_pure (gg_iret (S := sX7_swap) rfl dX7_swap_111 (by decide) (by decide))
          · refine gg_bipush (S := sX7_swap) 85 rfl dX7_swap_83 (by decide) ?_
            exact gg_pure (gg_iret (S := sX7_swap) rfl dX7_swap_85 (by decide) (by decide))

set_option maxRecDepth 100000 in
set_option maxHeartbeats 4000000 in
theorem lkX7_take (x0 : Nat) (x1 : Int) : LK yX7_take sX7_take [vr (some x0), vi x1] en_i (X7_take x0 x1) := by
  refine lk_go (L := [(0, vr (some x0)), (1, vi x1)]) (by decide +kernel) rfl (fun h => by cases h) (Nat.le_of_ble_eq_true rfl) rfl ?_
  intro K
  unfold X7_take
  refine gg_iload_n (S := sX7_take) 1 1 rfl dX7_take_0 rfl rfl ?_
  refine gg_iconst (S := sX7_take) 2 rfl dX7_take_1 ?_
  refine gg_cond [] [(0, vr (some x0)), (1, vi x1)] [] 13 16 0 0 (fun κ2 hT2 hF2 => ?_) ?_ ?_
  · refine gg_ic_eq (S := sX7_take) (tgt := 16) 5 rfl dX7_take_2 (by decide) ?_ ?_
    · exact gg_pure (gg_sub [0, 1] rfl hF2)
    · refine gg_aload_n (S := sX7_take) 0 6 rfl dX7_take_5 rfl rfl ?_
      refine gg_iload_n (S := sX7_take) 1 7 rfl dX7_take_6 rfl rfl ?_
      refine gg_callVi (S := sX7_take) (S' := sX7_isVersion) (cs := 0) (sl := 0) (As := [vi x1]) (st := []) 10 rfl (fun b1 => lkX7_isVersion b1 x1) mwX7_isVersion rfl mlX7_111 dX7_take_7 cfX7 ⟨by decide, by decide⟩ 0 0 ⟨rfl, rfl⟩ ⟨by decide, by decide⟩ (Nat.le_of_ble_eq_true rfl) (fun t1 => ?_)
      refine gg_if_ne (S := sX7_take) (tgt := 16) 13 rfl dX7_take_10 (by decide) ?_ ?_
      · exact gg_pure (gg_sub [] rfl hT2)
      · exact gg_pure (gg_sub [0, 1] rfl hF2)
  · refine gg_bipush (S := sX7_take) 15 rfl dX7_take_13 (by decide) ?_
    exact gg_pure (gg_iret (S := sX7_take) rfl dX7_take_15 (by decide) (by decide))
  · refine gg_aload_n (S := sX7_take) 0 17 rfl dX7_take_16 rfl rfl ?_
    refine gg_iload_n (S := sX7_take) 1 18 rfl dX7_take_17 rfl rfl ?_
    refine gg_iconst (S := sX7_take) 19 rfl dX7_take_18 ?_
    refine gg_join (fun t5 => [(0, vr (some x0)), (1, vi x1)]) (fun t5 => [vi t5, vr (some x0)]) 32 0 0 (fun κ19 hJ19 => ?_) ?_
    · refine gg_ic_ne (S := sX7_take) (tgt := 26) 22 rfl dX7_take_19 (by decide) ?_ ?_
      · refine gg_iconst (S := sX7_take) 23 rfl dX7_take_22 ?_
        refine gg_goto (S := sX7_take) (tgt := 32) dX7_take_23 (by decide) ?_
        exact gg_pure (gg_sub [0, 1] rfl (hJ19 0))
      · refine gg_aload_n (S := sX7_take) 0 27 rfl dX7_take_26 rfl rfl ?_
        refine gg_gr (S := sX7_take) cfX7 (by decide) (fun _ _ => rfl) 30 rfl flX7_13 dX7_take_27 (fun t3 => ?_)
        refine gg_iload_n (S := sX7_take) 1 31 rfl dX7_take_30 rfl rfl ?_
        refine gg_ld (S := sX7_take) 32 rfl dX7_take_31 (fun t4 => ?_)
        exact gg_pure (gg_sub [0, 1] rfl (hJ19 t4))
    · intro t5
      refine gg_si (S := sX7_take) cfX7 (by decide) rfl (fun _ _ => rfl) rfl 35 rfl flX7_108 dX7_take_32 ?_
      refine gg_iconst (S := sX7_take) 36 rfl dX7_take_35 ?_
      refine gg_istore_n (S := sX7_take) (L' := [(2, vi 0), (0, vr (some x0)), (1, vi x1)]) 37 rfl dX7_take_36 rfl (by decide) rfl ?_
      refine gg_sub [1, 2, 0] rfl ?_
      refine gg_loopA (fun y6 => [(0, vr (some x0)), (1, vi x1), (2, vi y6)]) (fun _ => [(0, vr (some x0))]) 68 mo_N ?_ ?_ 0
      · intro κ37 hr37 he37
        intro y6
        dsimp only [X7_take_L37]
        refine gg_iload_n (S := sX7_take) 2 38 rfl dX7_take_37 rfl rfl ?_
        refine gg_aload_n (S := sX7_take) 0 39 rfl dX7_take_38 rfl rfl ?_
        refine gg_gi (S := sX7_take) cfX7 (by decide) (fun _ _ => rfl) 42 rfl flX7_108 dX7_take_39 (fun t7 => ?_)
        refine gg_ic_ge (S := sX7_take) (tgt := 68) 45 rfl dX7_take_42 (by decide) ?_ ?_
        · refine gg_aload_n (S := sX7_take) 0 46 rfl dX7_take_45 rfl rfl ?_
          refine gg_gr (S := sX7_take) cfX7 (by decide) (fun _ _ => rfl) 49 rfl flX7_7 dX7_take_46 (fun t8 => ?_)
          refine gg_iload_n (S := sX7_take) 2 50 rfl dX7_take_49 rfl rfl ?_
          refine gg_aload_n (S := sX7_take) 0 51 rfl dX7_take_50 rfl rfl ?_
          refine gg_gr (S := sX7_take) cfX7 (by decide) (fun _ _ => rfl) 54 rfl flX7_16 dX7_take_51 (fun t9 => ?_)
          refine gg_bipush (S := sX7_take) 56 rfl dX7_take_54 (by decide) ?_
          refine gg_iload_n (S := sX7_take) 1 57 rfl dX7_take_56 rfl rfl ?_
          refine gg_imul (S := sX7_take) 58 rfl dX7_take_57 ?_
          refine gg_iload_n (S := sX7_take) 2 59 rfl dX7_take_58 rfl rfl ?_
          refine gg_iadd (S := sX7_take) 60 rfl dX7_take_59 ?_
          refine gg_ld (S := sX7_take) 61 rfl dX7_take_60 (fun t10 => ?_)
          refine gg_st (S := sX7_take) 62 rfl dX7_take_61 ?_
          refine gg_iinc (S := sX7_take) (L' := [(2, vi (y6 + 1)), (0, vr (some x0)), (1, vi x1)]) 2 65 rfl dX7_take_62 rfl (by decide) rfl ?_
          refine gg_goto (S := sX7_take) (tgt := 37) dX7_take_65 (by decide) ?_
          exact gg_pure (gg_sub [1, 2, 0] rfl (hr37 (y6 + 1)))
        · exact gg_pure (gg_sub [0] rfl (he37 ()))
      · intro _
        refine gg_aload_n (S := sX7_take) 0 69 rfl dX7_take_68 rfl rfl ?_
        refine gg_gi (S := sX7_take) cfX7 (by decide) (fun _ _ => rfl) 72 rfl flX7_108 dX7_take_69 (fun t11 => ?_)
        exact gg_pure (gg_iret (S := sX7_take) rfl dX7_take_72 (by decide) (by decide))

set_option maxRecDepth 100000 in
set_option maxHeartbeats 4000000 in
theorem lkX7_text (x0 : Nat) (x1 : Int) (x2 : Int) : LK yX7_text sX7_text [vr (some x0), vi x1, vi x2] en_i (X7_text x0 x1 x2) := by
  refine lk_go (L := [(0, vr (some x0)), (1, vi x1), (2, vi x2)]) (by decide +kernel) rfl (fun h => by cases h) (Nat.le_of_ble_eq_true rfl) rfl ?_
  intro K
  unfold X7_text
  refine gg_aload_n (S := sX7_text) 0 1 rfl dX7_text_0 rfl rfl ?_
  refine gg_iload_n (S := sX7_text) 1 2 rfl dX7_text_1 rfl rfl ?_
  refine gg_callVi (S := sX7_text) (S' := sX7_isVersion) (cs := 0) (sl := 0) (As := [vi x1]) (st := []) 5 rfl (fun b7 => lkX7_isVersion b7 x1) mwX7_isVersion rfl mlX7_111 dX7_text_2 cfX7 ⟨by decide, by decide⟩ 0 0 ⟨rfl, rfl⟩ ⟨by decide, by decide⟩ (Nat.le_of_ble_eq_true rfl) (fun t1 => ?_)
  refine gg_if_ne (S := sX7_text) (tgt := 11) 8 rfl dX7_text_5 (by decide) ?_ ?_
  · refine gg_bipush (S := sX7_text) 10 rfl dX7_text_8 (by decide) ?_
    exact gg_pure (gg_iret (S := sX7_text) rfl dX7_text_10 (by decide) (by decide))
  · refine gg_iload_n (S := sX7_text) 2 12 rfl dX7_text_11 rfl rfl ?_
    refine gg_iconst (S := sX7_text) 13 rfl dX7_text_12 ?_
    refine gg_aload_n (S := sX7_text) 0 14 rfl dX7_text_13 rfl rfl ?_
    refine gg_gr (S := sX7_text) cfX7 (by decide) (fun _ _ => rfl) 17 rfl flX7_13 dX7_text_14 (fun t2 => ?_)
    refine gg_iload_n (S := sX7_text) 1 18 rfl dX7_text_17 rfl rfl ?_
    refine gg_ld (S := sX7_text) 19 rfl dX7_text_18 (fun t3 => ?_)
    refine gg_iconst (S := sX7_text) 20 rfl dX7_text_19 ?_
    refine gg_isub (S := sX7_text) 21 rfl dX7_text_20 ?_
    refine gg_callSi (S := sX7_text) (S' := sX7_within) (cs := 0) (sl := 0) (As := [vi x2, vi 0, vi (t3 - 1)]) (st := []) 24 rfl (lkX7_within x2 0 (t3 - 1)) mwX7_within rfl mlX7_101 dX7_text_21 ⟨by decide, by decide⟩ 0 0 ⟨rfl, rfl⟩ ⟨by decide, by decide⟩ (Nat.le_of_ble_eq_true rfl) (fun t4 => ?_)
    refine gg_if_eq (S := sX7_text) (tgt := 41) 27 rfl dX7_text_24 (by decide) ?_ ?_
    · refine gg_iconst (S := sX7_text) 42 rfl dX7_text_41 ?_
      exact gg_pure (gg_iret (S := sX7_text) rfl dX7_text_42 (by decide) (by decide))
    · refine gg_aload_n (S := sX7_text) 0 28 rfl dX7_text_27 rfl rfl ?_
      refine gg_gr (S := sX7_text) cfX7 (by decide) (fun _ _ => rfl) 31 rfl flX7_16 dX7_text_28 (fun t5 => ?_)
      refine gg_bipush (S := sX7_text) 33 rfl dX7_text_31 (by decide) ?_
      refine gg_iload_n (S := sX7_text) 1 34 rfl dX7_text_33 rfl rfl ?_
      refine gg_imul (S := sX7_text) 35 rfl dX7_text_34 ?_
      refine gg_iload_n (S := sX7_text) 2 36 rfl dX7_text_35 rfl rfl ?_
      refine gg_iadd (S := sX7_text) 37 rfl dX7_text_36 ?_
      refine gg_ld (S := sX7_text) 38 rfl dX7_text_37 (fun t6 => ?_)
      refine gg_goto (S := sX7_text) (tgt := 42) dX7_text_38 (by decide) ?_
      exact gg_pure (gg_iret (S := sX7_text) rfl dX7_text_42 (by decide) (by decide))

set_option maxRecDepth 100000 in
set_option maxHeartbeats 4000000 in
theorem lkX7_workFits (x0 : Nat) : LK yX7_workFits sX7_workFits [vr (some x0)] en_i (X7_workFits x0) := by
  refine lk_go (L := [(0, vr (some x0))]) (by decide +kernel) rfl (fun h => by cases h) (Nat.le_of_ble_eq_true rfl) rfl ?_
  intro K
  unfold X7_workFits
  refine gg_aload_n (S := sX7_workFits) 0 1 rfl dX7_workFits_0 rfl rfl ?_
  refine gg_gi (S := sX7_workFits) cfX7 (by decide) (fun _ _ => rfl) 4 rfl flX7_119 dX7_workFits_1 (fun t1 => ?_)
  refine gg_bipush (S := sX7_workFits) 6 rfl dX7_workFits_4 (by decide) ?_
  refine gg_ic_gt (S := sX7_workFits) (tgt := 31) 9 rfl dX7_workFits_6 (by decide) ?_ ?_
  · refine gg_aload_n (S := sX7_workFits) 0 10 rfl dX7_workFits_9 rfl rfl ?_
    refine gg_gi (S := sX7_workFits) cfX7 (by decide) (fun _ _ => rfl) 13 rfl flX7_122 dX7_workFits_10 (fun t2 => ?_)
    refine gg_bipush (S := sX7_workFits) 15 rfl dX7_workFits_13 (by decide) ?_
    refine gg_ic_gt (S := sX7_workFits) (tgt := 31) 18 rfl dX7_workFits_15 (by decide) ?_ ?_
    · refine gg_aload_n (S := sX7_workFits) 0 19 rfl dX7_workFits_18 rfl rfl ?_
      refine gg_gi (S := sX7_workFits) cfX7 (by decide) (fun _ _ => rfl) 22 rfl flX7_125 dX7_workFits_19 (fun t3 => ?_)
      refine gg_bipush (S := sX7_workFits) 24 rfl dX7_workFits_22 (by decide) ?_
      refine gg_ic_gt (S := sX7_workFits) (tgt := 31) 27 rfl dX7_workFits_24 (by decide) ?_ ?_
      · refine gg_iconst (S := sX7_workFits) 28 rfl dX7_workFits_27 ?_
        refine gg_goto (S := sX7_workFits) (tgt := 32) dX7_workFits_28 (by decide) ?_
        exact gg_pure (gg_zretc (S := sX7_workFits) (by decide) rfl dX7_workFits_32 (by decide) (by decide))
      · refine gg_iconst (S := sX7_workFits) 32 rfl dX7_workFits_31 ?_
        exact gg_pure (gg_zretc (S := sX7_workFits) (by decide) rfl dX7_workFits_32 (by decide) (by decide))
    · refine gg_iconst (S := sX7_workFits) 32 rfl dX7_workFits_31 ?_
      exact gg_pure (gg_zretc (S := sX7_workFits) (by decide) rfl dX7_workFits_32 (by decide) (by decide))
  · refine gg_iconst (S := sX7_workFits) 32 rfl dX7_workFits_31 ?_
    exact gg_pure (gg_zretc (S := sX7_workFits) (by decide) rfl dX7_workFits_32 (by decide) (by decide))

set_option maxRecDepth 100000 in
set_option maxHeartbeats 4000000 in
theorem lkX7_together (x0 : Nat) (x1 : Int) (x2 : Int) : LK yX7_together sX7_together [vr (some x0), vi x1, vi x2] en_i (X7_together x0 x1 x2) := by
  refine lk_go (L := [(0, vr (some x0)), (1, vi x1), (2, vi x2)]) (by decide +kernel) rfl (fun h => by cases h) (Nat.le_of_ble_eq_true rfl) rfl ?_
  intro K
  unfold X7_together
  refine gg_aload_n (S := sX7_together) 0 1 rfl dX7_together_0 rfl rfl ?_
  refine gg_iload_n (S := sX7_together) 1 2 rfl dX7_together_1 rfl rfl ?_
  refine gg_callVi (S := sX7_together) (S' := sX7_isPatch) (cs := 0) (sl := 0) (As := [vi x1]) (st := []) 5 rfl (fun b75 => lkX7_isPatch b75 x1) mwX7_isPatch rfl mlX7_155 dX7_together_2 cfX7 ⟨by decide, by decide⟩ 0 0 ⟨rfl, rfl⟩ ⟨by decide, by decide⟩ (Nat.le_of_ble_eq_true rfl) (fun t1 => ?_)
  refine gg_if_eq (S := sX7_together) (tgt := 16) 8 rfl dX7_together_5 (by decide) ?_ ?_
  · refine gg_bipush (S := sX7_together) 18 rfl dX7_together_16 (by decide) ?_
    exact gg_pure (gg_iret (S := sX7_together) rfl dX7_together_18 (by decide) (by decide))
  · refine gg_aload_n (S := sX7_together) 0 9 rfl dX7_together_8 rfl rfl ?_
    refine gg_iload_n (S := sX7_together) 2 10 rfl dX7_together_9 rfl rfl ?_
    refine gg_callVi (S := sX7_together) (S' := sX7_isPatch) (cs := 0) (sl := 0) (As := [vi x2]) (st := []) 13 rfl (fun b74 => lkX7_isPatch b74 x2) mwX7_isPatch rfl mlX7_155 dX7_together_10 cfX7 ⟨by decide, by decide⟩ 0 0 ⟨rfl, rfl⟩ ⟨by decide, by decide⟩ (Nat.le_of_ble_eq_true rfl) (fun t2 => ?_)
    refine gg_if_ne (S := sX7_together) (tgt := 19) 16 rfl dX7_together_13 (by decide) ?_ ?_
    · refine gg_bipush (S := sX7_together) 18 rfl dX7_together_16 (by decide) ?_
      exact gg_pure (gg_iret (S := sX7_together) rfl dX7_together_18 (by decide) (by decide))
    · refine gg_aload_n (S := sX7_together) 0 20 rfl dX7_together_19 rfl rfl ?_
      refine gg_iload_n (S := sX7_together) 1 21 rfl dX7_together_20 rfl rfl ?_
      refine gg_iload_n (S := sX7_together) 2 22 rfl dX7_together_21 rfl rfl ?_
      refine gg_callVi (S := sX7_together) (S' := sX7_agree) (cs := 0) (sl := 0) (As := [vi x1, vi x2]) (st := []) 25 rfl (fun b73 => lkX7_agree b73 x1 x2) mwX7_agree rfl mlX7_201 dX7_together_22 cfX7 ⟨by decide, by decide⟩ 0 0 ⟨rfl, rfl⟩ ⟨by decide, by decide⟩ (Nat.le_of_ble_eq_true rfl) (fun t3 => ?_)
      refine gg_if_ne (S := sX7_together) (tgt := 31) 28 rfl dX7_together_25 (by decide) ?_ ?_
      · refine gg_bipush (S := sX7_together) 30 rfl dX7_together_28 (by decide) ?_
        exact gg_pure (gg_iret (S := sX7_together) rfl dX7_together_30 (by decide) (by decide))
      · refine gg_aload_n (S := sX7_together) 0 32 rfl dX7_together_31 rfl rfl ?_
        refine gg_callVv (S := sX7_together) (S' := sX7_newWork) (cs := 0) (sl := 0) (As := []) (st := []) 35 rfl (fun b72 => lkX7_newWork b72) mwX7_newWork rfl mlX7_128 dX7_together_32 cfX7 ⟨by decide, by decide⟩ 0 0 ⟨rfl, rfl⟩ ⟨by decide, by decide⟩ (Nat.le_of_ble_eq_true rfl) (fun _ => ?_)
        refine gg_iconst (S := sX7_together) 36 rfl dX7_together_35 ?_
        refine gg_istore_n (S := sX7_together) (L' := [(3, vi 0), (0, vr (some x0)), (1, vi x1), (2, vi x2)]) 37 rfl dX7_together_36 rfl (by decide) rfl ?_
        refine gg_iconst (S := sX7_together) 38 rfl dX7_together_37 ?_
        refine gg_istore (S := sX7_together) (L' := [(4, vi 0), (3, vi 0), (0, vr (some x0)), (1, vi x1), (2, vi x2)]) 40 rfl dX7_together_38 (by decide) rfl ?_
        refine gg_iconst (S := sX7_together) 41 rfl dX7_together_40 ?_
        refine gg_istore (S := sX7_together) (L' := [(5, vi 0), (4, vi 0), (3, vi 0), (0, vr (some x0)), (1, vi x1), (2, vi x2)]) 43 rfl dX7_together_41 (by decide) rfl ?_
        refine gg_sub [3, 4, 5, 2, 1, 0] rfl ?_
        refine gg_loopA (fun (y4, y5, y6) => [(0, vr (some x0)), (1, vi x1), (2, vi x2), (3, vi y4), (4, vi y5), (5, vi y6)]) (fun _ => [(0, vr (some x0))]) 451 mo_N ?_ ?_ (0, 0, 0)
        · intro κ43 hr43 he43
          rintro ⟨y4, y5, y6⟩
          dsimp only [X7_together_L43]
          refine gg_iload_n (S := sX7_together) 3 44 rfl dX7_together_43 rfl rfl ?_
          refine gg_aload_n (S := sX7_together) 0 45 rfl dX7_together_44 rfl rfl ?_
          refine gg_gr (S := sX7_together) cfX7 (by decide) (fun _ _ => rfl) 48 rfl flX7_28 dX7_together_45 (fun t7 => ?_)
          refine gg_iload_n (S := sX7_together) 1 49 rfl dX7_together_48 rfl rfl ?_
          refine gg_ld (S := sX7_together) 50 rfl dX7_together_49 (fun t8 => ?_)
          refine gg_cond [(0, vr (some x0)), (1, vi x1), (2, vi x2), (3, vi y4), (4, vi y5), (5, vi y6)] [(0, vr (some x0))] [] 64 451 0 0 (fun κ50 hT50 hF50 => ?_) ?_ ?_
          · refine gg_ic_lt (S := sX7_together) (tgt := 64) 53 rfl dX7_together_50 (by decide) ?_ ?_
            · exact gg_pure (gg_sub [0, 1, 2, 3, 4, 5] rfl hT50)
            · refine gg_iload (S := sX7_together) 4 55 rfl dX7_together_53 rfl ?_
              refine gg_aload_n (S := sX7_together) 0 56 rfl dX7_together_55 rfl rfl ?_
              refine gg_gr (S := sX7_together) cfX7 (by decide) (fun _ _ => rfl) 59 rfl flX7_28 dX7_together_56 (fun t9 => ?_)
              refine gg_iload_n (S := sX7_together) 2 60 rfl dX7_together_59 rfl rfl ?_
              refine gg_ld (S := sX7_together) 61 rfl dX7_together_60 (fun t10 => ?_)
              refine gg_ic_ge (S := sX7_together) (tgt := 451) 64 rfl dX7_together_61 (by decide) ?_ ?_
              · exact gg_pure (gg_sub [0, 1, 2, 3, 4, 5] rfl hT50)
              · exact gg_pure (gg_sub [0] rfl hF50)
          · refine gg_iload (S := sX7_together) 4 66 rfl dX7_together_64 rfl ?_
            refine gg_aload_n (S := sX7_together) 0 67 rfl dX7_together_66 rfl rfl ?_
            refine gg_gr (S := sX7_together) cfX7 (by decide) (fun _ _ => rfl) 70 rfl flX7_28 dX7_together_67 (fun t11 => ?_)
            refine gg_iload_n (S := sX7_together) 2 71 rfl dX7_together_70 rfl rfl ?_
            refine gg_ld (S := sX7_together) 72 rfl dX7_together_71 (fun t12 => ?_)
            refine gg_join (fun t19 => [(0, vr (some x0)), (1, vi x1), (2, vi x2), (3, vi y4), (4, vi y5), (5, vi y6)]) (fun t19 => [vi t19]) 111 0 0 (fun κ72 hJ72 => ?_) ?_
            · refine gg_ic_eq (S := sX7_together) (tgt := 106) 75 rfl dX7_together_72 (by decide) ?_ ?_
              · refine gg_iconst (S := sX7_together) 107 rfl dX7_together_106 ?_
                refine gg_goto (S := sX7_together) (tgt := 111) dX7_together_107 (by decide) ?_
                exact gg_pure (gg_sub [0, 1, 2, 3, 4, 5] rfl (hJ72 1))
              · refine gg_iload_n (S := sX7_together) 3 76 rfl dX7_together_75 rfl rfl ?_
                refine gg_aload_n (S := sX7_together) 0 77 rfl dX7_together_76 rfl rfl ?_
                refine gg_gr (S := sX7_together) cfX7 (by decide) (fun _ _ => rfl) 80 rfl flX7_28 dX7_together_77 (fun t13 => ?_)
                refine gg_iload_n (S := sX7_together) 1 81 rfl dX7_together_80 rfl rfl ?_
                refine gg_ld (S := sX7_together) 82 rfl dX7_together_81 (fun t14 => ?_)
                refine gg_ic_ge (S := sX7_together) (tgt := 110) 85 rfl dX7_together_82 (by decide) ?_ ?_
                · refine gg_aload_n (S := sX7_together) 0 86 rfl dX7_together_85 rfl rfl ?_
                  refine gg_iload_n (S := sX7_together) 1 87 rfl dX7_together_86 rfl rfl ?_
                  refine gg_iload_n (S := sX7_together) 3 88 rfl dX7_together_87 rfl rfl ?_
                  refine gg_callVi (S := sX7_together) (S' := sX7_standsAt) (cs := 0) (sl := 0) (As := [vi x1, vi y4]) (st := []) 91 rfl (fun b17 => lkX7_standsAt b17 x1 y4) mwX7_standsAt rfl mlX7_198 dX7_together_88 cfX7 ⟨by decide, by decide⟩ 0 0 ⟨rfl, rfl⟩ ⟨by decide, by decide⟩ (Nat.le_of_ble_eq_true rfl) (fun t15 => ?_)
                  refine gg_aload_n (S := sX7_together) 0 92 rfl dX7_together_91 rfl rfl ?_
                  refine gg_gr (S := sX7_together) cfX7 (by decide) (fun _ _ => rfl) 95 rfl flX7_31 dX7_together_92 (fun t16 => ?_)
                  refine gg_bipush (S := sX7_together) 97 rfl dX7_together_95 (by decide) ?_
                  refine gg_iload_n (S := sX7_together) 2 98 rfl dX7_together_97 rfl rfl ?_
                  refine gg_imul (S := sX7_together) 99 rfl dX7_together_98 ?_
                  refine gg_iload (S := sX7_together) 4 101 rfl dX7_together_99 rfl ?_
                  refine gg_iadd (S := sX7_together) 102 rfl dX7_together_101 ?_
                  refine gg_ld (S := sX7_together) 103 rfl dX7_together_102 (fun t17 => ?_)
                  refine gg_ic_gt (S := sX7_together) (tgt := 110) 106 rfl dX7_together_103 (by decide) ?_ ?_
                  · refine gg_iconst (S := sX7_together) 107 rfl dX7_together_106 ?_
                    refine gg_goto (S := sX7_together) (tgt := 111) dX7_together_107 (by decide) ?_
                    exact gg_pure (gg_sub [0, 1, 2, 3, 4, 5] rfl (hJ72 1))
                  · refine gg_iconst (S := sX7_together) 111 rfl dX7_together_110 ?_
                    exact gg_pure (gg_sub [0, 1, 2, 3, 4, 5] rfl (hJ72 0))
                · refine gg_iconst (S := sX7_together) 111 rfl dX7_together_110 ?_
                  exact gg_pure (gg_sub [0, 1, 2, 3, 4, 5] rfl (hJ72 0))
            · intro t19
              refine gg_istore (S := sX7_together) (L' := [(6, vi t19), (0, vr (some x0)), (1, vi x1), (2, vi x2), (3, vi y4), (4, vi y5), (5, vi y6)]) 113 rfl dX7_together_111 (by decide) rfl ?_
              refine gg_iload (S := sX7_together) 0 115 rfl dX7_together_113 rfl ?_
              refine gg_join (fun t24 => [(0, vr (some x0)), (1, vi x1), (2, vi x2), (3, vi y4), (4, vi y5), (5, vi y6), (6, vi t19)]) (fun t24 => [vi t24]) 139 0 0 (fun κ115 hJ115 => ?_) ?_
              · refine gg_if_eq (S := sX7_together) (tgt := 127) 118 rfl dX7_together_115 (by decide) ?_ ?_
                · refine gg_aload_n (S := sX7_together) 1 128 rfl dX7_together_127 rfl rfl ?_
                  refine gg_gr (S := sX7_together) cfX7 (by decide) (fun _ _ => rfl) 131 rfl flX7_31 dX7_together_128 (fun t20 => ?_)
                  refine gg_bipush (S := sX7_together) 133 rfl dX7_together_131 (by decide) ?_
                  refine gg_iload_n (S := sX7_together) 3 134 rfl dX7_together_133 rfl rfl ?_
                  refine gg_imul (S := sX7_together) 135 rfl dX7_together_134 ?_
                  refine gg_iload (S := sX7_together) 5 137 rfl dX7_together_135 rfl ?_
                  refine gg_iadd (S := sX7_together) 138 rfl dX7_together_137 ?_
                  refine gg_ld (S := sX7_together) 139 rfl dX7_together_138 (fun t21 => ?_)
                  exact gg_pure (gg_sub [1, 2, 3, 4, 5, 6, 0] rfl (hJ115 t21))
                · refine gg_aload_n (S := sX7_together) 1 119 rfl dX7_together_118 rfl rfl ?_
                  refine gg_iload_n (S := sX7_together) 2 120 rfl dX7_together_119 rfl rfl ?_
                  refine gg_iload_n (S := sX7_together) 4 121 rfl dX7_together_120 rfl rfl ?_
                  refine gg_callVi (S := sX7_together) (S' := sX7_standsAt) (cs := 0) (sl := 0) (As := [vi x1, vi y4]) (st := []) 124 rfl (fun b22 => lkX7_standsAt b22 x1 y4) mwX7_standsAt rfl mlX7_198 dX7_together_121 cfX7 ⟨by decide, by decide⟩ 0 0 ⟨rfl, rfl⟩ ⟨by decide, by decide⟩ (Nat.le_of_ble_eq_true rfl) (fun t22 => ?_)
                  refine gg_goto (S := sX7_together) (tgt := 139) dX7_together_124 (by decide) ?_
                  exact gg_pure (gg_sub [1, 2, 3, 4, 5, 6, 0] rfl (hJ115 t22))
              · intro t24
                refine gg_istore (S := sX7_together) (L' := [(7, vi t24), (0, vr (some x0)), (1, vi x1), (2, vi x2), (3, vi y4), (4, vi y5), (5, vi y6), (6, vi t19)]) 141 rfl dX7_together_139 (by decide) rfl ?_
                refine gg_iload_n (S := sX7_together) 4 142 rfl dX7_together_141 rfl rfl ?_
                refine gg_istore (S := sX7_together) (L' := [(8, vi y4), (7, vi t24), (0, vr (some x0)), (1, vi x1), (2, vi x2), (3, vi y4), (4, vi y5), (5, vi y6), (6, vi t19)]) 144 rfl dX7_together_142 (by decide) rfl ?_
                refine gg_iload (S := sX7_together) 6 146 rfl dX7_together_144 rfl ?_
                refine gg_istore (S := sX7_together) (L' := [(9, vi y5), (8, vi y4), (7, vi t24), (0, vr (some x0)), (1, vi x1), (2, vi x2), (3, vi y4), (4, vi y5), (5, vi y6), (6, vi t19)]) 148 rfl dX7_together_146 (by decide) rfl ?_
                refine gg_iload (S := sX7_together) 2 150 rfl dX7_together_148 rfl ?_
                refine gg_istore (S := sX7_together) (L' := [(10, vi t24), (9, vi y5), (8, vi y4), (7, vi t24), (0, vr (some x0)), (1, vi x1), (2, vi x2), (3, vi y4), (4, vi y5), (5, vi y6), (6, vi t19)]) 152 rfl dX7_together_150 (by decide) rfl ?_
                refine gg_iconst (S := sX7_together) 153 rfl dX7_together_152 ?_
                refine gg_istore (S := sX7_together) (L' := [(11, vi 1), (10, vi t24), (9, vi y5), (8, vi y4), (7, vi t24), (0, vr (some x0)), (1, vi x1), (2, vi x2), (3, vi y4), (4, vi y5), (5, vi y6), (6, vi t19)]) 155 rfl dX7_together_153 (by decide) rfl ?_
                refine gg_sub [5, 6, 7, 8, 9, 10, 11, 4, 3, 2, 1, 0] rfl ?_
                refine gg_loopA (fun (y25, y26, y27, y28) => [(0, vr (some x0)), (1, vi x1), (2, vi x2), (3, vi y25), (4, vi y26), (5, vi y6), (6, vi t19), (7, vi t24), (8, vi y4), (9, vi y5), (10, vi y27), (11, vi y28)]) (fun (t54, t55, t56) => [(0, vr (some x0)), (1, vi x1), (2, vi x2), (3, vi t54), (4, vi t55), (5, vi y6), (7, vi t24), (8, vi y4), (9, vi y5), (10, vi t56)]) 355 mo_N ?_ ?_ (y4, y5, t24, 1)
                · intro κ155 hr155 he155
                  rintro ⟨y25, y26, y27, y28⟩
                  dsimp only [X7_together_L155]
                  refine gg_iload (S := sX7_together) 11 157 rfl dX7_together_155 rfl ?_
                  refine gg_if_eq (S := sX7_together) (tgt := 355) 160 rfl dX7_together_157 (by decide) ?_ ?_
                  · exact gg_pure (gg_sub [0, 1, 2, 3, 4, 5, 7, 8, 9, 10] rfl (he155 (y25, y26, y27)))
                  · refine gg_iconst (S := sX7_together) 161 rfl dX7_together_160 ?_
                    refine gg_istore (S := sX7_together) (L' := [(11, vi 0), (0, vr (some x0)), (1, vi x1), (2, vi x2), (3, vi y25), (4, vi y26), (5, vi y6), (6, vi t19), (7, vi t24), (8, vi y4), (9, vi y5), (10, vi y27)]) 163 rfl dX7_together_161 (by decide) rfl ?_
                    refine gg_iload_n (S := sX7_together) 4 164 rfl dX7_together_163 rfl rfl ?_
                    refine gg_aload_n (S := sX7_together) 1 165 rfl dX7_together_164 rfl rfl ?_
                    refine gg_gr (S := sX7_together) cfX7 (by decide) (fun _ _ => rfl) 168 rfl flX7_28 dX7_together_165 (fun t29 => ?_)
                    refine gg_iload_n (S := sX7_together) 2 169 rfl dX7_together_168 rfl rfl ?_
                    refine gg_ld (S := sX7_together) 170 rfl dX7_together_169 (fun t30 => ?_)
                    refine gg_join (fun (t40, t41, t42) => [(0, vr (some x0)), (1, vi x1), (2, vi x2), (3, vi t40), (4, vi y26), (5, vi y6), (6, vi t19), (7, vi t24), (8, vi y4), (9, vi y5), (10, vi t41), (11, vi t42)]) (fun (t40, t41, t42) => []) 250 0 0 (fun κ170 hJ170 => ?_) ?_
                    · refine gg_ic_ge (S := sX7_together) (tgt := 250) 173 rfl dX7_together_170 (by decide) ?_ ?_
                      · refine gg_iload_n (S := sX7_together) 4 174 rfl dX7_together_173 rfl rfl ?_
                        refine gg_iload (S := sX7_together) 9 176 rfl dX7_together_174 rfl ?_
                        refine gg_cond [(0, vr (some x0)), (1, vi x1), (2, vi x2), (3, vi y25), (4, vi y26), (5, vi y6), (6, vi t19), (7, vi t24), (8, vi y4), (9, vi y5), (10, vi y27)] [(0, vr (some x0)), (1, vi x1), (2, vi x2), (3, vi y25), (4, vi y26), (5, vi y6), (6, vi t19), (7, vi t24), (8, vi y4), (9, vi y5), (10, vi y27), (11, vi 0)] [] 208 250 0 0 (fun κ176 hT176 hF176 => ?_) ?_ ?_
                        · refine gg_ic_ne (S := sX7_together) (tgt := 184) 179 rfl dX7_together_176 (by decide) ?_ ?_
                          · refine gg_iload (S := sX7_together) 7 181 rfl dX7_together_179 rfl ?_
                            refine gg_if_ne (S := sX7_together) (tgt := 208) 184 rfl dX7_together_181 (by decide) ?_ ?_
                            · refine gg_aload_n (S := sX7_together) 1 185 rfl dX7_together_184 rfl rfl ?_
                              refine gg_iload_n (S := sX7_together) 2 186 rfl dX7_together_185 rfl rfl ?_
                              refine gg_iload_n (S := sX7_together) 4 187 rfl dX7_together_186 rfl rfl ?_
                              refine gg_callVi (S := sX7_together) (S' := sX7_standsAt) (cs := 0) (sl := 0) (As := [vi x1, vi y25]) (st := []) 190 rfl (fun b33 => lkX7_standsAt b33 x1 y25) mwX7_standsAt rfl mlX7_198 dX7_together_187 cfX7 ⟨by decide, by decide⟩ 0 0 ⟨rfl, rfl⟩ ⟨by decide, by decide⟩ (Nat.le_of_ble_eq_true rfl) (fun t33 => ?_)
                              refine gg_iload (S := sX7_together) 11 192 rfl dX7_together_190 rfl ?_
                              refine gg_ic_gt (S := sX7_together) (tgt := 250) 195 rfl dX7_together_192 (by decide) ?_ ?_
                              · refine gg_iload_n (S := sX7_together) 4 196 rfl dX7_together_195 rfl rfl ?_
                                refine gg_iload (S := sX7_together) 9 198 rfl dX7_together_196 rfl ?_
                                refine gg_ic_gt (S := sX7_together) (tgt := 208) 201 rfl dX7_together_198 (by decide) ?_ ?_
                                · refine gg_iload (S := sX7_together) 5 203 rfl dX7_together_201 rfl ?_
                                  refine gg_iload (S := sX7_together) 10 205 rfl dX7_together_203 rfl ?_
                                  refine gg_ic_le (S := sX7_together) (tgt := 250) 208 rfl dX7_together_205 (by decide) ?_ ?_
                                  · exact gg_pure (gg_sub [1, 2, 3, 4, 5, 6, 7, 8, 9, 10, 11, 0] rfl hF176)
                                  · exact gg_pure (gg_sub [1, 2, 3, 4, 5, 6, 7, 8, 9, 10, 11] rfl hT176)
                                · exact gg_pure (gg_sub [1, 2, 3, 4, 5, 6, 7, 8, 9, 10, 11] rfl hT176)
                              · exact gg_pure (gg_sub [1, 2, 3, 4, 5, 6, 7, 8, 9, 10, 11, 0] rfl hF176)
                            · exact gg_pure (gg_sub [1, 2, 3, 4, 5, 6, 7, 8, 9, 10, 11] rfl hT176)
                          · refine gg_aload_n (S := sX7_together) 1 185 rfl dX7_together_184 rfl rfl ?_
                            refine gg_iload_n (S := sX7_together) 2 186 rfl dX7_together_185 rfl rfl ?_
                            refine gg_iload_n (S := sX7_together) 4 187 rfl dX7_together_186 rfl rfl ?_
                            refine gg_callVi (S := sX7_together) (S' := sX7_standsAt) (cs := 0) (sl := 0) (As := [vi x1, vi y25]) (st := []) 190 rfl (fun b31 => lkX7_standsAt b31 x1 y25) mwX7_standsAt rfl mlX7_198 dX7_together_187 cfX7 ⟨by decide, by decide⟩ 0 0 ⟨rfl, rfl⟩ ⟨by decide, by decide⟩ (Nat.le_of_ble_eq_true rfl) (fun t31 => ?_)
                            refine gg_iload (S := sX7_together) 11 192 rfl dX7_together_190 rfl ?_
                            refine gg_ic_gt (S := sX7_together) (tgt := 250) 195 rfl dX7_together_192 (by decide) ?_ ?_
                            · refine gg_iload_n (S := sX7_together) 4 196 rfl dX7_together_195 rfl rfl ?_
                              refine gg_iload (S := sX7_together) 9 198 rfl dX7_together_196 rfl ?_
                              refine gg_ic_gt (S := sX7_together) (tgt := 208) 201 rfl dX7_together_198 (by decide) ?_ ?_
                              · refine gg_iload (S := sX7_together) 5 203 rfl dX7_together_201 rfl ?_
                                refine gg_iload (S := sX7_together) 10 205 rfl dX7_together_203 rfl ?_
                                refine gg_ic_le (S := sX7_together) (tgt := 250) 208 rfl dX7_together_205 (by decide) ?_ ?_
                                · exact gg_pure (gg_sub [1, 2, 3, 4, 5, 6, 7, 8, 9, 10, 11, 0] rfl hF176)
                                · exact gg_pure (gg_sub [1, 2, 3, 4, 5, 6, 7, 8, 9, 10, 11] rfl hT176)
                              · exact gg_pure (gg_sub [1, 2, 3, 4, 5, 6, 7, 8, 9, 10, 11] rfl hT176)
                            · exact gg_pure (gg_sub [1, 2, 3, 4, 5, 6, 7, 8, 9, 10, 11, 0] rfl hF176)
                        · refine gg_aload_n (S := sX7_together) 0 209 rfl dX7_together_208 rfl rfl ?_
                          refine gg_iload_n (S := sX7_together) 1 210 rfl dX7_together_209 rfl rfl ?_
                          refine gg_iload_n (S := sX7_together) 3 211 rfl dX7_together_210 rfl rfl ?_
                          refine gg_callVi (S := sX7_together) (S' := sX7_standsAt) (cs := 0) (sl := 0) (As := [vi x1, vi y25]) (st := []) 214 rfl (fun b38 => lkX7_standsAt b38 x1 y25) mwX7_standsAt rfl mlX7_198 dX7_together_211 cfX7 ⟨by decide, by decide⟩ 0 0 ⟨rfl, rfl⟩ ⟨by decide, by decide⟩ (Nat.le_of_ble_eq_true rfl) (fun t35 => ?_)
                          refine gg_aload_n (S := sX7_together) 0 215 rfl dX7_together_214 rfl rfl ?_
                          refine gg_gr (S := sX7_together) cfX7 (by decide) (fun _ _ => rfl) 218 rfl flX7_37 dX7_together_215 (fun t36 => ?_)
                          refine gg_bipush (S := sX7_together) 220 rfl dX7_together_218 (by decide) ?_
                          refine gg_iload_n (S := sX7_together) 1 221 rfl dX7_together_220 rfl rfl ?_
                          refine gg_imul (S := sX7_together) 222 rfl dX7_together_221 ?_
                          refine gg_iload_n (S := sX7_together) 3 223 rfl dX7_together_222 rfl rfl ?_
                          refine gg_iadd (S := sX7_together) 224 rfl dX7_together_223 ?_
                          refine gg_ld (S := sX7_together) 225 rfl dX7_together_224 (fun t37 => ?_)
                          refine gg_iadd (S := sX7_together) 226 rfl dX7_together_225 ?_
                          refine gg_istore (S := sX7_together) (L' := [(12, vi (t35 + t37)), (0, vr (some x0)), (1, vi x1), (2, vi x2), (3, vi y25), (4, vi y26), (5, vi y6), (6, vi t19), (7, vi t24), (8, vi y4), (9, vi y5), (10, vi y27)]) 228 rfl dX7_together_226 (by decide) rfl ?_
                          refine gg_iload (S := sX7_together) 0 230 rfl dX7_together_228 rfl ?_
                          refine gg_iload (S := sX7_together) 11 232 rfl dX7_together_230 rfl ?_
                          refine gg_join (fun t38 => [(0, vr (some x0)), (1, vi x1), (2, vi x2), (3, vi y25), (4, vi y26), (5, vi y6), (6, vi t19), (7, vi t24), (8, vi y4), (9, vi y5)]) (fun t38 => [vi t38]) 242 0 0 (fun κ232 hJ232 => ?_) ?_
                          · refine gg_ic_le (S := sX7_together) (tgt := 240) 235 rfl dX7_together_232 (by decide) ?_ ?_
                            · refine gg_iload (S := sX7_together) 11 242 rfl dX7_together_240 rfl ?_
                              exact gg_pure (gg_sub [1, 2, 3, 4, 5, 6, 7, 8, 9, 10] rfl (hJ232 y27))
                            · refine gg_iload (S := sX7_together) 0 237 rfl dX7_together_235 rfl ?_
                              refine gg_goto (S := sX7_together) (tgt := 242) dX7_together_237 (by decide) ?_
                              exact gg_pure (gg_sub [1, 2, 3, 4, 5, 6, 7, 8, 9, 10] rfl (hJ232 (t35 + t37)))
                          · intro t38
                            refine gg_istore (S := sX7_together) (L' := [(10, vi t38), (0, vr (some x0)), (1, vi x1), (2, vi x2), (3, vi y25), (4, vi y26), (5, vi y6), (6, vi t19), (7, vi t24), (8, vi y4), (9, vi y5)]) 244 rfl dX7_together_242 (by decide) rfl ?_
                            refine gg_iinc (S := sX7_together) (L' := [(3, vi (y25 + 1)), (10, vi t38), (0, vr (some x0)), (1, vi x1), (2, vi x2), (4, vi y26), (5, vi y6), (6, vi t19), (7, vi t24), (8, vi y4), (9, vi y5)]) 4 247 rfl dX7_together_244 rfl (by decide) rfl ?_
                            refine gg_iconst (S := sX7_together) 248 rfl dX7_together_247 ?_
                            refine gg_istore (S := sX7_together) (L' := [(11, vi 1), (3, vi (y25 + 1)), (10, vi t38), (0, vr (some x0)), (1, vi x1), (2, vi x2), (4, vi y26), (5, vi y6), (6, vi t19), (7, vi t24), (8, vi y4), (9, vi y5)]) 250 rfl dX7_together_248 (by decide) rfl ?_
                            exact gg_pure (gg_sub [3, 4, 5, 1, 6, 7, 8, 9, 10, 11, 2, 0] rfl (hJ170 ((y25 + 1), t38, 1)))
                        · exact gg_pure (gg_sub [0, 1, 2, 3, 4, 5, 6, 7, 8, 9, 10, 11] rfl (hJ170 (y25, y27, 0)))
                      · exact gg_pure (gg_sub [1, 2, 3, 4, 5, 6, 7, 8, 9, 10, 11, 0] rfl (hJ170 (y25, y27, 0)))
                    · rintro ⟨t40, t41, t42⟩
                      dsimp only
                      refine gg_iload (S := sX7_together) 4 252 rfl dX7_together_250 rfl ?_
                      refine gg_aload_n (S := sX7_together) 0 253 rfl dX7_together_252 rfl rfl ?_
                      refine gg_gr (S := sX7_together) cfX7 (by decide) (fun _ _ => rfl) 256 rfl flX7_28 dX7_together_253 (fun t43 => ?_)
                      refine gg_iload_n (S := sX7_together) 2 257 rfl dX7_together_256 rfl rfl ?_
                      refine gg_ld (S := sX7_together) 258 rfl dX7_together_257 (fun t44 => ?_)
                      refine gg_ic_ge (S := sX7_together) (tgt := 155) 261 rfl dX7_together_258 (by decide) ?_ ?_
                      · refine gg_iload (S := sX7_together) 4 263 rfl dX7_together_261 rfl ?_
                        refine gg_iload (S := sX7_together) 9 265 rfl dX7_together_263 rfl ?_
                        refine gg_cond [(0, vr (some x0)), (1, vi x1), (2, vi x2), (3, vi t40), (4, vi y26), (5, vi y6), (6, vi t19), (7, vi t24), (8, vi y4), (9, vi y5), (10, vi t41), (11, vi t42)] [(0, vr (some x0)), (1, vi x1), (2, vi x2), (3, vi t40), (4, vi y26), (5, vi y6), (6, vi t19), (7, vi t24), (8, vi y4), (9, vi y5), (10, vi t41)] [] 155 303 0 0 (fun κ265 hT265 hF265 => ?_) ?_ ?_
                        · refine gg_ic_ne (S := sX7_together) (tgt := 273) 268 rfl dX7_together_265 (by decide) ?_ ?_
                          · refine gg_iload (S := sX7_together) 6 270 rfl dX7_together_268 rfl ?_
                            refine gg_if_eq (S := sX7_together) (tgt := 303) 273 rfl dX7_together_270 (by decide) ?_ ?_
                            · exact gg_pure (gg_sub [0, 1, 2, 3, 4, 5, 6, 7, 8, 9, 10] rfl hF265)
                            · refine gg_aload_n (S := sX7_together) 0 274 rfl dX7_together_273 rfl rfl ?_
                              refine gg_gr (S := sX7_together) cfX7 (by decide) (fun _ _ => rfl) 277 rfl flX7_31 dX7_together_274 (fun t47 => ?_)
                              refine gg_bipush (S := sX7_together) 279 rfl dX7_together_277 (by decide) ?_
                              refine gg_iload_n (S := sX7_together) 2 280 rfl dX7_together_279 rfl rfl ?_
                              refine gg_imul (S := sX7_together) 281 rfl dX7_together_280 ?_
                              refine gg_iload (S := sX7_together) 4 283 rfl dX7_together_281 rfl ?_
                              refine gg_iadd (S := sX7_together) 284 rfl dX7_together_283 ?_
                              refine gg_ld (S := sX7_together) 285 rfl dX7_together_284 (fun t48 => ?_)
                              refine gg_iload (S := sX7_together) 10 287 rfl dX7_together_285 rfl ?_
                              refine gg_ic_gt (S := sX7_together) (tgt := 155) 290 rfl dX7_together_287 (by decide) ?_ ?_
                              · refine gg_iload_n (S := sX7_together) 3 291 rfl dX7_together_290 rfl rfl ?_
                                refine gg_iload (S := sX7_together) 8 293 rfl dX7_together_291 rfl ?_
                                refine gg_ic_gt (S := sX7_together) (tgt := 303) 296 rfl dX7_together_293 (by decide) ?_ ?_
                                · refine gg_iload (S := sX7_together) 4 298 rfl dX7_together_296 rfl ?_
                                  refine gg_iload (S := sX7_together) 9 300 rfl dX7_together_298 rfl ?_
                                  refine gg_ic_le (S := sX7_together) (tgt := 155) 303 rfl dX7_together_300 (by decide) ?_ ?_
                                  · exact gg_pure (gg_sub [0, 1, 2, 3, 4, 5, 6, 7, 8, 9, 10, 11] rfl hT265)
                                  · exact gg_pure (gg_sub [0, 1, 2, 3, 4, 5, 6, 7, 8, 9, 10] rfl hF265)
                                · exact gg_pure (gg_sub [0, 1, 2, 3, 4, 5, 6, 7, 8, 9, 10] rfl hF265)
                              · exact gg_pure (gg_sub [0, 1, 2, 3, 4, 5, 6, 7, 8, 9, 10, 11] rfl hT265)
                          · refine gg_aload_n (S := sX7_together) 0 274 rfl dX7_together_273 rfl rfl ?_
                            refine gg_gr (S := sX7_together) cfX7 (by decide) (fun _ _ => rfl) 277 rfl flX7_31 dX7_together_274 (fun t45 => ?_)
                            refine gg_bipush (S := sX7_together) 279 rfl dX7_together_277 (by decide) ?_
                            refine gg_iload_n (S := sX7_together) 2 280 rfl dX7_together_279 rfl rfl ?_
                            refine gg_imul (S := sX7_together) 281 rfl dX7_together_280 ?_
                            refine gg_iload (S := sX7_together) 4 283 rfl dX7_together_281 rfl ?_
                            refine gg_iadd (S := sX7_together) 284 rfl dX7_together_283 ?_
                            refine gg_ld (S := sX7_together) 285 rfl dX7_together_284 (fun t46 => ?_)
                            refine gg_iload (S := sX7_together) 10 287 rfl dX7_together_285 rfl ?_
                            refine gg_ic_gt (S := sX7_together) (tgt := 155) 290 rfl dX7_together_287 (by decide) ?_ ?_
                            · refine gg_iload_n (S := sX7_together) 3 291 rfl dX7_together_290 rfl rfl ?_
                              refine gg_iload (S := sX7_together) 8 293 rfl dX7_together_291 rfl ?_
                              refine gg_ic_gt (S := sX7_together) (tgt := 303) 296 rfl dX7_together_293 (by decide) ?_ ?_
                              · refine gg_iload (S := sX7_together) 4 298 rfl dX7_together_296 rfl ?_
                                refine gg_iload (S := sX7_together) 9 300 rfl dX7_together_298 rfl ?_
                                refine gg_ic_le (S := sX7_together) (tgt := 155) 303 rfl dX7_together_300 (by decide) ?_ ?_
                                · exact gg_pure (gg_sub [0, 1, 2, 3, 4, 5, 6, 7, 8, 9, 10, 11] rfl hT265)
                                · exact gg_pure (gg_sub [0, 1, 2, 3, 4, 5, 6, 7, 8, 9, 10] rfl hF265)
                              · exact gg_pure (gg_sub [0, 1, 2, 3, 4, 5, 6, 7, 8, 9, 10] rfl hF265)
                            · exact gg_pure (gg_sub [0, 1, 2, 3, 4, 5, 6, 7, 8, 9, 10, 11] rfl hT265)
                        · exact gg_pure (gg_sub [0, 1, 2, 3, 4, 5, 6, 7, 8, 9, 10, 11] rfl (hr155 (t40, y26, t41, t42)))
                        · refine gg_aload_n (S := sX7_together) 0 304 rfl dX7_together_303 rfl rfl ?_
                          refine gg_gr (S := sX7_together) cfX7 (by decide) (fun _ _ => rfl) 307 rfl flX7_31 dX7_together_304 (fun t49 => ?_)
                          refine gg_bipush (S := sX7_together) 309 rfl dX7_together_307 (by decide) ?_
                          refine gg_iload_n (S := sX7_together) 2 310 rfl dX7_together_309 rfl rfl ?_
                          refine gg_imul (S := sX7_together) 311 rfl dX7_together_310 ?_
                          refine gg_iload (S := sX7_together) 4 313 rfl dX7_together_311 rfl ?_
                          refine gg_iadd (S := sX7_together) 314 rfl dX7_together_313 ?_
                          refine gg_ld (S := sX7_together) 315 rfl dX7_together_314 (fun t50 => ?_)
                          refine gg_aload_n (S := sX7_together) 0 316 rfl dX7_together_315 rfl rfl ?_
                          refine gg_gr (S := sX7_together) cfX7 (by decide) (fun _ _ => rfl) 319 rfl flX7_34 dX7_together_316 (fun t51 => ?_)
                          refine gg_bipush (S := sX7_together) 321 rfl dX7_together_319 (by decide) ?_
                          refine gg_iload_n (S := sX7_together) 2 322 rfl dX7_together_321 rfl rfl ?_
                          refine gg_imul (S := sX7_together) 323 rfl dX7_together_322 ?_
                          refine gg_iload (S := sX7_together) 4 325 rfl dX7_together_323 rfl ?_
                          refine gg_iadd (S := sX7_together) 326 rfl dX7_together_325 ?_
                          refine gg_ld (S := sX7_together) 327 rfl dX7_together_326 (fun t52 => ?_)
                          refine gg_iadd (S := sX7_together) 328 rfl dX7_together_327 ?_
                          refine gg_istore (S := sX7_together) (L' := [(12, vi (t50 + t52)), (0, vr (some x0)), (1, vi x1), (2, vi x2), (3, vi t40), (4, vi y26), (5, vi y6), (6, vi t19), (7, vi t24), (8, vi y4), (9, vi y5), (10, vi t41)]) 330 rfl dX7_together_328 (by decide) rfl ?_
                          refine gg_iload (S := sX7_together) 0 332 rfl dX7_together_330 rfl ?_
                          refine gg_iload (S := sX7_together) 11 334 rfl dX7_together_332 rfl ?_
                          refine gg_join (fun t53 => [(0, vr (some x0)), (1, vi x1), (2, vi x2), (3, vi t40), (4, vi y26), (5, vi y6), (6, vi t19), (7, vi t24), (8, vi y4), (9, vi y5)]) (fun t53 => [vi t53]) 344 0 0 (fun κ334 hJ334 => ?_) ?_
                          · refine gg_ic_le (S := sX7_together) (tgt := 342) 337 rfl dX7_together_334 (by decide) ?_ ?_
                            · refine gg_iload (S := sX7_together) 11 344 rfl dX7_together_342 rfl ?_
                              exact gg_pure (gg_sub [1, 2, 3, 4, 5, 6, 7, 8, 9, 10] rfl (hJ334 t41))
                            · refine gg_iload (S := sX7_together) 0 339 rfl dX7_together_337 rfl ?_
                              refine gg_goto (S := sX7_together) (tgt := 344) dX7_together_339 (by decide) ?_
                              exact gg_pure (gg_sub [1, 2, 3, 4, 5, 6, 7, 8, 9, 10] rfl (hJ334 (t50 + t52)))
                          · intro t53
                            refine gg_istore (S := sX7_together) (L' := [(10, vi t53), (0, vr (some x0)), (1, vi x1), (2, vi x2), (3, vi t40), (4, vi y26), (5, vi y6), (6, vi t19), (7, vi t24), (8, vi y4), (9, vi y5)]) 346 rfl dX7_together_344 (by decide) rfl ?_
                            refine gg_iinc (S := sX7_together) (L' := [(4, vi (y26 + 1)), (10, vi t53), (0, vr (some x0)), (1, vi x1), (2, vi x2), (3, vi t40), (5, vi y6), (6, vi t19), (7, vi t24), (8, vi y4), (9, vi y5)]) 5 349 rfl dX7_together_346 rfl (by decide) rfl ?_
                            refine gg_iconst (S := sX7_together) 350 rfl dX7_together_349 ?_
                            refine gg_istore (S := sX7_together) (L' := [(11, vi 1), (4, vi (y26 + 1)), (10, vi t53), (0, vr (some x0)), (1, vi x1), (2, vi x2), (3, vi t40), (5, vi y6), (6, vi t19), (7, vi t24), (8, vi y4), (9, vi y5)]) 352 rfl dX7_together_350 (by decide) rfl ?_
                            refine gg_goto (S := sX7_together) (tgt := 155) dX7_together_352 (by decide) ?_
                            exact gg_pure (gg_sub [3, 4, 5, 6, 1, 7, 8, 9, 10, 11, 2, 0] rfl (hr155 (t40, (y26 + 1), t53, 1)))
                      · exact gg_pure (gg_sub [0, 1, 2, 3, 4, 5, 6, 7, 8, 9, 10, 11] rfl (hr155 (t40, y26, t41, t42)))
                · rintro ⟨t54, t55, t56⟩
                  dsimp only
                  refine gg_aload_n (S := sX7_together) 0 356 rfl dX7_together_355 rfl rfl ?_
                  refine gg_iload (S := sX7_together) 6 358 rfl dX7_together_356 rfl ?_
                  refine gg_iload (S := sX7_together) 5 360 rfl dX7_together_358 rfl ?_
                  refine gg_isub (S := sX7_together) 361 rfl dX7_together_360 ?_
                  refine gg_callVv (S := sX7_together) (S' := sX7_newHunk) (cs := 0) (sl := 0) (As := [vi (t24 - y6)]) (st := []) 364 rfl (fun b66 => lkX7_newHunk b66 (t24 - y6)) mwX7_newHunk rfl mlX7_134 dX7_together_361 cfX7 ⟨by decide, by decide⟩ 0 0 ⟨rfl, rfl⟩ ⟨by decide, by decide⟩ (Nat.le_of_ble_eq_true rfl) (fun _ => ?_)
                  refine gg_aload_n (S := sX7_together) 0 365 rfl dX7_together_364 rfl rfl ?_
                  refine gg_iload_n (S := sX7_together) 1 366 rfl dX7_together_365 rfl rfl ?_
                  refine gg_iload (S := sX7_together) 7 368 rfl dX7_together_366 rfl ?_
                  refine gg_iload_n (S := sX7_together) 3 369 rfl dX7_together_368 rfl rfl ?_
                  refine gg_iload_n (S := sX7_together) 2 370 rfl dX7_together_369 rfl rfl ?_
                  refine gg_iload (S := sX7_together) 8 372 rfl dX7_together_370 rfl ?_
                  refine gg_iload (S := sX7_together) 4 374 rfl dX7_together_372 rfl ?_
                  refine gg_iload (S := sX7_together) 6 376 rfl dX7_together_374 rfl ?_
                  refine gg_iload (S := sX7_together) 9 378 rfl dX7_together_376 rfl ?_
                  refine gg_callVv (S := sX7_together) (S' := sX7_layAhead) (cs := 0) (sl := 0) (As := [vi x1, vi y4, vi t54, vi x2, vi y5, vi t55, vi t24, vi t56]) (st := []) 381 rfl (fun b65 => lkX7_layAhead b65 x1 y4 t54 x2 y5 t55 t24 t56) mwX7_layAhead rfl mlX7_205 dX7_together_378 cfX7 ⟨by decide, by decide⟩ 0 0 ⟨rfl, rfl⟩ ⟨by decide, by decide⟩ (Nat.le_of_ble_eq_true rfl) (fun _ => ?_)
                  refine gg_aload_n (S := sX7_together) 0 382 rfl dX7_together_381 rfl rfl ?_
                  refine gg_iload_n (S := sX7_together) 1 383 rfl dX7_together_382 rfl rfl ?_
                  refine gg_iload (S := sX7_together) 7 385 rfl dX7_together_383 rfl ?_
                  refine gg_iload_n (S := sX7_together) 3 386 rfl dX7_together_385 rfl rfl ?_
                  refine gg_iload_n (S := sX7_together) 2 387 rfl dX7_together_386 rfl rfl ?_
                  refine gg_iload (S := sX7_together) 8 389 rfl dX7_together_387 rfl ?_
                  refine gg_iload (S := sX7_together) 4 391 rfl dX7_together_389 rfl ?_
                  refine gg_iload (S := sX7_together) 6 393 rfl dX7_together_391 rfl ?_
                  refine gg_iload (S := sX7_together) 9 395 rfl dX7_together_393 rfl ?_
                  refine gg_callVv (S := sX7_together) (S' := sX7_layBehind) (cs := 0) (sl := 0) (As := [vi x1, vi y4, vi t54, vi x2, vi y5, vi t55, vi t24, vi t56]) (st := []) 398 rfl (fun b64 => lkX7_layBehind b64 x1 y4 t54 x2 y5 t55 t24 t56) mwX7_layBehind rfl mlX7_209 dX7_together_395 cfX7 ⟨by decide, by decide⟩ 0 0 ⟨rfl, rfl⟩ ⟨by decide, by decide⟩ (Nat.le_of_ble_eq_true rfl) (fun _ => ?_)
                  refine gg_iload (S := sX7_together) 7 400 rfl dX7_together_398 rfl ?_
                  refine gg_istore (S := sX7_together) (L' := [(12, vi y4), (0, vr (some x0)), (1, vi x1), (2, vi x2), (3, vi t54), (4, vi t55), (5, vi y6), (7, vi t24), (8, vi y4), (9, vi y5), (10, vi t56)]) 402 rfl dX7_together_400 (by decide) rfl ?_
                  refine gg_sub [1, 2, 3, 4, 5, 6, 0] rfl ?_
                  refine gg_loopA (fun (y57, y58) => [(0, vr (some x0)), (1, vi x1), (2, vi x2), (3, vi t54), (4, vi t55), (5, vi y57), (12, vi y58)]) (fun t63 => [(0, vr (some x0)), (1, vi x1), (2, vi x2), (3, vi t54), (4, vi t55), (5, vi t63)]) 444 mo_N ?_ ?_ (y6, y4)
                  · intro κ402 hr402 he402
                    rintro ⟨y57, y58⟩
                    dsimp only [X7_together_L402]
                    refine gg_iload (S := sX7_together) 6 404 rfl dX7_together_402 rfl ?_
                    refine gg_iload_n (S := sX7_together) 3 405 rfl dX7_together_404 rfl rfl ?_
                    refine gg_ic_ge (S := sX7_together) (tgt := 444) 408 rfl dX7_together_405 (by decide) ?_ ?_
                    · refine gg_iload (S := sX7_together) 5 410 rfl dX7_together_408 rfl ?_
                      refine gg_aload_n (S := sX7_together) 0 411 rfl dX7_together_410 rfl rfl ?_
                      refine gg_gr (S := sX7_together) cfX7 (by decide) (fun _ _ => rfl) 414 rfl flX7_37 dX7_together_411 (fun t59 => ?_)
                      refine gg_bipush (S := sX7_together) 416 rfl dX7_together_414 (by decide) ?_
                      refine gg_iload_n (S := sX7_together) 1 417 rfl dX7_together_416 rfl rfl ?_
                      refine gg_imul (S := sX7_together) 418 rfl dX7_together_417 ?_
                      refine gg_iload (S := sX7_together) 6 420 rfl dX7_together_418 rfl ?_
                      refine gg_iadd (S := sX7_together) 421 rfl dX7_together_420 ?_
                      refine gg_ld (S := sX7_together) 422 rfl dX7_together_421 (fun t60 => ?_)
                      refine gg_aload_n (S := sX7_together) 0 423 rfl dX7_together_422 rfl rfl ?_
                      refine gg_gr (S := sX7_together) cfX7 (by decide) (fun _ _ => rfl) 426 rfl flX7_34 dX7_together_423 (fun t61 => ?_)
                      refine gg_bipush (S := sX7_together) 428 rfl dX7_together_426 (by decide) ?_
                      refine gg_iload_n (S := sX7_together) 1 429 rfl dX7_together_428 rfl rfl ?_
                      refine gg_imul (S := sX7_together) 430 rfl dX7_together_429 ?_
                      refine gg_iload (S := sX7_together) 6 432 rfl dX7_together_430 rfl ?_
                      refine gg_iadd (S := sX7_together) 433 rfl dX7_together_432 ?_
                      refine gg_ld (S := sX7_together) 434 rfl dX7_together_433 (fun t62 => ?_)
                      refine gg_isub (S := sX7_together) 435 rfl dX7_together_434 ?_
                      refine gg_iadd (S := sX7_together) 436 rfl dX7_together_435 ?_
                      refine gg_istore (S := sX7_together) (L' := [(5, vi (y57 + (t60 - t62))), (0, vr (some x0)), (1, vi x1), (2, vi x2), (3, vi t54), (4, vi t55), (12, vi y58)]) 438 rfl dX7_together_436 (by decide) rfl ?_
                      refine gg_iinc (S := sX7_together) (L' := [(12, vi (y58 + 1)), (5, vi (y57 + (t60 - t62))), (0, vr (some x0)), (1, vi x1), (2, vi x2), (3, vi t54), (4, vi t55)]) 6 441 rfl dX7_together_438 rfl (by decide) rfl ?_
                      refine gg_goto (S := sX7_together) (tgt := 402) dX7_together_441 (by decide) ?_
                      exact gg_pure (gg_sub [2, 3, 4, 5, 6, 1, 0] rfl (hr402 ((y57 + (t60 - t62)), (y58 + 1))))
                    · exact gg_pure (gg_sub [0, 1, 2, 3, 4, 5] rfl (he402 y57))
                  · intro t63
                    refine gg_aload_n (S := sX7_together) 0 445 rfl dX7_together_444 rfl rfl ?_
                    refine gg_callVv (S := sX7_together) (S' := sX7_leaveOutIdle) (cs := 0) (sl := 0) (As := []) (st := []) 448 rfl (fun b63 => lkX7_leaveOutIdle b63) mwX7_leaveOutIdle rfl mlX7_212 dX7_together_445 cfX7 ⟨by decide, by decide⟩ 0 0 ⟨rfl, rfl⟩ ⟨by decide, by decide⟩ (Nat.le_of_ble_eq_true rfl) (fun _ => ?_)
                    refine gg_goto (S := sX7_together) (tgt := 43) dX7_together_448 (by decide) ?_
                    exact gg_pure (gg_sub [0, 1, 2, 3, 4, 5] rfl (hr43 (t54, t55, t63)))
          · exact gg_pure (gg_sub [0] rfl (he43 ()))
        · intro _
          refine gg_aload_n (S := sX7_together) 0 452 rfl dX7_together_451 rfl rfl ?_
          refine gg_gi (S := sX7_together) cfX7 (by decide) (fun _ _ => rfl) 455 rfl flX7_105 dX7_together_452 (fun t68 => ?_)
          refine gg_bipush (S := sX7_together) 457 rfl dX7_together_455 (by decide) ?_
          refine gg_ic_eq (S := sX7_together) (tgt := 467) 460 rfl dX7_together_457 (by decide) ?_ ?_
          · refine gg_bipush (S := sX7_together) 469 rfl dX7_together_467 (by decide) ?_
            exact gg_pure (gg_iret (S := sX7_together) rfl dX7_together_469 (by decide) (by decide))
          · refine gg_aload_n (S := sX7_together) 0 461 rfl dX7_together_460 rfl rfl ?_
            refine gg_callVi (S := sX7_together) (S' := sX7_workFits) (cs := 0) (sl := 0) (As := []) (st := []) 464 rfl (fun b71 => lkX7_workFits b71) mwX7_workFits rfl mlX7_215 dX7_together_461 cfX7 ⟨by decide, by decide⟩ 0 0 ⟨rfl, rfl⟩ ⟨by decide, by decide⟩ (Nat.le_of_ble_eq_true rfl) (fun t69 => ?_)
            refine gg_if_ne (S := sX7_together) (tgt := 470) 467 rfl dX7_together_464 (by decide) ?_ ?_
            · refine gg_bipush (S := sX7_together) 469 rfl dX7_together_467 (by decide) ?_
              exact gg_pure (gg_iret (S := sX7_together) rfl dX7_together_469 (by decide) (by decide))
            · refine gg_aload_n (S := sX7_together) 0 471 rfl dX7_together_470 rfl rfl ?_
              refine gg_callVi (S := sX7_together) (S' := sX7_storeWork) (cs := 0) (sl := 0) (As := []) (st := []) 474 rfl (fun b70 => lkX7_storeWork b70) mwX7_storeWork rfl mlX7_152 dX7_together_471 cfX7 ⟨by decide, by decide⟩ 0 0 ⟨rfl, rfl⟩ ⟨by decide, by decide⟩ (Nat.le_of_ble_eq_true rfl) (fun t70 => ?_)
              exact gg_pure (gg_iret (S := sX7_together) rfl dX7_together_474 (by decide) (by decide))

set_option maxRecDepth 100000 in
set_option maxHeartbeats 4000000 in
theorem lkX7_turn (x0 : Nat) (x1 : Int) : LK yX7_turn sX7_turn [vr (some x0), vi x1] en_i (X7_turn x0 x1) := by
  refine lk_go (L := [(0, vr (some x0)), (1, vi x1)]) (by decide +kernel) rfl (fun h => by cases h) (Nat.le_of_ble_eq_true rfl) rfl ?_
  intro K
  unfold X7_turn
  refine gg_aload_n (S := sX7_turn) 0 1 rfl dX7_turn_0 rfl rfl ?_
  refine gg_iload_n (S := sX7_turn) 1 2 rfl dX7_turn_1 rfl rfl ?_
  refine gg_callVi (S := sX7_turn) (S' := sX7_isPatch) (cs := 0) (sl := 0) (As := [vi x1]) (st := []) 5 rfl (fun b32 => lkX7_isPatch b32 x1) mwX7_isPatch rfl mlX7_155 dX7_turn_2 cfX7 ⟨by decide, by decide⟩ 0 0 ⟨rfl, rfl⟩ ⟨by decide, by decide⟩ (Nat.le_of_ble_eq_true rfl) (fun t1 => ?_)
  refine gg_if_ne (S := sX7_turn) (tgt := 11) 8 rfl dX7_turn_5 (by decide) ?_ ?_
  · refine gg_bipush (S := sX7_turn) 10 rfl dX7_turn_8 (by decide) ?_
    exact gg_pure (gg_iret (S := sX7_turn) rfl dX7_turn_10 (by decide) (by decide))
  · refine gg_aload_n (S := sX7_turn) 0 12 rfl dX7_turn_11 rfl rfl ?_
    refine gg_gi (S := sX7_turn) cfX7 (by decide) (fun _ _ => rfl) 15 rfl flX7_105 dX7_turn_12 (fun t2 => ?_)
    refine gg_bipush (S := sX7_turn) 17 rfl dX7_turn_15 (by decide) ?_
    refine gg_ic_ne (S := sX7_turn) (tgt := 23) 20 rfl dX7_turn_17 (by decide) ?_ ?_
    · refine gg_bipush (S := sX7_turn) 22 rfl dX7_turn_20 (by decide) ?_
      exact gg_pure (gg_iret (S := sX7_turn) rfl dX7_turn_22 (by decide) (by decide))
    · refine gg_aload_n (S := sX7_turn) 0 24 rfl dX7_turn_23 rfl rfl ?_
      refine gg_callVv (S := sX7_turn) (S' := sX7_newWork) (cs := 0) (sl := 0) (As := []) (st := []) 27 rfl (fun b31 => lkX7_newWork b31) mwX7_newWork rfl mlX7_128 dX7_turn_24 cfX7 ⟨by decide, by decide⟩ 0 0 ⟨rfl, rfl⟩ ⟨by decide, by decide⟩ (Nat.le_of_ble_eq_true rfl) (fun _ => ?_)
      refine gg_iconst (S := sX7_turn) 28 rfl dX7_turn_27 ?_
      refine gg_istore_n (S := sX7_turn) (L' := [(2, vi 0), (0, vr (some x0)), (1, vi x1)]) 29 rfl dX7_turn_28 rfl (by decide) rfl ?_
      refine gg_iconst (S := sX7_turn) 30 rfl dX7_turn_29 ?_
      refine gg_istore_n (S := sX7_turn) (L' := [(3, vi 0), (2, vi 0), (0, vr (some x0)), (1, vi x1)]) 31 rfl dX7_turn_30 rfl (by decide) rfl ?_
      refine gg_sub [2, 3, 1, 0] rfl ?_
      refine gg_loopA (fun (y3, y4) => [(0, vr (some x0)), (1, vi x1), (2, vi y3), (3, vi y4)]) (fun _ => [(0, vr (some x0))]) 176 mo_N ?_ ?_ (0, 0)
      · intro κ31 hr31 he31
        rintro ⟨y3, y4⟩
        dsimp only [X7_turn_L31]
        refine gg_iload_n (S := sX7_turn) 3 32 rfl dX7_turn_31 rfl rfl ?_
        refine gg_aload_n (S := sX7_turn) 0 33 rfl dX7_turn_32 rfl rfl ?_
        refine gg_gr (S := sX7_turn) cfX7 (by decide) (fun _ _ => rfl) 36 rfl flX7_28 dX7_turn_33 (fun t5 => ?_)
        refine gg_iload_n (S := sX7_turn) 1 37 rfl dX7_turn_36 rfl rfl ?_
        refine gg_ld (S := sX7_turn) 38 rfl dX7_turn_37 (fun t6 => ?_)
        refine gg_ic_ge (S := sX7_turn) (tgt := 176) 41 rfl dX7_turn_38 (by decide) ?_ ?_
        · refine gg_aload_n (S := sX7_turn) 0 42 rfl dX7_turn_41 rfl rfl ?_
          refine gg_aload_n (S := sX7_turn) 0 43 rfl dX7_turn_42 rfl rfl ?_
          refine gg_gr (S := sX7_turn) cfX7 (by decide) (fun _ _ => rfl) 46 rfl flX7_31 dX7_turn_43 (fun t7 => ?_)
          refine gg_bipush (S := sX7_turn) 48 rfl dX7_turn_46 (by decide) ?_
          refine gg_iload_n (S := sX7_turn) 1 49 rfl dX7_turn_48 rfl rfl ?_
          refine gg_imul (S := sX7_turn) 50 rfl dX7_turn_49 ?_
          refine gg_iload_n (S := sX7_turn) 3 51 rfl dX7_turn_50 rfl rfl ?_
          refine gg_iadd (S := sX7_turn) 52 rfl dX7_turn_51 ?_
          refine gg_ld (S := sX7_turn) 53 rfl dX7_turn_52 (fun t8 => ?_)
          refine gg_iload_n (S := sX7_turn) 2 54 rfl dX7_turn_53 rfl rfl ?_
          refine gg_iadd (S := sX7_turn) 55 rfl dX7_turn_54 ?_
          refine gg_callVv (S := sX7_turn) (S' := sX7_newHunk) (cs := 0) (sl := 0) (As := [vi (t8 + y3)]) (st := []) 58 rfl (fun b28 => lkX7_newHunk b28 (t8 + y3)) mwX7_newHunk rfl mlX7_134 dX7_turn_55 cfX7 ⟨by decide, by decide⟩ 0 0 ⟨rfl, rfl⟩ ⟨by decide, by decide⟩ (Nat.le_of_ble_eq_true rfl) (fun _ => ?_)
          refine gg_iload_n (S := sX7_turn) 2 59 rfl dX7_turn_58 rfl rfl ?_
          refine gg_aload_n (S := sX7_turn) 0 60 rfl dX7_turn_59 rfl rfl ?_
          refine gg_gr (S := sX7_turn) cfX7 (by decide) (fun _ _ => rfl) 63 rfl flX7_37 dX7_turn_60 (fun t9 => ?_)
          refine gg_bipush (S := sX7_turn) 65 rfl dX7_turn_63 (by decide) ?_
          refine gg_iload_n (S := sX7_turn) 1 66 rfl dX7_turn_65 rfl rfl ?_
          refine gg_imul (S := sX7_turn) 67 rfl dX7_turn_66 ?_
          refine gg_iload_n (S := sX7_turn) 3 68 rfl dX7_turn_67 rfl rfl ?_
          refine gg_iadd (S := sX7_turn) 69 rfl dX7_turn_68 ?_
          refine gg_ld (S := sX7_turn) 70 rfl dX7_turn_69 (fun t10 => ?_)
          refine gg_aload_n (S := sX7_turn) 0 71 rfl dX7_turn_70 rfl rfl ?_
          refine gg_gr (S := sX7_turn) cfX7 (by decide) (fun _ _ => rfl) 74 rfl flX7_34 dX7_turn_71 (fun t11 => ?_)
          refine gg_bipush (S := sX7_turn) 76 rfl dX7_turn_74 (by decide) ?_
          refine gg_iload_n (S := sX7_turn) 1 77 rfl dX7_turn_76 rfl rfl ?_
          refine gg_imul (S := sX7_turn) 78 rfl dX7_turn_77 ?_
          refine gg_iload_n (S := sX7_turn) 3 79 rfl dX7_turn_78 rfl rfl ?_
          refine gg_iadd (S := sX7_turn) 80 rfl dX7_turn_79 ?_
          refine gg_ld (S := sX7_turn) 81 rfl dX7_turn_80 (fun t12 => ?_)
          refine gg_isub (S := sX7_turn) 82 rfl dX7_turn_81 ?_
          refine gg_iadd (S := sX7_turn) 83 rfl dX7_turn_82 ?_
          refine gg_istore_n (S := sX7_turn) (L' := [(2, vi (y3 + (t10 - t12))), (0, vr (some x0)), (1, vi x1), (3, vi y4)]) 84 rfl dX7_turn_83 rfl (by decide) rfl ?_
          refine gg_iconst (S := sX7_turn) 85 rfl dX7_turn_84 ?_
          refine gg_istore (S := sX7_turn) (L' := [(4, vi 0), (2, vi (y3 + (t10 - t12))), (0, vr (some x0)), (1, vi x1), (3, vi y4)]) 87 rfl dX7_turn_85 (by decide) rfl ?_
          refine gg_sub [2, 3, 1, 4, 0] rfl ?_
          refine gg_loopA (fun y13 => [(0, vr (some x0)), (1, vi x1), (2, vi (y3 + (t10 - t12))), (3, vi y4), (4, vi y13)]) (fun _ => [(0, vr (some x0)), (1, vi x1), (2, vi (y3 + (t10 - t12))), (3, vi y4)]) 127 mo_N ?_ ?_ 0
          · intro κ87 hr87 he87
            intro y13
            dsimp only [X7_turn_L87]
            refine gg_iload (S := sX7_turn) 4 89 rfl dX7_turn_87 rfl ?_
            refine gg_aload_n (S := sX7_turn) 0 90 rfl dX7_turn_89 rfl rfl ?_
            refine gg_gr (S := sX7_turn) cfX7 (by decide) (fun _ _ => rfl) 93 rfl flX7_37 dX7_turn_90 (fun t14 => ?_)
            refine gg_bipush (S := sX7_turn) 95 rfl dX7_turn_93 (by decide) ?_
            refine gg_iload_n (S := sX7_turn) 1 96 rfl dX7_turn_95 rfl rfl ?_
            refine gg_imul (S := sX7_turn) 97 rfl dX7_turn_96 ?_
            refine gg_iload_n (S := sX7_turn) 3 98 rfl dX7_turn_97 rfl rfl ?_
            refine gg_iadd (S := sX7_turn) 99 rfl dX7_turn_98 ?_
            refine gg_ld (S := sX7_turn) 100 rfl dX7_turn_99 (fun t15 => ?_)
            refine gg_ic_ge (S := sX7_turn) (tgt := 127) 103 rfl dX7_turn_100 (by decide) ?_ ?_
            · refine gg_aload_n (S := sX7_turn) 0 104 rfl dX7_turn_103 rfl rfl ?_
              refine gg_aload_n (S := sX7_turn) 0 105 rfl dX7_turn_104 rfl rfl ?_
              refine gg_gr (S := sX7_turn) cfX7 (by decide) (fun _ _ => rfl) 108 rfl flX7_43 dX7_turn_105 (fun t16 => ?_)
              refine gg_aload_n (S := sX7_turn) 0 109 rfl dX7_turn_108 rfl rfl ?_
              refine gg_iload_n (S := sX7_turn) 1 110 rfl dX7_turn_109 rfl rfl ?_
              refine gg_iload_n (S := sX7_turn) 3 111 rfl dX7_turn_110 rfl rfl ?_
              refine gg_callVi (S := sX7_turn) (S' := sX7_comeFrom) (cs := 0) (sl := 0) (As := [vi x1, vi y4]) (st := [vr t16, vr (some x0)]) 114 rfl (fun b19 => lkX7_comeFrom b19 x1 y4) mwX7_comeFrom rfl mlX7_171 dX7_turn_111 cfX7 ⟨by decide, by decide⟩ 0 0 ⟨rfl, rfl⟩ ⟨by decide, by decide⟩ (Nat.le_of_ble_eq_true rfl) (fun t17 => ?_)
              refine gg_iload (S := sX7_turn) 4 116 rfl dX7_turn_114 rfl ?_
              refine gg_iadd (S := sX7_turn) 117 rfl dX7_turn_116 ?_
              refine gg_ld (S := sX7_turn) 118 rfl dX7_turn_117 (fun t18 => ?_)
              refine gg_callVv (S := sX7_turn) (S' := sX7_goes) (cs := 0) (sl := 0) (As := [vi t18]) (st := []) 121 rfl (fun b18 => lkX7_goes b18 t18) mwX7_goes rfl mlX7_138 dX7_turn_118 cfX7 ⟨by decide, by decide⟩ 0 0 ⟨rfl, rfl⟩ ⟨by decide, by decide⟩ (Nat.le_of_ble_eq_true rfl) (fun _ => ?_)
              refine gg_iinc (S := sX7_turn) (L' := [(4, vi (y13 + 1)), (0, vr (some x0)), (1, vi x1), (2, vi (y3 + (t10 - t12))), (3, vi y4)]) 4 124 rfl dX7_turn_121 rfl (by decide) rfl ?_
              refine gg_goto (S := sX7_turn) (tgt := 87) dX7_turn_124 (by decide) ?_
              exact gg_pure (gg_sub [1, 2, 3, 4, 0] rfl (hr87 (y13 + 1)))
            · exact gg_pure (gg_sub [0, 1, 2, 3] rfl (he87 ()))
          · intro _
            refine gg_iconst (S := sX7_turn) 128 rfl dX7_turn_127 ?_
            refine gg_istore (S := sX7_turn) (L' := [(4, vi 0), (0, vr (some x0)), (1, vi x1), (2, vi (y3 + (t10 - t12))), (3, vi y4)]) 130 rfl dX7_turn_128 (by decide) rfl ?_
            refine gg_sub [1, 2, 3, 4, 0] rfl ?_
            refine gg_loopA (fun y21 => [(0, vr (some x0)), (1, vi x1), (2, vi (y3 + (t10 - t12))), (3, vi y4), (4, vi y21)]) (fun _ => [(0, vr (some x0)), (1, vi x1), (2, vi (y3 + (t10 - t12))), (3, vi y4)]) 170 mo_N ?_ ?_ 0
            · intro κ130 hr130 he130
              intro y21
              dsimp only [X7_turn_L130]
              refine gg_iload (S := sX7_turn) 4 132 rfl dX7_turn_130 rfl ?_
              refine gg_aload_n (S := sX7_turn) 0 133 rfl dX7_turn_132 rfl rfl ?_
              refine gg_gr (S := sX7_turn) cfX7 (by decide) (fun _ _ => rfl) 136 rfl flX7_34 dX7_turn_133 (fun t22 => ?_)
              refine gg_bipush (S := sX7_turn) 138 rfl dX7_turn_136 (by decide) ?_
              refine gg_iload_n (S := sX7_turn) 1 139 rfl dX7_turn_138 rfl rfl ?_
              refine gg_imul (S := sX7_turn) 140 rfl dX7_turn_139 ?_
              refine gg_iload_n (S := sX7_turn) 3 141 rfl dX7_turn_140 rfl rfl ?_
              refine gg_iadd (S := sX7_turn) 142 rfl dX7_turn_141 ?_
              refine gg_ld (S := sX7_turn) 143 rfl dX7_turn_142 (fun t23 => ?_)
              refine gg_ic_ge (S := sX7_turn) (tgt := 170) 146 rfl dX7_turn_143 (by decide) ?_ ?_
              · refine gg_aload_n (S := sX7_turn) 0 147 rfl dX7_turn_146 rfl rfl ?_
                refine gg_aload_n (S := sX7_turn) 0 148 rfl dX7_turn_147 rfl rfl ?_
                refine gg_gr (S := sX7_turn) cfX7 (by decide) (fun _ _ => rfl) 151 rfl flX7_40 dX7_turn_148 (fun t24 => ?_)
                refine gg_aload_n (S := sX7_turn) 0 152 rfl dX7_turn_151 rfl rfl ?_
                refine gg_iload_n (S := sX7_turn) 1 153 rfl dX7_turn_152 rfl rfl ?_
                refine gg_iload_n (S := sX7_turn) 3 154 rfl dX7_turn_153 rfl rfl ?_
                refine gg_callVi (S := sX7_turn) (S' := sX7_goFrom) (cs := 0) (sl := 0) (As := [vi x1, vi y4]) (st := [vr t24, vr (some x0)]) 157 rfl (fun b27 => lkX7_goFrom b27 x1 y4) mwX7_goFrom rfl mlX7_168 dX7_turn_154 cfX7 ⟨by decide, by decide⟩ 0 0 ⟨rfl, rfl⟩ ⟨by decide, by decide⟩ (Nat.le_of_ble_eq_true rfl) (fun t25 => ?_)
                refine gg_iload (S := sX7_turn) 4 159 rfl dX7_turn_157 rfl ?_
                refine gg_iadd (S := sX7_turn) 160 rfl dX7_turn_159 ?_
                refine gg_ld (S := sX7_turn) 161 rfl dX7_turn_160 (fun t26 => ?_)
                refine gg_callVv (S := sX7_turn) (S' := sX7_comes) (cs := 0) (sl := 0) (As := [vi t26]) (st := []) 164 rfl (fun b26 => lkX7_comes b26 t26) mwX7_comes rfl mlX7_141 dX7_turn_161 cfX7 ⟨by decide, by decide⟩ 0 0 ⟨rfl, rfl⟩ ⟨by decide, by decide⟩ (Nat.le_of_ble_eq_true rfl) (fun _ => ?_)
                refine gg_iinc (S := sX7_turn) (L' := [(4, vi (y21 + 1)), (0, vr (some x0)), (1, vi x1), (2, vi (y3 + (t10 - t12))), (3, vi y4)]) 4 167 rfl dX7_turn_164 rfl (by decide) rfl ?_
                refine gg_goto (S := sX7_turn) (tgt := 130) dX7_turn_167 (by decide) ?_
                exact gg_pure (gg_sub [1, 2, 3, 4, 0] rfl (hr130 (y21 + 1)))
              · exact gg_pure (gg_sub [0, 1, 2, 3] rfl (he130 ()))
            · intro _
              refine gg_iinc (S := sX7_turn) (L' := [(3, vi (y4 + 1)), (0, vr (some x0)), (1, vi x1), (2, vi (y3 + (t10 - t12)))]) 3 173 rfl dX7_turn_170 rfl (by decide) rfl ?_
              refine gg_goto (S := sX7_turn) (tgt := 31) dX7_turn_173 (by decide) ?_
              exact gg_pure (gg_sub [1, 2, 3, 0] rfl (hr31 ((y3 + (t10 - t12)), (y4 + 1))))
        · exact gg_pure (gg_sub [0] rfl (he31 ()))
      · intro _
        refine gg_aload_n (S := sX7_turn) 0 177 rfl dX7_turn_176 rfl rfl ?_
        refine gg_callVi (S := sX7_turn) (S' := sX7_storeWork) (cs := 0) (sl := 0) (As := []) (st := []) 180 rfl (fun b30 => lkX7_storeWork b30) mwX7_storeWork rfl mlX7_152 dX7_turn_177 cfX7 ⟨by decide, by decide⟩ 0 0 ⟨rfl, rfl⟩ ⟨by decide, by decide⟩ (Nat.le_of_ble_eq_true rfl) (fun t30 => ?_)
        exact gg_pure (gg_iret (S := sX7_turn) rfl dX7_turn_180 (by decide) (by decide))

set_option maxRecDepth 100000 in
set_option maxHeartbeats 4000000 in
theorem lkX7_worst (x0 : Nat) (x1 : Int) (x2 : Int) (x3 : Int) : LK yX7_worst sX7_worst [vr (some x0), vi x1, vi x2, vi x3] en_i (X7_worst x0 x1 x2 x3) := by
  refine lk_go (L := [(0, vr (some x0)), (1, vi x1), (2, vi x2), (3, vi x3)]) (by decide +kernel) rfl (fun h => by cases h) (Nat.le_of_ble_eq_true rfl) rfl ?_
  intro K
  unfold X7_worst
  refine gg_aload_n (S := sX7_worst) 0 1 rfl dX7_worst_0 rfl rfl ?_
  refine gg_iload_n (S := sX7_worst) 1 2 rfl dX7_worst_1 rfl rfl ?_
  refine gg_iload_n (S := sX7_worst) 2 3 rfl dX7_worst_2 rfl rfl ?_
  refine gg_callVi (S := sX7_worst) (S' := sX7_isAsk) (cs := 0) (sl := 0) (As := [vi x1, vi x2]) (st := []) 6 rfl (fun b11 => lkX7_isAsk b11 x1 x2) mwX7_isAsk rfl mlX7_283 dX7_worst_3 cfX7 ⟨by decide, by decide⟩ 0 0 ⟨rfl, rfl⟩ ⟨by decide, by decide⟩ (Nat.le_of_ble_eq_true rfl) (fun t1 => ?_)
  refine gg_if_eq (S := sX7_worst) (tgt := 18) 9 rfl dX7_worst_6 (by decide) ?_ ?_
  · refine gg_bipush (S := sX7_worst) 20 rfl dX7_worst_18 (by decide) ?_
    exact gg_pure (gg_iret (S := sX7_worst) rfl dX7_worst_20 (by decide) (by decide))
  · refine gg_iload_n (S := sX7_worst) 3 10 rfl dX7_worst_9 rfl rfl ?_
    refine gg_iconst (S := sX7_worst) 11 rfl dX7_worst_10 ?_
    refine gg_iconst (S := sX7_worst) 12 rfl dX7_worst_11 ?_
    refine gg_callSi (S := sX7_worst) (S' := sX7_within) (cs := 0) (sl := 0) (As := [vi x3, vi 0, vi 1]) (st := []) 15 rfl (lkX7_within x3 0 1) mwX7_within rfl mlX7_101 dX7_worst_12 ⟨by decide, by decide⟩ 0 0 ⟨rfl, rfl⟩ ⟨by decide, by decide⟩ (Nat.le_of_ble_eq_true rfl) (fun t2 => ?_)
    refine gg_if_ne (S := sX7_worst) (tgt := 21) 18 rfl dX7_worst_15 (by decide) ?_ ?_
    · refine gg_bipush (S := sX7_worst) 20 rfl dX7_worst_18 (by decide) ?_
      exact gg_pure (gg_iret (S := sX7_worst) rfl dX7_worst_20 (by decide) (by decide))
    · refine gg_aload_n (S := sX7_worst) 0 22 rfl dX7_worst_21 rfl rfl ?_
      refine gg_gi (S := sX7_worst) cfX7 (by decide) (fun _ _ => rfl) 25 rfl flX7_286 dX7_worst_22 (fun t3 => ?_)
      refine gg_bipush (S := sX7_worst) 27 rfl dX7_worst_25 (by decide) ?_
      refine gg_ic_ne (S := sX7_worst) (tgt := 33) 30 rfl dX7_worst_27 (by decide) ?_ ?_
      · refine gg_bipush (S := sX7_worst) 32 rfl dX7_worst_30 (by decide) ?_
        exact gg_pure (gg_iret (S := sX7_worst) rfl dX7_worst_32 (by decide) (by decide))
      · refine gg_aload_n (S := sX7_worst) 0 34 rfl dX7_worst_33 rfl rfl ?_
        refine gg_dup (S := sX7_worst) 35 rfl dX7_worst_34 rfl ?_
        refine gg_gi (S := sX7_worst) cfX7 (by decide) (fun _ _ => rfl) 38 rfl flX7_286 dX7_worst_35 (fun t4 => ?_)
        refine gg_iconst (S := sX7_worst) 39 rfl dX7_worst_38 ?_
        refine gg_iadd (S := sX7_worst) 40 rfl dX7_worst_39 ?_
        refine gg_si (S := sX7_worst) cfX7 (by decide) rfl (fun _ _ => rfl) rfl 43 rfl flX7_286 dX7_worst_40 ?_
        refine gg_aload_n (S := sX7_worst) 0 44 rfl dX7_worst_43 rfl rfl ?_
        refine gg_iload_n (S := sX7_worst) 1 45 rfl dX7_worst_44 rfl rfl ?_
        refine gg_iload_n (S := sX7_worst) 2 46 rfl dX7_worst_45 rfl rfl ?_
        refine gg_callVv (S := sX7_worst) (S' := sX7_layStore) (cs := 0) (sl := 0) (As := [vi x1, vi x2]) (st := []) 49 rfl (fun b9 => lkX7_layStore b9 x1 x2) mwX7_layStore rfl mlX7_289 dX7_worst_46 cfX7 ⟨by decide, by decide⟩ 0 0 ⟨rfl, rfl⟩ ⟨by decide, by decide⟩ (Nat.le_of_ble_eq_true rfl) (fun _ => ?_)
        refine gg_aload_n (S := sX7_worst) 0 50 rfl dX7_worst_49 rfl rfl ?_
        refine gg_gi (S := sX7_worst) cfX7 (by decide) (fun _ _ => rfl) 53 rfl flX7_263 dX7_worst_50 (fun t5 => ?_)
        refine gg_if_ne (S := sX7_worst) (tgt := 58) 56 rfl dX7_worst_53 (by decide) ?_ ?_
        · refine gg_iconst (S := sX7_worst) 57 rfl dX7_worst_56 ?_
          exact gg_pure (gg_iret (S := sX7_worst) rfl dX7_worst_57 (by decide) (by decide))
        · refine gg_aload_n (S := sX7_worst) 0 59 rfl dX7_worst_58 rfl rfl ?_
          refine gg_iload_n (S := sX7_worst) 1 60 rfl dX7_worst_59 rfl rfl ?_
          refine gg_iconst (S := sX7_worst) 61 rfl dX7_worst_60 ?_
          refine gg_callVi (S := sX7_worst) (S' := sX7_worstPiece) (cs := 0) (sl := 0) (As := [vi x1, vi (-1)]) (st := []) 64 rfl (fun b8 => lkX7_worstPiece b8 x1 (-1)) mwX7_worstPiece rfl mlX7_295 dX7_worst_61 cfX7 ⟨by decide, by decide⟩ 0 0 ⟨rfl, rfl⟩ ⟨by decide, by decide⟩ (Nat.le_of_ble_eq_true rfl) (fun t6 => ?_)
          refine gg_istore (S := sX7_worst) (L' := [(4, vi t6), (0, vr (some x0)), (1, vi x1), (2, vi x2), (3, vi x3)]) 66 rfl dX7_worst_64 (by decide) rfl ?_
          refine gg_iload_n (S := sX7_worst) 4 67 rfl dX7_worst_66 rfl rfl ?_
          refine gg_if_ne (S := sX7_worst) (tgt := 75) 70 rfl dX7_worst_67 (by decide) ?_ ?_
          · refine gg_iload (S := sX7_worst) 0 72 rfl dX7_worst_70 rfl ?_
            refine gg_goto (S := sX7_worst) (tgt := 82) dX7_worst_72 (by decide) ?_
            exact gg_pure (gg_iret (S := sX7_worst) rfl dX7_worst_82 (by decide) (by decide))
          · refine gg_aload_n (S := sX7_worst) 1 76 rfl dX7_worst_75 rfl rfl ?_
            refine gg_iload (S := sX7_worst) 0 78 rfl dX7_worst_76 rfl ?_
            refine gg_iload_n (S := sX7_worst) 2 79 rfl dX7_worst_78 rfl rfl ?_
            refine gg_callVi (S := sX7_worst) (S' := sX7_lostBy) (cs := 0) (sl := 0) (As := [vi t6, vi x1]) (st := []) 82 rfl (fun b7 => lkX7_lostBy b7 t6 x1) mwX7_lostBy rfl mlX7_292 dX7_worst_79 cfX7 ⟨by decide, by decide⟩ 0 0 ⟨rfl, rfl⟩ ⟨by decide, by decide⟩ (Nat.le_of_ble_eq_true rfl) (fun t7 => ?_)
            exact gg_pure (gg_iret (S := sX7_worst) rfl dX7_worst_82 (by decide) (by decide))
