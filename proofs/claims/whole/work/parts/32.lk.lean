set_option maxRecDepth 100000 in
set_option maxHeartbeats 4000000 in
theorem lkX6_hunkOf (x0 : Nat) (x1 : Int) (x2 : Int) (x3 : Int) : LK yX6_hunkOf sX6_hunkOf [vr (some x0), vi x1, vi x2, vi x3] en_i (X6_hunkOf x0 x1 x2 x3) := by
  refine lk_go (L := [(0, vr (some x0)), (1, vi x1), (2, vi x2), (3, vi x3)]) (by decide +kernel) rfl (fun h => by cases h) (Nat.le_of_ble_eq_true rfl) rfl ?_
  intro K
  unfold X6_hunkOf
  refine gg_aload_n (S := sX6_hunkOf) 0 1 rfl dX6_hunkOf_0 rfl rfl ?_
  refine gg_iload_n (S := sX6_hunkOf) 1 2 rfl dX6_hunkOf_1 rfl rfl ?_
  refine gg_callVr (S := sX6_hunkOf) (S' := sX6_patchOrNull) (cs := 0) (sl := 0) (As := [vi x1]) (st := []) 5 rfl (fun b13 => lkX6_patchOrNull b13 x1) mwX6_patchOrNull rfl mlX6_159 dX6_hunkOf_2 cfX6 ⟨by decide, by decide⟩ 0 0 ⟨rfl, rfl⟩ ⟨by decide, by decide⟩ (Nat.le_of_ble_eq_true rfl) (fun t1 => ?_)
  refine gg_astore (S := sX6_hunkOf) (L' := [(4, vr t1), (0, vr (some x0)), (1, vi x1), (2, vi x2), (3, vi x3)]) 7 rfl dX6_hunkOf_5 (by decide) rfl ?_
  refine gg_aload (S := sX6_hunkOf) 0 9 rfl dX6_hunkOf_7 rfl ?_
  refine gg_ifnull (S := sX6_hunkOf) (tgt := 25) 12 rfl dX6_hunkOf_9 (by decide) ?_ ?_
  · refine gg_bipush (S := sX6_hunkOf) 27 rfl dX6_hunkOf_25 (by decide) ?_
    exact gg_pure (gg_iret (S := sX6_hunkOf) rfl dX6_hunkOf_27 (by decide) (by decide))
  · refine gg_iload_n (S := sX6_hunkOf) 3 13 rfl dX6_hunkOf_12 rfl rfl ?_
    refine gg_if_lt (S := sX6_hunkOf) (tgt := 25) 16 rfl dX6_hunkOf_13 (by decide) ?_ ?_
    · refine gg_bipush (S := sX6_hunkOf) 27 rfl dX6_hunkOf_25 (by decide) ?_
      exact gg_pure (gg_iret (S := sX6_hunkOf) rfl dX6_hunkOf_27 (by decide) (by decide))
    · refine gg_iload_n (S := sX6_hunkOf) 3 17 rfl dX6_hunkOf_16 rfl rfl ?_
      refine gg_aload (S := sX6_hunkOf) 0 19 rfl dX6_hunkOf_17 rfl ?_
      refine gg_callVi (S := sX6_hunkOf) (S' := sX3_hunks) (cs := 0) (sl := 0) (As := []) (st := [vi x2]) 22 rfl (fun b12 => lkX3_hunks b12) mwX3_hunks rfl mlX6_170 dX6_hunkOf_19 cfX3 ⟨by decide, by decide⟩ 0 0 ⟨rfl, rfl⟩ ⟨by decide, by decide⟩ (Nat.le_of_ble_eq_true rfl) (fun t2 => ?_)
      refine gg_ic_lt (S := sX6_hunkOf) (tgt := 28) 25 rfl dX6_hunkOf_22 (by decide) ?_ ?_
      · refine gg_iload_n (S := sX6_hunkOf) 4 29 rfl dX6_hunkOf_28 rfl rfl ?_
        refine gg_tsw3 (S := sX6_hunkOf) dX6_hunkOf_29 (t0 := 56) (t1 := 63) (t2 := 70) (td := 77) (by decide) (by decide) (by decide) (by decide) ?_ ?_ ?_ ?_
        · refine gg_aload (S := sX6_hunkOf) 0 58 rfl dX6_hunkOf_56 rfl ?_
          refine gg_iload_n (S := sX6_hunkOf) 3 59 rfl dX6_hunkOf_58 rfl rfl ?_
          refine gg_callVi (S := sX6_hunkOf) (S' := sX3_begins) (cs := 0) (sl := 0) (As := [vi x2]) (st := []) 62 rfl (fun b3 => lkX3_begins b3 x2) mwX3_begins rfl mlX6_188 dX6_hunkOf_59 cfX3 ⟨by decide, by decide⟩ 0 0 ⟨rfl, rfl⟩ ⟨by decide, by decide⟩ (Nat.le_of_ble_eq_true rfl) (fun t3 => ?_)
          exact gg_pure (gg_iret (S := sX6_hunkOf) rfl dX6_hunkOf_62 (by decide) (by decide))
        · refine gg_aload (S := sX6_hunkOf) 0 65 rfl dX6_hunkOf_63 rfl ?_
          refine gg_iload_n (S := sX6_hunkOf) 3 66 rfl dX6_hunkOf_65 rfl rfl ?_
          refine gg_callVi (S := sX6_hunkOf) (S' := sX3_going) (cs := 0) (sl := 0) (As := [vi x2]) (st := []) 69 rfl (fun b5 => lkX3_going b5 x2) mwX3_going rfl mlX6_191 dX6_hunkOf_66 cfX3 ⟨by decide, by decide⟩ 0 0 ⟨rfl, rfl⟩ ⟨by decide, by decide⟩ (Nat.le_of_ble_eq_true rfl) (fun t5 => ?_)
          exact gg_pure (gg_iret (S := sX6_hunkOf) rfl dX6_hunkOf_69 (by decide) (by decide))
        · refine gg_aload (S := sX6_hunkOf) 0 72 rfl dX6_hunkOf_70 rfl ?_
          refine gg_iload_n (S := sX6_hunkOf) 3 73 rfl dX6_hunkOf_72 rfl rfl ?_
          refine gg_callVi (S := sX6_hunkOf) (S' := sX3_coming) (cs := 0) (sl := 0) (As := [vi x2]) (st := []) 76 rfl (fun b7 => lkX3_coming b7 x2) mwX3_coming rfl mlX6_194 dX6_hunkOf_73 cfX3 ⟨by decide, by decide⟩ 0 0 ⟨rfl, rfl⟩ ⟨by decide, by decide⟩ (Nat.le_of_ble_eq_true rfl) (fun t7 => ?_)
          exact gg_pure (gg_iret (S := sX6_hunkOf) rfl dX6_hunkOf_76 (by decide) (by decide))
        · refine gg_iload_n (S := sX6_hunkOf) 4 78 rfl dX6_hunkOf_77 rfl rfl ?_
          refine gg_bipush (S := sX6_hunkOf) 80 rfl dX6_hunkOf_78 (by decide) ?_
          refine gg_cond [(2, vi x2), (3, vi x3), (4, vr t1)] [(2, vi x2), (3, vi x3), (4, vr t1)] [] 89 100 0 0 (fun κ80 hT80 hF80 => ?_) ?_ ?_
          · refine gg_ic_lt (S := sX6_hunkOf) (tgt := 100) 83 rfl dX6_hunkOf_80 (by decide) ?_ ?_
            · exact gg_pure (gg_sub [3, 4, 0] rfl hF80)
            · refine gg_iload_n (S := sX6_hunkOf) 4 84 rfl dX6_hunkOf_83 rfl rfl ?_
              refine gg_bipush (S := sX6_hunkOf) 86 rfl dX6_hunkOf_84 (by decide) ?_
              refine gg_ic_ge (S := sX6_hunkOf) (tgt := 100) 89 rfl dX6_hunkOf_86 (by decide) ?_ ?_
              · exact gg_pure (gg_sub [3, 4, 0] rfl hT80)
              · exact gg_pure (gg_sub [3, 4, 0] rfl hF80)
          · refine gg_aload (S := sX6_hunkOf) 2 91 rfl dX6_hunkOf_89 rfl ?_
            refine gg_iload_n (S := sX6_hunkOf) 0 92 rfl dX6_hunkOf_91 rfl rfl ?_
            refine gg_iload_n (S := sX6_hunkOf) 1 93 rfl dX6_hunkOf_92 rfl rfl ?_
            refine gg_bipush (S := sX6_hunkOf) 95 rfl dX6_hunkOf_93 (by decide) ?_
            refine gg_isub (S := sX6_hunkOf) 96 rfl dX6_hunkOf_95 ?_
            refine gg_callVi (S := sX6_hunkOf) (S' := sX3_goingLine) (cs := 0) (sl := 0) (As := [vi x2, vi (x3 - 10)]) (st := []) 99 rfl (fun b9 => lkX3_goingLine b9 x2 (x3 - 10)) mwX3_goingLine rfl mlX6_197 dX6_hunkOf_96 cfX3 ⟨by decide, by decide⟩ 0 0 ⟨rfl, rfl⟩ ⟨by decide, by decide⟩ (Nat.le_of_ble_eq_true rfl) (fun t9 => ?_)
            exact gg_pure (gg_iret (S := sX6_hunkOf) rfl dX6_hunkOf_99 (by decide) (by decide))
          · refine gg_iload_n (S := sX6_hunkOf) 1 101 rfl dX6_hunkOf_100 rfl rfl ?_
            refine gg_bipush (S := sX6_hunkOf) 103 rfl dX6_hunkOf_101 (by decide) ?_
            refine gg_ic_lt (S := sX6_hunkOf) (tgt := 123) 106 rfl dX6_hunkOf_103 (by decide) ?_ ?_
            · refine gg_bipush (S := sX6_hunkOf) 125 rfl dX6_hunkOf_123 (by decide) ?_
              exact gg_pure (gg_iret (S := sX6_hunkOf) rfl dX6_hunkOf_125 (by decide) (by decide))
            · refine gg_iload_n (S := sX6_hunkOf) 1 107 rfl dX6_hunkOf_106 rfl rfl ?_
              refine gg_bipush (S := sX6_hunkOf) 109 rfl dX6_hunkOf_107 (by decide) ?_
              refine gg_ic_ge (S := sX6_hunkOf) (tgt := 123) 112 rfl dX6_hunkOf_109 (by decide) ?_ ?_
              · refine gg_aload (S := sX6_hunkOf) 2 114 rfl dX6_hunkOf_112 rfl ?_
                refine gg_iload_n (S := sX6_hunkOf) 0 115 rfl dX6_hunkOf_114 rfl rfl ?_
                refine gg_iload_n (S := sX6_hunkOf) 1 116 rfl dX6_hunkOf_115 rfl rfl ?_
                refine gg_bipush (S := sX6_hunkOf) 118 rfl dX6_hunkOf_116 (by decide) ?_
                refine gg_isub (S := sX6_hunkOf) 119 rfl dX6_hunkOf_118 ?_
                refine gg_callVi (S := sX6_hunkOf) (S' := sX3_comingLine) (cs := 0) (sl := 0) (As := [vi x2, vi (x3 - 40)]) (st := []) 122 rfl (fun b11 => lkX3_comingLine b11 x2 (x3 - 40)) mwX3_comingLine rfl mlX6_201 dX6_hunkOf_119 cfX3 ⟨by decide, by decide⟩ 0 0 ⟨rfl, rfl⟩ ⟨by decide, by decide⟩ (Nat.le_of_ble_eq_true rfl) (fun t11 => ?_)
                exact gg_pure (gg_iret (S := sX6_hunkOf) rfl dX6_hunkOf_122 (by decide) (by decide))
              · refine gg_bipush (S := sX6_hunkOf) 125 rfl dX6_hunkOf_123 (by decide) ?_
                exact gg_pure (gg_iret (S := sX6_hunkOf) rfl dX6_hunkOf_125 (by decide) (by decide))
      · refine gg_bipush (S := sX6_hunkOf) 27 rfl dX6_hunkOf_25 (by decide) ?_
        exact gg_pure (gg_iret (S := sX6_hunkOf) rfl dX6_hunkOf_27 (by decide) (by decide))

set_option maxRecDepth 100000 in
set_option maxHeartbeats 4000000 in
theorem lkX6_init (x0 : Nat) : LK yX6_init sX6_init [vr (some x0)] en_v (X6_init x0) := by
  refine lk_go (L := [(0, vr (some x0))]) (by decide +kernel) rfl (fun _ => rfl) (Nat.le_of_ble_eq_true rfl) rfl ?_
  intro K
  unfold X6_init
  refine gg_aload_n (S := sX6_init) 0 1 rfl dX6_init_0 rfl rfl ?_
  refine gg_objI (S := sX6_init) 4 rfl mlX6_1 oi_i oi_c dX6_init_1 (by decide) (Nat.le_of_ble_eq_true rfl) ?_
  refine gg_aload_n (S := sX6_init) 0 5 rfl dX6_init_4 rfl rfl ?_
  refine gg_no (S := sX6_init) (cs := 0) (sl := 0) cfX4 8 rfl ckX6_7 inX4 iiX4 dvX4 dX6_init_5 1 2 ⟨rfl, rfl⟩ (by decide) (by decide) (fun t1 => ?_)
  refine gg_dup (S := sX6_init) 9 rfl dX6_init_8 rfl ?_
  refine gg_bipush (S := sX6_init) 11 rfl dX6_init_9 (by decide) ?_
  refine gg_callI (S := sX6_init) (S' := sX4_init) (cs := 1) (sl := 2) (As := [vi 14]) (st := [vr t1, vr (some x0)]) 14 rfl (fun b18 => lkX4_init b18 14) mwX4_init rfl mlX6_11 dX6_init_11 ⟨by decide, by decide⟩ 2 66 ⟨rfl, rfl⟩ ⟨by decide, by decide⟩ (Nat.le_of_ble_eq_true rfl) (fun _ => ?_)
  refine gg_srF (S := sX6_init) cfX6 (by decide) (Or.inr ⟨_, rfl⟩) (fun _ _ => rfl) rfl rfl rfl 17 rfl flX6_14 dX6_init_14 ?_
  refine gg_aload_n (S := sX6_init) 0 18 rfl dX6_init_17 rfl rfl ?_
  refine gg_no (S := sX6_init) (cs := 2) (sl := 66) cfX4 21 rfl ckX6_7 inX4 iiX4 dvX4 dX6_init_18 3 68 ⟨rfl, rfl⟩ (by decide) (by decide) (fun t2 => ?_)
  refine gg_dup (S := sX6_init) 22 rfl dX6_init_21 rfl ?_
  refine gg_bipush (S := sX6_init) 24 rfl dX6_init_22 (by decide) ?_
  refine gg_callI (S := sX6_init) (S' := sX4_init) (cs := 3) (sl := 68) (As := [vi 42]) (st := [vr t2, vr (some x0)]) 27 rfl (fun b17 => lkX4_init b17 42) mwX4_init rfl mlX6_11 dX6_init_24 ⟨by decide, by decide⟩ 4 132 ⟨rfl, rfl⟩ ⟨by decide, by decide⟩ (Nat.le_of_ble_eq_true rfl) (fun _ => ?_)
  refine gg_srF (S := sX6_init) cfX6 (by decide) (Or.inr ⟨_, rfl⟩) (fun _ _ => rfl) rfl rfl rfl 30 rfl flX6_18 dX6_init_27 ?_
  refine gg_aload_n (S := sX6_init) 0 31 rfl dX6_init_30 rfl rfl ?_
  refine gg_bipush (S := sX6_init) 33 rfl dX6_init_31 (by decide) ?_
  refine gg_nr2 (S := sX6_init) (cap := 10) (cs := 4) (sl := 132) 36 rfl ckX6_21 dX6_init_33 (by decide) 5 142 ⟨rfl, rfl⟩ (by decide) (by decide) (fun t3 => ?_)
  refine gg_srF (S := sX6_init) cfX6 (by decide) (Or.inl ⟨_, rfl⟩) (fun _ _ => rfl) rfl rfl rfl 39 rfl flX6_23 dX6_init_36 ?_
  refine gg_aload_n (S := sX6_init) 0 40 rfl dX6_init_39 rfl rfl ?_
  refine gg_bipush (S := sX6_init) 42 rfl dX6_init_40 (by decide) ?_
  refine gg_nr3 (S := sX6_init) (cap := 12) (cs := 5) (sl := 142) 45 rfl ckX6_27 dX6_init_42 (by decide) 6 154 ⟨rfl, rfl⟩ (by decide) (by decide) (fun t4 => ?_)
  refine gg_srF (S := sX6_init) cfX6 (by decide) (Or.inl ⟨_, rfl⟩) (fun _ _ => rfl) rfl rfl rfl 48 rfl flX6_29 dX6_init_45 ?_
  refine gg_aload_n (S := sX6_init) 0 49 rfl dX6_init_48 rfl rfl ?_
  refine gg_bipush (S := sX6_init) 51 rfl dX6_init_49 (by decide) ?_
  refine gg_ni (S := sX6_init) (cap := 100) (cs := 6) (sl := 154) 53 rfl ac_I dX6_init_51 (by decide) 7 254 ⟨rfl, rfl⟩ (by decide) (by decide) (fun t5 => ?_)
  refine gg_srF (S := sX6_init) cfX6 (by decide) (Or.inl ⟨_, rfl⟩) (fun _ _ => rfl) rfl rfl rfl 56 rfl flX6_33 dX6_init_53 ?_
  refine gg_aload_n (S := sX6_init) 0 57 rfl dX6_init_56 rfl rfl ?_
  refine gg_no (S := sX6_init) (cs := 7) (sl := 254) cfX1 60 rfl ckX6_37 inX1 iiX1 dvX1 dX6_init_57 8 256 ⟨rfl, rfl⟩ (by decide) (by decide) (fun t6 => ?_)
  refine gg_dup (S := sX6_init) 61 rfl dX6_init_60 rfl ?_
  refine gg_callIN (S := sX6_init) (S' := sX1_init) (cs := 8) (sl := 256) (As := []) (st := [vr t6, vr (some x0)]) 64 rfl (fun b16 => lkX1_init b16) mwX1_init rfl mlX6_39 dX6_init_61 ⟨by decide, by decide⟩ 10 495 ⟨rfl, rfl⟩ ⟨by decide, by decide⟩ (Nat.le_of_ble_eq_true rfl) (fun _ => ?_)
  refine gg_srF (S := sX6_init) cfX6 (by decide) (Or.inr ⟨_, rfl⟩) (fun _ _ => rfl) rfl rfl rfl 67 rfl flX6_40 dX6_init_64 ?_
  refine gg_aload_n (S := sX6_init) 0 68 rfl dX6_init_67 rfl rfl ?_
  refine gg_no (S := sX6_init) (cs := 10) (sl := 495) cfX3 71 rfl ckX6_27 inX3 iiX3 dvX3 dX6_init_68 11 501 ⟨rfl, rfl⟩ (by decide) (by decide) (fun t7 => ?_)
  refine gg_dup (S := sX6_init) 72 rfl dX6_init_71 rfl ?_
  refine gg_bipush (S := sX6_init) 74 rfl dX6_init_72 (by decide) ?_
  refine gg_bipush (S := sX6_init) 76 rfl dX6_init_74 (by decide) ?_
  refine gg_callI (S := sX6_init) (S' := sX3_init) (cs := 11) (sl := 501) (As := [vi 10, vi 14]) (st := [vr t7, vr (some x0)]) 79 rfl (fun b15 => lkX3_init b15 10 14) mwX3_init rfl mlX6_44 dX6_init_76 ⟨by decide, by decide⟩ 16 821 ⟨rfl, rfl⟩ ⟨by decide, by decide⟩ (Nat.le_of_ble_eq_true rfl) (fun _ => ?_)
  refine gg_srF (S := sX6_init) cfX6 (by decide) (Or.inr ⟨_, rfl⟩) (fun _ _ => rfl) rfl rfl rfl 82 rfl flX6_47 dX6_init_79 ?_
  refine gg_aload_n (S := sX6_init) 0 83 rfl dX6_init_82 rfl rfl ?_
  refine gg_no (S := sX6_init) (cs := 16) (sl := 821) cfX3 86 rfl ckX6_27 inX3 iiX3 dvX3 dX6_init_83 17 827 ⟨rfl, rfl⟩ (by decide) (by decide) (fun t8 => ?_)
  refine gg_dup (S := sX6_init) 87 rfl dX6_init_86 rfl ?_
  refine gg_bipush (S := sX6_init) 89 rfl dX6_init_87 (by decide) ?_
  refine gg_bipush (S := sX6_init) 91 rfl dX6_init_89 (by decide) ?_
  refine gg_callI (S := sX6_init) (S' := sX3_init) (cs := 17) (sl := 827) (As := [vi 10, vi 14]) (st := [vr t8, vr (some x0)]) 94 rfl (fun b14 => lkX3_init b14 10 14) mwX3_init rfl mlX6_44 dX6_init_91 ⟨by decide, by decide⟩ 22 1147 ⟨rfl, rfl⟩ ⟨by decide, by decide⟩ (Nat.le_of_ble_eq_true rfl) (fun _ => ?_)
  refine gg_srF (S := sX6_init) cfX6 (by decide) (Or.inr ⟨_, rfl⟩) (fun _ _ => rfl) rfl rfl rfl 97 rfl flX6_51 dX6_init_94 ?_
  refine gg_aload_n (S := sX6_init) 0 98 rfl dX6_init_97 rfl rfl ?_
  refine gg_no (S := sX6_init) (cs := 22) (sl := 1147) cfX3 101 rfl ckX6_27 inX3 iiX3 dvX3 dX6_init_98 23 1153 ⟨rfl, rfl⟩ (by decide) (by decide) (fun t9 => ?_)
  refine gg_dup (S := sX6_init) 102 rfl dX6_init_101 rfl ?_
  refine gg_bipush (S := sX6_init) 104 rfl dX6_init_102 (by decide) ?_
  refine gg_bipush (S := sX6_init) 106 rfl dX6_init_104 (by decide) ?_
  refine gg_callI (S := sX6_init) (S' := sX3_init) (cs := 23) (sl := 1153) (As := [vi 20, vi 56]) (st := [vr t9, vr (some x0)]) 109 rfl (fun b13 => lkX3_init b13 20 56) mwX3_init rfl mlX6_44 dX6_init_106 ⟨by decide, by decide⟩ 28 1473 ⟨rfl, rfl⟩ ⟨by decide, by decide⟩ (Nat.le_of_ble_eq_true rfl) (fun _ => ?_)
  refine gg_srF (S := sX6_init) cfX6 (by decide) (Or.inr ⟨_, rfl⟩) (fun _ _ => rfl) rfl rfl rfl 112 rfl flX6_54 dX6_init_109 ?_
  refine gg_aload_n (S := sX6_init) 0 113 rfl dX6_init_112 rfl rfl ?_
  refine gg_no (S := sX6_init) (cs := 28) (sl := 1473) cfX0 116 rfl ckX6_57 inX0 iiX0 dvX0 dX6_init_113 29 1479 ⟨rfl, rfl⟩ (by decide) (by decide) (fun t10 => ?_)
  refine gg_dup (S := sX6_init) 117 rfl dX6_init_116 rfl ?_
  refine gg_callIN (S := sX6_init) (S' := sX0_init) (cs := 29) (sl := 1479) (As := []) (st := [vr t10, vr (some x0)]) 120 rfl (fun b12 => lkX0_init b12) mwX0_init rfl mlX6_59 dX6_init_117 ⟨by decide, by decide⟩ 29 1479 ⟨rfl, rfl⟩ ⟨by decide, by decide⟩ (Nat.le_of_ble_eq_true rfl) (fun _ => ?_)
  refine gg_srF (S := sX6_init) cfX6 (by decide) (Or.inr ⟨_, rfl⟩) (fun _ _ => rfl) rfl rfl rfl 123 rfl flX6_60 dX6_init_120 ?_
  refine gg_aload_n (S := sX6_init) 0 124 rfl dX6_init_123 rfl rfl ?_
  refine gg_no (S := sX6_init) (cs := 29) (sl := 1479) cfX2 127 rfl ckX6_64 inX2 iiX2 dvX2 dX6_init_124 30 1491 ⟨rfl, rfl⟩ (by decide) (by decide) (fun t11 => ?_)
  refine gg_dup (S := sX6_init) 128 rfl dX6_init_127 rfl ?_
  refine gg_callIN (S := sX6_init) (S' := sX2_init) (cs := 30) (sl := 1491) (As := []) (st := [vr t11, vr (some x0)]) 131 rfl (fun b11 => lkX2_init b11) mwX2_init rfl mlX6_66 dX6_init_128 ⟨by decide, by decide⟩ 37 1565 ⟨rfl, rfl⟩ ⟨by decide, by decide⟩ (Nat.le_of_ble_eq_true rfl) (fun _ => ?_)
  refine gg_srF (S := sX6_init) cfX6 (by decide) (Or.inr ⟨_, rfl⟩) (fun _ _ => rfl) rfl rfl rfl 134 rfl flX6_67 dX6_init_131 ?_
  exact gg_pure (gg_vret (S := sX6_init) rfl dX6_init_134 (by decide) (by decide))

set_option maxRecDepth 100000 in
set_option maxHeartbeats 4000000 in
theorem lkX6_isStore (x0 : Nat) (x1 : Int) (x2 : Int) : LK yX6_isStore sX6_isStore [vr (some x0), vi x1, vi x2] en_i (X6_isStore x0 x1 x2) := by
  refine lk_go (L := [(0, vr (some x0)), (1, vi x1), (2, vi x2)]) (by decide +kernel) rfl (fun h => by cases h) (Nat.le_of_ble_eq_true rfl) rfl ?_
  intro K
  unfold X6_isStore
  refine gg_iload_n (S := sX6_isStore) 1 1 rfl dX6_isStore_0 rfl rfl ?_
  refine gg_iconst (S := sX6_isStore) 2 rfl dX6_isStore_1 ?_
  refine gg_ic_lt (S := sX6_isStore) (tgt := 35) 5 rfl dX6_isStore_2 (by decide) ?_ ?_
  · refine gg_iconst (S := sX6_isStore) 36 rfl dX6_isStore_35 ?_
    exact gg_pure (gg_zretc (S := sX6_isStore) (by decide) rfl dX6_isStore_36 (by decide) (by decide))
  · refine gg_iload_n (S := sX6_isStore) 1 6 rfl dX6_isStore_5 rfl rfl ?_
    refine gg_bipush (S := sX6_isStore) 8 rfl dX6_isStore_6 (by decide) ?_
    refine gg_ic_gt (S := sX6_isStore) (tgt := 35) 11 rfl dX6_isStore_8 (by decide) ?_ ?_
    · refine gg_iload_n (S := sX6_isStore) 1 12 rfl dX6_isStore_11 rfl rfl ?_
      refine gg_aload_n (S := sX6_isStore) 0 13 rfl dX6_isStore_12 rfl rfl ?_
      refine gg_gi (S := sX6_isStore) cfX6 (by decide) (fun _ _ => rfl) 16 rfl flX6_106 dX6_isStore_13 (fun t1 => ?_)
      refine gg_ic_gt (S := sX6_isStore) (tgt := 35) 19 rfl dX6_isStore_16 (by decide) ?_ ?_
      · refine gg_iload_n (S := sX6_isStore) 2 20 rfl dX6_isStore_19 rfl rfl ?_
        refine gg_iconst (S := sX6_isStore) 21 rfl dX6_isStore_20 ?_
        refine gg_ic_lt (S := sX6_isStore) (tgt := 35) 24 rfl dX6_isStore_21 (by decide) ?_ ?_
        · refine gg_iconst (S := sX6_isStore) 36 rfl dX6_isStore_35 ?_
          exact gg_pure (gg_zretc (S := sX6_isStore) (by decide) rfl dX6_isStore_36 (by decide) (by decide))
        · refine gg_iload_n (S := sX6_isStore) 2 25 rfl dX6_isStore_24 rfl rfl ?_
          refine gg_sipush (S := sX6_isStore) 28 rfl dX6_isStore_25 (by decide) ?_
          refine gg_ic_gt (S := sX6_isStore) (tgt := 35) 31 rfl dX6_isStore_28 (by decide) ?_ ?_
          · refine gg_iconst (S := sX6_isStore) 32 rfl dX6_isStore_31 ?_
            refine gg_goto (S := sX6_isStore) (tgt := 36) dX6_isStore_32 (by decide) ?_
            exact gg_pure (gg_zretc (S := sX6_isStore) (by decide) rfl dX6_isStore_36 (by decide) (by decide))
          · refine gg_iconst (S := sX6_isStore) 36 rfl dX6_isStore_35 ?_
            exact gg_pure (gg_zretc (S := sX6_isStore) (by decide) rfl dX6_isStore_36 (by decide) (by decide))
      · refine gg_iconst (S := sX6_isStore) 36 rfl dX6_isStore_35 ?_
        exact gg_pure (gg_zretc (S := sX6_isStore) (by decide) rfl dX6_isStore_36 (by decide) (by decide))
    · refine gg_iconst (S := sX6_isStore) 36 rfl dX6_isStore_35 ?_
      exact gg_pure (gg_zretc (S := sX6_isStore) (by decide) rfl dX6_isStore_36 (by decide) (by decide))

set_option maxRecDepth 100000 in
set_option maxHeartbeats 4000000 in
theorem lkX6_isVersionOrNone (x0 : Nat) (x1 : Int) : LK yX6_isVersionOrNone sX6_isVersionOrNone [vr (some x0), vi x1] en_i (X6_isVersionOrNone x0 x1) := by
  refine lk_go (L := [(0, vr (some x0)), (1, vi x1)]) (by decide +kernel) rfl (fun h => by cases h) (Nat.le_of_ble_eq_true rfl) rfl ?_
  intro K
  unfold X6_isVersionOrNone
  refine gg_iload_n (S := sX6_isVersionOrNone) 1 1 rfl dX6_isVersionOrNone_0 rfl rfl ?_
  refine gg_iconst (S := sX6_isVersionOrNone) 2 rfl dX6_isVersionOrNone_1 ?_
  refine gg_ic_eq (S := sX6_isVersionOrNone) (tgt := 13) 5 rfl dX6_isVersionOrNone_2 (by decide) ?_ ?_
  · refine gg_iconst (S := sX6_isVersionOrNone) 14 rfl dX6_isVersionOrNone_13 ?_
    refine gg_goto (S := sX6_isVersionOrNone) (tgt := 18) dX6_isVersionOrNone_14 (by decide) ?_
    exact gg_pure (gg_zretc (S := sX6_isVersionOrNone) (by decide) rfl dX6_isVersionOrNone_18 (by decide) (by decide))
  · refine gg_aload_n (S := sX6_isVersionOrNone) 0 6 rfl dX6_isVersionOrNone_5 rfl rfl ?_
    refine gg_iload_n (S := sX6_isVersionOrNone) 1 7 rfl dX6_isVersionOrNone_6 rfl rfl ?_
    refine gg_callVr (S := sX6_isVersionOrNone) (S' := sX6_versionOrNull) (cs := 0) (sl := 0) (As := [vi x1]) (st := []) 10 rfl (fun b1 => lkX6_versionOrNull b1 x1) mwX6_versionOrNull rfl mlX6_92 dX6_isVersionOrNone_7 cfX6 ⟨by decide, by decide⟩ 0 0 ⟨rfl, rfl⟩ ⟨by decide, by decide⟩ (Nat.le_of_ble_eq_true rfl) (fun t1 => ?_)
    refine gg_ifnull (S := sX6_isVersionOrNone) (tgt := 17) 13 rfl dX6_isVersionOrNone_10 (by decide) ?_ ?_
    · refine gg_iconst (S := sX6_isVersionOrNone) 18 rfl dX6_isVersionOrNone_17 ?_
      exact gg_pure (gg_zretc (S := sX6_isVersionOrNone) (by decide) rfl dX6_isVersionOrNone_18 (by decide) (by decide))
    · refine gg_iconst (S := sX6_isVersionOrNone) 14 rfl dX6_isVersionOrNone_13 ?_
      refine gg_goto (S := sX6_isVersionOrNone) (tgt := 18) dX6_isVersionOrNone_14 (by decide) ?_
      exact gg_pure (gg_zretc (S := sX6_isVersionOrNone) (by decide) rfl dX6_isVersionOrNone_18 (by decide) (by decide))

set_option maxRecDepth 100000 in
set_option maxHeartbeats 4000000 in
theorem lkX6_takeTrialToDesk (x0 : Nat) : LK yX6_takeTrialToDesk sX6_takeTrialToDesk [vr (some x0)] en_i (X6_takeTrialToDesk x0) := by
  refine lk_go (L := [(0, vr (some x0))]) (by decide +kernel) rfl (fun h => by cases h) (Nat.le_of_ble_eq_true rfl) rfl ?_
  intro K
  unfold X6_takeTrialToDesk
  refine gg_aload_n (S := sX6_takeTrialToDesk) 0 1 rfl dX6_takeTrialToDesk_0 rfl rfl ?_
  refine gg_gr (S := sX6_takeTrialToDesk) cfX6 (by decide) (fun _ _ => rfl) 4 rfl flX6_18 dX6_takeTrialToDesk_1 (fun t1 => ?_)
  refine gg_callVi (S := sX6_takeTrialToDesk) (S' := sX4_size) (cs := 0) (sl := 0) (As := []) (st := []) 7 rfl (fun b8 => lkX4_size b8) mwX4_size rfl mlX6_71 dX6_takeTrialToDesk_4 cfX4 ⟨by decide, by decide⟩ 0 0 ⟨rfl, rfl⟩ ⟨by decide, by decide⟩ (Nat.le_of_ble_eq_true rfl) (fun t2 => ?_)
  refine gg_bipush (S := sX6_takeTrialToDesk) 9 rfl dX6_takeTrialToDesk_7 (by decide) ?_
  refine gg_ic_le (S := sX6_takeTrialToDesk) (tgt := 15) 12 rfl dX6_takeTrialToDesk_9 (by decide) ?_ ?_
  · refine gg_aload_n (S := sX6_takeTrialToDesk) 0 16 rfl dX6_takeTrialToDesk_15 rfl rfl ?_
    refine gg_gr (S := sX6_takeTrialToDesk) cfX6 (by decide) (fun _ _ => rfl) 19 rfl flX6_14 dX6_takeTrialToDesk_16 (fun t3 => ?_)
    refine gg_aload_n (S := sX6_takeTrialToDesk) 0 20 rfl dX6_takeTrialToDesk_19 rfl rfl ?_
    refine gg_gr (S := sX6_takeTrialToDesk) cfX6 (by decide) (fun _ _ => rfl) 23 rfl flX6_18 dX6_takeTrialToDesk_20 (fun t4 => ?_)
    refine gg_callVv (S := sX6_takeTrialToDesk) (S' := sX4_become) (cs := 0) (sl := 0) (As := [vr t4]) (st := []) 26 rfl (fun b7 => lkX4_become b7 t4) mwX4_become rfl mlX6_99 dX6_takeTrialToDesk_23 cfX4 ⟨by decide, by decide⟩ 0 0 ⟨rfl, rfl⟩ ⟨by decide, by decide⟩ (Nat.le_of_ble_eq_true rfl) (fun _ => ?_)
    refine gg_aload_n (S := sX6_takeTrialToDesk) 0 27 rfl dX6_takeTrialToDesk_26 rfl rfl ?_
    refine gg_gr (S := sX6_takeTrialToDesk) cfX6 (by decide) (fun _ _ => rfl) 30 rfl flX6_14 dX6_takeTrialToDesk_27 (fun t5 => ?_)
    refine gg_callVi (S := sX6_takeTrialToDesk) (S' := sX4_size) (cs := 0) (sl := 0) (As := []) (st := []) 33 rfl (fun b6 => lkX4_size b6) mwX4_size rfl mlX6_71 dX6_takeTrialToDesk_30 cfX4 ⟨by decide, by decide⟩ 0 0 ⟨rfl, rfl⟩ ⟨by decide, by decide⟩ (Nat.le_of_ble_eq_true rfl) (fun t6 => ?_)
    exact gg_pure (gg_iret (S := sX6_takeTrialToDesk) rfl dX6_takeTrialToDesk_33 (by decide) (by decide))
  · refine gg_bipush (S := sX6_takeTrialToDesk) 14 rfl dX6_takeTrialToDesk_12 (by decide) ?_
    exact gg_pure (gg_iret (S := sX6_takeTrialToDesk) rfl dX6_takeTrialToDesk_14 (by decide) (by decide))

set_option maxRecDepth 100000 in
set_option maxHeartbeats 4000000 in
theorem lkX6_uniteBothDifferences (x0 : Nat) : LK yX6_uniteBothDifferences sX6_uniteBothDifferences [vr (some x0)] en_v (X6_uniteBothDifferences x0) := by
  refine lk_go (L := [(0, vr (some x0))]) (by decide +kernel) rfl (fun h => by cases h) (Nat.le_of_ble_eq_true rfl) rfl ?_
  intro K
  unfold X6_uniteBothDifferences
  refine gg_iconst (S := sX6_uniteBothDifferences) 1 rfl dX6_uniteBothDifferences_0 ?_
  refine gg_istore_n (S := sX6_uniteBothDifferences) (L' := [(1, vi 0), (0, vr (some x0))]) 2 rfl dX6_uniteBothDifferences_1 rfl (by decide) rfl ?_
  refine gg_iconst (S := sX6_uniteBothDifferences) 3 rfl dX6_uniteBothDifferences_2 ?_
  refine gg_istore_n (S := sX6_uniteBothDifferences) (L' := [(2, vi 0), (1, vi 0), (0, vr (some x0))]) 4 rfl dX6_uniteBothDifferences_3 rfl (by decide) rfl ?_
  refine gg_aload_n (S := sX6_uniteBothDifferences) 2 5 rfl dX6_uniteBothDifferences_4 rfl rfl ?_
  refine gg_gr (S := sX6_uniteBothDifferences) cfX6 (by decide) (fun _ _ => rfl) 8 rfl flX6_54 dX6_uniteBothDifferences_5 (fun t1 => ?_)
  refine gg_callVv (S := sX6_uniteBothDifferences) (S' := sX3_clear) (cs := 0) (sl := 0) (As := []) (st := []) 11 rfl (fun b40 => lkX3_clear b40) mwX3_clear rfl mlX6_347 dX6_uniteBothDifferences_8 cfX3 ⟨by decide, by decide⟩ 0 0 ⟨rfl, rfl⟩ ⟨by decide, by decide⟩ (Nat.le_of_ble_eq_true rfl) (fun _ => ?_)
  refine gg_iconst (S := sX6_uniteBothDifferences) 12 rfl dX6_uniteBothDifferences_11 ?_
  refine gg_istore_n (S := sX6_uniteBothDifferences) (L' := [(3, vi 0), (2, vi 0), (1, vi 0), (0, vr (some x0))]) 13 rfl dX6_uniteBothDifferences_12 rfl (by decide) rfl ?_
  refine gg_sub [3, 2, 1, 0] rfl ?_
  refine gg_loopA (fun (y2, y3, y4) => [(0, vr (some x0)), (1, vi y2), (2, vi y3), (3, vi y4)]) (fun _ => []) 188 mo_N ?_ ?_ (0, 0, 0)
  · intro κ13 hr13 he13
    rintro ⟨y2, y3, y4⟩
    dsimp only [X6_uniteBothDifferences_L13]
    refine gg_iload_n (S := sX6_uniteBothDifferences) 3 14 rfl dX6_uniteBothDifferences_13 rfl rfl ?_
    refine gg_bipush (S := sX6_uniteBothDifferences) 16 rfl dX6_uniteBothDifferences_14 (by decide) ?_
    refine gg_ic_ge (S := sX6_uniteBothDifferences) (tgt := 188) 19 rfl dX6_uniteBothDifferences_16 (by decide) ?_ ?_
    · refine gg_iload_n (S := sX6_uniteBothDifferences) 1 20 rfl dX6_uniteBothDifferences_19 rfl rfl ?_
      refine gg_aload_n (S := sX6_uniteBothDifferences) 0 21 rfl dX6_uniteBothDifferences_20 rfl rfl ?_
      refine gg_gr (S := sX6_uniteBothDifferences) cfX6 (by decide) (fun _ _ => rfl) 24 rfl flX6_47 dX6_uniteBothDifferences_21 (fun t5 => ?_)
      refine gg_callVi (S := sX6_uniteBothDifferences) (S' := sX3_hunks) (cs := 0) (sl := 0) (As := []) (st := [vi y2]) 27 rfl (fun b39 => lkX3_hunks b39) mwX3_hunks rfl mlX6_170 dX6_uniteBothDifferences_24 cfX3 ⟨by decide, by decide⟩ 0 0 ⟨rfl, rfl⟩ ⟨by decide, by decide⟩ (Nat.le_of_ble_eq_true rfl) (fun t6 => ?_)
      refine gg_join (fun t7 => [(0, vr (some x0)), (1, vi y2), (2, vi y3), (3, vi y4)]) (fun t7 => [vi t7]) 35 0 0 (fun κ27 hJ27 => ?_) ?_
      · refine gg_ic_ge (S := sX6_uniteBothDifferences) (tgt := 34) 30 rfl dX6_uniteBothDifferences_27 (by decide) ?_ ?_
        · refine gg_iconst (S := sX6_uniteBothDifferences) 31 rfl dX6_uniteBothDifferences_30 ?_
          refine gg_goto (S := sX6_uniteBothDifferences) (tgt := 35) dX6_uniteBothDifferences_31 (by decide) ?_
          exact gg_pure (gg_sub [0, 1, 2, 3] rfl (hJ27 1))
        · refine gg_iconst (S := sX6_uniteBothDifferences) 35 rfl dX6_uniteBothDifferences_34 ?_
          exact gg_pure (gg_sub [0, 1, 2, 3] rfl (hJ27 0))
      · intro t7
        refine gg_istore (S := sX6_uniteBothDifferences) (L' := [(4, vi t7), (0, vr (some x0)), (1, vi y2), (2, vi y3), (3, vi y4)]) 37 rfl dX6_uniteBothDifferences_35 (by decide) rfl ?_
        refine gg_iload_n (S := sX6_uniteBothDifferences) 3 38 rfl dX6_uniteBothDifferences_37 rfl rfl ?_
        refine gg_aload_n (S := sX6_uniteBothDifferences) 1 39 rfl dX6_uniteBothDifferences_38 rfl rfl ?_
        refine gg_gr (S := sX6_uniteBothDifferences) cfX6 (by decide) (fun _ _ => rfl) 42 rfl flX6_51 dX6_uniteBothDifferences_39 (fun t8 => ?_)
        refine gg_callVi (S := sX6_uniteBothDifferences) (S' := sX3_hunks) (cs := 0) (sl := 0) (As := []) (st := [vi y3]) 45 rfl (fun b38 => lkX3_hunks b38) mwX3_hunks rfl mlX6_170 dX6_uniteBothDifferences_42 cfX3 ⟨by decide, by decide⟩ 0 0 ⟨rfl, rfl⟩ ⟨by decide, by decide⟩ (Nat.le_of_ble_eq_true rfl) (fun t9 => ?_)
        refine gg_join (fun t10 => [(0, vr (some x0)), (1, vi y2), (2, vi y3), (3, vi y4), (4, vi t7)]) (fun t10 => [vi t10]) 53 0 0 (fun κ45 hJ45 => ?_) ?_
        · refine gg_ic_ge (S := sX6_uniteBothDifferences) (tgt := 52) 48 rfl dX6_uniteBothDifferences_45 (by decide) ?_ ?_
          · refine gg_iconst (S := sX6_uniteBothDifferences) 49 rfl dX6_uniteBothDifferences_48 ?_
            refine gg_goto (S := sX6_uniteBothDifferences) (tgt := 53) dX6_uniteBothDifferences_49 (by decide) ?_
            exact gg_pure (gg_sub [1, 2, 3, 4, 0] rfl (hJ45 1))
          · refine gg_iconst (S := sX6_uniteBothDifferences) 53 rfl dX6_uniteBothDifferences_52 ?_
            exact gg_pure (gg_sub [1, 2, 3, 4, 0] rfl (hJ45 0))
        · intro t10
          refine gg_istore (S := sX6_uniteBothDifferences) (L' := [(5, vi t10), (0, vr (some x0)), (1, vi y2), (2, vi y3), (3, vi y4), (4, vi t7)]) 55 rfl dX6_uniteBothDifferences_53 (by decide) rfl ?_
          refine gg_iload (S := sX6_uniteBothDifferences) 5 57 rfl dX6_uniteBothDifferences_55 rfl ?_
          refine gg_join (fun (t37, t38) => [(0, vr (some x0)), (1, vi t37), (2, vi t38), (3, vi y4)]) (fun (t37, t38) => []) 182 0 0 (fun κ57 hJ57 => ?_) ?_
          · refine gg_cond [(0, vr (some x0)), (1, vi y2), (2, vi y3), (3, vi y4), (5, vi t10)] [(0, vr (some x0)), (1, vi y2), (2, vi y3), (3, vi y4), (5, vi t10)] [] 84 154 0 0 (fun κ57 hT57 hF57 => ?_) ?_ ?_
            · refine gg_if_eq (S := sX6_uniteBothDifferences) (tgt := 154) 60 rfl dX6_uniteBothDifferences_57 (by decide) ?_ ?_
              · exact gg_pure (gg_sub [1, 2, 3, 4, 0] rfl hF57)
              · refine gg_iload (S := sX6_uniteBothDifferences) 0 62 rfl dX6_uniteBothDifferences_60 rfl ?_
                refine gg_if_eq (S := sX6_uniteBothDifferences) (tgt := 84) 65 rfl dX6_uniteBothDifferences_62 (by decide) ?_ ?_
                · exact gg_pure (gg_sub [1, 2, 3, 4, 0] rfl hT57)
                · refine gg_aload_n (S := sX6_uniteBothDifferences) 1 66 rfl dX6_uniteBothDifferences_65 rfl rfl ?_
                  refine gg_gr (S := sX6_uniteBothDifferences) cfX6 (by decide) (fun _ _ => rfl) 69 rfl flX6_47 dX6_uniteBothDifferences_66 (fun t11 => ?_)
                  refine gg_iload_n (S := sX6_uniteBothDifferences) 2 70 rfl dX6_uniteBothDifferences_69 rfl rfl ?_
                  refine gg_callVi (S := sX6_uniteBothDifferences) (S' := sX3_begins) (cs := 0) (sl := 0) (As := [vi y2]) (st := []) 73 rfl (fun b15 => lkX3_begins b15 y2) mwX3_begins rfl mlX6_188 dX6_uniteBothDifferences_70 cfX3 ⟨by decide, by decide⟩ 0 0 ⟨rfl, rfl⟩ ⟨by decide, by decide⟩ (Nat.le_of_ble_eq_true rfl) (fun t12 => ?_)
                  refine gg_aload_n (S := sX6_uniteBothDifferences) 1 74 rfl dX6_uniteBothDifferences_73 rfl rfl ?_
                  refine gg_gr (S := sX6_uniteBothDifferences) cfX6 (by decide) (fun _ _ => rfl) 77 rfl flX6_51 dX6_uniteBothDifferences_74 (fun t13 => ?_)
                  refine gg_iload_n (S := sX6_uniteBothDifferences) 3 78 rfl dX6_uniteBothDifferences_77 rfl rfl ?_
                  refine gg_callVi (S := sX6_uniteBothDifferences) (S' := sX3_begins) (cs := 0) (sl := 0) (As := [vi y3]) (st := [vi t12]) 81 rfl (fun b14 => lkX3_begins b14 y3) mwX3_begins rfl mlX6_188 dX6_uniteBothDifferences_78 cfX3 ⟨by decide, by decide⟩ 0 0 ⟨rfl, rfl⟩ ⟨by decide, by decide⟩ (Nat.le_of_ble_eq_true rfl) (fun t14 => ?_)
                  refine gg_ic_gt (S := sX6_uniteBothDifferences) (tgt := 154) 84 rfl dX6_uniteBothDifferences_81 (by decide) ?_ ?_
                  · exact gg_pure (gg_sub [1, 2, 3, 4, 0] rfl hT57)
                  · exact gg_pure (gg_sub [1, 2, 3, 4, 0] rfl hF57)
            · refine gg_iload (S := sX6_uniteBothDifferences) 4 86 rfl dX6_uniteBothDifferences_84 rfl ?_
              refine gg_join (fun t23 => [(0, vr (some x0)), (1, vi y2), (2, vi y3), (3, vi y4)]) (fun t23 => [vi t23]) 113 0 0 (fun κ86 hJ86 => ?_) ?_
              · refine gg_if_eq (S := sX6_uniteBothDifferences) (tgt := 112) 89 rfl dX6_uniteBothDifferences_86 (by decide) ?_ ?_
                · refine gg_iconst (S := sX6_uniteBothDifferences) 113 rfl dX6_uniteBothDifferences_112 ?_
                  exact gg_pure (gg_sub [0, 1, 2, 3] rfl (hJ86 0))
                · refine gg_aload_n (S := sX6_uniteBothDifferences) 0 90 rfl dX6_uniteBothDifferences_89 rfl rfl ?_
                  refine gg_gr (S := sX6_uniteBothDifferences) cfX6 (by decide) (fun _ _ => rfl) 93 rfl flX6_47 dX6_uniteBothDifferences_90 (fun t17 => ?_)
                  refine gg_iload_n (S := sX6_uniteBothDifferences) 1 94 rfl dX6_uniteBothDifferences_93 rfl rfl ?_
                  refine gg_callVi (S := sX6_uniteBothDifferences) (S' := sX3_begins) (cs := 0) (sl := 0) (As := [vi y2]) (st := []) 97 rfl (fun b21 => lkX3_begins b21 y2) mwX3_begins rfl mlX6_188 dX6_uniteBothDifferences_94 cfX3 ⟨by decide, by decide⟩ 0 0 ⟨rfl, rfl⟩ ⟨by decide, by decide⟩ (Nat.le_of_ble_eq_true rfl) (fun t18 => ?_)
                  refine gg_aload_n (S := sX6_uniteBothDifferences) 0 98 rfl dX6_uniteBothDifferences_97 rfl rfl ?_
                  refine gg_gr (S := sX6_uniteBothDifferences) cfX6 (by decide) (fun _ _ => rfl) 101 rfl flX6_51 dX6_uniteBothDifferences_98 (fun t19 => ?_)
                  refine gg_iload_n (S := sX6_uniteBothDifferences) 2 102 rfl dX6_uniteBothDifferences_101 rfl rfl ?_
                  refine gg_callVi (S := sX6_uniteBothDifferences) (S' := sX3_begins) (cs := 0) (sl := 0) (As := [vi y3]) (st := [vi t18]) 105 rfl (fun b20 => lkX3_begins b20 y3) mwX3_begins rfl mlX6_188 dX6_uniteBothDifferences_102 cfX3 ⟨by decide, by decide⟩ 0 0 ⟨rfl, rfl⟩ ⟨by decide, by decide⟩ (Nat.le_of_ble_eq_true rfl) (fun t20 => ?_)
                  refine gg_ic_ne (S := sX6_uniteBothDifferences) (tgt := 112) 108 rfl dX6_uniteBothDifferences_105 (by decide) ?_ ?_
                  · refine gg_iconst (S := sX6_uniteBothDifferences) 109 rfl dX6_uniteBothDifferences_108 ?_
                    refine gg_goto (S := sX6_uniteBothDifferences) (tgt := 113) dX6_uniteBothDifferences_109 (by decide) ?_
                    exact gg_pure (gg_sub [0, 1, 2, 3] rfl (hJ86 1))
                  · refine gg_iconst (S := sX6_uniteBothDifferences) 113 rfl dX6_uniteBothDifferences_112 ?_
                    exact gg_pure (gg_sub [0, 1, 2, 3] rfl (hJ86 0))
              · intro t23
                refine gg_istore (S := sX6_uniteBothDifferences) (L' := [(6, vi t23), (0, vr (some x0)), (1, vi y2), (2, vi y3), (3, vi y4)]) 115 rfl dX6_uniteBothDifferences_113 (by decide) rfl ?_
                refine gg_aload_n (S := sX6_uniteBothDifferences) 1 116 rfl dX6_uniteBothDifferences_115 rfl rfl ?_
                refine gg_gr (S := sX6_uniteBothDifferences) cfX6 (by decide) (fun _ _ => rfl) 119 rfl flX6_54 dX6_uniteBothDifferences_116 (fun t24 => ?_)
                refine gg_aload_n (S := sX6_uniteBothDifferences) 1 120 rfl dX6_uniteBothDifferences_119 rfl rfl ?_
                refine gg_gr (S := sX6_uniteBothDifferences) cfX6 (by decide) (fun _ _ => rfl) 123 rfl flX6_47 dX6_uniteBothDifferences_120 (fun t25 => ?_)
                refine gg_iload_n (S := sX6_uniteBothDifferences) 2 124 rfl dX6_uniteBothDifferences_123 rfl rfl ?_
                refine gg_aload_n (S := sX6_uniteBothDifferences) 1 125 rfl dX6_uniteBothDifferences_124 rfl rfl ?_
                refine gg_gr (S := sX6_uniteBothDifferences) cfX6 (by decide) (fun _ _ => rfl) 128 rfl flX6_47 dX6_uniteBothDifferences_125 (fun t26 => ?_)
                refine gg_iload_n (S := sX6_uniteBothDifferences) 2 129 rfl dX6_uniteBothDifferences_128 rfl rfl ?_
                refine gg_callVi (S := sX6_uniteBothDifferences) (S' := sX3_begins) (cs := 0) (sl := 0) (As := [vi y2]) (st := [vi y2, vr t25, vr t24]) 132 rfl (fun b29 => lkX3_begins b29 y2) mwX3_begins rfl mlX6_188 dX6_uniteBothDifferences_129 cfX3 ⟨by decide, by decide⟩ 0 0 ⟨rfl, rfl⟩ ⟨by decide, by decide⟩ (Nat.le_of_ble_eq_true rfl) (fun t27 => ?_)
                refine gg_callVv (S := sX6_uniteBothDifferences) (S' := sX3_addHunk) (cs := 0) (sl := 0) (As := [vr t25, vi y2, vi t27]) (st := []) 135 rfl (fun b28 => lkX3_addHunk b28 t25 y2 t27) mwX3_addHunk rfl mlX6_348 dX6_uniteBothDifferences_132 cfX3 ⟨by decide, by decide⟩ 0 0 ⟨rfl, rfl⟩ ⟨by decide, by decide⟩ (Nat.le_of_ble_eq_true rfl) (fun _ => ?_)
                refine gg_iinc (S := sX6_uniteBothDifferences) (L' := [(1, vi (y2 + 1)), (6, vi t23), (0, vr (some x0)), (2, vi y3), (3, vi y4)]) 2 138 rfl dX6_uniteBothDifferences_135 rfl (by decide) rfl ?_
                refine gg_iload_n (S := sX6_uniteBothDifferences) 3 139 rfl dX6_uniteBothDifferences_138 rfl rfl ?_
                refine gg_iload (S := sX6_uniteBothDifferences) 1 141 rfl dX6_uniteBothDifferences_139 rfl ?_
                refine gg_join (fun t28 => [(0, vr (some x0)), (1, vi (y2 + 1)), (3, vi y4)]) (fun t28 => [vi t28, vi y3]) 149 0 0 (fun κ141 hJ141 => ?_) ?_
                · refine gg_if_eq (S := sX6_uniteBothDifferences) (tgt := 148) 144 rfl dX6_uniteBothDifferences_141 (by decide) ?_ ?_
                  · refine gg_iconst (S := sX6_uniteBothDifferences) 149 rfl dX6_uniteBothDifferences_148 ?_
                    exact gg_pure (gg_sub [2, 0, 4] rfl (hJ141 0))
                  · refine gg_iconst (S := sX6_uniteBothDifferences) 145 rfl dX6_uniteBothDifferences_144 ?_
                    refine gg_goto (S := sX6_uniteBothDifferences) (tgt := 149) dX6_uniteBothDifferences_145 (by decide) ?_
                    exact gg_pure (gg_sub [2, 0, 4] rfl (hJ141 1))
                · intro t28
                  refine gg_iadd (S := sX6_uniteBothDifferences) 150 rfl dX6_uniteBothDifferences_149 ?_
                  refine gg_istore_n (S := sX6_uniteBothDifferences) (L' := [(2, vi (y3 + t28)), (0, vr (some x0)), (1, vi (y2 + 1)), (3, vi y4)]) 151 rfl dX6_uniteBothDifferences_150 rfl (by decide) rfl ?_
                  refine gg_goto (S := sX6_uniteBothDifferences) (tgt := 182) dX6_uniteBothDifferences_151 (by decide) ?_
                  exact gg_pure (gg_sub [1, 2, 0, 3] rfl (hJ57 ((y2 + 1), (y3 + t28))))
            · refine gg_iload (S := sX6_uniteBothDifferences) 4 156 rfl dX6_uniteBothDifferences_154 rfl ?_
              refine gg_if_eq (S := sX6_uniteBothDifferences) (tgt := 182) 159 rfl dX6_uniteBothDifferences_156 (by decide) ?_ ?_
              · exact gg_pure (gg_sub [0, 1, 2, 3] rfl (hJ57 (y2, y3)))
              · refine gg_aload_n (S := sX6_uniteBothDifferences) 0 160 rfl dX6_uniteBothDifferences_159 rfl rfl ?_
                refine gg_gr (S := sX6_uniteBothDifferences) cfX6 (by decide) (fun _ _ => rfl) 163 rfl flX6_54 dX6_uniteBothDifferences_160 (fun t31 => ?_)
                refine gg_aload_n (S := sX6_uniteBothDifferences) 0 164 rfl dX6_uniteBothDifferences_163 rfl rfl ?_
                refine gg_gr (S := sX6_uniteBothDifferences) cfX6 (by decide) (fun _ _ => rfl) 167 rfl flX6_51 dX6_uniteBothDifferences_164 (fun t32 => ?_)
                refine gg_iload_n (S := sX6_uniteBothDifferences) 2 168 rfl dX6_uniteBothDifferences_167 rfl rfl ?_
                refine gg_aload_n (S := sX6_uniteBothDifferences) 0 169 rfl dX6_uniteBothDifferences_168 rfl rfl ?_
                refine gg_gr (S := sX6_uniteBothDifferences) cfX6 (by decide) (fun _ _ => rfl) 172 rfl flX6_51 dX6_uniteBothDifferences_169 (fun t33 => ?_)
                refine gg_iload_n (S := sX6_uniteBothDifferences) 2 173 rfl dX6_uniteBothDifferences_172 rfl rfl ?_
                refine gg_callVi (S := sX6_uniteBothDifferences) (S' := sX3_begins) (cs := 0) (sl := 0) (As := [vi y3]) (st := [vi y3, vr t32, vr t31]) 176 rfl (fun b35 => lkX3_begins b35 y3) mwX3_begins rfl mlX6_188 dX6_uniteBothDifferences_173 cfX3 ⟨by decide, by decide⟩ 0 0 ⟨rfl, rfl⟩ ⟨by decide, by decide⟩ (Nat.le_of_ble_eq_true rfl) (fun t34 => ?_)
                refine gg_callVv (S := sX6_uniteBothDifferences) (S' := sX3_addHunk) (cs := 0) (sl := 0) (As := [vr t32, vi y3, vi t34]) (st := []) 179 rfl (fun b34 => lkX3_addHunk b34 t32 y3 t34) mwX3_addHunk rfl mlX6_348 dX6_uniteBothDifferences_176 cfX3 ⟨by decide, by decide⟩ 0 0 ⟨rfl, rfl⟩ ⟨by decide, by decide⟩ (Nat.le_of_ble_eq_true rfl) (fun _ => ?_)
                refine gg_iinc (S := sX6_uniteBothDifferences) (L' := [(2, vi (y3 + 1)), (0, vr (some x0)), (1, vi y2), (3, vi y4), (5, vi t10)]) 2 182 rfl dX6_uniteBothDifferences_179 rfl (by decide) rfl ?_
                exact gg_pure (gg_sub [1, 2, 0, 3] rfl (hJ57 (y2, (y3 + 1))))
          · rintro ⟨t37, t38⟩
            dsimp only
            refine gg_iinc (S := sX6_uniteBothDifferences) (L' := [(3, vi (y4 + 1)), (0, vr (some x0)), (1, vi t37), (2, vi t38)]) 3 185 rfl dX6_uniteBothDifferences_182 rfl (by decide) rfl ?_
            refine gg_goto (S := sX6_uniteBothDifferences) (tgt := 13) dX6_uniteBothDifferences_185 (by decide) ?_
            exact gg_pure (gg_sub [1, 2, 3, 0] rfl (hr13 (t37, t38, (y4 + 1))))
    · exact gg_pure (gg_sub [] rfl (he13 ()))
  · intro _
    exact gg_pure (gg_vret (S := sX6_uniteBothDifferences) rfl dX6_uniteBothDifferences_188 (by decide) (by decide))

set_option maxRecDepth 100000 in
set_option maxHeartbeats 4000000 in
theorem lkX6_join (x0 : Nat) (x1 : Int) (x2 : Int) (x3 : Int) : LK yX6_join sX6_join [vr (some x0), vi x1, vi x2, vi x3] en_i (X6_join x0 x1 x2 x3) := by
  refine lk_go (L := [(0, vr (some x0)), (1, vi x1), (2, vi x2), (3, vi x3)]) (by decide +kernel) rfl (fun h => by cases h) (Nat.le_of_ble_eq_true rfl) rfl ?_
  intro K
  unfold X6_join
  refine gg_aload_n (S := sX6_join) 0 1 rfl dX6_join_0 rfl rfl ?_
  refine gg_iload_n (S := sX6_join) 1 2 rfl dX6_join_1 rfl rfl ?_
  refine gg_callVr (S := sX6_join) (S' := sX6_versionOrNull) (cs := 0) (sl := 0) (As := [vi x1]) (st := []) 5 rfl (fun b12 => lkX6_versionOrNull b12 x1) mwX6_versionOrNull rfl mlX6_92 dX6_join_2 cfX6 ⟨by decide, by decide⟩ 0 0 ⟨rfl, rfl⟩ ⟨by decide, by decide⟩ (Nat.le_of_ble_eq_true rfl) (fun t1 => ?_)
  refine gg_astore (S := sX6_join) (L' := [(4, vr t1), (0, vr (some x0)), (1, vi x1), (2, vi x2), (3, vi x3)]) 7 rfl dX6_join_5 (by decide) rfl ?_
  refine gg_aload (S := sX6_join) 0 9 rfl dX6_join_7 rfl ?_
  refine gg_ifnull (S := sX6_join) (tgt := 22) 12 rfl dX6_join_9 (by decide) ?_ ?_
  · refine gg_bipush (S := sX6_join) 24 rfl dX6_join_22 (by decide) ?_
    exact gg_pure (gg_iret (S := sX6_join) rfl dX6_join_24 (by decide) (by decide))
  · refine gg_aload_n (S := sX6_join) 1 13 rfl dX6_join_12 rfl rfl ?_
    refine gg_iload_n (S := sX6_join) 2 14 rfl dX6_join_13 rfl rfl ?_
    refine gg_iload_n (S := sX6_join) 3 15 rfl dX6_join_14 rfl rfl ?_
    refine gg_iload_n (S := sX6_join) 4 16 rfl dX6_join_15 rfl rfl ?_
    refine gg_callVi (S := sX6_join) (S' := sX6_writeBothDifferences) (cs := 0) (sl := 0) (As := [vi x1, vi x2, vi x3]) (st := []) 19 rfl (fun b11 => lkX6_writeBothDifferences b11 x1 x2 x3) mwX6_writeBothDifferences rfl mlX6_241 dX6_join_16 cfX6 ⟨by decide, by decide⟩ 0 0 ⟨rfl, rfl⟩ ⟨by decide, by decide⟩ (Nat.le_of_ble_eq_true rfl) (fun t2 => ?_)
    refine gg_if_ne (S := sX6_join) (tgt := 25) 22 rfl dX6_join_19 (by decide) ?_ ?_
    · refine gg_bipush (S := sX6_join) 24 rfl dX6_join_22 (by decide) ?_
      exact gg_pure (gg_iret (S := sX6_join) rfl dX6_join_24 (by decide) (by decide))
    · refine gg_aload_n (S := sX6_join) 1 26 rfl dX6_join_25 rfl rfl ?_
      refine gg_callVi (S := sX6_join) (S' := sX6_clashes) (cs := 0) (sl := 0) (As := []) (st := []) 29 rfl (fun b10 => lkX6_clashes b10) mwX6_clashes rfl mlX6_244 dX6_join_26 cfX6 ⟨by decide, by decide⟩ 0 0 ⟨rfl, rfl⟩ ⟨by decide, by decide⟩ (Nat.le_of_ble_eq_true rfl) (fun t3 => ?_)
      refine gg_if_le (S := sX6_join) (tgt := 35) 32 rfl dX6_join_29 (by decide) ?_ ?_
      · refine gg_aload_n (S := sX6_join) 1 36 rfl dX6_join_35 rfl rfl ?_
        refine gg_callVv (S := sX6_join) (S' := sX6_uniteBothDifferences) (cs := 0) (sl := 0) (As := []) (st := []) 39 rfl (fun b9 => lkX6_uniteBothDifferences b9) mwX6_uniteBothDifferences rfl mlX6_247 dX6_join_36 cfX6 ⟨by decide, by decide⟩ 0 0 ⟨rfl, rfl⟩ ⟨by decide, by decide⟩ (Nat.le_of_ble_eq_true rfl) (fun _ => ?_)
        refine gg_aload_n (S := sX6_join) 1 40 rfl dX6_join_39 rfl rfl ?_
        refine gg_gr (S := sX6_join) cfX6 (by decide) (fun _ _ => rfl) 43 rfl flX6_54 dX6_join_40 (fun t4 => ?_)
        refine gg_aload (S := sX6_join) 0 45 rfl dX6_join_43 rfl ?_
        refine gg_grN (S := sX6_join) cfX5 (by decide) (fun _ _ => rfl) 48 rfl flX6_96 dX6_join_45 (fun t5 => ?_)
        refine gg_aload_n (S := sX6_join) 1 49 rfl dX6_join_48 rfl rfl ?_
        refine gg_gr (S := sX6_join) cfX6 (by decide) (fun _ _ => rfl) 52 rfl flX6_18 dX6_join_49 (fun t6 => ?_)
        refine gg_callVv (S := sX6_join) (S' := sX3_layOn) (cs := 0) (sl := 0) (As := [vr t5, vr t6]) (st := []) 55 rfl (fun b8 => lkX3_layOn b8 t5 t6) mwX3_layOn rfl mlX6_208 dX6_join_52 cfX3 ⟨by decide, by decide⟩ 0 0 ⟨rfl, rfl⟩ ⟨by decide, by decide⟩ (Nat.le_of_ble_eq_true rfl) (fun _ => ?_)
        refine gg_aload_n (S := sX6_join) 1 56 rfl dX6_join_55 rfl rfl ?_
        refine gg_callVi (S := sX6_join) (S' := sX6_takeTrialToDesk) (cs := 0) (sl := 0) (As := []) (st := []) 59 rfl (fun b7 => lkX6_takeTrialToDesk b7) mwX6_takeTrialToDesk rfl mlX6_211 dX6_join_56 cfX6 ⟨by decide, by decide⟩ 0 0 ⟨rfl, rfl⟩ ⟨by decide, by decide⟩ (Nat.le_of_ble_eq_true rfl) (fun t7 => ?_)
        exact gg_pure (gg_iret (S := sX6_join) rfl dX6_join_59 (by decide) (by decide))
      · refine gg_bipush (S := sX6_join) 34 rfl dX6_join_32 (by decide) ?_
        exact gg_pure (gg_iret (S := sX6_join) rfl dX6_join_34 (by decide) (by decide))

set_option maxRecDepth 100000 in
set_option maxHeartbeats 4000000 in
theorem lkX6_leadBackTo (x0 : Nat) (x1 : Option Nat) (x2 : Option Nat) : LK yX6_leadBackTo sX6_leadBackTo [vr (some x0), vr x1, vr x2] en_v (X6_leadBackTo x0 x1 x2) := by
  refine lk_go (L := [(0, vr (some x0)), (1, vr x1), (2, vr x2)]) (by decide +kernel) rfl (fun h => by cases h) (Nat.le_of_ble_eq_true rfl) rfl ?_
  intro K
  unfold X6_leadBackTo
  refine gg_aload_n (S := sX6_leadBackTo) 1 1 rfl dX6_leadBackTo_0 rfl rfl ?_
  refine gg_ifnonnull (S := sX6_leadBackTo) (tgt := 5) 4 rfl dX6_leadBackTo_1 (by decide) ?_ ?_
  · exact gg_pure (gg_vret (S := sX6_leadBackTo) rfl dX6_leadBackTo_4 (by decide) (by decide))
  · refine gg_aload_n (S := sX6_leadBackTo) 0 6 rfl dX6_leadBackTo_5 rfl rfl ?_
    refine gg_gr (S := sX6_leadBackTo) cfX6 (by decide) (fun _ _ => rfl) 9 rfl flX6_40 dX6_leadBackTo_6 (fun t1 => ?_)
    refine gg_aload_n (S := sX6_leadBackTo) 1 10 rfl dX6_leadBackTo_9 rfl rfl ?_
    refine gg_grN (S := sX6_leadBackTo) cfX5 (by decide) (fun _ _ => rfl) 13 rfl flX6_96 dX6_leadBackTo_10 (fun t2 => ?_)
    refine gg_aload_n (S := sX6_leadBackTo) 2 14 rfl dX6_leadBackTo_13 rfl rfl ?_
    refine gg_grN (S := sX6_leadBackTo) cfX5 (by decide) (fun _ _ => rfl) 17 rfl flX6_96 dX6_leadBackTo_14 (fun t3 => ?_)
    refine gg_callVv (S := sX6_leadBackTo) (S' := sX1_find) (cs := 0) (sl := 0) (As := [vr t2, vr t3]) (st := []) 20 rfl (fun b13 => lkX1_find b13 t2 t3) mwX1_find rfl mlX6_141 dX6_leadBackTo_17 cfX1 ⟨by decide, by decide⟩ 0 0 ⟨rfl, rfl⟩ ⟨by decide, by decide⟩ (Nat.le_of_ble_eq_true rfl) (fun _ => ?_)
    refine gg_iconst (S := sX6_leadBackTo) 21 rfl dX6_leadBackTo_20 ?_
    refine gg_istore_n (S := sX6_leadBackTo) (L' := [(3, vi 0), (0, vr (some x0)), (1, vr x1), (2, vr x2)]) 22 rfl dX6_leadBackTo_21 rfl (by decide) rfl ?_
    refine gg_sub [1, 2, 3, 0] rfl ?_
    refine gg_loopA (fun y4 => [(0, vr (some x0)), (1, vr x1), (2, vr x2), (3, vi y4)]) (fun _ => []) 56 mo_N ?_ ?_ 0
    · intro κ22 hr22 he22
      intro y4
      dsimp only [X6_leadBackTo_L22]
      refine gg_iload_n (S := sX6_leadBackTo) 3 23 rfl dX6_leadBackTo_22 rfl rfl ?_
      refine gg_aload_n (S := sX6_leadBackTo) 1 24 rfl dX6_leadBackTo_23 rfl rfl ?_
      refine gg_grN (S := sX6_leadBackTo) cfX5 (by decide) (fun _ _ => rfl) 27 rfl flX6_96 dX6_leadBackTo_24 (fun t5 => ?_)
      refine gg_callVi (S := sX6_leadBackTo) (S' := sX4_size) (cs := 0) (sl := 0) (As := []) (st := [vi y4]) 30 rfl (fun b12 => lkX4_size b12) mwX4_size rfl mlX6_71 dX6_leadBackTo_27 cfX4 ⟨by decide, by decide⟩ 0 0 ⟨rfl, rfl⟩ ⟨by decide, by decide⟩ (Nat.le_of_ble_eq_true rfl) (fun t6 => ?_)
      refine gg_ic_ge (S := sX6_leadBackTo) (tgt := 56) 33 rfl dX6_leadBackTo_30 (by decide) ?_ ?_
      · refine gg_aload_n (S := sX6_leadBackTo) 2 34 rfl dX6_leadBackTo_33 rfl rfl ?_
        refine gg_aload_n (S := sX6_leadBackTo) 0 35 rfl dX6_leadBackTo_34 rfl rfl ?_
        refine gg_gr (S := sX6_leadBackTo) cfX6 (by decide) (fun _ _ => rfl) 38 rfl flX6_40 dX6_leadBackTo_35 (fun t7 => ?_)
        refine gg_iload_n (S := sX6_leadBackTo) 3 39 rfl dX6_leadBackTo_38 rfl rfl ?_
        refine gg_callVi (S := sX6_leadBackTo) (S' := sX1_mate) (cs := 0) (sl := 0) (As := [vi y4]) (st := [vr x2]) 42 rfl (fun b11 => lkX1_mate b11 y4) mwX1_mate rfl mlX6_145 dX6_leadBackTo_39 cfX1 ⟨by decide, by decide⟩ 0 0 ⟨rfl, rfl⟩ ⟨by decide, by decide⟩ (Nat.le_of_ble_eq_true rfl) (fun t8 => ?_)
        refine gg_aload_n (S := sX6_leadBackTo) 1 43 rfl dX6_leadBackTo_42 rfl rfl ?_
        refine gg_iload_n (S := sX6_leadBackTo) 3 44 rfl dX6_leadBackTo_43 rfl rfl ?_
        refine gg_callVi (S := sX6_leadBackTo) (S' := sX5_bringerOf) (cs := 0) (sl := 0) (As := [vi y4]) (st := [vi t8, vr x2]) 47 rfl (fun b10 => lkX5_bringerOf b10 y4) mwX5_bringerOf rfl mlX6_250 dX6_leadBackTo_44 cfX5 ⟨by decide, by decide⟩ 0 0 ⟨rfl, rfl⟩ ⟨by decide, by decide⟩ (Nat.le_of_ble_eq_true rfl) (fun t9 => ?_)
        refine gg_callVv (S := sX6_leadBackTo) (S' := sX5_setBringer) (cs := 0) (sl := 0) (As := [vi t8, vi t9]) (st := []) 50 rfl (fun b9 => lkX5_setBringer b9 t8 t9) mwX5_setBringer rfl mlX6_334 dX6_leadBackTo_47 cfX5 ⟨by decide, by decide⟩ 0 0 ⟨rfl, rfl⟩ ⟨by decide, by decide⟩ (Nat.le_of_ble_eq_true rfl) (fun _ => ?_)
        refine gg_iinc (S := sX6_leadBackTo) (L' := [(3, vi (y4 + 1)), (0, vr (some x0)), (1, vr x1), (2, vr x2)]) 3 53 rfl dX6_leadBackTo_50 rfl (by decide) rfl ?_
        refine gg_goto (S := sX6_leadBackTo) (tgt := 22) dX6_leadBackTo_53 (by decide) ?_
        exact gg_pure (gg_sub [1, 2, 3, 0] rfl (hr22 (y4 + 1)))
      · exact gg_pure (gg_sub [] rfl (he22 ()))
    · intro _
      exact gg_pure (gg_vret (S := sX6_leadBackTo) rfl dX6_leadBackTo_56 (by decide) (by decide))

set_option maxRecDepth 100000 in
set_option maxHeartbeats 4000000 in
theorem lkX6_leadBack (x0 : Nat) (x1 : Int) (x2 : Option Nat) : LK yX6_leadBack sX6_leadBack [vr (some x0), vi x1, vr x2] en_v (X6_leadBack x0 x1 x2) := by
  refine lk_go (L := [(0, vr (some x0)), (1, vi x1), (2, vr x2)]) (by decide +kernel) rfl (fun h => by cases h) (Nat.le_of_ble_eq_true rfl) rfl ?_
  intro K
  unfold X6_leadBack
  refine gg_aload_n (S := sX6_leadBack) 2 1 rfl dX6_leadBack_0 rfl rfl ?_
  refine gg_iload_n (S := sX6_leadBack) 1 2 rfl dX6_leadBack_1 rfl rfl ?_
  refine gg_callVv (S := sX6_leadBack) (S' := sX5_allBroughtBy) (cs := 0) (sl := 0) (As := [vi x1]) (st := []) 5 rfl (fun b8 => lkX5_allBroughtBy b8 x1) mwX5_allBroughtBy rfl mlX6_327 dX6_leadBack_2 cfX5 ⟨by decide, by decide⟩ 0 0 ⟨rfl, rfl⟩ ⟨by decide, by decide⟩ (Nat.le_of_ble_eq_true rfl) (fun _ => ?_)
  refine gg_aload_n (S := sX6_leadBack) 0 6 rfl dX6_leadBack_5 rfl rfl ?_
  refine gg_aload_n (S := sX6_leadBack) 0 7 rfl dX6_leadBack_6 rfl rfl ?_
  refine gg_aload_n (S := sX6_leadBack) 2 8 rfl dX6_leadBack_7 rfl rfl ?_
  refine gg_giN (S := sX6_leadBack) cfX5 (by decide) (fun _ _ => rfl) 11 rfl flX6_121 dX6_leadBack_8 (fun t1 => ?_)
  refine gg_callVr (S := sX6_leadBack) (S' := sX6_versionOrNull) (cs := 0) (sl := 0) (As := [vi t1]) (st := [vr (some x0)]) 14 rfl (fun b7 => lkX6_versionOrNull b7 t1) mwX6_versionOrNull rfl mlX6_92 dX6_leadBack_11 cfX6 ⟨by decide, by decide⟩ 0 0 ⟨rfl, rfl⟩ ⟨by decide, by decide⟩ (Nat.le_of_ble_eq_true rfl) (fun t2 => ?_)
  refine gg_aload_n (S := sX6_leadBack) 2 15 rfl dX6_leadBack_14 rfl rfl ?_
  refine gg_callVv (S := sX6_leadBack) (S' := sX6_leadBackTo) (cs := 0) (sl := 0) (As := [vr t2, vr x2]) (st := []) 18 rfl (fun b6 => lkX6_leadBackTo b6 t2 x2) mwX6_leadBackTo rfl mlX6_330 dX6_leadBack_15 cfX6 ⟨by decide, by decide⟩ 0 0 ⟨rfl, rfl⟩ ⟨by decide, by decide⟩ (Nat.le_of_ble_eq_true rfl) (fun _ => ?_)
  refine gg_aload_n (S := sX6_leadBack) 0 19 rfl dX6_leadBack_18 rfl rfl ?_
  refine gg_aload_n (S := sX6_leadBack) 0 20 rfl dX6_leadBack_19 rfl rfl ?_
  refine gg_aload_n (S := sX6_leadBack) 2 21 rfl dX6_leadBack_20 rfl rfl ?_
  refine gg_giN (S := sX6_leadBack) cfX5 (by decide) (fun _ _ => rfl) 24 rfl flX6_118 dX6_leadBack_21 (fun t3 => ?_)
  refine gg_callVr (S := sX6_leadBack) (S' := sX6_versionOrNull) (cs := 0) (sl := 0) (As := [vi t3]) (st := [vr (some x0)]) 27 rfl (fun b5 => lkX6_versionOrNull b5 t3) mwX6_versionOrNull rfl mlX6_92 dX6_leadBack_24 cfX6 ⟨by decide, by decide⟩ 0 0 ⟨rfl, rfl⟩ ⟨by decide, by decide⟩ (Nat.le_of_ble_eq_true rfl) (fun t4 => ?_)
  refine gg_aload_n (S := sX6_leadBack) 2 28 rfl dX6_leadBack_27 rfl rfl ?_
  refine gg_callVv (S := sX6_leadBack) (S' := sX6_leadBackTo) (cs := 0) (sl := 0) (As := [vr t4, vr x2]) (st := []) 31 rfl (fun b4 => lkX6_leadBackTo b4 t4 x2) mwX6_leadBackTo rfl mlX6_330 dX6_leadBack_28 cfX6 ⟨by decide, by decide⟩ 0 0 ⟨rfl, rfl⟩ ⟨by decide, by decide⟩ (Nat.le_of_ble_eq_true rfl) (fun _ => ?_)
  exact gg_pure (gg_vret (S := sX6_leadBack) rfl dX6_leadBack_31 (by decide) (by decide))

set_option maxRecDepth 100000 in
set_option maxHeartbeats 4000000 in
theorem lkX6_setDifferenceRoom (x0 : Nat) (x1 : Int) (x2 : Int) (x3 : Int) : LK yX6_setDifferenceRoom sX6_setDifferenceRoom [vr (some x0), vi x1, vi x2, vi x3] en_v (X6_setDifferenceRoom x0 x1 x2 x3) := by
  refine lk_go (L := [(0, vr (some x0)), (1, vi x1), (2, vi x2), (3, vi x3)]) (by decide +kernel) rfl (fun h => by cases h) (Nat.le_of_ble_eq_true rfl) rfl ?_
  intro K
  unfold X6_setDifferenceRoom
  refine gg_iload_n (S := sX6_setDifferenceRoom) 1 1 rfl dX6_setDifferenceRoom_0 rfl rfl ?_
  refine gg_bipush (S := sX6_setDifferenceRoom) 3 rfl dX6_setDifferenceRoom_1 (by decide) ?_
  refine gg_imul (S := sX6_setDifferenceRoom) 4 rfl dX6_setDifferenceRoom_3 ?_
  refine gg_iload_n (S := sX6_setDifferenceRoom) 2 5 rfl dX6_setDifferenceRoom_4 rfl rfl ?_
  refine gg_iadd (S := sX6_setDifferenceRoom) 6 rfl dX6_setDifferenceRoom_5 ?_
  refine gg_istore (S := sX6_setDifferenceRoom) (L' := [(4, vi ((x1 * 10) + x2)), (0, vr (some x0)), (1, vi x1), (2, vi x2), (3, vi x3)]) 8 rfl dX6_setDifferenceRoom_6 (by decide) rfl ?_
  refine gg_iload (S := sX6_setDifferenceRoom) 0 10 rfl dX6_setDifferenceRoom_8 rfl ?_
  refine gg_if_lt (S := sX6_setDifferenceRoom) (tgt := 31) 13 rfl dX6_setDifferenceRoom_10 (by decide) ?_ ?_
  · exact gg_pure (gg_vret (S := sX6_setDifferenceRoom) rfl dX6_setDifferenceRoom_31 (by decide) (by decide))
  · refine gg_iload (S := sX6_setDifferenceRoom) 0 15 rfl dX6_setDifferenceRoom_13 rfl ?_
    refine gg_aload_n (S := sX6_setDifferenceRoom) 1 16 rfl dX6_setDifferenceRoom_15 rfl rfl ?_
    refine gg_gr (S := sX6_setDifferenceRoom) cfX6 (by decide) (fun _ _ => rfl) 19 rfl flX6_33 dX6_setDifferenceRoom_16 (fun t1 => ?_)
    refine gg_alen (S := sX6_setDifferenceRoom) 20 rfl dX6_setDifferenceRoom_19 (fun t2 => ?_)
    refine gg_ic_ge (S := sX6_setDifferenceRoom) (tgt := 31) 23 rfl dX6_setDifferenceRoom_20 (by decide) ?_ ?_
    · refine gg_aload_n (S := sX6_setDifferenceRoom) 1 24 rfl dX6_setDifferenceRoom_23 rfl rfl ?_
      refine gg_gr (S := sX6_setDifferenceRoom) cfX6 (by decide) (fun _ _ => rfl) 27 rfl flX6_33 dX6_setDifferenceRoom_24 (fun t3 => ?_)
      refine gg_iload (S := sX6_setDifferenceRoom) 0 29 rfl dX6_setDifferenceRoom_27 rfl ?_
      refine gg_iload_n (S := sX6_setDifferenceRoom) 4 30 rfl dX6_setDifferenceRoom_29 rfl rfl ?_
      refine gg_st (S := sX6_setDifferenceRoom) 31 rfl dX6_setDifferenceRoom_30 ?_
      exact gg_pure (gg_vret (S := sX6_setDifferenceRoom) rfl dX6_setDifferenceRoom_31 (by decide) (by decide))
    · exact gg_pure (gg_vret (S := sX6_setDifferenceRoom) rfl dX6_setDifferenceRoom_31 (by decide) (by decide))

set_option maxRecDepth 100000 in
set_option maxHeartbeats 4000000 in
theorem lkX6_reckonRooms (x0 : Nat) (x1 : Int) : LK yX6_reckonRooms sX6_reckonRooms [vr (some x0), vi x1] en_v (X6_reckonRooms x0 x1) := by
  refine lk_go (L := [(0, vr (some x0)), (1, vi x1)]) (by decide +kernel) rfl (fun h => by cases h) (Nat.le_of_ble_eq_true rfl) rfl ?_
  intro K
  unfold X6_reckonRooms
  refine gg_aload_n (S := sX6_reckonRooms) 0 1 rfl dX6_reckonRooms_0 rfl rfl ?_
  refine gg_iload_n (S := sX6_reckonRooms) 1 2 rfl dX6_reckonRooms_1 rfl rfl ?_
  refine gg_callVr (S := sX6_reckonRooms) (S' := sX6_versionOrNull) (cs := 0) (sl := 0) (As := [vi x1]) (st := []) 5 rfl (fun b17 => lkX6_versionOrNull b17 x1) mwX6_versionOrNull rfl mlX6_92 dX6_reckonRooms_2 cfX6 ⟨by decide, by decide⟩ 0 0 ⟨rfl, rfl⟩ ⟨by decide, by decide⟩ (Nat.le_of_ble_eq_true rfl) (fun t1 => ?_)
  refine gg_astore_n (S := sX6_reckonRooms) (L' := [(2, vr t1), (0, vr (some x0)), (1, vi x1)]) 6 rfl dX6_reckonRooms_5 rfl (by decide) rfl ?_
  refine gg_iconst (S := sX6_reckonRooms) 7 rfl dX6_reckonRooms_6 ?_
  refine gg_istore_n (S := sX6_reckonRooms) (L' := [(3, vi 0), (2, vr t1), (0, vr (some x0)), (1, vi x1)]) 8 rfl dX6_reckonRooms_7 rfl (by decide) rfl ?_
  refine gg_sub [2, 3, 1, 0] rfl ?_
  refine gg_loopA (fun y2 => [(0, vr (some x0)), (1, vi x1), (2, vr t1), (3, vi y2)]) (fun _ => []) 86 mo_N ?_ ?_ 0
  · intro κ8 hr8 he8
    intro y2
    dsimp only [X6_reckonRooms_L8]
    refine gg_iload_n (S := sX6_reckonRooms) 3 9 rfl dX6_reckonRooms_8 rfl rfl ?_
    refine gg_aload_n (S := sX6_reckonRooms) 0 10 rfl dX6_reckonRooms_9 rfl rfl ?_
    refine gg_gi (S := sX6_reckonRooms) cfX6 (by decide) (fun _ _ => rfl) 13 rfl flX6_106 dX6_reckonRooms_10 (fun t3 => ?_)
    refine gg_ic_ge (S := sX6_reckonRooms) (tgt := 86) 16 rfl dX6_reckonRooms_13 (by decide) ?_ ?_
    · refine gg_aload_n (S := sX6_reckonRooms) 0 17 rfl dX6_reckonRooms_16 rfl rfl ?_
      refine gg_iload_n (S := sX6_reckonRooms) 3 18 rfl dX6_reckonRooms_17 rfl rfl ?_
      refine gg_callVr (S := sX6_reckonRooms) (S' := sX6_versionOrNull) (cs := 0) (sl := 0) (As := [vi y2]) (st := []) 21 rfl (fun b16 => lkX6_versionOrNull b16 y2) mwX6_versionOrNull rfl mlX6_92 dX6_reckonRooms_18 cfX6 ⟨by decide, by decide⟩ 0 0 ⟨rfl, rfl⟩ ⟨by decide, by decide⟩ (Nat.le_of_ble_eq_true rfl) (fun t4 => ?_)
      refine gg_astore (S := sX6_reckonRooms) (L' := [(4, vr t4), (0, vr (some x0)), (1, vi x1), (2, vr t1), (3, vi y2)]) 23 rfl dX6_reckonRooms_21 (by decide) rfl ?_
      refine gg_aload (S := sX6_reckonRooms) 0 25 rfl dX6_reckonRooms_23 rfl ?_
      refine gg_join (fun _ => [(0, vr (some x0)), (1, vi x1), (2, vr t1), (3, vi y2)]) (fun _ => []) 80 0 0 (fun κ25 hJ25 => ?_) ?_
      · refine gg_ifnull (S := sX6_reckonRooms) (tgt := 80) 28 rfl dX6_reckonRooms_25 (by decide) ?_ ?_
        · exact gg_pure (gg_sub [1, 2, 3, 4] rfl (hJ25 ()))
        · refine gg_aload_n (S := sX6_reckonRooms) 3 29 rfl dX6_reckonRooms_28 rfl rfl ?_
          refine gg_ifnull (S := sX6_reckonRooms) (tgt := 80) 32 rfl dX6_reckonRooms_29 (by decide) ?_ ?_
          · exact gg_pure (gg_sub [1, 2, 3, 4] rfl (hJ25 ()))
          · refine gg_aload_n (S := sX6_reckonRooms) 1 33 rfl dX6_reckonRooms_32 rfl rfl ?_
            refine gg_aload (S := sX6_reckonRooms) 0 35 rfl dX6_reckonRooms_33 rfl ?_
            refine gg_aload_n (S := sX6_reckonRooms) 3 36 rfl dX6_reckonRooms_35 rfl rfl ?_
            refine gg_aload_n (S := sX6_reckonRooms) 1 37 rfl dX6_reckonRooms_36 rfl rfl ?_
            refine gg_gr (S := sX6_reckonRooms) cfX6 (by decide) (fun _ _ => rfl) 40 rfl flX6_47 dX6_reckonRooms_37 (fun t5 => ?_)
            refine gg_callVv (S := sX6_reckonRooms) (S' := sX6_writeDifference) (cs := 0) (sl := 0) (As := [vr t4, vr t1, vr t5]) (st := []) 43 rfl (fun b15 => lkX6_writeDifference b15 t4 t1 t5) mwX6_writeDifference rfl mlX6_130 dX6_reckonRooms_40 cfX6 ⟨by decide, by decide⟩ 0 0 ⟨rfl, rfl⟩ ⟨by decide, by decide⟩ (Nat.le_of_ble_eq_true rfl) (fun _ => ?_)
            refine gg_aload_n (S := sX6_reckonRooms) 1 44 rfl dX6_reckonRooms_43 rfl rfl ?_
            refine gg_iload_n (S := sX6_reckonRooms) 4 45 rfl dX6_reckonRooms_44 rfl rfl ?_
            refine gg_iload_n (S := sX6_reckonRooms) 2 46 rfl dX6_reckonRooms_45 rfl rfl ?_
            refine gg_aload_n (S := sX6_reckonRooms) 1 47 rfl dX6_reckonRooms_46 rfl rfl ?_
            refine gg_gr (S := sX6_reckonRooms) cfX6 (by decide) (fun _ _ => rfl) 50 rfl flX6_47 dX6_reckonRooms_47 (fun t6 => ?_)
            refine gg_callVi (S := sX6_reckonRooms) (S' := sX3_room) (cs := 0) (sl := 0) (As := []) (st := [vi x1, vi y2, vr (some x0)]) 53 rfl (fun b14 => lkX3_room b14) mwX3_room rfl mlX6_318 dX6_reckonRooms_50 cfX3 ⟨by decide, by decide⟩ 0 0 ⟨rfl, rfl⟩ ⟨by decide, by decide⟩ (Nat.le_of_ble_eq_true rfl) (fun t7 => ?_)
            refine gg_callVv (S := sX6_reckonRooms) (S' := sX6_setDifferenceRoom) (cs := 0) (sl := 0) (As := [vi y2, vi x1, vi t7]) (st := []) 56 rfl (fun b13 => lkX6_setDifferenceRoom b13 y2 x1 t7) mwX6_setDifferenceRoom rfl mlX6_323 dX6_reckonRooms_53 cfX6 ⟨by decide, by decide⟩ 0 0 ⟨rfl, rfl⟩ ⟨by decide, by decide⟩ (Nat.le_of_ble_eq_true rfl) (fun _ => ?_)
            refine gg_aload_n (S := sX6_reckonRooms) 1 57 rfl dX6_reckonRooms_56 rfl rfl ?_
            refine gg_aload_n (S := sX6_reckonRooms) 3 58 rfl dX6_reckonRooms_57 rfl rfl ?_
            refine gg_aload (S := sX6_reckonRooms) 0 60 rfl dX6_reckonRooms_58 rfl ?_
            refine gg_aload_n (S := sX6_reckonRooms) 1 61 rfl dX6_reckonRooms_60 rfl rfl ?_
            refine gg_gr (S := sX6_reckonRooms) cfX6 (by decide) (fun _ _ => rfl) 64 rfl flX6_47 dX6_reckonRooms_61 (fun t8 => ?_)
            refine gg_callVv (S := sX6_reckonRooms) (S' := sX6_writeDifference) (cs := 0) (sl := 0) (As := [vr t1, vr t4, vr t8]) (st := []) 67 rfl (fun b12 => lkX6_writeDifference b12 t1 t4 t8) mwX6_writeDifference rfl mlX6_130 dX6_reckonRooms_64 cfX6 ⟨by decide, by decide⟩ 0 0 ⟨rfl, rfl⟩ ⟨by decide, by decide⟩ (Nat.le_of_ble_eq_true rfl) (fun _ => ?_)
            refine gg_aload_n (S := sX6_reckonRooms) 1 68 rfl dX6_reckonRooms_67 rfl rfl ?_
            refine gg_iload_n (S := sX6_reckonRooms) 2 69 rfl dX6_reckonRooms_68 rfl rfl ?_
            refine gg_iload_n (S := sX6_reckonRooms) 4 70 rfl dX6_reckonRooms_69 rfl rfl ?_
            refine gg_aload_n (S := sX6_reckonRooms) 1 71 rfl dX6_reckonRooms_70 rfl rfl ?_
            refine gg_gr (S := sX6_reckonRooms) cfX6 (by decide) (fun _ _ => rfl) 74 rfl flX6_47 dX6_reckonRooms_71 (fun t9 => ?_)
            refine gg_callVi (S := sX6_reckonRooms) (S' := sX3_room) (cs := 0) (sl := 0) (As := []) (st := [vi y2, vi x1, vr (some x0)]) 77 rfl (fun b11 => lkX3_room b11) mwX3_room rfl mlX6_318 dX6_reckonRooms_74 cfX3 ⟨by decide, by decide⟩ 0 0 ⟨rfl, rfl⟩ ⟨by decide, by decide⟩ (Nat.le_of_ble_eq_true rfl) (fun t10 => ?_)
            refine gg_callVv (S := sX6_reckonRooms) (S' := sX6_setDifferenceRoom) (cs := 0) (sl := 0) (As := [vi x1, vi y2, vi t10]) (st := []) 80 rfl (fun b10 => lkX6_setDifferenceRoom b10 x1 y2 t10) mwX6_setDifferenceRoom rfl mlX6_323 dX6_reckonRooms_77 cfX6 ⟨by decide, by decide⟩ 0 0 ⟨rfl, rfl⟩ ⟨by decide, by decide⟩ (Nat.le_of_ble_eq_true rfl) (fun _ => ?_)
            exact gg_pure (gg_sub [1, 2, 3, 4] rfl (hJ25 ()))
      · intro _
        refine gg_iinc (S := sX6_reckonRooms) (L' := [(3, vi (y2 + 1)), (0, vr (some x0)), (1, vi x1), (2, vr t1)]) 3 83 rfl dX6_reckonRooms_80 rfl (by decide) rfl ?_
        refine gg_goto (S := sX6_reckonRooms) (tgt := 8) dX6_reckonRooms_83 (by decide) ?_
        exact gg_pure (gg_sub [1, 2, 3, 0] rfl (hr8 (y2 + 1)))
    · exact gg_pure (gg_sub [] rfl (he8 ()))
  · intro _
    exact gg_pure (gg_vret (S := sX6_reckonRooms) rfl dX6_reckonRooms_86 (by decide) (by decide))

set_option maxRecDepth 100000 in
set_option maxHeartbeats 4000000 in
theorem lkX6_keep (x0 : Nat) (x1 : Int) (x2 : Int) : LK yX6_keep sX6_keep [vr (some x0), vi x1, vi x2] en_i (X6_keep x0 x1 x2) := by
  refine lk_go (L := [(0, vr (some x0)), (1, vi x1), (2, vi x2)]) (by decide +kernel) rfl (fun h => by cases h) (Nat.le_of_ble_eq_true rfl) rfl ?_
  intro K
  unfold X6_keep
  refine gg_aload_n (S := sX6_keep) 0 1 rfl dX6_keep_0 rfl rfl ?_
  refine gg_iload_n (S := sX6_keep) 1 2 rfl dX6_keep_1 rfl rfl ?_
  refine gg_callVi (S := sX6_keep) (S' := sX6_isVersionOrNone) (cs := 0) (sl := 0) (As := [vi x1]) (st := []) 5 rfl (fun b14 => lkX6_isVersionOrNone b14 x1) mwX6_isVersionOrNone rfl mlX6_103 dX6_keep_2 cfX6 ⟨by decide, by decide⟩ 0 0 ⟨rfl, rfl⟩ ⟨by decide, by decide⟩ (Nat.le_of_ble_eq_true rfl) (fun t1 => ?_)
  refine gg_if_eq (S := sX6_keep) (tgt := 16) 8 rfl dX6_keep_5 (by decide) ?_ ?_
  · refine gg_bipush (S := sX6_keep) 18 rfl dX6_keep_16 (by decide) ?_
    exact gg_pure (gg_iret (S := sX6_keep) rfl dX6_keep_18 (by decide) (by decide))
  · refine gg_aload_n (S := sX6_keep) 0 9 rfl dX6_keep_8 rfl rfl ?_
    refine gg_iload_n (S := sX6_keep) 2 10 rfl dX6_keep_9 rfl rfl ?_
    refine gg_callVi (S := sX6_keep) (S' := sX6_isVersionOrNone) (cs := 0) (sl := 0) (As := [vi x2]) (st := []) 13 rfl (fun b13 => lkX6_isVersionOrNone b13 x2) mwX6_isVersionOrNone rfl mlX6_103 dX6_keep_10 cfX6 ⟨by decide, by decide⟩ 0 0 ⟨rfl, rfl⟩ ⟨by decide, by decide⟩ (Nat.le_of_ble_eq_true rfl) (fun t2 => ?_)
    refine gg_if_ne (S := sX6_keep) (tgt := 19) 16 rfl dX6_keep_13 (by decide) ?_ ?_
    · refine gg_bipush (S := sX6_keep) 18 rfl dX6_keep_16 (by decide) ?_
      exact gg_pure (gg_iret (S := sX6_keep) rfl dX6_keep_18 (by decide) (by decide))
    · refine gg_iload_n (S := sX6_keep) 2 20 rfl dX6_keep_19 rfl rfl ?_
      refine gg_iconst (S := sX6_keep) 21 rfl dX6_keep_20 ?_
      refine gg_cond [] [(0, vr (some x0)), (1, vi x1), (2, vi x2)] [] 34 37 0 0 (fun κ21 hT21 hF21 => ?_) ?_ ?_
      · refine gg_ic_eq (S := sX6_keep) (tgt := 37) 24 rfl dX6_keep_21 (by decide) ?_ ?_
        · exact gg_pure (gg_sub [0, 1, 2] rfl hF21)
        · refine gg_iload_n (S := sX6_keep) 1 25 rfl dX6_keep_24 rfl rfl ?_
          refine gg_iload_n (S := sX6_keep) 2 26 rfl dX6_keep_25 rfl rfl ?_
          refine gg_ic_eq (S := sX6_keep) (tgt := 34) 29 rfl dX6_keep_26 (by decide) ?_ ?_
          · exact gg_pure (gg_sub [] rfl hT21)
          · refine gg_iload_n (S := sX6_keep) 1 30 rfl dX6_keep_29 rfl rfl ?_
            refine gg_iconst (S := sX6_keep) 31 rfl dX6_keep_30 ?_
            refine gg_ic_ne (S := sX6_keep) (tgt := 37) 34 rfl dX6_keep_31 (by decide) ?_ ?_
            · exact gg_pure (gg_sub [] rfl hT21)
            · exact gg_pure (gg_sub [0, 1, 2] rfl hF21)
      · refine gg_bipush (S := sX6_keep) 36 rfl dX6_keep_34 (by decide) ?_
        exact gg_pure (gg_iret (S := sX6_keep) rfl dX6_keep_36 (by decide) (by decide))
      · refine gg_aload_n (S := sX6_keep) 0 38 rfl dX6_keep_37 rfl rfl ?_
        refine gg_gi (S := sX6_keep) cfX6 (by decide) (fun _ _ => rfl) 41 rfl flX6_106 dX6_keep_38 (fun t3 => ?_)
        refine gg_bipush (S := sX6_keep) 43 rfl dX6_keep_41 (by decide) ?_
        refine gg_ic_lt (S := sX6_keep) (tgt := 49) 46 rfl dX6_keep_43 (by decide) ?_ ?_
        · refine gg_no (S := sX6_keep) (cs := 0) (sl := 0) cfX5 52 rfl ckX6_21 inX5 iiX5 dvX5 dX6_keep_49 1 5 ⟨rfl, rfl⟩ (by decide) (by decide) (fun t4 => ?_)
          refine gg_dup (S := sX6_keep) 53 rfl dX6_keep_52 rfl ?_
          refine gg_iload_n (S := sX6_keep) 1 54 rfl dX6_keep_53 rfl rfl ?_
          refine gg_iload_n (S := sX6_keep) 2 55 rfl dX6_keep_54 rfl rfl ?_
          refine gg_callI (S := sX6_keep) (S' := sX5_init) (cs := 1) (sl := 5) (As := [vi x1, vi x2]) (st := [vr t4]) 58 rfl (fun b12 => lkX5_init b12 x1 x2) mwX5_init rfl mlX6_110 dX6_keep_55 ⟨by decide, by decide⟩ 4 85 ⟨rfl, rfl⟩ ⟨by decide, by decide⟩ (Nat.le_of_ble_eq_true rfl) (fun _ => ?_)
          refine gg_astore_n (S := sX6_keep) (L' := [(3, vr t4), (0, vr (some x0)), (1, vi x1), (2, vi x2)]) 59 rfl dX6_keep_58 rfl (by decide) rfl ?_
          refine gg_aload_n (S := sX6_keep) 0 60 rfl dX6_keep_59 rfl rfl ?_
          refine gg_grN (S := sX6_keep) cfX5 (by decide) (fun _ _ => rfl) 63 rfl flX6_96 dX6_keep_60 (fun t5 => ?_)
          refine gg_aload_n (S := sX6_keep) 1 64 rfl dX6_keep_63 rfl rfl ?_
          refine gg_gr (S := sX6_keep) cfX6 (by decide) (fun _ _ => rfl) 67 rfl flX6_14 dX6_keep_64 (fun t6 => ?_)
          refine gg_callVv (S := sX6_keep) (S' := sX4_become) (cs := 4) (sl := 85) (As := [vr t6]) (st := []) 70 rfl (fun b11 => lkX4_become b11 t6) mwX4_become rfl mlX6_99 dX6_keep_67 cfX4 ⟨by decide, by decide⟩ 4 85 ⟨rfl, rfl⟩ ⟨by decide, by decide⟩ (Nat.le_of_ble_eq_true rfl) (fun _ => ?_)
          refine gg_aload_n (S := sX6_keep) 1 71 rfl dX6_keep_70 rfl rfl ?_
          refine gg_gi (S := sX6_keep) cfX6 (by decide) (fun _ _ => rfl) 74 rfl flX6_106 dX6_keep_71 (fun t7 => ?_)
          refine gg_istore (S := sX6_keep) (L' := [(4, vi t7), (3, vr t4), (0, vr (some x0)), (1, vi x1), (2, vi x2)]) 76 rfl dX6_keep_74 (by decide) rfl ?_
          refine gg_aload_n (S := sX6_keep) 2 77 rfl dX6_keep_76 rfl rfl ?_
          refine gg_gr (S := sX6_keep) cfX6 (by decide) (fun _ _ => rfl) 80 rfl flX6_23 dX6_keep_77 (fun t8 => ?_)
          refine gg_iload (S := sX6_keep) 0 82 rfl dX6_keep_80 rfl ?_
          refine gg_aload_n (S := sX6_keep) 1 83 rfl dX6_keep_82 rfl rfl ?_
          refine gg_rs2 (S := sX6_keep) 84 rfl dX6_keep_83 ?_
          refine gg_aload_n (S := sX6_keep) 2 85 rfl dX6_keep_84 rfl rfl ?_
          refine gg_dup (S := sX6_keep) 86 rfl dX6_keep_85 rfl ?_
          refine gg_gi (S := sX6_keep) cfX6 (by decide) (fun _ _ => rfl) 89 rfl flX6_106 dX6_keep_86 (fun t9 => ?_)
          refine gg_iconst (S := sX6_keep) 90 rfl dX6_keep_89 ?_
          refine gg_iadd (S := sX6_keep) 91 rfl dX6_keep_90 ?_
          refine gg_si (S := sX6_keep) cfX6 (by decide) rfl (fun _ _ => rfl) rfl 94 rfl flX6_106 dX6_keep_91 ?_
          refine gg_aload_n (S := sX6_keep) 2 95 rfl dX6_keep_94 rfl rfl ?_
          refine gg_iload (S := sX6_keep) 0 97 rfl dX6_keep_95 rfl ?_
          refine gg_callVv (S := sX6_keep) (S' := sX6_reckonRooms) (cs := 4) (sl := 85) (As := [vi t7]) (st := []) 100 rfl (fun b10 => lkX6_reckonRooms b10 t7) mwX6_reckonRooms rfl mlX6_111 dX6_keep_97 cfX6 ⟨by decide, by decide⟩ 4 85 ⟨rfl, rfl⟩ ⟨by decide, by decide⟩ (Nat.le_of_ble_eq_true rfl) (fun _ => ?_)
          refine gg_aload_n (S := sX6_keep) 2 101 rfl dX6_keep_100 rfl rfl ?_
          refine gg_iload (S := sX6_keep) 0 103 rfl dX6_keep_101 rfl ?_
          refine gg_aload_n (S := sX6_keep) 1 104 rfl dX6_keep_103 rfl rfl ?_
          refine gg_callVv (S := sX6_keep) (S' := sX6_leadBack) (cs := 4) (sl := 85) (As := [vi t7, vr t4]) (st := []) 107 rfl (fun b9 => lkX6_leadBack b9 t7 t4) mwX6_leadBack rfl mlX6_114 dX6_keep_104 cfX6 ⟨by decide, by decide⟩ 4 85 ⟨rfl, rfl⟩ ⟨by decide, by decide⟩ (Nat.le_of_ble_eq_true rfl) (fun _ => ?_)
          refine gg_iload (S := sX6_keep) 0 109 rfl dX6_keep_107 rfl ?_
          exact gg_pure (gg_iret (S := sX6_keep) rfl dX6_keep_109 (by decide) (by decide))
        · refine gg_bipush (S := sX6_keep) 48 rfl dX6_keep_46 (by decide) ?_
          exact gg_pure (gg_iret (S := sX6_keep) rfl dX6_keep_48 (by decide) (by decide))

set_option maxRecDepth 100000 in
set_option maxHeartbeats 4000000 in
theorem lkX6_kept (x0 : Nat) (x1 : Int) (x2 : Int) (x3 : Int) : LK yX6_kept sX6_kept [vr (some x0), vi x1, vi x2, vi x3] en_i (X6_kept x0 x1 x2 x3) := by
  refine lk_go (L := [(0, vr (some x0)), (1, vi x1), (2, vi x2), (3, vi x3)]) (by decide +kernel) rfl (fun h => by cases h) (Nat.le_of_ble_eq_true rfl) rfl ?_
  intro K
  unfold X6_kept
  refine gg_aload_n (S := sX6_kept) 0 1 rfl dX6_kept_0 rfl rfl ?_
  refine gg_iload_n (S := sX6_kept) 1 2 rfl dX6_kept_1 rfl rfl ?_
  refine gg_callVr (S := sX6_kept) (S' := sX6_versionOrNull) (cs := 0) (sl := 0) (As := [vi x1]) (st := []) 5 rfl (fun b13 => lkX6_versionOrNull b13 x1) mwX6_versionOrNull rfl mlX6_92 dX6_kept_2 cfX6 ⟨by decide, by decide⟩ 0 0 ⟨rfl, rfl⟩ ⟨by decide, by decide⟩ (Nat.le_of_ble_eq_true rfl) (fun t1 => ?_)
  refine gg_astore (S := sX6_kept) (L' := [(4, vr t1), (0, vr (some x0)), (1, vi x1), (2, vi x2), (3, vi x3)]) 7 rfl dX6_kept_5 (by decide) rfl ?_
  refine gg_aload_n (S := sX6_kept) 1 8 rfl dX6_kept_7 rfl rfl ?_
  refine gg_iload_n (S := sX6_kept) 3 9 rfl dX6_kept_8 rfl rfl ?_
  refine gg_callVr (S := sX6_kept) (S' := sX6_versionOrNull) (cs := 0) (sl := 0) (As := [vi x2]) (st := []) 12 rfl (fun b12 => lkX6_versionOrNull b12 x2) mwX6_versionOrNull rfl mlX6_92 dX6_kept_9 cfX6 ⟨by decide, by decide⟩ 0 0 ⟨rfl, rfl⟩ ⟨by decide, by decide⟩ (Nat.le_of_ble_eq_true rfl) (fun t2 => ?_)
  refine gg_astore (S := sX6_kept) (L' := [(5, vr t2), (4, vr t1), (0, vr (some x0)), (1, vi x1), (2, vi x2), (3, vi x3)]) 14 rfl dX6_kept_12 (by decide) rfl ?_
  refine gg_aload (S := sX6_kept) 1 16 rfl dX6_kept_14 rfl ?_
  refine gg_ifnull (S := sX6_kept) (tgt := 40) 19 rfl dX6_kept_16 (by decide) ?_ ?_
  · refine gg_bipush (S := sX6_kept) 42 rfl dX6_kept_40 (by decide) ?_
    exact gg_pure (gg_iret (S := sX6_kept) rfl dX6_kept_42 (by decide) (by decide))
  · refine gg_aload (S := sX6_kept) 0 21 rfl dX6_kept_19 rfl ?_
    refine gg_ifnull (S := sX6_kept) (tgt := 40) 24 rfl dX6_kept_21 (by decide) ?_ ?_
    · refine gg_bipush (S := sX6_kept) 42 rfl dX6_kept_40 (by decide) ?_
      exact gg_pure (gg_iret (S := sX6_kept) rfl dX6_kept_42 (by decide) (by decide))
    · refine gg_iload_n (S := sX6_kept) 5 25 rfl dX6_kept_24 rfl rfl ?_
      refine gg_if_lt (S := sX6_kept) (tgt := 40) 28 rfl dX6_kept_25 (by decide) ?_ ?_
      · refine gg_bipush (S := sX6_kept) 42 rfl dX6_kept_40 (by decide) ?_
        exact gg_pure (gg_iret (S := sX6_kept) rfl dX6_kept_42 (by decide) (by decide))
      · refine gg_iload_n (S := sX6_kept) 5 29 rfl dX6_kept_28 rfl rfl ?_
        refine gg_aload (S := sX6_kept) 1 31 rfl dX6_kept_29 rfl ?_
        refine gg_grN (S := sX6_kept) cfX5 (by decide) (fun _ _ => rfl) 34 rfl flX6_96 dX6_kept_31 (fun t3 => ?_)
        refine gg_callVi (S := sX6_kept) (S' := sX4_size) (cs := 0) (sl := 0) (As := []) (st := [vi x3]) 37 rfl (fun b11 => lkX4_size b11) mwX4_size rfl mlX6_71 dX6_kept_34 cfX4 ⟨by decide, by decide⟩ 0 0 ⟨rfl, rfl⟩ ⟨by decide, by decide⟩ (Nat.le_of_ble_eq_true rfl) (fun t4 => ?_)
        refine gg_ic_lt (S := sX6_kept) (tgt := 43) 40 rfl dX6_kept_37 (by decide) ?_ ?_
        · refine gg_aload_n (S := sX6_kept) 2 44 rfl dX6_kept_43 rfl rfl ?_
          refine gg_gr (S := sX6_kept) cfX6 (by decide) (fun _ _ => rfl) 47 rfl flX6_40 dX6_kept_44 (fun t5 => ?_)
          refine gg_aload (S := sX6_kept) 1 49 rfl dX6_kept_47 rfl ?_
          refine gg_grN (S := sX6_kept) cfX5 (by decide) (fun _ _ => rfl) 52 rfl flX6_96 dX6_kept_49 (fun t6 => ?_)
          refine gg_aload (S := sX6_kept) 0 54 rfl dX6_kept_52 rfl ?_
          refine gg_grN (S := sX6_kept) cfX5 (by decide) (fun _ _ => rfl) 57 rfl flX6_96 dX6_kept_54 (fun t7 => ?_)
          refine gg_callVv (S := sX6_kept) (S' := sX1_find) (cs := 0) (sl := 0) (As := [vr t6, vr t7]) (st := []) 60 rfl (fun b10 => lkX1_find b10 t6 t7) mwX1_find rfl mlX6_141 dX6_kept_57 cfX1 ⟨by decide, by decide⟩ 0 0 ⟨rfl, rfl⟩ ⟨by decide, by decide⟩ (Nat.le_of_ble_eq_true rfl) (fun _ => ?_)
          refine gg_aload_n (S := sX6_kept) 2 61 rfl dX6_kept_60 rfl rfl ?_
          refine gg_gr (S := sX6_kept) cfX6 (by decide) (fun _ _ => rfl) 64 rfl flX6_40 dX6_kept_61 (fun t8 => ?_)
          refine gg_iload_n (S := sX6_kept) 5 65 rfl dX6_kept_64 rfl rfl ?_
          refine gg_callVi (S := sX6_kept) (S' := sX1_mate) (cs := 0) (sl := 0) (As := [vi x3]) (st := []) 68 rfl (fun b9 => lkX1_mate b9 x3) mwX1_mate rfl mlX6_145 dX6_kept_65 cfX1 ⟨by decide, by decide⟩ 0 0 ⟨rfl, rfl⟩ ⟨by decide, by decide⟩ (Nat.le_of_ble_eq_true rfl) (fun t9 => ?_)
          exact gg_pure (gg_iret (S := sX6_kept) rfl dX6_kept_68 (by decide) (by decide))
        · refine gg_bipush (S := sX6_kept) 42 rfl dX6_kept_40 (by decide) ?_
          exact gg_pure (gg_iret (S := sX6_kept) rfl dX6_kept_42 (by decide) (by decide))

set_option maxRecDepth 100000 in
set_option maxHeartbeats 4000000 in
theorem lkX6_lay (x0 : Nat) (x1 : Int) : LK yX6_lay sX6_lay [vr (some x0), vi x1] en_i (X6_lay x0 x1) := by
  refine lk_go (L := [(0, vr (some x0)), (1, vi x1)]) (by decide +kernel) rfl (fun h => by cases h) (Nat.le_of_ble_eq_true rfl) rfl ?_
  intro K
  unfold X6_lay
  refine gg_aload_n (S := sX6_lay) 0 1 rfl dX6_lay_0 rfl rfl ?_
  refine gg_iload_n (S := sX6_lay) 1 2 rfl dX6_lay_1 rfl rfl ?_
  refine gg_callVr (S := sX6_lay) (S' := sX6_patchOrNull) (cs := 0) (sl := 0) (As := [vi x1]) (st := []) 5 rfl (fun b9 => lkX6_patchOrNull b9 x1) mwX6_patchOrNull rfl mlX6_159 dX6_lay_2 cfX6 ⟨by decide, by decide⟩ 0 0 ⟨rfl, rfl⟩ ⟨by decide, by decide⟩ (Nat.le_of_ble_eq_true rfl) (fun t1 => ?_)
  refine gg_astore_n (S := sX6_lay) (L' := [(2, vr t1), (0, vr (some x0)), (1, vi x1)]) 6 rfl dX6_lay_5 rfl (by decide) rfl ?_
  refine gg_aload_n (S := sX6_lay) 0 7 rfl dX6_lay_6 rfl rfl ?_
  refine gg_ifnonnull (S := sX6_lay) (tgt := 13) 10 rfl dX6_lay_7 (by decide) ?_ ?_
  · refine gg_bipush (S := sX6_lay) 12 rfl dX6_lay_10 (by decide) ?_
    exact gg_pure (gg_iret (S := sX6_lay) rfl dX6_lay_12 (by decide) (by decide))
  · refine gg_aload_n (S := sX6_lay) 0 14 rfl dX6_lay_13 rfl rfl ?_
    refine gg_aload_n (S := sX6_lay) 1 15 rfl dX6_lay_14 rfl rfl ?_
    refine gg_gr (S := sX6_lay) cfX6 (by decide) (fun _ _ => rfl) 18 rfl flX6_14 dX6_lay_15 (fun t2 => ?_)
    refine gg_callVi (S := sX6_lay) (S' := sX3_fitsOn) (cs := 0) (sl := 0) (As := [vr t2]) (st := []) 21 rfl (fun b8 => lkX3_fitsOn b8 t2) mwX3_fitsOn rfl mlX6_204 dX6_lay_18 cfX3 ⟨by decide, by decide⟩ 0 0 ⟨rfl, rfl⟩ ⟨by decide, by decide⟩ (Nat.le_of_ble_eq_true rfl) (fun t3 => ?_)
    refine gg_if_ne (S := sX6_lay) (tgt := 27) 24 rfl dX6_lay_21 (by decide) ?_ ?_
    · refine gg_bipush (S := sX6_lay) 26 rfl dX6_lay_24 (by decide) ?_
      exact gg_pure (gg_iret (S := sX6_lay) rfl dX6_lay_26 (by decide) (by decide))
    · refine gg_aload_n (S := sX6_lay) 0 28 rfl dX6_lay_27 rfl rfl ?_
      refine gg_aload_n (S := sX6_lay) 1 29 rfl dX6_lay_28 rfl rfl ?_
      refine gg_gr (S := sX6_lay) cfX6 (by decide) (fun _ _ => rfl) 32 rfl flX6_14 dX6_lay_29 (fun t4 => ?_)
      refine gg_aload_n (S := sX6_lay) 1 33 rfl dX6_lay_32 rfl rfl ?_
      refine gg_gr (S := sX6_lay) cfX6 (by decide) (fun _ _ => rfl) 36 rfl flX6_18 dX6_lay_33 (fun t5 => ?_)
      refine gg_callVv (S := sX6_lay) (S' := sX3_layOn) (cs := 0) (sl := 0) (As := [vr t4, vr t5]) (st := []) 39 rfl (fun b7 => lkX3_layOn b7 t4 t5) mwX3_layOn rfl mlX6_208 dX6_lay_36 cfX3 ⟨by decide, by decide⟩ 0 0 ⟨rfl, rfl⟩ ⟨by decide, by decide⟩ (Nat.le_of_ble_eq_true rfl) (fun _ => ?_)
      refine gg_aload_n (S := sX6_lay) 1 40 rfl dX6_lay_39 rfl rfl ?_
      refine gg_callVi (S := sX6_lay) (S' := sX6_takeTrialToDesk) (cs := 0) (sl := 0) (As := []) (st := []) 43 rfl (fun b6 => lkX6_takeTrialToDesk b6) mwX6_takeTrialToDesk rfl mlX6_211 dX6_lay_40 cfX6 ⟨by decide, by decide⟩ 0 0 ⟨rfl, rfl⟩ ⟨by decide, by decide⟩ (Nat.le_of_ble_eq_true rfl) (fun t6 => ?_)
      exact gg_pure (gg_iret (S := sX6_lay) rfl dX6_lay_43 (by decide) (by decide))

set_option maxRecDepth 100000 in
set_option maxHeartbeats 4000000 in
theorem lkX6_line (x0 : Nat) (x1 : Int) (x2 : Int) : LK yX6_line sX6_line [vr (some x0), vi x1, vi x2] en_i (X6_line x0 x1 x2) := by
  refine lk_go (L := [(0, vr (some x0)), (1, vi x1), (2, vi x2)]) (by decide +kernel) rfl (fun h => by cases h) (Nat.le_of_ble_eq_true rfl) rfl ?_
  intro K
  unfold X6_line
  refine gg_iload_n (S := sX6_line) 1 1 rfl dX6_line_0 rfl rfl ?_
  refine gg_if_lt (S := sX6_line) (tgt := 22) 4 rfl dX6_line_1 (by decide) ?_ ?_
  · refine gg_bipush (S := sX6_line) 24 rfl dX6_line_22 (by decide) ?_
    exact gg_pure (gg_iret (S := sX6_line) rfl dX6_line_24 (by decide) (by decide))
  · refine gg_iload_n (S := sX6_line) 1 5 rfl dX6_line_4 rfl rfl ?_
    refine gg_aload_n (S := sX6_line) 0 6 rfl dX6_line_5 rfl rfl ?_
    refine gg_gr (S := sX6_line) cfX6 (by decide) (fun _ _ => rfl) 9 rfl flX6_14 dX6_line_6 (fun t1 => ?_)
    refine gg_callVi (S := sX6_line) (S' := sX4_size) (cs := 0) (sl := 0) (As := []) (st := [vi x1]) 12 rfl (fun b12 => lkX4_size b12) mwX4_size rfl mlX6_71 dX6_line_9 cfX4 ⟨by decide, by decide⟩ 0 0 ⟨rfl, rfl⟩ ⟨by decide, by decide⟩ (Nat.le_of_ble_eq_true rfl) (fun t2 => ?_)
    refine gg_ic_gt (S := sX6_line) (tgt := 22) 15 rfl dX6_line_12 (by decide) ?_ ?_
    · refine gg_iload_n (S := sX6_line) 2 16 rfl dX6_line_15 rfl rfl ?_
      refine gg_callSi (S := sX6_line) (S' := sX6_isLine) (cs := 0) (sl := 0) (As := [vi x2]) (st := []) 19 rfl (lkX6_isLine x2) mwX6_isLine rfl mlX6_75 dX6_line_16 ⟨by decide, by decide⟩ 0 0 ⟨rfl, rfl⟩ ⟨by decide, by decide⟩ (Nat.le_of_ble_eq_true rfl) (fun t3 => ?_)
      refine gg_if_ne (S := sX6_line) (tgt := 25) 22 rfl dX6_line_19 (by decide) ?_ ?_
      · refine gg_bipush (S := sX6_line) 24 rfl dX6_line_22 (by decide) ?_
        exact gg_pure (gg_iret (S := sX6_line) rfl dX6_line_24 (by decide) (by decide))
      · refine gg_aload_n (S := sX6_line) 0 26 rfl dX6_line_25 rfl rfl ?_
        refine gg_gr (S := sX6_line) cfX6 (by decide) (fun _ _ => rfl) 29 rfl flX6_14 dX6_line_26 (fun t4 => ?_)
        refine gg_callVi (S := sX6_line) (S' := sX4_size) (cs := 0) (sl := 0) (As := []) (st := []) 32 rfl (fun b10 => lkX4_size b10) mwX4_size rfl mlX6_71 dX6_line_29 cfX4 ⟨by decide, by decide⟩ 0 0 ⟨rfl, rfl⟩ ⟨by decide, by decide⟩ (Nat.le_of_ble_eq_true rfl) (fun t5 => ?_)
        refine gg_bipush (S := sX6_line) 34 rfl dX6_line_32 (by decide) ?_
        refine gg_ic_lt (S := sX6_line) (tgt := 40) 37 rfl dX6_line_34 (by decide) ?_ ?_
        · refine gg_aload_n (S := sX6_line) 0 41 rfl dX6_line_40 rfl rfl ?_
          refine gg_gr (S := sX6_line) cfX6 (by decide) (fun _ _ => rfl) 44 rfl flX6_14 dX6_line_41 (fun t6 => ?_)
          refine gg_iload_n (S := sX6_line) 1 45 rfl dX6_line_44 rfl rfl ?_
          refine gg_iload_n (S := sX6_line) 2 46 rfl dX6_line_45 rfl rfl ?_
          refine gg_callVv (S := sX6_line) (S' := sX4_insert) (cs := 0) (sl := 0) (As := [vi x1, vi x2]) (st := []) 49 rfl (fun b9 => lkX4_insert b9 x1 x2) mwX4_insert rfl mlX6_79 dX6_line_46 cfX4 ⟨by decide, by decide⟩ 0 0 ⟨rfl, rfl⟩ ⟨by decide, by decide⟩ (Nat.le_of_ble_eq_true rfl) (fun _ => ?_)
          refine gg_aload_n (S := sX6_line) 0 50 rfl dX6_line_49 rfl rfl ?_
          refine gg_gr (S := sX6_line) cfX6 (by decide) (fun _ _ => rfl) 53 rfl flX6_14 dX6_line_50 (fun t7 => ?_)
          refine gg_callVi (S := sX6_line) (S' := sX4_size) (cs := 0) (sl := 0) (As := []) (st := []) 56 rfl (fun b8 => lkX4_size b8) mwX4_size rfl mlX6_71 dX6_line_53 cfX4 ⟨by decide, by decide⟩ 0 0 ⟨rfl, rfl⟩ ⟨by decide, by decide⟩ (Nat.le_of_ble_eq_true rfl) (fun t8 => ?_)
          exact gg_pure (gg_iret (S := sX6_line) rfl dX6_line_56 (by decide) (by decide))
        · refine gg_bipush (S := sX6_line) 39 rfl dX6_line_37 (by decide) ?_
          exact gg_pure (gg_iret (S := sX6_line) rfl dX6_line_39 (by decide) (by decide))
    · refine gg_bipush (S := sX6_line) 24 rfl dX6_line_22 (by decide) ?_
      exact gg_pure (gg_iret (S := sX6_line) rfl dX6_line_24 (by decide) (by decide))

set_option maxRecDepth 100000 in
set_option maxHeartbeats 4000000 in
theorem lkX6_loose (x0 : Nat) (x1 : Int) : LK yX6_loose sX6_loose [vr (some x0), vi x1] en_i (X6_loose x0 x1) := by
  refine lk_go (L := [(0, vr (some x0)), (1, vi x1)]) (by decide +kernel) rfl (fun h => by cases h) (Nat.le_of_ble_eq_true rfl) rfl ?_
  intro K
  unfold X6_loose
  refine gg_aload_n (S := sX6_loose) 0 1 rfl dX6_loose_0 rfl rfl ?_
  refine gg_iload_n (S := sX6_loose) 1 2 rfl dX6_loose_1 rfl rfl ?_
  refine gg_callVr (S := sX6_loose) (S' := sX6_patchOrNull) (cs := 0) (sl := 0) (As := [vi x1]) (st := []) 5 rfl (fun b9 => lkX6_patchOrNull b9 x1) mwX6_patchOrNull rfl mlX6_159 dX6_loose_2 cfX6 ⟨by decide, by decide⟩ 0 0 ⟨rfl, rfl⟩ ⟨by decide, by decide⟩ (Nat.le_of_ble_eq_true rfl) (fun t1 => ?_)
  refine gg_astore_n (S := sX6_loose) (L' := [(2, vr t1), (0, vr (some x0)), (1, vi x1)]) 6 rfl dX6_loose_5 rfl (by decide) rfl ?_
  refine gg_aload_n (S := sX6_loose) 0 7 rfl dX6_loose_6 rfl rfl ?_
  refine gg_ifnonnull (S := sX6_loose) (tgt := 13) 10 rfl dX6_loose_7 (by decide) ?_ ?_
  · refine gg_bipush (S := sX6_loose) 12 rfl dX6_loose_10 (by decide) ?_
    exact gg_pure (gg_iret (S := sX6_loose) rfl dX6_loose_12 (by decide) (by decide))
  · refine gg_aload_n (S := sX6_loose) 1 14 rfl dX6_loose_13 rfl rfl ?_
    refine gg_gr (S := sX6_loose) cfX6 (by decide) (fun _ _ => rfl) 17 rfl flX6_18 dX6_loose_14 (fun t2 => ?_)
    refine gg_aload_n (S := sX6_loose) 1 18 rfl dX6_loose_17 rfl rfl ?_
    refine gg_gr (S := sX6_loose) cfX6 (by decide) (fun _ _ => rfl) 21 rfl flX6_14 dX6_loose_18 (fun t3 => ?_)
    refine gg_callVv (S := sX6_loose) (S' := sX4_become) (cs := 0) (sl := 0) (As := [vr t3]) (st := []) 24 rfl (fun b8 => lkX4_become b8 t3) mwX4_become rfl mlX6_99 dX6_loose_21 cfX4 ⟨by decide, by decide⟩ 0 0 ⟨rfl, rfl⟩ ⟨by decide, by decide⟩ (Nat.le_of_ble_eq_true rfl) (fun _ => ?_)
    refine gg_aload_n (S := sX6_loose) 0 25 rfl dX6_loose_24 rfl rfl ?_
    refine gg_aload_n (S := sX6_loose) 1 26 rfl dX6_loose_25 rfl rfl ?_
    refine gg_gr (S := sX6_loose) cfX6 (by decide) (fun _ _ => rfl) 29 rfl flX6_18 dX6_loose_26 (fun t4 => ?_)
    refine gg_callVi (S := sX6_loose) (S' := sX3_layLooselyOn) (cs := 0) (sl := 0) (As := [vr t4]) (st := []) 32 rfl (fun b7 => lkX3_layLooselyOn b7 t4) mwX3_layLooselyOn rfl mlX6_214 dX6_loose_29 cfX3 ⟨by decide, by decide⟩ 0 0 ⟨rfl, rfl⟩ ⟨by decide, by decide⟩ (Nat.le_of_ble_eq_true rfl) (fun t5 => ?_)
    refine gg_istore_n (S := sX6_loose) (L' := [(3, vi t5), (2, vr t1), (0, vr (some x0)), (1, vi x1)]) 33 rfl dX6_loose_32 rfl (by decide) rfl ?_
    refine gg_iload_n (S := sX6_loose) 0 34 rfl dX6_loose_33 rfl rfl ?_
    refine gg_iconst (S := sX6_loose) 35 rfl dX6_loose_34 ?_
    refine gg_ic_ne (S := sX6_loose) (tgt := 41) 38 rfl dX6_loose_35 (by decide) ?_ ?_
    · refine gg_bipush (S := sX6_loose) 40 rfl dX6_loose_38 (by decide) ?_
      exact gg_pure (gg_iret (S := sX6_loose) rfl dX6_loose_40 (by decide) (by decide))
    · refine gg_aload_n (S := sX6_loose) 2 42 rfl dX6_loose_41 rfl rfl ?_
      refine gg_callVi (S := sX6_loose) (S' := sX6_takeTrialToDesk) (cs := 0) (sl := 0) (As := []) (st := []) 45 rfl (fun b6 => lkX6_takeTrialToDesk b6) mwX6_takeTrialToDesk rfl mlX6_211 dX6_loose_42 cfX6 ⟨by decide, by decide⟩ 0 0 ⟨rfl, rfl⟩ ⟨by decide, by decide⟩ (Nat.le_of_ble_eq_true rfl) (fun t6 => ?_)
      refine gg_bipush (S := sX6_loose) 47 rfl dX6_loose_45 (by decide) ?_
      refine gg_ic_ne (S := sX6_loose) (tgt := 55) 50 rfl dX6_loose_47 (by decide) ?_ ?_
      · refine gg_bipush (S := sX6_loose) 52 rfl dX6_loose_50 (by decide) ?_
        refine gg_goto (S := sX6_loose) (tgt := 56) dX6_loose_52 (by decide) ?_
        exact gg_pure (gg_iret (S := sX6_loose) rfl dX6_loose_56 (by decide) (by decide))
      · refine gg_iload_n (S := sX6_loose) 0 56 rfl dX6_loose_55 rfl rfl ?_
        exact gg_pure (gg_iret (S := sX6_loose) rfl dX6_loose_56 (by decide) (by decide))

set_option maxRecDepth 100000 in
set_option maxHeartbeats 4000000 in
theorem lkX6_of (x0 : Nat) (x1 : Int) (x2 : Int) : LK yX6_of sX6_of [vr (some x0), vi x1, vi x2] en_i (X6_of x0 x1 x2) := by
  refine lk_go (L := [(0, vr (some x0)), (1, vi x1), (2, vi x2)]) (by decide +kernel) rfl (fun h => by cases h) (Nat.le_of_ble_eq_true rfl) rfl ?_
  intro K
  unfold X6_of
  refine gg_aload_n (S := sX6_of) 0 1 rfl dX6_of_0 rfl rfl ?_
  refine gg_iload_n (S := sX6_of) 1 2 rfl dX6_of_1 rfl rfl ?_
  refine gg_callVr (S := sX6_of) (S' := sX6_patchOrNull) (cs := 0) (sl := 0) (As := [vi x1]) (st := []) 5 rfl (fun b3 => lkX6_patchOrNull b3 x1) mwX6_patchOrNull rfl mlX6_159 dX6_of_2 cfX6 ⟨by decide, by decide⟩ 0 0 ⟨rfl, rfl⟩ ⟨by decide, by decide⟩ (Nat.le_of_ble_eq_true rfl) (fun t1 => ?_)
  refine gg_astore_n (S := sX6_of) (L' := [(3, vr t1), (0, vr (some x0)), (1, vi x1), (2, vi x2)]) 6 rfl dX6_of_5 rfl (by decide) rfl ?_
  refine gg_aload_n (S := sX6_of) 0 7 rfl dX6_of_6 rfl rfl ?_
  refine gg_ifnonnull (S := sX6_of) (tgt := 13) 10 rfl dX6_of_7 (by decide) ?_ ?_
  · refine gg_bipush (S := sX6_of) 12 rfl dX6_of_10 (by decide) ?_
    exact gg_pure (gg_iret (S := sX6_of) rfl dX6_of_12 (by decide) (by decide))
  · refine gg_iload_n (S := sX6_of) 3 14 rfl dX6_of_13 rfl rfl ?_
    refine gg_if_lt (S := sX6_of) (tgt := 22) 17 rfl dX6_of_14 (by decide) ?_ ?_
    · refine gg_bipush (S := sX6_of) 24 rfl dX6_of_22 (by decide) ?_
      refine gg_goto (S := sX6_of) (tgt := 32) dX6_of_24 (by decide) ?_
      exact gg_pure (gg_iret (S := sX6_of) rfl dX6_of_32 (by decide) (by decide))
    · refine gg_iload_n (S := sX6_of) 3 18 rfl dX6_of_17 rfl rfl ?_
      refine gg_iconst (S := sX6_of) 19 rfl dX6_of_18 ?_
      refine gg_ic_le (S := sX6_of) (tgt := 27) 22 rfl dX6_of_19 (by decide) ?_ ?_
      · refine gg_aload_n (S := sX6_of) 0 28 rfl dX6_of_27 rfl rfl ?_
        refine gg_iload_n (S := sX6_of) 3 29 rfl dX6_of_28 rfl rfl ?_
        refine gg_callSi (S := sX6_of) (S' := sX6_tellPatch) (cs := 0) (sl := 0) (As := [vr t1, vi x2]) (st := []) 32 rfl (lkX6_tellPatch t1 x2) mwX6_tellPatch rfl mlX6_137 dX6_of_29 ⟨by decide, by decide⟩ 0 0 ⟨rfl, rfl⟩ ⟨by decide, by decide⟩ (Nat.le_of_ble_eq_true rfl) (fun t2 => ?_)
        exact gg_pure (gg_iret (S := sX6_of) rfl dX6_of_32 (by decide) (by decide))
      · refine gg_bipush (S := sX6_of) 24 rfl dX6_of_22 (by decide) ?_
        refine gg_goto (S := sX6_of) (tgt := 32) dX6_of_24 (by decide) ?_
        exact gg_pure (gg_iret (S := sX6_of) rfl dX6_of_32 (by decide) (by decide))

set_option maxRecDepth 100000 in
set_option maxHeartbeats 4000000 in
theorem lkX6_patch (x0 : Nat) (x1 : Int) (x2 : Int) : LK yX6_patch sX6_patch [vr (some x0), vi x1, vi x2] en_i (X6_patch x0 x1 x2) := by
  refine lk_go (L := [(0, vr (some x0)), (1, vi x1), (2, vi x2)]) (by decide +kernel) rfl (fun h => by cases h) (Nat.le_of_ble_eq_true rfl) rfl ?_
  intro K
  unfold X6_patch
  refine gg_aload_n (S := sX6_patch) 0 1 rfl dX6_patch_0 rfl rfl ?_
  refine gg_iload_n (S := sX6_patch) 1 2 rfl dX6_patch_1 rfl rfl ?_
  refine gg_callVr (S := sX6_patch) (S' := sX6_versionOrNull) (cs := 0) (sl := 0) (As := [vi x1]) (st := []) 5 rfl (fun b10 => lkX6_versionOrNull b10 x1) mwX6_versionOrNull rfl mlX6_92 dX6_patch_2 cfX6 ⟨by decide, by decide⟩ 0 0 ⟨rfl, rfl⟩ ⟨by decide, by decide⟩ (Nat.le_of_ble_eq_true rfl) (fun t1 => ?_)
  refine gg_astore_n (S := sX6_patch) (L' := [(3, vr t1), (0, vr (some x0)), (1, vi x1), (2, vi x2)]) 6 rfl dX6_patch_5 rfl (by decide) rfl ?_
  refine gg_aload_n (S := sX6_patch) 1 7 rfl dX6_patch_6 rfl rfl ?_
  refine gg_iload_n (S := sX6_patch) 3 8 rfl dX6_patch_7 rfl rfl ?_
  refine gg_callVr (S := sX6_patch) (S' := sX6_versionOrNull) (cs := 0) (sl := 0) (As := [vi x2]) (st := []) 11 rfl (fun b9 => lkX6_versionOrNull b9 x2) mwX6_versionOrNull rfl mlX6_92 dX6_patch_8 cfX6 ⟨by decide, by decide⟩ 0 0 ⟨rfl, rfl⟩ ⟨by decide, by decide⟩ (Nat.le_of_ble_eq_true rfl) (fun t2 => ?_)
  refine gg_astore (S := sX6_patch) (L' := [(4, vr t2), (3, vr t1), (0, vr (some x0)), (1, vi x1), (2, vi x2)]) 13 rfl dX6_patch_11 (by decide) rfl ?_
  refine gg_aload_n (S := sX6_patch) 1 14 rfl dX6_patch_13 rfl rfl ?_
  refine gg_ifnull (S := sX6_patch) (tgt := 22) 17 rfl dX6_patch_14 (by decide) ?_ ?_
  · refine gg_bipush (S := sX6_patch) 24 rfl dX6_patch_22 (by decide) ?_
    exact gg_pure (gg_iret (S := sX6_patch) rfl dX6_patch_24 (by decide) (by decide))
  · refine gg_aload (S := sX6_patch) 0 19 rfl dX6_patch_17 rfl ?_
    refine gg_ifnonnull (S := sX6_patch) (tgt := 25) 22 rfl dX6_patch_19 (by decide) ?_ ?_
    · refine gg_bipush (S := sX6_patch) 24 rfl dX6_patch_22 (by decide) ?_
      exact gg_pure (gg_iret (S := sX6_patch) rfl dX6_patch_24 (by decide) (by decide))
    · refine gg_aload_n (S := sX6_patch) 2 26 rfl dX6_patch_25 rfl rfl ?_
      refine gg_iconst (S := sX6_patch) 27 rfl dX6_patch_26 ?_
      refine gg_callVi (S := sX6_patch) (S' := sX6_hasRoomForPatches) (cs := 0) (sl := 0) (As := [vi 1]) (st := []) 30 rfl (fun b8 => lkX6_hasRoomForPatches b8 1) mwX6_hasRoomForPatches rfl mlX6_148 dX6_patch_27 cfX6 ⟨by decide, by decide⟩ 0 0 ⟨rfl, rfl⟩ ⟨by decide, by decide⟩ (Nat.le_of_ble_eq_true rfl) (fun t3 => ?_)
      refine gg_if_ne (S := sX6_patch) (tgt := 36) 33 rfl dX6_patch_30 (by decide) ?_ ?_
      · refine gg_bipush (S := sX6_patch) 35 rfl dX6_patch_33 (by decide) ?_
        exact gg_pure (gg_iret (S := sX6_patch) rfl dX6_patch_35 (by decide) (by decide))
      · refine gg_callSr (S := sX6_patch) (S' := sX6_newPatch) (cs := 0) (sl := 0) (As := []) (st := []) 39 rfl (lkX6_newPatch) mwX6_newPatch rfl mlX6_151 dX6_patch_36 ⟨by decide, by decide⟩ 6 326 ⟨rfl, rfl⟩ ⟨by decide, by decide⟩ (Nat.le_of_ble_eq_true rfl) (fun t4 => ?_)
        refine gg_astore (S := sX6_patch) (L' := [(5, vr t4), (4, vr t2), (3, vr t1), (0, vr (some x0)), (1, vi x1), (2, vi x2)]) 41 rfl dX6_patch_39 (by decide) rfl ?_
        refine gg_aload_n (S := sX6_patch) 3 42 rfl dX6_patch_41 rfl rfl ?_
        refine gg_aload_n (S := sX6_patch) 2 43 rfl dX6_patch_42 rfl rfl ?_
        refine gg_aload (S := sX6_patch) 1 45 rfl dX6_patch_43 rfl ?_
        refine gg_aload (S := sX6_patch) 0 47 rfl dX6_patch_45 rfl ?_
        refine gg_callVv (S := sX6_patch) (S' := sX6_writeDifference) (cs := 6) (sl := 326) (As := [vr t1, vr t2, vr t4]) (st := []) 50 rfl (fun b6 => lkX6_writeDifference b6 t1 t2 t4) mwX6_writeDifference rfl mlX6_130 dX6_patch_47 cfX6 ⟨by decide, by decide⟩ 6 326 ⟨rfl, rfl⟩ ⟨by decide, by decide⟩ (Nat.le_of_ble_eq_true rfl) (fun _ => ?_)
        refine gg_aload_n (S := sX6_patch) 3 51 rfl dX6_patch_50 rfl rfl ?_
        refine gg_aload (S := sX6_patch) 0 53 rfl dX6_patch_51 rfl ?_
        refine gg_callVi (S := sX6_patch) (S' := sX6_addPatch) (cs := 6) (sl := 326) (As := [vr t4]) (st := []) 56 rfl (fun b5 => lkX6_addPatch b5 t4) mwX6_addPatch rfl mlX6_155 dX6_patch_53 cfX6 ⟨by decide, by decide⟩ 6 326 ⟨rfl, rfl⟩ ⟨by decide, by decide⟩ (Nat.le_of_ble_eq_true rfl) (fun t5 => ?_)
        exact gg_pure (gg_iret (S := sX6_patch) rfl dX6_patch_56 (by decide) (by decide))

set_option maxRecDepth 100000 in
set_option maxHeartbeats 4000000 in
theorem lkX6_saved (x0 : Nat) (x1 : Int) (x2 : Int) (x3 : Int) (x4 : Int) : LK yX6_saved sX6_saved [vr (some x0), vi x1, vi x2, vi x3, vi x4] en_i (X6_saved x0 x1 x2 x3 x4) := by
  refine lk_go (L := [(0, vr (some x0)), (1, vi x1), (2, vi x2), (3, vi x3), (4, vi x4)]) (by decide +kernel) rfl (fun h => by cases h) (Nat.le_of_ble_eq_true rfl) rfl ?_
  intro K
  unfold X6_saved
  refine gg_aload_n (S := sX6_saved) 0 1 rfl dX6_saved_0 rfl rfl ?_
  refine gg_iload_n (S := sX6_saved) 1 2 rfl dX6_saved_1 rfl rfl ?_
  refine gg_iload_n (S := sX6_saved) 2 3 rfl dX6_saved_2 rfl rfl ?_
  refine gg_callVi (S := sX6_saved) (S' := sX6_isStore) (cs := 0) (sl := 0) (As := [vi x1, vi x2]) (st := []) 6 rfl (fun b9 => lkX6_isStore b9 x1 x2) mwX6_isStore rfl mlX6_253 dX6_saved_3 cfX6 ⟨by decide, by decide⟩ 0 0 ⟨rfl, rfl⟩ ⟨by decide, by decide⟩ (Nat.le_of_ble_eq_true rfl) (fun t1 => ?_)
  refine gg_cond [] [(0, vr (some x0)), (1, vi x1), (2, vi x2), (3, vi x3), (4, vi x4)] [] 30 33 0 0 (fun κ6 hT6 hF6 => ?_) ?_ ?_
  · refine gg_if_eq (S := sX6_saved) (tgt := 30) 9 rfl dX6_saved_6 (by decide) ?_ ?_
    · exact gg_pure (gg_sub [] rfl hT6)
    · refine gg_iload_n (S := sX6_saved) 3 10 rfl dX6_saved_9 rfl rfl ?_
      refine gg_if_lt (S := sX6_saved) (tgt := 30) 13 rfl dX6_saved_10 (by decide) ?_ ?_
      · exact gg_pure (gg_sub [] rfl hT6)
      · refine gg_iload_n (S := sX6_saved) 3 14 rfl dX6_saved_13 rfl rfl ?_
        refine gg_bipush (S := sX6_saved) 16 rfl dX6_saved_14 (by decide) ?_
        refine gg_ic_gt (S := sX6_saved) (tgt := 30) 19 rfl dX6_saved_16 (by decide) ?_ ?_
        · refine gg_iload (S := sX6_saved) 4 21 rfl dX6_saved_19 rfl ?_
          refine gg_if_lt (S := sX6_saved) (tgt := 30) 24 rfl dX6_saved_21 (by decide) ?_ ?_
          · exact gg_pure (gg_sub [] rfl hT6)
          · refine gg_iload (S := sX6_saved) 4 26 rfl dX6_saved_24 rfl ?_
            refine gg_iconst (S := sX6_saved) 27 rfl dX6_saved_26 ?_
            refine gg_ic_le (S := sX6_saved) (tgt := 33) 30 rfl dX6_saved_27 (by decide) ?_ ?_
            · exact gg_pure (gg_sub [0, 1, 2, 3, 4] rfl hF6)
            · exact gg_pure (gg_sub [] rfl hT6)
        · exact gg_pure (gg_sub [] rfl hT6)
  · refine gg_bipush (S := sX6_saved) 32 rfl dX6_saved_30 (by decide) ?_
    exact gg_pure (gg_iret (S := sX6_saved) rfl dX6_saved_32 (by decide) (by decide))
  · refine gg_aload_n (S := sX6_saved) 0 34 rfl dX6_saved_33 rfl rfl ?_
    refine gg_gi (S := sX6_saved) cfX6 (by decide) (fun _ _ => rfl) 37 rfl flX6_257 dX6_saved_34 (fun t2 => ?_)
    refine gg_bipush (S := sX6_saved) 39 rfl dX6_saved_37 (by decide) ?_
    refine gg_ic_lt (S := sX6_saved) (tgt := 45) 42 rfl dX6_saved_39 (by decide) ?_ ?_
    · refine gg_aload_n (S := sX6_saved) 0 46 rfl dX6_saved_45 rfl rfl ?_
      refine gg_iload_n (S := sX6_saved) 1 47 rfl dX6_saved_46 rfl rfl ?_
      refine gg_iload_n (S := sX6_saved) 2 48 rfl dX6_saved_47 rfl rfl ?_
      refine gg_callVv (S := sX6_saved) (S' := sX6_findStore) (cs := 0) (sl := 0) (As := [vi x1, vi x2]) (st := []) 51 rfl (fun b8 => lkX6_findStore b8 x1 x2) mwX6_findStore rfl mlX6_260 dX6_saved_48 cfX6 ⟨by decide, by decide⟩ 0 0 ⟨rfl, rfl⟩ ⟨by decide, by decide⟩ (Nat.le_of_ble_eq_true rfl) (fun _ => ?_)
      refine gg_aload_n (S := sX6_saved) 0 52 rfl dX6_saved_51 rfl rfl ?_
      refine gg_gr (S := sX6_saved) cfX6 (by decide) (fun _ _ => rfl) 55 rfl flX6_67 dX6_saved_52 (fun t3 => ?_)
      refine gg_iload_n (S := sX6_saved) 3 56 rfl dX6_saved_55 rfl rfl ?_
      refine gg_callVi (S := sX6_saved) (S' := sX2_bestCopy) (cs := 0) (sl := 0) (As := [vi x3]) (st := []) 59 rfl (fun b7 => lkX2_bestCopy b7 x3) mwX2_bestCopy rfl mlX6_281 dX6_saved_56 cfX2 ⟨by decide, by decide⟩ 0 0 ⟨rfl, rfl⟩ ⟨by decide, by decide⟩ (Nat.le_of_ble_eq_true rfl) (fun t4 => ?_)
      refine gg_istore (S := sX6_saved) (L' := [(5, vi t4), (0, vr (some x0)), (1, vi x1), (2, vi x2), (3, vi x3), (4, vi x4)]) 61 rfl dX6_saved_59 (by decide) rfl ?_
      refine gg_iload (S := sX6_saved) 5 63 rfl dX6_saved_61 rfl ?_
      refine gg_if_eq (S := sX6_saved) (tgt := 72) 66 rfl dX6_saved_63 (by decide) ?_ ?_
      · refine gg_iload (S := sX6_saved) 0 74 rfl dX6_saved_72 rfl ?_
        refine gg_goto (S := sX6_saved) (tgt := 86) dX6_saved_74 (by decide) ?_
        exact gg_pure (gg_iret (S := sX6_saved) rfl dX6_saved_86 (by decide) (by decide))
      · refine gg_iload (S := sX6_saved) 0 68 rfl dX6_saved_66 rfl ?_
        refine gg_iconst (S := sX6_saved) 69 rfl dX6_saved_68 ?_
        refine gg_ic_ne (S := sX6_saved) (tgt := 77) 72 rfl dX6_saved_69 (by decide) ?_ ?_
        · refine gg_iload (S := sX6_saved) 0 74 rfl dX6_saved_72 rfl ?_
          refine gg_goto (S := sX6_saved) (tgt := 86) dX6_saved_74 (by decide) ?_
          exact gg_pure (gg_iret (S := sX6_saved) rfl dX6_saved_86 (by decide) (by decide))
        · refine gg_aload_n (S := sX6_saved) 1 78 rfl dX6_saved_77 rfl rfl ?_
          refine gg_gr (S := sX6_saved) cfX6 (by decide) (fun _ _ => rfl) 81 rfl flX6_67 dX6_saved_78 (fun t5 => ?_)
          refine gg_iload (S := sX6_saved) 0 83 rfl dX6_saved_81 rfl ?_
          refine gg_callVi (S := sX6_saved) (S' := sX2_worstLossBut) (cs := 0) (sl := 0) (As := [vi t4]) (st := []) 86 rfl (fun b6 => lkX2_worstLossBut b6 t4) mwX2_worstLossBut rfl mlX6_284 dX6_saved_83 cfX2 ⟨by decide, by decide⟩ 0 0 ⟨rfl, rfl⟩ ⟨by decide, by decide⟩ (Nat.le_of_ble_eq_true rfl) (fun t6 => ?_)
          exact gg_pure (gg_iret (S := sX6_saved) rfl dX6_saved_86 (by decide) (by decide))
    · refine gg_bipush (S := sX6_saved) 44 rfl dX6_saved_42 (by decide) ?_
      exact gg_pure (gg_iret (S := sX6_saved) rfl dX6_saved_44 (by decide) (by decide))

set_option maxRecDepth 100000 in
set_option maxHeartbeats 4000000 in
theorem lkX6_share (x0 : Nat) (x1 : Int) (x2 : Int) : LK yX6_share sX6_share [vr (some x0), vi x1, vi x2] en_i (X6_share x0 x1 x2) := by
  refine lk_go (L := [(0, vr (some x0)), (1, vi x1), (2, vi x2)]) (by decide +kernel) rfl (fun h => by cases h) (Nat.le_of_ble_eq_true rfl) rfl ?_
  intro K
  unfold X6_share
  refine gg_aload_n (S := sX6_share) 0 1 rfl dX6_share_0 rfl rfl ?_
  refine gg_iload_n (S := sX6_share) 1 2 rfl dX6_share_1 rfl rfl ?_
  refine gg_callVr (S := sX6_share) (S' := sX6_versionOrNull) (cs := 0) (sl := 0) (As := [vi x1]) (st := []) 5 rfl (fun b12 => lkX6_versionOrNull b12 x1) mwX6_versionOrNull rfl mlX6_92 dX6_share_2 cfX6 ⟨by decide, by decide⟩ 0 0 ⟨rfl, rfl⟩ ⟨by decide, by decide⟩ (Nat.le_of_ble_eq_true rfl) (fun t1 => ?_)
  refine gg_astore_n (S := sX6_share) (L' := [(3, vr t1), (0, vr (some x0)), (1, vi x1), (2, vi x2)]) 6 rfl dX6_share_5 rfl (by decide) rfl ?_
  refine gg_aload_n (S := sX6_share) 0 7 rfl dX6_share_6 rfl rfl ?_
  refine gg_ifnull (S := sX6_share) (tgt := 18) 10 rfl dX6_share_7 (by decide) ?_ ?_
  · refine gg_bipush (S := sX6_share) 20 rfl dX6_share_18 (by decide) ?_
    exact gg_pure (gg_iret (S := sX6_share) rfl dX6_share_20 (by decide) (by decide))
  · refine gg_aload_n (S := sX6_share) 1 11 rfl dX6_share_10 rfl rfl ?_
    refine gg_iload_n (S := sX6_share) 3 12 rfl dX6_share_11 rfl rfl ?_
    refine gg_callVr (S := sX6_share) (S' := sX6_versionOrNull) (cs := 0) (sl := 0) (As := [vi x2]) (st := []) 15 rfl (fun b11 => lkX6_versionOrNull b11 x2) mwX6_versionOrNull rfl mlX6_92 dX6_share_12 cfX6 ⟨by decide, by decide⟩ 0 0 ⟨rfl, rfl⟩ ⟨by decide, by decide⟩ (Nat.le_of_ble_eq_true rfl) (fun t2 => ?_)
    refine gg_ifnonnull (S := sX6_share) (tgt := 21) 18 rfl dX6_share_15 (by decide) ?_ ?_
    · refine gg_bipush (S := sX6_share) 20 rfl dX6_share_18 (by decide) ?_
      exact gg_pure (gg_iret (S := sX6_share) rfl dX6_share_20 (by decide) (by decide))
    · refine gg_iconst (S := sX6_share) 22 rfl dX6_share_21 ?_
      refine gg_istore (S := sX6_share) (L' := [(4, vi 0), (3, vr t1), (0, vr (some x0)), (1, vi x1), (2, vi x2)]) 24 rfl dX6_share_22 (by decide) rfl ?_
      refine gg_iconst (S := sX6_share) 25 rfl dX6_share_24 ?_
      refine gg_istore (S := sX6_share) (L' := [(5, vi 0), (4, vi 0), (3, vr t1), (0, vr (some x0)), (1, vi x1), (2, vi x2)]) 27 rfl dX6_share_25 (by decide) rfl ?_
      refine gg_sub [5, 2, 1, 0] rfl ?_
      refine gg_loopA (fun (y3, y4) => [(2, vi x2), (3, vr t1), (4, vi y3), (5, vi y4)]) (fun t11 => [(4, vi t11)]) 58 mo_N ?_ ?_ (0, 0)
      · intro κ27 hr27 he27
        rintro ⟨y3, y4⟩
        dsimp only [X6_share_L27]
        refine gg_iload (S := sX6_share) 3 29 rfl dX6_share_27 rfl ?_
        refine gg_aload_n (S := sX6_share) 1 30 rfl dX6_share_29 rfl rfl ?_
        refine gg_grN (S := sX6_share) cfX5 (by decide) (fun _ _ => rfl) 33 rfl flX6_96 dX6_share_30 (fun t5 => ?_)
        refine gg_callVi (S := sX6_share) (S' := sX4_size) (cs := 0) (sl := 0) (As := []) (st := [vi y4]) 36 rfl (fun b9 => lkX4_size b9) mwX4_size rfl mlX6_71 dX6_share_33 cfX4 ⟨by decide, by decide⟩ 0 0 ⟨rfl, rfl⟩ ⟨by decide, by decide⟩ (Nat.le_of_ble_eq_true rfl) (fun t6 => ?_)
        refine gg_ic_ge (S := sX6_share) (tgt := 58) 39 rfl dX6_share_36 (by decide) ?_ ?_
        · refine gg_aload_n (S := sX6_share) 1 40 rfl dX6_share_39 rfl rfl ?_
          refine gg_iload (S := sX6_share) 3 42 rfl dX6_share_40 rfl ?_
          refine gg_callVi (S := sX6_share) (S' := sX5_bringerOf) (cs := 0) (sl := 0) (As := [vi y4]) (st := []) 45 rfl (fun b8 => lkX5_bringerOf b8 y4) mwX5_bringerOf rfl mlX6_250 dX6_share_42 cfX5 ⟨by decide, by decide⟩ 0 0 ⟨rfl, rfl⟩ ⟨by decide, by decide⟩ (Nat.le_of_ble_eq_true rfl) (fun t7 => ?_)
          refine gg_iload_n (S := sX6_share) 0 46 rfl dX6_share_45 rfl rfl ?_
          refine gg_join (fun t8 => [(2, vi x2), (3, vr t1), (4, vi t8), (5, vi y4)]) (fun t8 => []) 52 0 0 (fun κ46 hJ46 => ?_) ?_
          · refine gg_ic_ne (S := sX6_share) (tgt := 52) 49 rfl dX6_share_46 (by decide) ?_ ?_
            · refine gg_iinc (S := sX6_share) (L' := [(4, vi (y3 + 1)), (2, vi x2), (3, vr t1), (5, vi y4)]) 2 52 rfl dX6_share_49 rfl (by decide) rfl ?_
              exact gg_pure (gg_sub [1, 2, 0, 3] rfl (hJ46 (y3 + 1)))
            · exact gg_pure (gg_sub [0, 1, 2, 3] rfl (hJ46 y3))
          · intro t8
            refine gg_iinc (S := sX6_share) (L' := [(5, vi (y4 + 1)), (2, vi x2), (3, vr t1), (4, vi t8)]) 3 55 rfl dX6_share_52 rfl (by decide) rfl ?_
            refine gg_goto (S := sX6_share) (tgt := 27) dX6_share_55 (by decide) ?_
            exact gg_pure (gg_sub [1, 2, 3, 0] rfl (hr27 (t8, (y4 + 1))))
        · exact gg_pure (gg_sub [2] rfl (he27 y3))
      · intro t11
        refine gg_iload (S := sX6_share) 0 60 rfl dX6_share_58 rfl ?_
        exact gg_pure (gg_iret (S := sX6_share) rfl dX6_share_60 (by decide) (by decide))

set_option maxRecDepth 100000 in
set_option maxHeartbeats 4000000 in
theorem lkX6_store (x0 : Nat) (x1 : Int) (x2 : Int) (x3 : Int) : LK yX6_store sX6_store [vr (some x0), vi x1, vi x2, vi x3] en_i (X6_store x0 x1 x2 x3) := by
  refine lk_go (L := [(0, vr (some x0)), (1, vi x1), (2, vi x2), (3, vi x3)]) (by decide +kernel) rfl (fun h => by cases h) (Nat.le_of_ble_eq_true rfl) rfl ?_
  intro K
  unfold X6_store
  refine gg_iload_n (S := sX6_store) 3 1 rfl dX6_store_0 rfl rfl ?_
  refine gg_bipush (S := sX6_store) 3 rfl dX6_store_1 (by decide) ?_
  refine gg_join (fun t1 => [(0, vr (some x0)), (1, vi x1), (2, vi x2), (3, vi x3)]) (fun t1 => [vi t1]) 17 0 0 (fun κ3 hJ3 => ?_) ?_
  · refine gg_ic_lt (S := sX6_store) (tgt := 16) 6 rfl dX6_store_3 (by decide) ?_ ?_
    · refine gg_iconst (S := sX6_store) 17 rfl dX6_store_16 ?_
      exact gg_pure (gg_sub [0, 1, 2, 3] rfl (hJ3 0))
    · refine gg_iload_n (S := sX6_store) 3 7 rfl dX6_store_6 rfl rfl ?_
      refine gg_bipush (S := sX6_store) 9 rfl dX6_store_7 (by decide) ?_
      refine gg_ic_ge (S := sX6_store) (tgt := 16) 12 rfl dX6_store_9 (by decide) ?_ ?_
      · refine gg_iconst (S := sX6_store) 13 rfl dX6_store_12 ?_
        refine gg_goto (S := sX6_store) (tgt := 17) dX6_store_13 (by decide) ?_
        exact gg_pure (gg_sub [0, 1, 2, 3] rfl (hJ3 1))
      · refine gg_iconst (S := sX6_store) 17 rfl dX6_store_16 ?_
        exact gg_pure (gg_sub [0, 1, 2, 3] rfl (hJ3 0))
  · intro t1
    refine gg_istore (S := sX6_store) (L' := [(4, vi t1), (0, vr (some x0)), (1, vi x1), (2, vi x2), (3, vi x3)]) 19 rfl dX6_store_17 (by decide) rfl ?_
    refine gg_iload_n (S := sX6_store) 4 20 rfl dX6_store_19 rfl rfl ?_
    refine gg_bipush (S := sX6_store) 22 rfl dX6_store_20 (by decide) ?_
    refine gg_join (fun t2 => [(0, vr (some x0)), (1, vi x1), (2, vi x2), (3, vi x3), (4, vi t1)]) (fun t2 => [vi t2]) 36 0 0 (fun κ22 hJ22 => ?_) ?_
    · refine gg_ic_lt (S := sX6_store) (tgt := 35) 25 rfl dX6_store_22 (by decide) ?_ ?_
      · refine gg_iconst (S := sX6_store) 36 rfl dX6_store_35 ?_
        exact gg_pure (gg_sub [1, 2, 3, 4, 0] rfl (hJ22 0))
      · refine gg_iload_n (S := sX6_store) 4 26 rfl dX6_store_25 rfl rfl ?_
        refine gg_bipush (S := sX6_store) 28 rfl dX6_store_26 (by decide) ?_
        refine gg_ic_ge (S := sX6_store) (tgt := 35) 31 rfl dX6_store_28 (by decide) ?_ ?_
        · refine gg_iconst (S := sX6_store) 32 rfl dX6_store_31 ?_
          refine gg_goto (S := sX6_store) (tgt := 36) dX6_store_32 (by decide) ?_
          exact gg_pure (gg_sub [1, 2, 3, 4, 0] rfl (hJ22 1))
        · refine gg_iconst (S := sX6_store) 36 rfl dX6_store_35 ?_
          exact gg_pure (gg_sub [1, 2, 3, 4, 0] rfl (hJ22 0))
    · intro t2
      refine gg_istore (S := sX6_store) (L' := [(5, vi t2), (0, vr (some x0)), (1, vi x1), (2, vi x2), (3, vi x3), (4, vi t1)]) 38 rfl dX6_store_36 (by decide) rfl ?_
      refine gg_aload_n (S := sX6_store) 1 39 rfl dX6_store_38 rfl rfl ?_
      refine gg_iload_n (S := sX6_store) 2 40 rfl dX6_store_39 rfl rfl ?_
      refine gg_iload_n (S := sX6_store) 3 41 rfl dX6_store_40 rfl rfl ?_
      refine gg_callVi (S := sX6_store) (S' := sX6_isStore) (cs := 0) (sl := 0) (As := [vi x1, vi x2]) (st := []) 44 rfl (fun b17 => lkX6_isStore b17 x1 x2) mwX6_isStore rfl mlX6_253 dX6_store_41 cfX6 ⟨by decide, by decide⟩ 0 0 ⟨rfl, rfl⟩ ⟨by decide, by decide⟩ (Nat.le_of_ble_eq_true rfl) (fun t3 => ?_)
      refine gg_if_eq (S := sX6_store) (tgt := 66) 47 rfl dX6_store_44 (by decide) ?_ ?_
      · refine gg_bipush (S := sX6_store) 68 rfl dX6_store_66 (by decide) ?_
        exact gg_pure (gg_iret (S := sX6_store) rfl dX6_store_68 (by decide) (by decide))
      · refine gg_iload_n (S := sX6_store) 4 48 rfl dX6_store_47 rfl rfl ?_
        refine gg_cond [] [(0, vr (some x0)), (1, vi x1), (2, vi x2), (3, vi x3), (4, vi t1), (5, vi t2)] [] 66 69 0 0 (fun κ48 hT48 hF48 => ?_) ?_ ?_
        · refine gg_if_eq (S := sX6_store) (tgt := 69) 51 rfl dX6_store_48 (by decide) ?_ ?_
          · exact gg_pure (gg_sub [1, 2, 3, 4, 5, 0] rfl hF48)
          · refine gg_iload_n (S := sX6_store) 4 52 rfl dX6_store_51 rfl rfl ?_
            refine gg_iconst (S := sX6_store) 53 rfl dX6_store_52 ?_
            refine gg_ic_eq (S := sX6_store) (tgt := 69) 56 rfl dX6_store_53 (by decide) ?_ ?_
            · exact gg_pure (gg_sub [1, 2, 3, 4, 5, 0] rfl hF48)
            · refine gg_iload (S := sX6_store) 5 58 rfl dX6_store_56 rfl ?_
              refine gg_if_ne (S := sX6_store) (tgt := 69) 61 rfl dX6_store_58 (by decide) ?_ ?_
              · refine gg_iload (S := sX6_store) 0 63 rfl dX6_store_61 rfl ?_
                refine gg_if_ne (S := sX6_store) (tgt := 69) 66 rfl dX6_store_63 (by decide) ?_ ?_
                · exact gg_pure (gg_sub [] rfl hT48)
                · exact gg_pure (gg_sub [1, 2, 3, 4, 5, 0] rfl hF48)
              · exact gg_pure (gg_sub [1, 2, 3, 4, 5, 0] rfl hF48)
        · refine gg_bipush (S := sX6_store) 68 rfl dX6_store_66 (by decide) ?_
          exact gg_pure (gg_iret (S := sX6_store) rfl dX6_store_68 (by decide) (by decide))
        · refine gg_aload_n (S := sX6_store) 0 70 rfl dX6_store_69 rfl rfl ?_
          refine gg_gi (S := sX6_store) cfX6 (by decide) (fun _ _ => rfl) 73 rfl flX6_257 dX6_store_70 (fun t4 => ?_)
          refine gg_bipush (S := sX6_store) 75 rfl dX6_store_73 (by decide) ?_
          refine gg_ic_lt (S := sX6_store) (tgt := 81) 78 rfl dX6_store_75 (by decide) ?_ ?_
          · refine gg_aload_n (S := sX6_store) 0 82 rfl dX6_store_81 rfl rfl ?_
            refine gg_iload_n (S := sX6_store) 1 83 rfl dX6_store_82 rfl rfl ?_
            refine gg_iload_n (S := sX6_store) 2 84 rfl dX6_store_83 rfl rfl ?_
            refine gg_callVv (S := sX6_store) (S' := sX6_findStore) (cs := 0) (sl := 0) (As := [vi x1, vi x2]) (st := []) 87 rfl (fun b16 => lkX6_findStore b16 x1 x2) mwX6_findStore rfl mlX6_260 dX6_store_84 cfX6 ⟨by decide, by decide⟩ 0 0 ⟨rfl, rfl⟩ ⟨by decide, by decide⟩ (Nat.le_of_ble_eq_true rfl) (fun _ => ?_)
            refine gg_iload (S := sX6_store) 4 89 rfl dX6_store_87 rfl ?_
            refine gg_if_eq (S := sX6_store) (tgt := 104) 92 rfl dX6_store_89 (by decide) ?_ ?_
            · refine gg_iload (S := sX6_store) 5 106 rfl dX6_store_104 rfl ?_
              refine gg_if_eq (S := sX6_store) (tgt := 121) 109 rfl dX6_store_106 (by decide) ?_ ?_
              · refine gg_iload_n (S := sX6_store) 3 122 rfl dX6_store_121 rfl rfl ?_
                refine gg_if_ne (S := sX6_store) (tgt := 135) 125 rfl dX6_store_122 (by decide) ?_ ?_
                · refine gg_aload_n (S := sX6_store) 0 126 rfl dX6_store_125 rfl rfl ?_
                  refine gg_gr (S := sX6_store) cfX6 (by decide) (fun _ _ => rfl) 129 rfl flX6_67 dX6_store_126 (fun t8 => ?_)
                  refine gg_callVi (S := sX6_store) (S' := sX2_roomOrNone) (cs := 0) (sl := 0) (As := []) (st := []) 132 rfl (fun b9 => lkX2_roomOrNone b9) mwX2_roomOrNone rfl mlX6_269 dX6_store_129 cfX2 ⟨by decide, by decide⟩ 0 0 ⟨rfl, rfl⟩ ⟨by decide, by decide⟩ (Nat.le_of_ble_eq_true rfl) (fun t9 => ?_)
                  refine gg_goto (S := sX6_store) (tgt := 142) dX6_store_132 (by decide) ?_
                  exact gg_pure (gg_iret (S := sX6_store) rfl dX6_store_142 (by decide) (by decide))
                · refine gg_aload_n (S := sX6_store) 0 136 rfl dX6_store_135 rfl rfl ?_
                  refine gg_gr (S := sX6_store) cfX6 (by decide) (fun _ _ => rfl) 139 rfl flX6_67 dX6_store_136 (fun t5 => ?_)
                  refine gg_callVi (S := sX6_store) (S' := sX2_sumOrNone) (cs := 0) (sl := 0) (As := []) (st := []) 142 rfl (fun b6 => lkX2_sumOrNone b6) mwX2_sumOrNone rfl mlX6_272 dX6_store_139 cfX2 ⟨by decide, by decide⟩ 0 0 ⟨rfl, rfl⟩ ⟨by decide, by decide⟩ (Nat.le_of_ble_eq_true rfl) (fun t6 => ?_)
                  exact gg_pure (gg_iret (S := sX6_store) rfl dX6_store_142 (by decide) (by decide))
              · refine gg_aload_n (S := sX6_store) 0 110 rfl dX6_store_109 rfl rfl ?_
                refine gg_gr (S := sX6_store) cfX6 (by decide) (fun _ _ => rfl) 113 rfl flX6_67 dX6_store_110 (fun t11 => ?_)
                refine gg_iload_n (S := sX6_store) 3 114 rfl dX6_store_113 rfl rfl ?_
                refine gg_bipush (S := sX6_store) 116 rfl dX6_store_114 (by decide) ?_
                refine gg_isub (S := sX6_store) 117 rfl dX6_store_116 ?_
                refine gg_callVi (S := sX6_store) (S' := sX2_remadeFor) (cs := 0) (sl := 0) (As := [vi (x3 - 20)]) (st := []) 120 rfl (fun b12 => lkX2_remadeFor b12 (x3 - 20)) mwX2_remadeFor rfl mlX6_266 dX6_store_117 cfX2 ⟨by decide, by decide⟩ 0 0 ⟨rfl, rfl⟩ ⟨by decide, by decide⟩ (Nat.le_of_ble_eq_true rfl) (fun t12 => ?_)
                exact gg_pure (gg_iret (S := sX6_store) rfl dX6_store_120 (by decide) (by decide))
            · refine gg_aload_n (S := sX6_store) 0 93 rfl dX6_store_92 rfl rfl ?_
              refine gg_gr (S := sX6_store) cfX6 (by decide) (fun _ _ => rfl) 96 rfl flX6_67 dX6_store_93 (fun t14 => ?_)
              refine gg_iload_n (S := sX6_store) 3 97 rfl dX6_store_96 rfl rfl ?_
              refine gg_bipush (S := sX6_store) 99 rfl dX6_store_97 (by decide) ?_
              refine gg_isub (S := sX6_store) 100 rfl dX6_store_99 ?_
              refine gg_callVi (S := sX6_store) (S' := sX2_sourceOf) (cs := 0) (sl := 0) (As := [vi (x3 - 10)]) (st := []) 103 rfl (fun b15 => lkX2_sourceOf b15 (x3 - 10)) mwX2_sourceOf rfl mlX6_263 dX6_store_100 cfX2 ⟨by decide, by decide⟩ 0 0 ⟨rfl, rfl⟩ ⟨by decide, by decide⟩ (Nat.le_of_ble_eq_true rfl) (fun t15 => ?_)
              exact gg_pure (gg_iret (S := sX6_store) rfl dX6_store_103 (by decide) (by decide))
          · refine gg_bipush (S := sX6_store) 80 rfl dX6_store_78 (by decide) ?_
            exact gg_pure (gg_iret (S := sX6_store) rfl dX6_store_80 (by decide) (by decide))

set_option maxRecDepth 100000 in
set_option maxHeartbeats 4000000 in
theorem lkX6_swap (x0 : Nat) (x1 : Int) (x2 : Int) : LK yX6_swap sX6_swap [vr (some x0), vi x1, vi x2] en_i (X6_swap x0 x1 x2) := by
  refine lk_go (L := [(0, vr (some x0)), (1, vi x1), (2, vi x2)]) (by decide +kernel) rfl (fun h => by cases h) (Nat.le_of_ble_eq_true rfl) rfl ?_
  intro K
  unfold X6_swap
  refine gg_aload_n (S := sX6_swap) 0 1 rfl dX6_swap_0 rfl rfl ?_
  refine gg_iload_n (S := sX6_swap) 1 2 rfl dX6_swap_1 rfl rfl ?_
  refine gg_callVr (S := sX6_swap) (S' := sX6_patchOrNull) (cs := 0) (sl := 0) (As := [vi x1]) (st := []) 5 rfl (fun b20 => lkX6_patchOrNull b20 x1) mwX6_patchOrNull rfl mlX6_159 dX6_swap_2 cfX6 ⟨by decide, by decide⟩ 0 0 ⟨rfl, rfl⟩ ⟨by decide, by decide⟩ (Nat.le_of_ble_eq_true rfl) (fun t1 => ?_)
  refine gg_astore_n (S := sX6_swap) (L' := [(3, vr t1), (0, vr (some x0)), (1, vi x1), (2, vi x2)]) 6 rfl dX6_swap_5 rfl (by decide) rfl ?_
  refine gg_aload_n (S := sX6_swap) 1 7 rfl dX6_swap_6 rfl rfl ?_
  refine gg_iload_n (S := sX6_swap) 3 8 rfl dX6_swap_7 rfl rfl ?_
  refine gg_callVr (S := sX6_swap) (S' := sX6_patchOrNull) (cs := 0) (sl := 0) (As := [vi x2]) (st := []) 11 rfl (fun b19 => lkX6_patchOrNull b19 x2) mwX6_patchOrNull rfl mlX6_159 dX6_swap_8 cfX6 ⟨by decide, by decide⟩ 0 0 ⟨rfl, rfl⟩ ⟨by decide, by decide⟩ (Nat.le_of_ble_eq_true rfl) (fun t2 => ?_)
  refine gg_astore (S := sX6_swap) (L' := [(4, vr t2), (3, vr t1), (0, vr (some x0)), (1, vi x1), (2, vi x2)]) 13 rfl dX6_swap_11 (by decide) rfl ?_
  refine gg_aload_n (S := sX6_swap) 1 14 rfl dX6_swap_13 rfl rfl ?_
  refine gg_ifnull (S := sX6_swap) (tgt := 22) 17 rfl dX6_swap_14 (by decide) ?_ ?_
  · refine gg_bipush (S := sX6_swap) 24 rfl dX6_swap_22 (by decide) ?_
    exact gg_pure (gg_iret (S := sX6_swap) rfl dX6_swap_24 (by decide) (by decide))
  · refine gg_aload (S := sX6_swap) 0 19 rfl dX6_swap_17 rfl ?_
    refine gg_ifnonnull (S := sX6_swap) (tgt := 25) 22 rfl dX6_swap_19 (by decide) ?_ ?_
    · refine gg_bipush (S := sX6_swap) 24 rfl dX6_swap_22 (by decide) ?_
      exact gg_pure (gg_iret (S := sX6_swap) rfl dX6_swap_24 (by decide) (by decide))
    · refine gg_aload_n (S := sX6_swap) 2 26 rfl dX6_swap_25 rfl rfl ?_
      refine gg_gr (S := sX6_swap) cfX6 (by decide) (fun _ _ => rfl) 29 rfl flX6_60 dX6_swap_26 (fun t3 => ?_)
      refine gg_aload_n (S := sX6_swap) 1 30 rfl dX6_swap_29 rfl rfl ?_
      refine gg_aload (S := sX6_swap) 0 32 rfl dX6_swap_30 rfl ?_
      refine gg_callVi (S := sX6_swap) (S' := sX0_anyTouch) (cs := 0) (sl := 0) (As := [vr t1, vr t2]) (st := []) 35 rfl (fun b18 => lkX0_anyTouch b18 t1 t2) mwX0_anyTouch rfl mlX6_232 dX6_swap_32 cfX0 ⟨by decide, by decide⟩ 0 0 ⟨rfl, rfl⟩ ⟨by decide, by decide⟩ (Nat.le_of_ble_eq_true rfl) (fun t4 => ?_)
      refine gg_if_eq (S := sX6_swap) (tgt := 41) 38 rfl dX6_swap_35 (by decide) ?_ ?_
      · refine gg_aload_n (S := sX6_swap) 2 42 rfl dX6_swap_41 rfl rfl ?_
        refine gg_iconst (S := sX6_swap) 43 rfl dX6_swap_42 ?_
        refine gg_callVi (S := sX6_swap) (S' := sX6_hasRoomForPatches) (cs := 0) (sl := 0) (As := [vi 2]) (st := []) 46 rfl (fun b17 => lkX6_hasRoomForPatches b17 2) mwX6_hasRoomForPatches rfl mlX6_148 dX6_swap_43 cfX6 ⟨by decide, by decide⟩ 0 0 ⟨rfl, rfl⟩ ⟨by decide, by decide⟩ (Nat.le_of_ble_eq_true rfl) (fun t5 => ?_)
        refine gg_if_ne (S := sX6_swap) (tgt := 52) 49 rfl dX6_swap_46 (by decide) ?_ ?_
        · refine gg_bipush (S := sX6_swap) 51 rfl dX6_swap_49 (by decide) ?_
          exact gg_pure (gg_iret (S := sX6_swap) rfl dX6_swap_51 (by decide) (by decide))
        · refine gg_callSr (S := sX6_swap) (S' := sX6_newPatch) (cs := 0) (sl := 0) (As := []) (st := []) 55 rfl (lkX6_newPatch) mwX6_newPatch rfl mlX6_151 dX6_swap_52 ⟨by decide, by decide⟩ 6 326 ⟨rfl, rfl⟩ ⟨by decide, by decide⟩ (Nat.le_of_ble_eq_true rfl) (fun t6 => ?_)
          refine gg_astore (S := sX6_swap) (L' := [(5, vr t6), (4, vr t2), (3, vr t1), (0, vr (some x0)), (1, vi x1), (2, vi x2)]) 57 rfl dX6_swap_55 (by decide) rfl ?_
          refine gg_aload_n (S := sX6_swap) 3 58 rfl dX6_swap_57 rfl rfl ?_
          refine gg_gr (S := sX6_swap) cfX6 (by decide) (fun _ _ => rfl) 61 rfl flX6_60 dX6_swap_58 (fun t7 => ?_)
          refine gg_aload_n (S := sX6_swap) 2 62 rfl dX6_swap_61 rfl rfl ?_
          refine gg_aload (S := sX6_swap) 1 64 rfl dX6_swap_62 rfl ?_
          refine gg_aload (S := sX6_swap) 0 66 rfl dX6_swap_64 rfl ?_
          refine gg_callVv (S := sX6_swap) (S' := sX0_moveAhead) (cs := 6) (sl := 326) (As := [vr t1, vr t2, vr t6]) (st := []) 69 rfl (fun b15 => lkX0_moveAhead b15 t1 t2 t6) mwX0_moveAhead rfl mlX6_235 dX6_swap_66 cfX0 ⟨by decide, by decide⟩ 6 326 ⟨rfl, rfl⟩ ⟨by decide, by decide⟩ (Nat.le_of_ble_eq_true rfl) (fun _ => ?_)
          refine gg_callSr (S := sX6_swap) (S' := sX6_newPatch) (cs := 6) (sl := 326) (As := []) (st := []) 72 rfl (lkX6_newPatch) mwX6_newPatch rfl mlX6_151 dX6_swap_69 ⟨by decide, by decide⟩ 12 652 ⟨rfl, rfl⟩ ⟨by decide, by decide⟩ (Nat.le_of_ble_eq_true rfl) (fun t8 => ?_)
          refine gg_astore (S := sX6_swap) (L' := [(6, vr t8), (5, vr t6), (4, vr t2), (3, vr t1), (0, vr (some x0)), (1, vi x1), (2, vi x2)]) 74 rfl dX6_swap_72 (by decide) rfl ?_
          refine gg_aload_n (S := sX6_swap) 4 75 rfl dX6_swap_74 rfl rfl ?_
          refine gg_gr (S := sX6_swap) cfX6 (by decide) (fun _ _ => rfl) 78 rfl flX6_60 dX6_swap_75 (fun t9 => ?_)
          refine gg_aload_n (S := sX6_swap) 3 79 rfl dX6_swap_78 rfl rfl ?_
          refine gg_aload (S := sX6_swap) 2 81 rfl dX6_swap_79 rfl ?_
          refine gg_aload (S := sX6_swap) 0 83 rfl dX6_swap_81 rfl ?_
          refine gg_callVv (S := sX6_swap) (S' := sX0_moveBehind) (cs := 12) (sl := 652) (As := [vr t1, vr t2, vr t8]) (st := []) 86 rfl (fun b13 => lkX0_moveBehind b13 t1 t2 t8) mwX0_moveBehind rfl mlX6_238 dX6_swap_83 cfX0 ⟨by decide, by decide⟩ 12 652 ⟨rfl, rfl⟩ ⟨by decide, by decide⟩ (Nat.le_of_ble_eq_true rfl) (fun _ => ?_)
          refine gg_aload_n (S := sX6_swap) 4 87 rfl dX6_swap_86 rfl rfl ?_
          refine gg_aload (S := sX6_swap) 1 89 rfl dX6_swap_87 rfl ?_
          refine gg_callVi (S := sX6_swap) (S' := sX6_addPatch) (cs := 12) (sl := 652) (As := [vr t6]) (st := []) 92 rfl (fun b12 => lkX6_addPatch b12 t6) mwX6_addPatch rfl mlX6_155 dX6_swap_89 cfX6 ⟨by decide, by decide⟩ 12 652 ⟨rfl, rfl⟩ ⟨by decide, by decide⟩ (Nat.le_of_ble_eq_true rfl) (fun t10 => ?_)
          refine gg_istore (S := sX6_swap) (L' := [(7, vi t10), (6, vr t8), (5, vr t6), (4, vr t2), (3, vr t1), (0, vr (some x0)), (1, vi x1), (2, vi x2)]) 94 rfl dX6_swap_92 (by decide) rfl ?_
          refine gg_aload_n (S := sX6_swap) 5 95 rfl dX6_swap_94 rfl rfl ?_
          refine gg_aload (S := sX6_swap) 1 97 rfl dX6_swap_95 rfl ?_
          refine gg_callVi (S := sX6_swap) (S' := sX6_addPatch) (cs := 12) (sl := 652) (As := [vr t8]) (st := []) 100 rfl (fun b11 => lkX6_addPatch b11 t8) mwX6_addPatch rfl mlX6_155 dX6_swap_97 cfX6 ⟨by decide, by decide⟩ 12 652 ⟨rfl, rfl⟩ ⟨by decide, by decide⟩ (Nat.le_of_ble_eq_true rfl) (fun t11 => ?_)
          refine gg_pop (S := sX6_swap) 101 rfl dX6_swap_100 rfl ?_
          refine gg_iload (S := sX6_swap) 0 103 rfl dX6_swap_101 rfl ?_
          exact gg_pure (gg_iret (S := sX6_swap) rfl dX6_swap_103 (by decide) (by decide))
      · refine gg_bipush (S := sX6_swap) 40 rfl dX6_swap_38 (by decide) ?_
        exact gg_pure (gg_iret (S := sX6_swap) rfl dX6_swap_40 (by decide) (by decide))

set_option maxRecDepth 100000 in
set_option maxHeartbeats 4000000 in
theorem lkX6_take (x0 : Nat) (x1 : Int) : LK yX6_take sX6_take [vr (some x0), vi x1] en_i (X6_take x0 x1) := by
  refine lk_go (L := [(0, vr (some x0)), (1, vi x1)]) (by decide +kernel) rfl (fun h => by cases h) (Nat.le_of_ble_eq_true rfl) rfl ?_
  intro K
  unfold X6_take
  refine gg_iload_n (S := sX6_take) 1 1 rfl dX6_take_0 rfl rfl ?_
  refine gg_iconst (S := sX6_take) 2 rfl dX6_take_1 ?_
  refine gg_ic_ne (S := sX6_take) (tgt := 20) 5 rfl dX6_take_2 (by decide) ?_ ?_
  · refine gg_aload_n (S := sX6_take) 0 6 rfl dX6_take_5 rfl rfl ?_
    refine gg_gr (S := sX6_take) cfX6 (by decide) (fun _ _ => rfl) 9 rfl flX6_14 dX6_take_6 (fun t9 => ?_)
    refine gg_callVv (S := sX6_take) (S' := sX4_clear) (cs := 0) (sl := 0) (As := []) (st := []) 12 rfl (fun b12 => lkX4_clear b12) mwX4_clear rfl mlX6_89 dX6_take_9 cfX4 ⟨by decide, by decide⟩ 0 0 ⟨rfl, rfl⟩ ⟨by decide, by decide⟩ (Nat.le_of_ble_eq_true rfl) (fun _ => ?_)
    refine gg_aload_n (S := sX6_take) 0 13 rfl dX6_take_12 rfl rfl ?_
    refine gg_gr (S := sX6_take) cfX6 (by decide) (fun _ _ => rfl) 16 rfl flX6_14 dX6_take_13 (fun t10 => ?_)
    refine gg_callVi (S := sX6_take) (S' := sX4_size) (cs := 0) (sl := 0) (As := []) (st := []) 19 rfl (fun b11 => lkX4_size b11) mwX4_size rfl mlX6_71 dX6_take_16 cfX4 ⟨by decide, by decide⟩ 0 0 ⟨rfl, rfl⟩ ⟨by decide, by decide⟩ (Nat.le_of_ble_eq_true rfl) (fun t11 => ?_)
    exact gg_pure (gg_iret (S := sX6_take) rfl dX6_take_19 (by decide) (by decide))
  · refine gg_aload_n (S := sX6_take) 0 21 rfl dX6_take_20 rfl rfl ?_
    refine gg_iload_n (S := sX6_take) 1 22 rfl dX6_take_21 rfl rfl ?_
    refine gg_callVr (S := sX6_take) (S' := sX6_versionOrNull) (cs := 0) (sl := 0) (As := [vi x1]) (st := []) 25 rfl (fun b7 => lkX6_versionOrNull b7 x1) mwX6_versionOrNull rfl mlX6_92 dX6_take_22 cfX6 ⟨by decide, by decide⟩ 0 0 ⟨rfl, rfl⟩ ⟨by decide, by decide⟩ (Nat.le_of_ble_eq_true rfl) (fun t1 => ?_)
    refine gg_astore_n (S := sX6_take) (L' := [(2, vr t1), (0, vr (some x0)), (1, vi x1)]) 26 rfl dX6_take_25 rfl (by decide) rfl ?_
    refine gg_aload_n (S := sX6_take) 0 27 rfl dX6_take_26 rfl rfl ?_
    refine gg_ifnonnull (S := sX6_take) (tgt := 33) 30 rfl dX6_take_27 (by decide) ?_ ?_
    · refine gg_bipush (S := sX6_take) 32 rfl dX6_take_30 (by decide) ?_
      exact gg_pure (gg_iret (S := sX6_take) rfl dX6_take_32 (by decide) (by decide))
    · refine gg_aload_n (S := sX6_take) 1 34 rfl dX6_take_33 rfl rfl ?_
      refine gg_gr (S := sX6_take) cfX6 (by decide) (fun _ _ => rfl) 37 rfl flX6_14 dX6_take_34 (fun t2 => ?_)
      refine gg_aload_n (S := sX6_take) 0 38 rfl dX6_take_37 rfl rfl ?_
      refine gg_grN (S := sX6_take) cfX5 (by decide) (fun _ _ => rfl) 41 rfl flX6_96 dX6_take_38 (fun t3 => ?_)
      refine gg_callVv (S := sX6_take) (S' := sX4_become) (cs := 0) (sl := 0) (As := [vr t3]) (st := []) 44 rfl (fun b6 => lkX4_become b6 t3) mwX4_become rfl mlX6_99 dX6_take_41 cfX4 ⟨by decide, by decide⟩ 0 0 ⟨rfl, rfl⟩ ⟨by decide, by decide⟩ (Nat.le_of_ble_eq_true rfl) (fun _ => ?_)
      refine gg_aload_n (S := sX6_take) 1 45 rfl dX6_take_44 rfl rfl ?_
      refine gg_gr (S := sX6_take) cfX6 (by decide) (fun _ _ => rfl) 48 rfl flX6_14 dX6_take_45 (fun t4 => ?_)
      refine gg_callVi (S := sX6_take) (S' := sX4_size) (cs := 0) (sl := 0) (As := []) (st := []) 51 rfl (fun b5 => lkX4_size b5) mwX4_size rfl mlX6_71 dX6_take_48 cfX4 ⟨by decide, by decide⟩ 0 0 ⟨rfl, rfl⟩ ⟨by decide, by decide⟩ (Nat.le_of_ble_eq_true rfl) (fun t5 => ?_)
      exact gg_pure (gg_iret (S := sX6_take) rfl dX6_take_51 (by decide) (by decide))

set_option maxRecDepth 100000 in
set_option maxHeartbeats 4000000 in
theorem lkX6_text (x0 : Nat) (x1 : Int) (x2 : Int) : LK yX6_text sX6_text [vr (some x0), vi x1, vi x2] en_i (X6_text x0 x1 x2) := by
  refine lk_go (L := [(0, vr (some x0)), (1, vi x1), (2, vi x2)]) (by decide +kernel) rfl (fun h => by cases h) (Nat.le_of_ble_eq_true rfl) rfl ?_
  intro K
  unfold X6_text
  refine gg_aload_n (S := sX6_text) 0 1 rfl dX6_text_0 rfl rfl ?_
  refine gg_iload_n (S := sX6_text) 1 2 rfl dX6_text_1 rfl rfl ?_
  refine gg_callVr (S := sX6_text) (S' := sX6_versionOrNull) (cs := 0) (sl := 0) (As := [vi x1]) (st := []) 5 rfl (fun b4 => lkX6_versionOrNull b4 x1) mwX6_versionOrNull rfl mlX6_92 dX6_text_2 cfX6 ⟨by decide, by decide⟩ 0 0 ⟨rfl, rfl⟩ ⟨by decide, by decide⟩ (Nat.le_of_ble_eq_true rfl) (fun t1 => ?_)
  refine gg_astore_n (S := sX6_text) (L' := [(3, vr t1), (0, vr (some x0)), (1, vi x1), (2, vi x2)]) 6 rfl dX6_text_5 rfl (by decide) rfl ?_
  refine gg_aload_n (S := sX6_text) 0 7 rfl dX6_text_6 rfl rfl ?_
  refine gg_ifnonnull (S := sX6_text) (tgt := 15) 10 rfl dX6_text_7 (by decide) ?_ ?_
  · refine gg_bipush (S := sX6_text) 12 rfl dX6_text_10 (by decide) ?_
    refine gg_goto (S := sX6_text) (tgt := 23) dX6_text_12 (by decide) ?_
    exact gg_pure (gg_iret (S := sX6_text) rfl dX6_text_23 (by decide) (by decide))
  · refine gg_aload_n (S := sX6_text) 0 16 rfl dX6_text_15 rfl rfl ?_
    refine gg_grN (S := sX6_text) cfX5 (by decide) (fun _ _ => rfl) 19 rfl flX6_96 dX6_text_16 (fun t2 => ?_)
    refine gg_iload_n (S := sX6_text) 3 20 rfl dX6_text_19 rfl rfl ?_
    refine gg_callVi (S := sX6_text) (S' := sX4_at) (cs := 0) (sl := 0) (As := [vi x2]) (st := []) 23 rfl (fun b3 => lkX4_at b3 x2) mwX4_at rfl mlX6_82 dX6_text_20 cfX4 ⟨by decide, by decide⟩ 0 0 ⟨rfl, rfl⟩ ⟨by decide, by decide⟩ (Nat.le_of_ble_eq_true rfl) (fun t3 => ?_)
    exact gg_pure (gg_iret (S := sX6_text) rfl dX6_text_23 (by decide) (by decide))

set_option maxRecDepth 100000 in
set_option maxHeartbeats 4000000 in
theorem lkX6_together (x0 : Nat) (x1 : Int) (x2 : Int) : LK yX6_together sX6_together [vr (some x0), vi x1, vi x2] en_i (X6_together x0 x1 x2) := by
  refine lk_go (L := [(0, vr (some x0)), (1, vi x1), (2, vi x2)]) (by decide +kernel) rfl (fun h => by cases h) (Nat.le_of_ble_eq_true rfl) rfl ?_
  intro K
  unfold X6_together
  refine gg_aload_n (S := sX6_together) 0 1 rfl dX6_together_0 rfl rfl ?_
  refine gg_iload_n (S := sX6_together) 1 2 rfl dX6_together_1 rfl rfl ?_
  refine gg_callVr (S := sX6_together) (S' := sX6_patchOrNull) (cs := 0) (sl := 0) (As := [vi x1]) (st := []) 5 rfl (fun b28 => lkX6_patchOrNull b28 x1) mwX6_patchOrNull rfl mlX6_159 dX6_together_2 cfX6 ⟨by decide, by decide⟩ 0 0 ⟨rfl, rfl⟩ ⟨by decide, by decide⟩ (Nat.le_of_ble_eq_true rfl) (fun t1 => ?_)
  refine gg_astore_n (S := sX6_together) (L' := [(3, vr t1), (0, vr (some x0)), (1, vi x1), (2, vi x2)]) 6 rfl dX6_together_5 rfl (by decide) rfl ?_
  refine gg_aload_n (S := sX6_together) 1 7 rfl dX6_together_6 rfl rfl ?_
  refine gg_iload_n (S := sX6_together) 3 8 rfl dX6_together_7 rfl rfl ?_
  refine gg_callVr (S := sX6_together) (S' := sX6_patchOrNull) (cs := 0) (sl := 0) (As := [vi x2]) (st := []) 11 rfl (fun b27 => lkX6_patchOrNull b27 x2) mwX6_patchOrNull rfl mlX6_159 dX6_together_8 cfX6 ⟨by decide, by decide⟩ 0 0 ⟨rfl, rfl⟩ ⟨by decide, by decide⟩ (Nat.le_of_ble_eq_true rfl) (fun t2 => ?_)
  refine gg_astore (S := sX6_together) (L' := [(4, vr t2), (3, vr t1), (0, vr (some x0)), (1, vi x1), (2, vi x2)]) 13 rfl dX6_together_11 (by decide) rfl ?_
  refine gg_aload_n (S := sX6_together) 1 14 rfl dX6_together_13 rfl rfl ?_
  refine gg_ifnull (S := sX6_together) (tgt := 22) 17 rfl dX6_together_14 (by decide) ?_ ?_
  · refine gg_bipush (S := sX6_together) 24 rfl dX6_together_22 (by decide) ?_
    exact gg_pure (gg_iret (S := sX6_together) rfl dX6_together_24 (by decide) (by decide))
  · refine gg_aload (S := sX6_together) 0 19 rfl dX6_together_17 rfl ?_
    refine gg_ifnonnull (S := sX6_together) (tgt := 25) 22 rfl dX6_together_19 (by decide) ?_ ?_
    · refine gg_bipush (S := sX6_together) 24 rfl dX6_together_22 (by decide) ?_
      exact gg_pure (gg_iret (S := sX6_together) rfl dX6_together_24 (by decide) (by decide))
    · refine gg_aload_n (S := sX6_together) 2 26 rfl dX6_together_25 rfl rfl ?_
      refine gg_gr (S := sX6_together) cfX6 (by decide) (fun _ _ => rfl) 29 rfl flX6_60 dX6_together_26 (fun t3 => ?_)
      refine gg_aload_n (S := sX6_together) 1 30 rfl dX6_together_29 rfl rfl ?_
      refine gg_aload (S := sX6_together) 0 32 rfl dX6_together_30 rfl ?_
      refine gg_callVi (S := sX6_together) (S' := sX0_agree) (cs := 0) (sl := 0) (As := [vr t1, vr t2]) (st := []) 35 rfl (fun b26 => lkX0_agree b26 t1 t2) mwX0_agree rfl mlX6_222 dX6_together_32 cfX0 ⟨by decide, by decide⟩ 0 0 ⟨rfl, rfl⟩ ⟨by decide, by decide⟩ (Nat.le_of_ble_eq_true rfl) (fun t4 => ?_)
      refine gg_if_ne (S := sX6_together) (tgt := 41) 38 rfl dX6_together_35 (by decide) ?_ ?_
      · refine gg_bipush (S := sX6_together) 40 rfl dX6_together_38 (by decide) ?_
        exact gg_pure (gg_iret (S := sX6_together) rfl dX6_together_40 (by decide) (by decide))
      · refine gg_aload_n (S := sX6_together) 2 42 rfl dX6_together_41 rfl rfl ?_
        refine gg_gr (S := sX6_together) cfX6 (by decide) (fun _ _ => rfl) 45 rfl flX6_60 dX6_together_42 (fun t5 => ?_)
        refine gg_aload_n (S := sX6_together) 1 46 rfl dX6_together_45 rfl rfl ?_
        refine gg_aload (S := sX6_together) 0 48 rfl dX6_together_46 rfl ?_
        refine gg_aload_n (S := sX6_together) 2 49 rfl dX6_together_48 rfl rfl ?_
        refine gg_gr (S := sX6_together) cfX6 (by decide) (fun _ _ => rfl) 52 rfl flX6_54 dX6_together_49 (fun t6 => ?_)
        refine gg_callVv (S := sX6_together) (S' := sX0_putTogether) (cs := 0) (sl := 0) (As := [vr t1, vr t2, vr t6]) (st := []) 55 rfl (fun b25 => lkX0_putTogether b25 t1 t2 t6) mwX0_putTogether rfl mlX6_226 dX6_together_52 cfX0 ⟨by decide, by decide⟩ 0 0 ⟨rfl, rfl⟩ ⟨by decide, by decide⟩ (Nat.le_of_ble_eq_true rfl) (fun _ => ?_)
        refine gg_aload_n (S := sX6_together) 2 56 rfl dX6_together_55 rfl rfl ?_
        refine gg_iconst (S := sX6_together) 57 rfl dX6_together_56 ?_
        refine gg_callVi (S := sX6_together) (S' := sX6_hasRoomForPatches) (cs := 0) (sl := 0) (As := [vi 1]) (st := []) 60 rfl (fun b24 => lkX6_hasRoomForPatches b24 1) mwX6_hasRoomForPatches rfl mlX6_148 dX6_together_57 cfX6 ⟨by decide, by decide⟩ 0 0 ⟨rfl, rfl⟩ ⟨by decide, by decide⟩ (Nat.le_of_ble_eq_true rfl) (fun t7 => ?_)
        refine gg_if_eq (S := sX6_together) (tgt := 90) 63 rfl dX6_together_60 (by decide) ?_ ?_
        · refine gg_bipush (S := sX6_together) 92 rfl dX6_together_90 (by decide) ?_
          exact gg_pure (gg_iret (S := sX6_together) rfl dX6_together_92 (by decide) (by decide))
        · refine gg_aload_n (S := sX6_together) 2 64 rfl dX6_together_63 rfl rfl ?_
          refine gg_gr (S := sX6_together) cfX6 (by decide) (fun _ _ => rfl) 67 rfl flX6_54 dX6_together_64 (fun t8 => ?_)
          refine gg_callVi (S := sX6_together) (S' := sX3_hunks) (cs := 0) (sl := 0) (As := []) (st := []) 70 rfl (fun b23 => lkX3_hunks b23) mwX3_hunks rfl mlX6_170 dX6_together_67 cfX3 ⟨by decide, by decide⟩ 0 0 ⟨rfl, rfl⟩ ⟨by decide, by decide⟩ (Nat.le_of_ble_eq_true rfl) (fun t9 => ?_)
          refine gg_aload_n (S := sX6_together) 2 71 rfl dX6_together_70 rfl rfl ?_
          refine gg_gr (S := sX6_together) cfX6 (by decide) (fun _ _ => rfl) 74 rfl flX6_54 dX6_together_71 (fun t10 => ?_)
          refine gg_callVi (S := sX6_together) (S' := sX3_allGoing) (cs := 0) (sl := 0) (As := []) (st := [vi t9]) 77 rfl (fun b22 => lkX3_allGoing b22) mwX3_allGoing rfl mlX6_134 dX6_together_74 cfX3 ⟨by decide, by decide⟩ 0 0 ⟨rfl, rfl⟩ ⟨by decide, by decide⟩ (Nat.le_of_ble_eq_true rfl) (fun t11 => ?_)
          refine gg_aload_n (S := sX6_together) 2 78 rfl dX6_together_77 rfl rfl ?_
          refine gg_gr (S := sX6_together) cfX6 (by decide) (fun _ _ => rfl) 81 rfl flX6_54 dX6_together_78 (fun t12 => ?_)
          refine gg_callVi (S := sX6_together) (S' := sX3_allComing) (cs := 0) (sl := 0) (As := []) (st := [vi t11, vi t9]) 84 rfl (fun b21 => lkX3_allComing b21) mwX3_allComing rfl mlX6_173 dX6_together_81 cfX3 ⟨by decide, by decide⟩ 0 0 ⟨rfl, rfl⟩ ⟨by decide, by decide⟩ (Nat.le_of_ble_eq_true rfl) (fun t13 => ?_)
          refine gg_callSi (S := sX6_together) (S' := sX6_isPatchSize) (cs := 0) (sl := 0) (As := [vi t9, vi t11, vi t13]) (st := []) 87 rfl (lkX6_isPatchSize t9 t11 t13) mwX6_isPatchSize rfl mlX6_176 dX6_together_84 ⟨by decide, by decide⟩ 0 0 ⟨rfl, rfl⟩ ⟨by decide, by decide⟩ (Nat.le_of_ble_eq_true rfl) (fun t14 => ?_)
          refine gg_if_ne (S := sX6_together) (tgt := 93) 90 rfl dX6_together_87 (by decide) ?_ ?_
          · refine gg_bipush (S := sX6_together) 92 rfl dX6_together_90 (by decide) ?_
            exact gg_pure (gg_iret (S := sX6_together) rfl dX6_together_92 (by decide) (by decide))
          · refine gg_callSr (S := sX6_together) (S' := sX6_newPatch) (cs := 0) (sl := 0) (As := []) (st := []) 96 rfl (lkX6_newPatch) mwX6_newPatch rfl mlX6_151 dX6_together_93 ⟨by decide, by decide⟩ 6 326 ⟨rfl, rfl⟩ ⟨by decide, by decide⟩ (Nat.le_of_ble_eq_true rfl) (fun t15 => ?_)
            refine gg_astore (S := sX6_together) (L' := [(5, vr t15), (4, vr t2), (3, vr t1), (0, vr (some x0)), (1, vi x1), (2, vi x2)]) 98 rfl dX6_together_96 (by decide) rfl ?_
            refine gg_aload (S := sX6_together) 0 100 rfl dX6_together_98 rfl ?_
            refine gg_aload_n (S := sX6_together) 3 101 rfl dX6_together_100 rfl rfl ?_
            refine gg_gr (S := sX6_together) cfX6 (by decide) (fun _ _ => rfl) 104 rfl flX6_54 dX6_together_101 (fun t16 => ?_)
            refine gg_callVv (S := sX6_together) (S' := sX3_become) (cs := 6) (sl := 326) (As := [vr t16]) (st := []) 107 rfl (fun b18 => lkX3_become b18 t16) mwX3_become rfl mlX6_230 dX6_together_104 cfX3 ⟨by decide, by decide⟩ 6 326 ⟨rfl, rfl⟩ ⟨by decide, by decide⟩ (Nat.le_of_ble_eq_true rfl) (fun _ => ?_)
            refine gg_aload_n (S := sX6_together) 3 108 rfl dX6_together_107 rfl rfl ?_
            refine gg_aload (S := sX6_together) 0 110 rfl dX6_together_108 rfl ?_
            refine gg_callVi (S := sX6_together) (S' := sX6_addPatch) (cs := 6) (sl := 326) (As := [vr t15]) (st := []) 113 rfl (fun b17 => lkX6_addPatch b17 t15) mwX6_addPatch rfl mlX6_155 dX6_together_110 cfX6 ⟨by decide, by decide⟩ 6 326 ⟨rfl, rfl⟩ ⟨by decide, by decide⟩ (Nat.le_of_ble_eq_true rfl) (fun t17 => ?_)
            exact gg_pure (gg_iret (S := sX6_together) rfl dX6_together_113 (by decide) (by decide))

set_option maxRecDepth 100000 in
set_option maxHeartbeats 4000000 in
theorem lkX6_turn (x0 : Nat) (x1 : Int) : LK yX6_turn sX6_turn [vr (some x0), vi x1] en_i (X6_turn x0 x1) := by
  refine lk_go (L := [(0, vr (some x0)), (1, vi x1)]) (by decide +kernel) rfl (fun h => by cases h) (Nat.le_of_ble_eq_true rfl) rfl ?_
  intro K
  unfold X6_turn
  refine gg_aload_n (S := sX6_turn) 0 1 rfl dX6_turn_0 rfl rfl ?_
  refine gg_iload_n (S := sX6_turn) 1 2 rfl dX6_turn_1 rfl rfl ?_
  refine gg_callVr (S := sX6_turn) (S' := sX6_patchOrNull) (cs := 0) (sl := 0) (As := [vi x1]) (st := []) 5 rfl (fun b8 => lkX6_patchOrNull b8 x1) mwX6_patchOrNull rfl mlX6_159 dX6_turn_2 cfX6 ⟨by decide, by decide⟩ 0 0 ⟨rfl, rfl⟩ ⟨by decide, by decide⟩ (Nat.le_of_ble_eq_true rfl) (fun t1 => ?_)
  refine gg_astore_n (S := sX6_turn) (L' := [(2, vr t1), (0, vr (some x0)), (1, vi x1)]) 6 rfl dX6_turn_5 rfl (by decide) rfl ?_
  refine gg_aload_n (S := sX6_turn) 0 7 rfl dX6_turn_6 rfl rfl ?_
  refine gg_ifnonnull (S := sX6_turn) (tgt := 13) 10 rfl dX6_turn_7 (by decide) ?_ ?_
  · refine gg_bipush (S := sX6_turn) 12 rfl dX6_turn_10 (by decide) ?_
    exact gg_pure (gg_iret (S := sX6_turn) rfl dX6_turn_12 (by decide) (by decide))
  · refine gg_aload_n (S := sX6_turn) 1 14 rfl dX6_turn_13 rfl rfl ?_
    refine gg_iconst (S := sX6_turn) 15 rfl dX6_turn_14 ?_
    refine gg_callVi (S := sX6_turn) (S' := sX6_hasRoomForPatches) (cs := 0) (sl := 0) (As := [vi 1]) (st := []) 18 rfl (fun b7 => lkX6_hasRoomForPatches b7 1) mwX6_hasRoomForPatches rfl mlX6_148 dX6_turn_15 cfX6 ⟨by decide, by decide⟩ 0 0 ⟨rfl, rfl⟩ ⟨by decide, by decide⟩ (Nat.le_of_ble_eq_true rfl) (fun t2 => ?_)
    refine gg_if_ne (S := sX6_turn) (tgt := 24) 21 rfl dX6_turn_18 (by decide) ?_ ?_
    · refine gg_bipush (S := sX6_turn) 23 rfl dX6_turn_21 (by decide) ?_
      exact gg_pure (gg_iret (S := sX6_turn) rfl dX6_turn_23 (by decide) (by decide))
    · refine gg_callSr (S := sX6_turn) (S' := sX6_newPatch) (cs := 0) (sl := 0) (As := []) (st := []) 27 rfl (lkX6_newPatch) mwX6_newPatch rfl mlX6_151 dX6_turn_24 ⟨by decide, by decide⟩ 6 326 ⟨rfl, rfl⟩ ⟨by decide, by decide⟩ (Nat.le_of_ble_eq_true rfl) (fun t3 => ?_)
      refine gg_astore_n (S := sX6_turn) (L' := [(3, vr t3), (2, vr t1), (0, vr (some x0)), (1, vi x1)]) 28 rfl dX6_turn_27 rfl (by decide) rfl ?_
      refine gg_aload_n (S := sX6_turn) 0 29 rfl dX6_turn_28 rfl rfl ?_
      refine gg_aload_n (S := sX6_turn) 1 30 rfl dX6_turn_29 rfl rfl ?_
      refine gg_callVv (S := sX6_turn) (S' := sX3_becomeTurned) (cs := 6) (sl := 326) (As := [vr t1]) (st := []) 33 rfl (fun b5 => lkX3_becomeTurned b5 t1) mwX3_becomeTurned rfl mlX6_218 dX6_turn_30 cfX3 ⟨by decide, by decide⟩ 6 326 ⟨rfl, rfl⟩ ⟨by decide, by decide⟩ (Nat.le_of_ble_eq_true rfl) (fun _ => ?_)
      refine gg_aload_n (S := sX6_turn) 2 34 rfl dX6_turn_33 rfl rfl ?_
      refine gg_aload_n (S := sX6_turn) 0 35 rfl dX6_turn_34 rfl rfl ?_
      refine gg_callVi (S := sX6_turn) (S' := sX6_addPatch) (cs := 6) (sl := 326) (As := [vr t3]) (st := []) 38 rfl (fun b4 => lkX6_addPatch b4 t3) mwX6_addPatch rfl mlX6_155 dX6_turn_35 cfX6 ⟨by decide, by decide⟩ 6 326 ⟨rfl, rfl⟩ ⟨by decide, by decide⟩ (Nat.le_of_ble_eq_true rfl) (fun t4 => ?_)
      exact gg_pure (gg_iret (S := sX6_turn) rfl dX6_turn_38 (by decide) (by decide))

set_option maxRecDepth 100000 in
set_option maxHeartbeats 4000000 in
theorem lkX6_worst (x0 : Nat) (x1 : Int) (x2 : Int) (x3 : Int) : LK yX6_worst sX6_worst [vr (some x0), vi x1, vi x2, vi x3] en_i (X6_worst x0 x1 x2 x3) := by
  refine lk_go (L := [(0, vr (some x0)), (1, vi x1), (2, vi x2), (3, vi x3)]) (by decide +kernel) rfl (fun h => by cases h) (Nat.le_of_ble_eq_true rfl) rfl ?_
  intro K
  unfold X6_worst
  refine gg_aload_n (S := sX6_worst) 0 1 rfl dX6_worst_0 rfl rfl ?_
  refine gg_iload_n (S := sX6_worst) 1 2 rfl dX6_worst_1 rfl rfl ?_
  refine gg_iload_n (S := sX6_worst) 2 3 rfl dX6_worst_2 rfl rfl ?_
  refine gg_callVi (S := sX6_worst) (S' := sX6_isStore) (cs := 0) (sl := 0) (As := [vi x1, vi x2]) (st := []) 6 rfl (fun b9 => lkX6_isStore b9 x1 x2) mwX6_isStore rfl mlX6_253 dX6_worst_3 cfX6 ⟨by decide, by decide⟩ 0 0 ⟨rfl, rfl⟩ ⟨by decide, by decide⟩ (Nat.le_of_ble_eq_true rfl) (fun t1 => ?_)
  refine gg_if_eq (S := sX6_worst) (tgt := 18) 9 rfl dX6_worst_6 (by decide) ?_ ?_
  · refine gg_bipush (S := sX6_worst) 20 rfl dX6_worst_18 (by decide) ?_
    exact gg_pure (gg_iret (S := sX6_worst) rfl dX6_worst_20 (by decide) (by decide))
  · refine gg_iload_n (S := sX6_worst) 3 10 rfl dX6_worst_9 rfl rfl ?_
    refine gg_if_lt (S := sX6_worst) (tgt := 18) 13 rfl dX6_worst_10 (by decide) ?_ ?_
    · refine gg_bipush (S := sX6_worst) 20 rfl dX6_worst_18 (by decide) ?_
      exact gg_pure (gg_iret (S := sX6_worst) rfl dX6_worst_20 (by decide) (by decide))
    · refine gg_iload_n (S := sX6_worst) 3 14 rfl dX6_worst_13 rfl rfl ?_
      refine gg_iconst (S := sX6_worst) 15 rfl dX6_worst_14 ?_
      refine gg_ic_le (S := sX6_worst) (tgt := 21) 18 rfl dX6_worst_15 (by decide) ?_ ?_
      · refine gg_aload_n (S := sX6_worst) 0 22 rfl dX6_worst_21 rfl rfl ?_
        refine gg_gi (S := sX6_worst) cfX6 (by decide) (fun _ _ => rfl) 25 rfl flX6_257 dX6_worst_22 (fun t2 => ?_)
        refine gg_bipush (S := sX6_worst) 27 rfl dX6_worst_25 (by decide) ?_
        refine gg_ic_lt (S := sX6_worst) (tgt := 33) 30 rfl dX6_worst_27 (by decide) ?_ ?_
        · refine gg_aload_n (S := sX6_worst) 0 34 rfl dX6_worst_33 rfl rfl ?_
          refine gg_iload_n (S := sX6_worst) 1 35 rfl dX6_worst_34 rfl rfl ?_
          refine gg_iload_n (S := sX6_worst) 2 36 rfl dX6_worst_35 rfl rfl ?_
          refine gg_callVv (S := sX6_worst) (S' := sX6_findStore) (cs := 0) (sl := 0) (As := [vi x1, vi x2]) (st := []) 39 rfl (fun b8 => lkX6_findStore b8 x1 x2) mwX6_findStore rfl mlX6_260 dX6_worst_36 cfX6 ⟨by decide, by decide⟩ 0 0 ⟨rfl, rfl⟩ ⟨by decide, by decide⟩ (Nat.le_of_ble_eq_true rfl) (fun _ => ?_)
          refine gg_aload_n (S := sX6_worst) 0 40 rfl dX6_worst_39 rfl rfl ?_
          refine gg_gr (S := sX6_worst) cfX6 (by decide) (fun _ _ => rfl) 43 rfl flX6_67 dX6_worst_40 (fun t3 => ?_)
          refine gg_iconst (S := sX6_worst) 44 rfl dX6_worst_43 ?_
          refine gg_callVi (S := sX6_worst) (S' := sX2_worstPiece) (cs := 0) (sl := 0) (As := [vi (-1)]) (st := []) 47 rfl (fun b7 => lkX2_worstPiece b7 (-1)) mwX2_worstPiece rfl mlX6_275 dX6_worst_44 cfX2 ⟨by decide, by decide⟩ 0 0 ⟨rfl, rfl⟩ ⟨by decide, by decide⟩ (Nat.le_of_ble_eq_true rfl) (fun t4 => ?_)
          refine gg_istore (S := sX6_worst) (L' := [(4, vi t4), (0, vr (some x0)), (1, vi x1), (2, vi x2), (3, vi x3)]) 49 rfl dX6_worst_47 (by decide) rfl ?_
          refine gg_iload_n (S := sX6_worst) 4 50 rfl dX6_worst_49 rfl rfl ?_
          refine gg_if_eq (S := sX6_worst) (tgt := 59) 53 rfl dX6_worst_50 (by decide) ?_ ?_
          · refine gg_iload (S := sX6_worst) 0 61 rfl dX6_worst_59 rfl ?_
            refine gg_goto (S := sX6_worst) (tgt := 73) dX6_worst_61 (by decide) ?_
            exact gg_pure (gg_iret (S := sX6_worst) rfl dX6_worst_73 (by decide) (by decide))
          · refine gg_iload (S := sX6_worst) 0 55 rfl dX6_worst_53 rfl ?_
            refine gg_iconst (S := sX6_worst) 56 rfl dX6_worst_55 ?_
            refine gg_ic_ne (S := sX6_worst) (tgt := 64) 59 rfl dX6_worst_56 (by decide) ?_ ?_
            · refine gg_iload (S := sX6_worst) 0 61 rfl dX6_worst_59 rfl ?_
              refine gg_goto (S := sX6_worst) (tgt := 73) dX6_worst_61 (by decide) ?_
              exact gg_pure (gg_iret (S := sX6_worst) rfl dX6_worst_73 (by decide) (by decide))
            · refine gg_aload_n (S := sX6_worst) 1 65 rfl dX6_worst_64 rfl rfl ?_
              refine gg_gr (S := sX6_worst) cfX6 (by decide) (fun _ _ => rfl) 68 rfl flX6_67 dX6_worst_65 (fun t5 => ?_)
              refine gg_iload (S := sX6_worst) 0 70 rfl dX6_worst_68 rfl ?_
              refine gg_callVi (S := sX6_worst) (S' := sX2_lostWith) (cs := 0) (sl := 0) (As := [vi t4]) (st := []) 73 rfl (fun b6 => lkX2_lostWith b6 t4) mwX2_lostWith rfl mlX6_278 dX6_worst_70 cfX2 ⟨by decide, by decide⟩ 0 0 ⟨rfl, rfl⟩ ⟨by decide, by decide⟩ (Nat.le_of_ble_eq_true rfl) (fun t6 => ?_)
              exact gg_pure (gg_iret (S := sX6_worst) rfl dX6_worst_73 (by decide) (by decide))
        · refine gg_bipush (S := sX6_worst) 32 rfl dX6_worst_30 (by decide) ?_
          exact gg_pure (gg_iret (S := sX6_worst) rfl dX6_worst_32 (by decide) (by decide))
      · refine gg_bipush (S := sX6_worst) 20 rfl dX6_worst_18 (by decide) ?_
        exact gg_pure (gg_iret (S := sX6_worst) rfl dX6_worst_20 (by decide) (by decide))

set_option maxRecDepth 100000 in
set_option maxHeartbeats 4000000 in
theorem lkX7_aboutOf (x0 : Nat) (x1 : Int) (x2 : Int) : LK yX7_aboutOf sX7_aboutOf [vr (some x0), vi x1, vi x2] en_i (X7_aboutOf x0 x1 x2) := by
  refine lk_go (L := [(0, vr (some x0)), (1, vi x1), (2, vi x2)]) (by decide +kernel) rfl (fun h => by cases h) (Nat.le_of_ble_eq_true rfl) rfl ?_
  intro K
  unfold X7_aboutOf
  refine gg_iload_n (S := sX7_aboutOf) 2 1 rfl dX7_aboutOf_0 rfl rfl ?_
  refine gg_tsw4 (S := sX7_aboutOf) dX7_aboutOf_1 (t0 := 32) (t1 := 39) (t2 := 46) (t3 := 53) (td := 60) (by decide) (by decide) (by decide) (by decide) (by decide) ?_ ?_ ?_ ?_ ?_
  · refine gg_aload_n (S := sX7_aboutOf) 0 33 rfl dX7_aboutOf_32 rfl rfl ?_
    refine gg_gr (S := sX7_aboutOf) cfX7 (by decide) (fun _ _ => rfl) 36 rfl flX7_13 dX7_aboutOf_33 (fun t1 => ?_)
    refine gg_iload_n (S := sX7_aboutOf) 1 37 rfl dX7_aboutOf_36 rfl rfl ?_
    refine gg_ld (S := sX7_aboutOf) 38 rfl dX7_aboutOf_37 (fun t2 => ?_)
    exact gg_pure (gg_iret (S := sX7_aboutOf) rfl dX7_aboutOf_38 (by decide) (by decide))
  · refine gg_aload_n (S := sX7_aboutOf) 0 40 rfl dX7_aboutOf_39 rfl rfl ?_
    refine gg_gr (S := sX7_aboutOf) cfX7 (by decide) (fun _ _ => rfl) 43 rfl flX7_19 dX7_aboutOf_40 (fun t3 => ?_)
    refine gg_iload_n (S := sX7_aboutOf) 1 44 rfl dX7_aboutOf_43 rfl rfl ?_
    refine gg_ld (S := sX7_aboutOf) 45 rfl dX7_aboutOf_44 (fun t4 => ?_)
    exact gg_pure (gg_iret (S := sX7_aboutOf) rfl dX7_aboutOf_45 (by decide) (by decide))
  · refine gg_aload_n (S := sX7_aboutOf) 0 47 rfl dX7_aboutOf_46 rfl rfl ?_
    refine gg_gr (S := sX7_aboutOf) cfX7 (by decide) (fun _ _ => rfl) 50 rfl flX7_22 dX7_aboutOf_47 (fun t5 => ?_)
    refine gg_iload_n (S := sX7_aboutOf) 1 51 rfl dX7_aboutOf_50 rfl rfl ?_
    refine gg_ld (S := sX7_aboutOf) 52 rfl dX7_aboutOf_51 (fun t6 => ?_)
    exact gg_pure (gg_iret (S := sX7_aboutOf) rfl dX7_aboutOf_52 (by decide) (by decide))
  · refine gg_aload_n (S := sX7_aboutOf) 0 54 rfl dX7_aboutOf_53 rfl rfl ?_
    refine gg_gr (S := sX7_aboutOf) cfX7 (by decide) (fun _ _ => rfl) 57 rfl flX7_25 dX7_aboutOf_54 (fun t7 => ?_)
    refine gg_iload_n (S := sX7_aboutOf) 1 58 rfl dX7_aboutOf_57 rfl rfl ?_
    refine gg_ld (S := sX7_aboutOf) 59 rfl dX7_aboutOf_58 (fun t8 => ?_)
    exact gg_pure (gg_iret (S := sX7_aboutOf) rfl dX7_aboutOf_59 (by decide) (by decide))
  · refine gg_aload_n (S := sX7_aboutOf) 0 61 rfl dX7_aboutOf_60 rfl rfl ?_
    refine gg_gr (S := sX7_aboutOf) cfX7 (by decide) (fun _ _ => rfl) 64 rfl flX7_13 dX7_aboutOf_61 (fun t9 => ?_)
    refine gg_iload_n (S := sX7_aboutOf) 1 65 rfl dX7_aboutOf_64 rfl rfl ?_
    refine gg_ld (S := sX7_aboutOf) 66 rfl dX7_aboutOf_65 (fun t10 => ?_)
    refine gg_iconst (S := sX7_aboutOf) 67 rfl dX7_aboutOf_66 ?_
    refine gg_iadd (S := sX7_aboutOf) 68 rfl dX7_aboutOf_67 ?_
    exact gg_pure (gg_iret (S := sX7_aboutOf) rfl dX7_aboutOf_68 (by decide) (by decide))

set_option maxRecDepth 100000 in
set_option maxHeartbeats 4000000 in
theorem lkX7_within (x0 : Int) (x1 : Int) (x2 : Int) : LK yX7_within sX7_within [vi x0, vi x1, vi x2] en_i (X7_within x0 x1 x2) := by
  refine lk_go (L := [(0, vi x0), (1, vi x1), (2, vi x2)]) (by decide +kernel) rfl (fun h => by cases h) (Nat.le_of_ble_eq_true rfl) rfl ?_
  intro K
  unfold X7_within
  refine gg_iload_n (S := sX7_within) 0 1 rfl dX7_within_0 rfl rfl ?_
  refine gg_iload_n (S := sX7_within) 1 2 rfl dX7_within_1 rfl rfl ?_
  refine gg_ic_lt (S := sX7_within) (tgt := 14) 5 rfl dX7_within_2 (by decide) ?_ ?_
  · refine gg_iconst (S := sX7_within) 15 rfl dX7_within_14 ?_
    exact gg_pure (gg_zretc (S := sX7_within) (by decide) rfl dX7_within_15 (by decide) (by decide))
  · refine gg_iload_n (S := sX7_within) 0 6 rfl dX7_within_5 rfl rfl ?_
    refine gg_iload_n (S := sX7_within) 2 7 rfl dX7_within_6 rfl rfl ?_
    refine gg_ic_gt (S := sX7_within) (tgt := 14) 10 rfl dX7_within_7 (by decide) ?_ ?_
    · refine gg_iconst (S := sX7_within) 11 rfl dX7_within_10 ?_
      refine gg_goto (S := sX7_within) (tgt := 15) dX7_within_11 (by decide) ?_
      exact gg_pure (gg_zretc (S := sX7_within) (by decide) rfl dX7_within_15 (by decide) (by decide))
    · refine gg_iconst (S := sX7_within) 15 rfl dX7_within_14 ?_
      exact gg_pure (gg_zretc (S := sX7_within) (by decide) rfl dX7_within_15 (by decide) (by decide))

set_option maxRecDepth 100000 in
set_option maxHeartbeats 4000000 in
theorem lkX7_isVersion (x0 : Nat) (x1 : Int) : LK yX7_isVersion sX7_isVersion [vr (some x0), vi x1] en_i (X7_isVersion x0 x1) := by
  refine lk_go (L := [(0, vr (some x0)), (1, vi x1)]) (by decide +kernel) rfl (fun h => by cases h) (Nat.le_of_ble_eq_true rfl) rfl ?_
  intro K
  unfold X7_isVersion
  refine gg_iload_n (S := sX7_isVersion) 1 1 rfl dX7_isVersion_0 rfl rfl ?_
  refine gg_iconst (S := sX7_isVersion) 2 rfl dX7_isVersion_1 ?_
  refine gg_aload_n (S := sX7_isVersion) 0 3 rfl dX7_isVersion_2 rfl rfl ?_
  refine gg_gi (S := sX7_isVersion) cfX7 (by decide) (fun _ _ => rfl) 6 rfl flX7_97 dX7_isVersion_3 (fun t1 => ?_)
  refine gg_iconst (S := sX7_isVersion) 7 rfl dX7_isVersion_6 ?_
  refine gg_isub (S := sX7_isVersion) 8 rfl dX7_isVersion_7 ?_
  refine gg_callSi (S := sX7_isVersion) (S' := sX7_within) (cs := 0) (sl := 0) (As := [vi x1, vi 0, vi (t1 - 1)]) (st := []) 11 rfl (lkX7_within x1 0 (t1 - 1)) mwX7_within rfl mlX7_101 dX7_isVersion_8 ⟨by decide, by decide⟩ 0 0 ⟨rfl, rfl⟩ ⟨by decide, by decide⟩ (Nat.le_of_ble_eq_true rfl) (fun t2 => ?_)
  exact gg_zret (S := sX7_isVersion) (fun _ => rfl) rfl dX7_isVersion_11 (by decide) (by decide)

set_option maxRecDepth 100000 in
set_option maxHeartbeats 4000000 in
theorem lkX7_about (x0 : Nat) (x1 : Int) (x2 : Int) : LK yX7_about sX7_about [vr (some x0), vi x1, vi x2] en_i (X7_about x0 x1 x2) := by
  refine lk_go (L := [(0, vr (some x0)), (1, vi x1), (2, vi x2)]) (by decide +kernel) rfl (fun h => by cases h) (Nat.le_of_ble_eq_true rfl) rfl ?_
  intro K
  unfold X7_about
  refine gg_aload_n (S := sX7_about) 0 1 rfl dX7_about_0 rfl rfl ?_
  refine gg_iload_n (S := sX7_about) 1 2 rfl dX7_about_1 rfl rfl ?_
  refine gg_callVi (S := sX7_about) (S' := sX7_isVersion) (cs := 0) (sl := 0) (As := [vi x1]) (st := []) 5 rfl (fun b5 => lkX7_isVersion b5 x1) mwX7_isVersion rfl mlX7_111 dX7_about_2 cfX7 ⟨by decide, by decide⟩ 0 0 ⟨rfl, rfl⟩ ⟨by decide, by decide⟩ (Nat.le_of_ble_eq_true rfl) (fun t1 => ?_)
  refine gg_if_ne (S := sX7_about) (tgt := 13) 8 rfl dX7_about_5 (by decide) ?_ ?_
  · refine gg_bipush (S := sX7_about) 10 rfl dX7_about_8 (by decide) ?_
    refine gg_goto (S := sX7_about) (tgt := 33) dX7_about_10 (by decide) ?_
    exact gg_pure (gg_iret (S := sX7_about) rfl dX7_about_33 (by decide) (by decide))
  · refine gg_iload_n (S := sX7_about) 2 14 rfl dX7_about_13 rfl rfl ?_
    refine gg_iconst (S := sX7_about) 15 rfl dX7_about_14 ?_
    refine gg_iconst (S := sX7_about) 16 rfl dX7_about_15 ?_
    refine gg_callSi (S := sX7_about) (S' := sX7_within) (cs := 0) (sl := 0) (As := [vi x2, vi 0, vi 4]) (st := []) 19 rfl (lkX7_within x2 0 4) mwX7_within rfl mlX7_101 dX7_about_16 ⟨by decide, by decide⟩ 0 0 ⟨rfl, rfl⟩ ⟨by decide, by decide⟩ (Nat.le_of_ble_eq_true rfl) (fun t2 => ?_)
    refine gg_if_eq (S := sX7_about) (tgt := 31) 22 rfl dX7_about_19 (by decide) ?_ ?_
    · refine gg_bipush (S := sX7_about) 33 rfl dX7_about_31 (by decide) ?_
      exact gg_pure (gg_iret (S := sX7_about) rfl dX7_about_33 (by decide) (by decide))
    · refine gg_aload_n (S := sX7_about) 0 23 rfl dX7_about_22 rfl rfl ?_
      refine gg_iload_n (S := sX7_about) 1 24 rfl dX7_about_23 rfl rfl ?_
      refine gg_iload_n (S := sX7_about) 2 25 rfl dX7_about_24 rfl rfl ?_
      refine gg_callVi (S := sX7_about) (S' := sX7_aboutOf) (cs := 0) (sl := 0) (As := [vi x1, vi x2]) (st := []) 28 rfl (fun b3 => lkX7_aboutOf b3 x1 x2) mwX7_aboutOf rfl mlX7_115 dX7_about_25 cfX7 ⟨by decide, by decide⟩ 0 0 ⟨rfl, rfl⟩ ⟨by decide, by decide⟩ (Nat.le_of_ble_eq_true rfl) (fun t3 => ?_)
      refine gg_goto (S := sX7_about) (tgt := 33) dX7_about_28 (by decide) ?_
      exact gg_pure (gg_iret (S := sX7_about) rfl dX7_about_33 (by decide) (by decide))

set_option maxRecDepth 100000 in
set_option maxHeartbeats 4000000 in
theorem lkX7_comeFrom (x0 : Nat) (x1 : Int) (x2 : Int) : LK yX7_comeFrom sX7_comeFrom [vr (some x0), vi x1, vi x2] en_i (X7_comeFrom x0 x1 x2) := by
  refine lk_go (L := [(0, vr (some x0)), (1, vi x1), (2, vi x2)]) (by decide +kernel) rfl (fun h => by cases h) (Nat.le_of_ble_eq_true rfl) rfl ?_
  intro K
  unfold X7_comeFrom
  refine gg_bipush (S := sX7_comeFrom) 2 rfl dX7_comeFrom_0 (by decide) ?_
  refine gg_iload_n (S := sX7_comeFrom) 1 3 rfl dX7_comeFrom_2 rfl rfl ?_
  refine gg_imul (S := sX7_comeFrom) 4 rfl dX7_comeFrom_3 ?_
  refine gg_istore_n (S := sX7_comeFrom) (L' := [(3, vi (28 * x1)), (0, vr (some x0)), (1, vi x1), (2, vi x2)]) 5 rfl dX7_comeFrom_4 rfl (by decide) rfl ?_
  refine gg_iconst (S := sX7_comeFrom) 6 rfl dX7_comeFrom_5 ?_
  refine gg_istore (S := sX7_comeFrom) (L' := [(4, vi 0), (3, vi (28 * x1)), (0, vr (some x0)), (1, vi x1), (2, vi x2)]) 8 rfl dX7_comeFrom_6 (by decide) rfl ?_
  refine gg_sub [2, 3, 4, 1, 0] rfl ?_
  refine gg_loopA (fun (y1, y2) => [(0, vr (some x0)), (1, vi x1), (2, vi x2), (3, vi y1), (4, vi y2)]) (fun t5 => [(3, vi t5)]) 35 mo_N ?_ ?_ ((28 * x1), 0)
  · intro κ8 hr8 he8
    rintro ⟨y1, y2⟩
    dsimp only [X7_comeFrom_L8]
    refine gg_iload (S := sX7_comeFrom) 4 10 rfl dX7_comeFrom_8 rfl ?_
    refine gg_iload_n (S := sX7_comeFrom) 2 11 rfl dX7_comeFrom_10 rfl rfl ?_
    refine gg_ic_ge (S := sX7_comeFrom) (tgt := 35) 14 rfl dX7_comeFrom_11 (by decide) ?_ ?_
    · refine gg_iload_n (S := sX7_comeFrom) 3 15 rfl dX7_comeFrom_14 rfl rfl ?_
      refine gg_aload_n (S := sX7_comeFrom) 0 16 rfl dX7_comeFrom_15 rfl rfl ?_
      refine gg_gr (S := sX7_comeFrom) cfX7 (by decide) (fun _ _ => rfl) 19 rfl flX7_37 dX7_comeFrom_16 (fun t3 => ?_)
      refine gg_bipush (S := sX7_comeFrom) 21 rfl dX7_comeFrom_19 (by decide) ?_
      refine gg_iload_n (S := sX7_comeFrom) 1 22 rfl dX7_comeFrom_21 rfl rfl ?_
      refine gg_imul (S := sX7_comeFrom) 23 rfl dX7_comeFrom_22 ?_
      refine gg_iload (S := sX7_comeFrom) 4 25 rfl dX7_comeFrom_23 rfl ?_
      refine gg_iadd (S := sX7_comeFrom) 26 rfl dX7_comeFrom_25 ?_
      refine gg_ld (S := sX7_comeFrom) 27 rfl dX7_comeFrom_26 (fun t4 => ?_)
      refine gg_iadd (S := sX7_comeFrom) 28 rfl dX7_comeFrom_27 ?_
      refine gg_istore_n (S := sX7_comeFrom) (L' := [(3, vi (y1 + t4)), (0, vr (some x0)), (1, vi x1), (2, vi x2), (4, vi y2)]) 29 rfl dX7_comeFrom_28 rfl (by decide) rfl ?_
      refine gg_iinc (S := sX7_comeFrom) (L' := [(4, vi (y2 + 1)), (3, vi (y1 + t4)), (0, vr (some x0)), (1, vi x1), (2, vi x2)]) 4 32 rfl dX7_comeFrom_29 rfl (by decide) rfl ?_
      refine gg_goto (S := sX7_comeFrom) (tgt := 8) dX7_comeFrom_32 (by decide) ?_
      exact gg_pure (gg_sub [2, 3, 4, 1, 0] rfl (hr8 ((y1 + t4), (y2 + 1))))
    · exact gg_pure (gg_sub [3] rfl (he8 y1))
  · intro t5
    refine gg_iload_n (S := sX7_comeFrom) 0 36 rfl dX7_comeFrom_35 rfl rfl ?_
    exact gg_pure (gg_iret (S := sX7_comeFrom) rfl dX7_comeFrom_36 (by decide) (by decide))

set_option maxRecDepth 100000 in
set_option maxHeartbeats 4000000 in
theorem lkX7_goFrom (x0 : Nat) (x1 : Int) (x2 : Int) : LK yX7_goFrom sX7_goFrom [vr (some x0), vi x1, vi x2] en_i (X7_goFrom x0 x1 x2) := by
  refine lk_go (L := [(0, vr (some x0)), (1, vi x1), (2, vi x2)]) (by decide +kernel) rfl (fun h => by cases h) (Nat.le_of_ble_eq_true rfl) rfl ?_
  intro K
  unfold X7_goFrom
  refine gg_bipush (S := sX7_goFrom) 2 rfl dX7_goFrom_0 (by decide) ?_
  refine gg_iload_n (S := sX7_goFrom) 1 3 rfl dX7_goFrom_2 rfl rfl ?_
  refine gg_imul (S := sX7_goFrom) 4 rfl dX7_goFrom_3 ?_
  refine gg_istore_n (S := sX7_goFrom) (L' := [(3, vi (28 * x1)), (0, vr (some x0)), (1, vi x1), (2, vi x2)]) 5 rfl dX7_goFrom_4 rfl (by decide) rfl ?_
  refine gg_iconst (S := sX7_goFrom) 6 rfl dX7_goFrom_5 ?_
  refine gg_istore (S := sX7_goFrom) (L' := [(4, vi 0), (3, vi (28 * x1)), (0, vr (some x0)), (1, vi x1), (2, vi x2)]) 8 rfl dX7_goFrom_6 (by decide) rfl ?_
  refine gg_sub [2, 3, 4, 1, 0] rfl ?_
  refine gg_loopA (fun (y1, y2) => [(0, vr (some x0)), (1, vi x1), (2, vi x2), (3, vi y1), (4, vi y2)]) (fun t5 => [(3, vi t5)]) 35 mo_N ?_ ?_ ((28 * x1), 0)
  · intro κ8 hr8 he8
    rintro ⟨y1, y2⟩
    dsimp only [X7_goFrom_L8]
    refine gg_iload (S := sX7_goFrom) 4 10 rfl dX7_goFrom_8 rfl ?_
    refine gg_iload_n (S := sX7_goFrom) 2 11 rfl dX7_goFrom_10 rfl rfl ?_
    refine gg_ic_ge (S := sX7_goFrom) (tgt := 35) 14 rfl dX7_goFrom_11 (by decide) ?_ ?_
    · refine gg_iload_n (S := sX7_goFrom) 3 15 rfl dX7_goFrom_14 rfl rfl ?_
      refine gg_aload_n (S := sX7_goFrom) 0 16 rfl dX7_goFrom_15 rfl rfl ?_
      refine gg_gr (S := sX7_goFrom) cfX7 (by decide) (fun _ _ => rfl) 19 rfl flX7_34 dX7_goFrom_16 (fun t3 => ?_)
      refine gg_bipush (S := sX7_goFrom) 21 rfl dX7_goFrom_19 (by decide) ?_
      refine gg_iload_n (S := sX7_goFrom) 1 22 rfl dX7_goFrom_21 rfl rfl ?_
      refine gg_imul (S := sX7_goFrom) 23 rfl dX7_goFrom_22 ?_
      refine gg_iload (S := sX7_goFrom) 4 25 rfl dX7_goFrom_23 rfl ?_
      refine gg_iadd (S := sX7_goFrom) 26 rfl dX7_goFrom_25 ?_
      refine gg_ld (S := sX7_goFrom) 27 rfl dX7_goFrom_26 (fun t4 => ?_)
      refine gg_iadd (S := sX7_goFrom) 28 rfl dX7_goFrom_27 ?_
      refine gg_istore_n (S := sX7_goFrom) (L' := [(3, vi (y1 + t4)), (0, vr (some x0)), (1, vi x1), (2, vi x2), (4, vi y2)]) 29 rfl dX7_goFrom_28 rfl (by decide) rfl ?_
      refine gg_iinc (S := sX7_goFrom) (L' := [(4, vi (y2 + 1)), (3, vi (y1 + t4)), (0, vr (some x0)), (1, vi x1), (2, vi x2)]) 4 32 rfl dX7_goFrom_29 rfl (by decide) rfl ?_
      refine gg_goto (S := sX7_goFrom) (tgt := 8) dX7_goFrom_32 (by decide) ?_
      exact gg_pure (gg_sub [2, 3, 4, 1, 0] rfl (hr8 ((y1 + t4), (y2 + 1))))
    · exact gg_pure (gg_sub [3] rfl (he8 y1))
  · intro t5
    refine gg_iload_n (S := sX7_goFrom) 0 36 rfl dX7_goFrom_35 rfl rfl ?_
    exact gg_pure (gg_iret (S := sX7_goFrom) rfl dX7_goFrom_36 (by decide) (by decide))

set_option maxRecDepth 100000 in
set_option maxHeartbeats 4000000 in
theorem lkX7_standsAt (x0 : Nat) (x1 : Int) (x2 : Int) : LK yX7_standsAt sX7_standsAt [vr (some x0), vi x1, vi x2] en_i (X7_standsAt x0 x1 x2) := by
  refine lk_go (L := [(0, vr (some x0)), (1, vi x1), (2, vi x2)]) (by decide +kernel) rfl (fun h => by cases h) (Nat.le_of_ble_eq_true rfl) rfl ?_
  intro K
  unfold X7_standsAt
  refine gg_aload_n (S := sX7_standsAt) 0 1 rfl dX7_standsAt_0 rfl rfl ?_
  refine gg_gr (S := sX7_standsAt) cfX7 (by decide) (fun _ _ => rfl) 4 rfl flX7_31 dX7_standsAt_1 (fun t1 => ?_)
  refine gg_bipush (S := sX7_standsAt) 6 rfl dX7_standsAt_4 (by decide) ?_
  refine gg_iload_n (S := sX7_standsAt) 1 7 rfl dX7_standsAt_6 rfl rfl ?_
  refine gg_imul (S := sX7_standsAt) 8 rfl dX7_standsAt_7 ?_
  refine gg_iload_n (S := sX7_standsAt) 2 9 rfl dX7_standsAt_8 rfl rfl ?_
  refine gg_iadd (S := sX7_standsAt) 10 rfl dX7_standsAt_9 ?_
  refine gg_ld (S := sX7_standsAt) 11 rfl dX7_standsAt_10 (fun t2 => ?_)
  refine gg_istore_n (S := sX7_standsAt) (L' := [(3, vi t2), (0, vr (some x0)), (1, vi x1), (2, vi x2)]) 12 rfl dX7_standsAt_11 rfl (by decide) rfl ?_
  refine gg_iconst (S := sX7_standsAt) 13 rfl dX7_standsAt_12 ?_
  refine gg_istore (S := sX7_standsAt) (L' := [(4, vi 0), (3, vi t2), (0, vr (some x0)), (1, vi x1), (2, vi x2)]) 15 rfl dX7_standsAt_13 (by decide) rfl ?_
  refine gg_sub [2, 3, 4, 1, 0] rfl ?_
  refine gg_loopA (fun (y3, y4) => [(0, vr (some x0)), (1, vi x1), (2, vi x2), (3, vi y3), (4, vi y4)]) (fun t9 => [(3, vi t9)]) 55 mo_N ?_ ?_ (t2, 0)
  · intro κ15 hr15 he15
    rintro ⟨y3, y4⟩
    dsimp only [X7_standsAt_L15]
    refine gg_iload (S := sX7_standsAt) 4 17 rfl dX7_standsAt_15 rfl ?_
    refine gg_iload_n (S := sX7_standsAt) 2 18 rfl dX7_standsAt_17 rfl rfl ?_
    refine gg_ic_ge (S := sX7_standsAt) (tgt := 55) 21 rfl dX7_standsAt_18 (by decide) ?_ ?_
    · refine gg_iload_n (S := sX7_standsAt) 3 22 rfl dX7_standsAt_21 rfl rfl ?_
      refine gg_aload_n (S := sX7_standsAt) 0 23 rfl dX7_standsAt_22 rfl rfl ?_
      refine gg_gr (S := sX7_standsAt) cfX7 (by decide) (fun _ _ => rfl) 26 rfl flX7_37 dX7_standsAt_23 (fun t5 => ?_)
      refine gg_bipush (S := sX7_standsAt) 28 rfl dX7_standsAt_26 (by decide) ?_
      refine gg_iload_n (S := sX7_standsAt) 1 29 rfl dX7_standsAt_28 rfl rfl ?_
      refine gg_imul (S := sX7_standsAt) 30 rfl dX7_standsAt_29 ?_
      refine gg_iload (S := sX7_standsAt) 4 32 rfl dX7_standsAt_30 rfl ?_
      refine gg_iadd (S := sX7_standsAt) 33 rfl dX7_standsAt_32 ?_
      refine gg_ld (S := sX7_standsAt) 34 rfl dX7_standsAt_33 (fun t6 => ?_)
      refine gg_aload_n (S := sX7_standsAt) 0 35 rfl dX7_standsAt_34 rfl rfl ?_
      refine gg_gr (S := sX7_standsAt) cfX7 (by decide) (fun _ _ => rfl) 38 rfl flX7_34 dX7_standsAt_35 (fun t7 => ?_)
      refine gg_bipush (S := sX7_standsAt) 40 rfl dX7_standsAt_38 (by decide) ?_
      refine gg_iload_n (S := sX7_standsAt) 1 41 rfl dX7_standsAt_40 rfl rfl ?_
      refine gg_imul (S := sX7_standsAt) 42 rfl dX7_standsAt_41 ?_
      refine gg_iload (S := sX7_standsAt) 4 44 rfl dX7_standsAt_42 rfl ?_
      refine gg_iadd (S := sX7_standsAt) 45 rfl dX7_standsAt_44 ?_
      refine gg_ld (S := sX7_standsAt) 46 rfl dX7_standsAt_45 (fun t8 => ?_)
      refine gg_isub (S := sX7_standsAt) 47 rfl dX7_standsAt_46 ?_
      refine gg_iadd (S := sX7_standsAt) 48 rfl dX7_standsAt_47 ?_
      refine gg_istore_n (S := sX7_standsAt) (L' := [(3, vi (y3 + (t6 - t8))), (0, vr (some x0)), (1, vi x1), (2, vi x2), (4, vi y4)]) 49 rfl dX7_standsAt_48 rfl (by decide) rfl ?_
      refine gg_iinc (S := sX7_standsAt) (L' := [(4, vi (y4 + 1)), (3, vi (y3 + (t6 - t8))), (0, vr (some x0)), (1, vi x1), (2, vi x2)]) 4 52 rfl dX7_standsAt_49 rfl (by decide) rfl ?_
      refine gg_goto (S := sX7_standsAt) (tgt := 15) dX7_standsAt_52 (by decide) ?_
      exact gg_pure (gg_sub [2, 3, 4, 1, 0] rfl (hr15 ((y3 + (t6 - t8)), (y4 + 1))))
    · exact gg_pure (gg_sub [3] rfl (he15 y3))
  · intro t9
    refine gg_iload_n (S := sX7_standsAt) 0 56 rfl dX7_standsAt_55 rfl rfl ?_
    exact gg_pure (gg_iret (S := sX7_standsAt) rfl dX7_standsAt_56 (by decide) (by decide))

set_option maxRecDepth 100000 in
set_option maxHeartbeats 4000000 in
theorem lkX7_agree (x0 : Nat) (x1 : Int) (x2 : Int) : LK yX7_agree sX7_agree [vr (some x0), vi x1, vi x2] en_i (X7_agree x0 x1 x2) := by
  refine lk_go (L := [(0, vr (some x0)), (1, vi x1), (2, vi x2)]) (by decide +kernel) rfl (fun h => by cases h) (Nat.le_of_ble_eq_true rfl) rfl ?_
  intro K
  unfold X7_agree
  refine gg_iconst (S := sX7_agree) 1 rfl dX7_agree_0 ?_
  refine gg_istore_n (S := sX7_agree) (L' := [(3, vi 0), (0, vr (some x0)), (1, vi x1), (2, vi x2)]) 2 rfl dX7_agree_1 rfl (by decide) rfl ?_
  refine gg_sub [1, 2, 3, 0] rfl ?_
  refine gg_loop (fun y1 => [(0, vr (some x0)), (1, vi x1), (2, vi x2), (3, vi y1)]) mo_N ?_ 0
  · intro rec2 hr2
    intro y1
    dsimp only [X7_agree_L2]
    refine gg_iload_n (S := sX7_agree) 3 3 rfl dX7_agree_2 rfl rfl ?_
    refine gg_aload_n (S := sX7_agree) 0 4 rfl dX7_agree_3 rfl rfl ?_
    refine gg_gr (S := sX7_agree) cfX7 (by decide) (fun _ _ => rfl) 7 rfl flX7_28 dX7_agree_4 (fun t2 => ?_)
    refine gg_iload_n (S := sX7_agree) 1 8 rfl dX7_agree_7 rfl rfl ?_
    refine gg_ld (S := sX7_agree) 9 rfl dX7_agree_8 (fun t3 => ?_)
    refine gg_ic_ge (S := sX7_agree) (tgt := 161) 12 rfl dX7_agree_9 (by decide) ?_ ?_
    · refine gg_aload_n (S := sX7_agree) 0 13 rfl dX7_agree_12 rfl rfl ?_
      refine gg_iload_n (S := sX7_agree) 1 14 rfl dX7_agree_13 rfl rfl ?_
      refine gg_iload_n (S := sX7_agree) 3 15 rfl dX7_agree_14 rfl rfl ?_
      refine gg_callVi (S := sX7_agree) (S' := sX7_standsAt) (cs := 0) (sl := 0) (As := [vi x1, vi y1]) (st := []) 18 rfl (fun b23 => lkX7_standsAt b23 x1 y1) mwX7_standsAt rfl mlX7_198 dX7_agree_15 cfX7 ⟨by decide, by decide⟩ 0 0 ⟨rfl, rfl⟩ ⟨by decide, by decide⟩ (Nat.le_of_ble_eq_true rfl) (fun t4 => ?_)
      refine gg_istore (S := sX7_agree) (L' := [(4, vi t4), (0, vr (some x0)), (1, vi x1), (2, vi x2), (3, vi y1)]) 20 rfl dX7_agree_18 (by decide) rfl ?_
      refine gg_iconst (S := sX7_agree) 21 rfl dX7_agree_20 ?_
      refine gg_istore (S := sX7_agree) (L' := [(5, vi 0), (4, vi t4), (0, vr (some x0)), (1, vi x1), (2, vi x2), (3, vi y1)]) 23 rfl dX7_agree_21 (by decide) rfl ?_
      refine gg_sub [2, 3, 4, 5, 1, 0] rfl ?_
      refine gg_loop (fun y5 => [(0, vr (some x0)), (1, vi x1), (2, vi x2), (3, vi y1), (4, vi t4), (5, vi y5)]) mo_N ?_ 0
      · intro rec23 hr23
        intro y5
        dsimp only [X7_agree_L23]
        refine gg_iload (S := sX7_agree) 5 25 rfl dX7_agree_23 rfl ?_
        refine gg_aload_n (S := sX7_agree) 0 26 rfl dX7_agree_25 rfl rfl ?_
        refine gg_gr (S := sX7_agree) cfX7 (by decide) (fun _ _ => rfl) 29 rfl flX7_28 dX7_agree_26 (fun t6 => ?_)
        refine gg_iload_n (S := sX7_agree) 2 30 rfl dX7_agree_29 rfl rfl ?_
        refine gg_ld (S := sX7_agree) 31 rfl dX7_agree_30 (fun t7 => ?_)
        refine gg_ic_ge (S := sX7_agree) (tgt := 155) 34 rfl dX7_agree_31 (by decide) ?_ ?_
        · refine gg_aload_n (S := sX7_agree) 0 35 rfl dX7_agree_34 rfl rfl ?_
          refine gg_gr (S := sX7_agree) cfX7 (by decide) (fun _ _ => rfl) 38 rfl flX7_31 dX7_agree_35 (fun t8 => ?_)
          refine gg_bipush (S := sX7_agree) 40 rfl dX7_agree_38 (by decide) ?_
          refine gg_iload_n (S := sX7_agree) 2 41 rfl dX7_agree_40 rfl rfl ?_
          refine gg_imul (S := sX7_agree) 42 rfl dX7_agree_41 ?_
          refine gg_iload (S := sX7_agree) 5 44 rfl dX7_agree_42 rfl ?_
          refine gg_iadd (S := sX7_agree) 45 rfl dX7_agree_44 ?_
          refine gg_ld (S := sX7_agree) 46 rfl dX7_agree_45 (fun t9 => ?_)
          refine gg_istore (S := sX7_agree) (L' := [(6, vi t9), (0, vr (some x0)), (1, vi x1), (2, vi x2), (3, vi y1), (4, vi t4), (5, vi y5)]) 48 rfl dX7_agree_46 (by decide) rfl ?_
          refine gg_iload (S := sX7_agree) 5 50 rfl dX7_agree_48 rfl ?_
          refine gg_iload (S := sX7_agree) 0 52 rfl dX7_agree_50 rfl ?_
          refine gg_join (fun t10 => [(0, vr (some x0)), (1, vi x1), (2, vi x2), (3, vi y1), (4, vi t4), (5, vi y5), (6, vi t9)]) (fun t10 => [vi t10]) 62 0 0 (fun κ52 hJ52 => ?_) ?_
          · refine gg_ic_le (S := sX7_agree) (tgt := 60) 55 rfl dX7_agree_52 (by decide) ?_ ?_
            · refine gg_iload (S := sX7_agree) 0 62 rfl dX7_agree_60 rfl ?_
              exact gg_pure (gg_sub [1, 2, 3, 4, 5, 6, 0] rfl (hJ52 t9))
            · refine gg_iload (S := sX7_agree) 5 57 rfl dX7_agree_55 rfl ?_
              refine gg_goto (S := sX7_agree) (tgt := 62) dX7_agree_57 (by decide) ?_
              exact gg_pure (gg_sub [1, 2, 3, 4, 5, 6, 0] rfl (hJ52 t4))
          · intro t10
            refine gg_istore (S := sX7_agree) (L' := [(7, vi t10), (0, vr (some x0)), (1, vi x1), (2, vi x2), (3, vi y1), (4, vi t4), (5, vi y5), (6, vi t9)]) 64 rfl dX7_agree_62 (by decide) rfl ?_
            refine gg_sub [1, 2, 3, 4, 5, 6, 7, 0] rfl ?_
            refine gg_loop (fun y11 => [(0, vr (some x0)), (1, vi x1), (2, vi x2), (3, vi y1), (4, vi t4), (5, vi y5), (6, vi t9), (7, vi y11)]) mo_N ?_ t10
            · intro rec64 hr64
              intro y11
              dsimp only [X7_agree_L64]
              refine gg_iload (S := sX7_agree) 7 66 rfl dX7_agree_64 rfl ?_
              refine gg_iload (S := sX7_agree) 4 68 rfl dX7_agree_66 rfl ?_
              refine gg_aload_n (S := sX7_agree) 0 69 rfl dX7_agree_68 rfl rfl ?_
              refine gg_gr (S := sX7_agree) cfX7 (by decide) (fun _ _ => rfl) 72 rfl flX7_37 dX7_agree_69 (fun t12 => ?_)
              refine gg_bipush (S := sX7_agree) 74 rfl dX7_agree_72 (by decide) ?_
              refine gg_iload_n (S := sX7_agree) 1 75 rfl dX7_agree_74 rfl rfl ?_
              refine gg_imul (S := sX7_agree) 76 rfl dX7_agree_75 ?_
              refine gg_iload_n (S := sX7_agree) 3 77 rfl dX7_agree_76 rfl rfl ?_
              refine gg_iadd (S := sX7_agree) 78 rfl dX7_agree_77 ?_
              refine gg_ld (S := sX7_agree) 79 rfl dX7_agree_78 (fun t13 => ?_)
              refine gg_iadd (S := sX7_agree) 80 rfl dX7_agree_79 ?_
              refine gg_ic_ge (S := sX7_agree) (tgt := 149) 83 rfl dX7_agree_80 (by decide) ?_ ?_
              · refine gg_iload (S := sX7_agree) 7 85 rfl dX7_agree_83 rfl ?_
                refine gg_iload (S := sX7_agree) 6 87 rfl dX7_agree_85 rfl ?_
                refine gg_aload_n (S := sX7_agree) 0 88 rfl dX7_agree_87 rfl rfl ?_
                refine gg_gr (S := sX7_agree) cfX7 (by decide) (fun _ _ => rfl) 91 rfl flX7_34 dX7_agree_88 (fun t14 => ?_)
                refine gg_bipush (S := sX7_agree) 93 rfl dX7_agree_91 (by decide) ?_
                refine gg_iload_n (S := sX7_agree) 2 94 rfl dX7_agree_93 rfl rfl ?_
                refine gg_imul (S := sX7_agree) 95 rfl dX7_agree_94 ?_
                refine gg_iload (S := sX7_agree) 5 97 rfl dX7_agree_95 rfl ?_
                refine gg_iadd (S := sX7_agree) 98 rfl dX7_agree_97 ?_
                refine gg_ld (S := sX7_agree) 99 rfl dX7_agree_98 (fun t15 => ?_)
                refine gg_iadd (S := sX7_agree) 100 rfl dX7_agree_99 ?_
                refine gg_ic_ge (S := sX7_agree) (tgt := 149) 103 rfl dX7_agree_100 (by decide) ?_ ?_
                · refine gg_aload_n (S := sX7_agree) 0 104 rfl dX7_agree_103 rfl rfl ?_
                  refine gg_gr (S := sX7_agree) cfX7 (by decide) (fun _ _ => rfl) 107 rfl flX7_43 dX7_agree_104 (fun t16 => ?_)
                  refine gg_aload_n (S := sX7_agree) 0 108 rfl dX7_agree_107 rfl rfl ?_
                  refine gg_iload_n (S := sX7_agree) 1 109 rfl dX7_agree_108 rfl rfl ?_
                  refine gg_iload_n (S := sX7_agree) 3 110 rfl dX7_agree_109 rfl rfl ?_
                  refine gg_callVi (S := sX7_agree) (S' := sX7_comeFrom) (cs := 0) (sl := 0) (As := [vi x1, vi y1]) (st := [vr t16]) 113 rfl (fun b22 => lkX7_comeFrom b22 x1 y1) mwX7_comeFrom rfl mlX7_171 dX7_agree_110 cfX7 ⟨by decide, by decide⟩ 0 0 ⟨rfl, rfl⟩ ⟨by decide, by decide⟩ (Nat.le_of_ble_eq_true rfl) (fun t17 => ?_)
                  refine gg_iload (S := sX7_agree) 7 115 rfl dX7_agree_113 rfl ?_
                  refine gg_iadd (S := sX7_agree) 116 rfl dX7_agree_115 ?_
                  refine gg_iload (S := sX7_agree) 4 118 rfl dX7_agree_116 rfl ?_
                  refine gg_isub (S := sX7_agree) 119 rfl dX7_agree_118 ?_
                  refine gg_ld (S := sX7_agree) 120 rfl dX7_agree_119 (fun t18 => ?_)
                  refine gg_aload_n (S := sX7_agree) 0 121 rfl dX7_agree_120 rfl rfl ?_
                  refine gg_gr (S := sX7_agree) cfX7 (by decide) (fun _ _ => rfl) 124 rfl flX7_40 dX7_agree_121 (fun t19 => ?_)
                  refine gg_aload_n (S := sX7_agree) 0 125 rfl dX7_agree_124 rfl rfl ?_
                  refine gg_iload_n (S := sX7_agree) 2 126 rfl dX7_agree_125 rfl rfl ?_
                  refine gg_iload (S := sX7_agree) 5 128 rfl dX7_agree_126 rfl ?_
                  refine gg_callVi (S := sX7_agree) (S' := sX7_goFrom) (cs := 0) (sl := 0) (As := [vi x2, vi y5]) (st := [vr t19, vi t18]) 131 rfl (fun b21 => lkX7_goFrom b21 x2 y5) mwX7_goFrom rfl mlX7_168 dX7_agree_128 cfX7 ⟨by decide, by decide⟩ 0 0 ⟨rfl, rfl⟩ ⟨by decide, by decide⟩ (Nat.le_of_ble_eq_true rfl) (fun t20 => ?_)
                  refine gg_iload (S := sX7_agree) 7 133 rfl dX7_agree_131 rfl ?_
                  refine gg_iadd (S := sX7_agree) 134 rfl dX7_agree_133 ?_
                  refine gg_iload (S := sX7_agree) 6 136 rfl dX7_agree_134 rfl ?_
                  refine gg_isub (S := sX7_agree) 137 rfl dX7_agree_136 ?_
                  refine gg_ld (S := sX7_agree) 138 rfl dX7_agree_137 (fun t21 => ?_)
                  refine gg_ic_eq (S := sX7_agree) (tgt := 143) 141 rfl dX7_agree_138 (by decide) ?_ ?_
                  · refine gg_iinc (S := sX7_agree) (L' := [(7, vi (y11 + 1)), (0, vr (some x0)), (1, vi x1), (2, vi x2), (3, vi y1), (4, vi t4), (5, vi y5), (6, vi t9)]) 7 146 rfl dX7_agree_143 rfl (by decide) rfl ?_
                    refine gg_goto (S := sX7_agree) (tgt := 64) dX7_agree_146 (by decide) ?_
                    exact gg_pure (gg_sub [1, 2, 3, 4, 5, 6, 7, 0] rfl (hr64 (y11 + 1)))
                  · refine gg_iconst (S := sX7_agree) 142 rfl dX7_agree_141 ?_
                    exact gg_pure (gg_zretc (S := sX7_agree) (by decide) rfl dX7_agree_142 (by decide) (by decide))
                · refine gg_iinc (S := sX7_agree) (L' := [(5, vi (y5 + 1)), (0, vr (some x0)), (1, vi x1), (2, vi x2), (3, vi y1), (4, vi t4), (6, vi t9), (7, vi y11)]) 5 152 rfl dX7_agree_149 rfl (by decide) rfl ?_
                  refine gg_goto (S := sX7_agree) (tgt := 23) dX7_agree_152 (by decide) ?_
                  exact gg_pure (gg_sub [1, 2, 3, 4, 5, 0] rfl (hr23 (y5 + 1)))
              · refine gg_iinc (S := sX7_agree) (L' := [(5, vi (y5 + 1)), (0, vr (some x0)), (1, vi x1), (2, vi x2), (3, vi y1), (4, vi t4), (6, vi t9), (7, vi y11)]) 5 152 rfl dX7_agree_149 rfl (by decide) rfl ?_
                refine gg_goto (S := sX7_agree) (tgt := 23) dX7_agree_152 (by decide) ?_
                exact gg_pure (gg_sub [1, 2, 3, 4, 5, 0] rfl (hr23 (y5 + 1)))
        · refine gg_iinc (S := sX7_agree) (L' := [(3, vi (y1 + 1)), (0, vr (some x0)), (1, vi x1), (2, vi x2), (4, vi t4), (5, vi y5)]) 3 158 rfl dX7_agree_155 rfl (by decide) rfl ?_
          refine gg_goto (S := sX7_agree) (tgt := 2) dX7_agree_158 (by decide) ?_
          exact gg_pure (gg_sub [1, 2, 3, 0] rfl (hr2 (y1 + 1)))
    · refine gg_iconst (S := sX7_agree) 162 rfl dX7_agree_161 ?_
      exact gg_pure (gg_zretc (S := sX7_agree) (by decide) rfl dX7_agree_162 (by decide) (by decide))

set_option maxRecDepth 100000 in
set_option maxHeartbeats 4000000 in
theorem lkX7_workFrom (x0 : Nat) (x1 : Int) : LK yX7_workFrom sX7_workFrom [vr (some x0), vi x1] en_i (X7_workFrom x0 x1) := by
  refine lk_go (L := [(0, vr (some x0)), (1, vi x1)]) (by decide +kernel) rfl (fun h => by cases h) (Nat.le_of_ble_eq_true rfl) rfl ?_
  intro K
  unfold X7_workFrom
  refine gg_iconst (S := sX7_workFrom) 1 rfl dX7_workFrom_0 ?_
  refine gg_istore_n (S := sX7_workFrom) (L' := [(2, vi 0), (0, vr (some x0)), (1, vi x1)]) 2 rfl dX7_workFrom_1 rfl (by decide) rfl ?_
  refine gg_iconst (S := sX7_workFrom) 3 rfl dX7_workFrom_2 ?_
  refine gg_istore_n (S := sX7_workFrom) (L' := [(3, vi 0), (2, vi 0), (0, vr (some x0)), (1, vi x1)]) 4 rfl dX7_workFrom_3 rfl (by decide) rfl ?_
  refine gg_sub [2, 3, 1, 0] rfl ?_
  refine gg_loopA (fun (y1, y2) => [(0, vr (some x0)), (1, vi x1), (2, vi y1), (3, vi y2)]) (fun t5 => [(2, vi t5)]) 24 mo_N ?_ ?_ (0, 0)
  · intro κ4 hr4 he4
    rintro ⟨y1, y2⟩
    dsimp only [X7_workFrom_L4]
    refine gg_iload_n (S := sX7_workFrom) 3 5 rfl dX7_workFrom_4 rfl rfl ?_
    refine gg_iload_n (S := sX7_workFrom) 1 6 rfl dX7_workFrom_5 rfl rfl ?_
    refine gg_ic_ge (S := sX7_workFrom) (tgt := 24) 9 rfl dX7_workFrom_6 (by decide) ?_ ?_
    · refine gg_iload_n (S := sX7_workFrom) 2 10 rfl dX7_workFrom_9 rfl rfl ?_
      refine gg_aload_n (S := sX7_workFrom) 0 11 rfl dX7_workFrom_10 rfl rfl ?_
      refine gg_gr (S := sX7_workFrom) cfX7 (by decide) (fun _ _ => rfl) 14 rfl flX7_52 dX7_workFrom_11 (fun t3 => ?_)
      refine gg_iload_n (S := sX7_workFrom) 3 15 rfl dX7_workFrom_14 rfl rfl ?_
      refine gg_ld (S := sX7_workFrom) 16 rfl dX7_workFrom_15 (fun t4 => ?_)
      refine gg_iadd (S := sX7_workFrom) 17 rfl dX7_workFrom_16 ?_
      refine gg_istore_n (S := sX7_workFrom) (L' := [(2, vi (y1 + t4)), (0, vr (some x0)), (1, vi x1), (3, vi y2)]) 18 rfl dX7_workFrom_17 rfl (by decide) rfl ?_
      refine gg_iinc (S := sX7_workFrom) (L' := [(3, vi (y2 + 1)), (2, vi (y1 + t4)), (0, vr (some x0)), (1, vi x1)]) 3 21 rfl dX7_workFrom_18 rfl (by decide) rfl ?_
      refine gg_goto (S := sX7_workFrom) (tgt := 4) dX7_workFrom_21 (by decide) ?_
      exact gg_pure (gg_sub [2, 3, 1, 0] rfl (hr4 ((y1 + t4), (y2 + 1))))
    · exact gg_pure (gg_sub [2] rfl (he4 y1))
  · intro t5
    refine gg_iload_n (S := sX7_workFrom) 0 25 rfl dX7_workFrom_24 rfl rfl ?_
    exact gg_pure (gg_iret (S := sX7_workFrom) rfl dX7_workFrom_25 (by decide) (by decide))

set_option maxRecDepth 100000 in
set_option maxHeartbeats 4000000 in
theorem lkX7_xFrom (x0 : Nat) (x1 : Int) : LK yX7_xFrom sX7_xFrom [vr (some x0), vi x1] en_i (X7_xFrom x0 x1) := by
  refine lk_go (L := [(0, vr (some x0)), (1, vi x1)]) (by decide +kernel) rfl (fun h => by cases h) (Nat.le_of_ble_eq_true rfl) rfl ?_
  intro K
  unfold X7_xFrom
  refine gg_iconst (S := sX7_xFrom) 1 rfl dX7_xFrom_0 ?_
  refine gg_istore_n (S := sX7_xFrom) (L' := [(2, vi 0), (0, vr (some x0)), (1, vi x1)]) 2 rfl dX7_xFrom_1 rfl (by decide) rfl ?_
  refine gg_iconst (S := sX7_xFrom) 3 rfl dX7_xFrom_2 ?_
  refine gg_istore_n (S := sX7_xFrom) (L' := [(3, vi 0), (2, vi 0), (0, vr (some x0)), (1, vi x1)]) 4 rfl dX7_xFrom_3 rfl (by decide) rfl ?_
  refine gg_sub [2, 3, 1, 0] rfl ?_
  refine gg_loopA (fun (y1, y2) => [(0, vr (some x0)), (1, vi x1), (2, vi y1), (3, vi y2)]) (fun t5 => [(2, vi t5)]) 24 mo_N ?_ ?_ (0, 0)
  · intro κ4 hr4 he4
    rintro ⟨y1, y2⟩
    dsimp only [X7_xFrom_L4]
    refine gg_iload_n (S := sX7_xFrom) 3 5 rfl dX7_xFrom_4 rfl rfl ?_
    refine gg_iload_n (S := sX7_xFrom) 1 6 rfl dX7_xFrom_5 rfl rfl ?_
    refine gg_ic_ge (S := sX7_xFrom) (tgt := 24) 9 rfl dX7_xFrom_6 (by decide) ?_ ?_
    · refine gg_iload_n (S := sX7_xFrom) 2 10 rfl dX7_xFrom_9 rfl rfl ?_
      refine gg_aload_n (S := sX7_xFrom) 0 11 rfl dX7_xFrom_10 rfl rfl ?_
      refine gg_gr (S := sX7_xFrom) cfX7 (by decide) (fun _ _ => rfl) 14 rfl flX7_76 dX7_xFrom_11 (fun t3 => ?_)
      refine gg_iload_n (S := sX7_xFrom) 3 15 rfl dX7_xFrom_14 rfl rfl ?_
      refine gg_ld (S := sX7_xFrom) 16 rfl dX7_xFrom_15 (fun t4 => ?_)
      refine gg_iadd (S := sX7_xFrom) 17 rfl dX7_xFrom_16 ?_
      refine gg_istore_n (S := sX7_xFrom) (L' := [(2, vi (y1 + t4)), (0, vr (some x0)), (1, vi x1), (3, vi y2)]) 18 rfl dX7_xFrom_17 rfl (by decide) rfl ?_
      refine gg_iinc (S := sX7_xFrom) (L' := [(3, vi (y2 + 1)), (2, vi (y1 + t4)), (0, vr (some x0)), (1, vi x1)]) 3 21 rfl dX7_xFrom_18 rfl (by decide) rfl ?_
      refine gg_goto (S := sX7_xFrom) (tgt := 4) dX7_xFrom_21 (by decide) ?_
      exact gg_pure (gg_sub [2, 3, 1, 0] rfl (hr4 ((y1 + t4), (y2 + 1))))
    · exact gg_pure (gg_sub [2] rfl (he4 y1))
  · intro t5
    refine gg_iload_n (S := sX7_xFrom) 0 25 rfl dX7_xFrom_24 rfl rfl ?_
    exact gg_pure (gg_iret (S := sX7_xFrom) rfl dX7_xFrom_25 (by decide) (by decide))

set_option maxRecDepth 100000 in
set_option maxHeartbeats 4000000 in
theorem lkX7_alike (x0 : Nat) (x1 : Int) (x2 : Int) : LK yX7_alike sX7_alike [vr (some x0), vi x1, vi x2] en_i (X7_alike x0 x1 x2) := by
  refine lk_go (L := [(0, vr (some x0)), (1, vi x1), (2, vi x2)]) (by decide +kernel) rfl (fun h => by cases h) (Nat.le_of_ble_eq_true rfl) rfl ?_
  intro K
  unfold X7_alike
  refine gg_aload_n (S := sX7_alike) 0 1 rfl dX7_alike_0 rfl rfl ?_
  refine gg_gr (S := sX7_alike) cfX7 (by decide) (fun _ _ => rfl) 4 rfl flX7_70 dX7_alike_1 (fun t1 => ?_)
  refine gg_iload_n (S := sX7_alike) 1 5 rfl dX7_alike_4 rfl rfl ?_
  refine gg_ld (S := sX7_alike) 6 rfl dX7_alike_5 (fun t2 => ?_)
  refine gg_aload_n (S := sX7_alike) 0 7 rfl dX7_alike_6 rfl rfl ?_
  refine gg_gr (S := sX7_alike) cfX7 (by decide) (fun _ _ => rfl) 10 rfl flX7_46 dX7_alike_7 (fun t3 => ?_)
  refine gg_iload_n (S := sX7_alike) 2 11 rfl dX7_alike_10 rfl rfl ?_
  refine gg_ld (S := sX7_alike) 12 rfl dX7_alike_11 (fun t4 => ?_)
  refine gg_join (fun t13 => [(0, vr (some x0)), (1, vi x1), (2, vi x2)]) (fun t13 => [vi t13]) 50 0 0 (fun κ12 hJ12 => ?_) ?_
  · refine gg_ic_ne (S := sX7_alike) (tgt := 49) 15 rfl dX7_alike_12 (by decide) ?_ ?_
    · refine gg_aload_n (S := sX7_alike) 0 16 rfl dX7_alike_15 rfl rfl ?_
      refine gg_gr (S := sX7_alike) cfX7 (by decide) (fun _ _ => rfl) 19 rfl flX7_73 dX7_alike_16 (fun t5 => ?_)
      refine gg_iload_n (S := sX7_alike) 1 20 rfl dX7_alike_19 rfl rfl ?_
      refine gg_ld (S := sX7_alike) 21 rfl dX7_alike_20 (fun t6 => ?_)
      refine gg_aload_n (S := sX7_alike) 0 22 rfl dX7_alike_21 rfl rfl ?_
      refine gg_gr (S := sX7_alike) cfX7 (by decide) (fun _ _ => rfl) 25 rfl flX7_49 dX7_alike_22 (fun t7 => ?_)
      refine gg_iload_n (S := sX7_alike) 2 26 rfl dX7_alike_25 rfl rfl ?_
      refine gg_ld (S := sX7_alike) 27 rfl dX7_alike_26 (fun t8 => ?_)
      refine gg_ic_ne (S := sX7_alike) (tgt := 49) 30 rfl dX7_alike_27 (by decide) ?_ ?_
      · refine gg_aload_n (S := sX7_alike) 0 31 rfl dX7_alike_30 rfl rfl ?_
        refine gg_gr (S := sX7_alike) cfX7 (by decide) (fun _ _ => rfl) 34 rfl flX7_76 dX7_alike_31 (fun t9 => ?_)
        refine gg_iload_n (S := sX7_alike) 1 35 rfl dX7_alike_34 rfl rfl ?_
        refine gg_ld (S := sX7_alike) 36 rfl dX7_alike_35 (fun t10 => ?_)
        refine gg_aload_n (S := sX7_alike) 0 37 rfl dX7_alike_36 rfl rfl ?_
        refine gg_gr (S := sX7_alike) cfX7 (by decide) (fun _ _ => rfl) 40 rfl flX7_52 dX7_alike_37 (fun t11 => ?_)
        refine gg_iload_n (S := sX7_alike) 2 41 rfl dX7_alike_40 rfl rfl ?_
        refine gg_ld (S := sX7_alike) 42 rfl dX7_alike_41 (fun t12 => ?_)
        refine gg_ic_ne (S := sX7_alike) (tgt := 49) 45 rfl dX7_alike_42 (by decide) ?_ ?_
        · refine gg_iconst (S := sX7_alike) 46 rfl dX7_alike_45 ?_
          refine gg_goto (S := sX7_alike) (tgt := 50) dX7_alike_46 (by decide) ?_
          exact gg_pure (gg_sub [0, 1, 2] rfl (hJ12 1))
        · refine gg_iconst (S := sX7_alike) 50 rfl dX7_alike_49 ?_
          exact gg_pure (gg_sub [0, 1, 2] rfl (hJ12 0))
      · refine gg_iconst (S := sX7_alike) 50 rfl dX7_alike_49 ?_
        exact gg_pure (gg_sub [0, 1, 2] rfl (hJ12 0))
    · refine gg_iconst (S := sX7_alike) 50 rfl dX7_alike_49 ?_
      exact gg_pure (gg_sub [0, 1, 2] rfl (hJ12 0))
  · intro t13
    refine gg_istore_n (S := sX7_alike) (L' := [(3, vi t13), (0, vr (some x0)), (1, vi x1), (2, vi x2)]) 51 rfl dX7_alike_50 rfl (by decide) rfl ?_
    refine gg_iconst (S := sX7_alike) 52 rfl dX7_alike_51 ?_
    refine gg_istore (S := sX7_alike) (L' := [(4, vi 0), (3, vi t13), (0, vr (some x0)), (1, vi x1), (2, vi x2)]) 54 rfl dX7_alike_52 (by decide) rfl ?_
    refine gg_sub [2, 3, 4, 1, 0] rfl ?_
    refine gg_loopA (fun (y14, y15) => [(0, vr (some x0)), (1, vi x1), (2, vi x2), (3, vi y14), (4, vi y15)]) (fun t27 => [(3, vi t27)]) 110 mo_N ?_ ?_ (t13, 0)
    · intro κ54 hr54 he54
      rintro ⟨y14, y15⟩
      dsimp only [X7_alike_L54]
      refine gg_iload (S := sX7_alike) 4 56 rfl dX7_alike_54 rfl ?_
      refine gg_aload_n (S := sX7_alike) 0 57 rfl dX7_alike_56 rfl rfl ?_
      refine gg_gr (S := sX7_alike) cfX7 (by decide) (fun _ _ => rfl) 60 rfl flX7_76 dX7_alike_57 (fun t16 => ?_)
      refine gg_iload_n (S := sX7_alike) 1 61 rfl dX7_alike_60 rfl rfl ?_
      refine gg_ld (S := sX7_alike) 62 rfl dX7_alike_61 (fun t17 => ?_)
      refine gg_ic_ge (S := sX7_alike) (tgt := 110) 65 rfl dX7_alike_62 (by decide) ?_ ?_
      · refine gg_iload_n (S := sX7_alike) 3 66 rfl dX7_alike_65 rfl rfl ?_
        refine gg_if_eq (S := sX7_alike) (tgt := 110) 69 rfl dX7_alike_66 (by decide) ?_ ?_
        · exact gg_pure (gg_sub [3] rfl (he54 y14))
        · refine gg_aload_n (S := sX7_alike) 0 70 rfl dX7_alike_69 rfl rfl ?_
          refine gg_gr (S := sX7_alike) cfX7 (by decide) (fun _ _ => rfl) 73 rfl flX7_79 dX7_alike_70 (fun t18 => ?_)
          refine gg_aload_n (S := sX7_alike) 0 74 rfl dX7_alike_73 rfl rfl ?_
          refine gg_iload_n (S := sX7_alike) 1 75 rfl dX7_alike_74 rfl rfl ?_
          refine gg_callVi (S := sX7_alike) (S' := sX7_xFrom) (cs := 0) (sl := 0) (As := [vi x1]) (st := [vr t18]) 78 rfl (fun b25 => lkX7_xFrom b25 x1) mwX7_xFrom rfl mlX7_236 dX7_alike_75 cfX7 ⟨by decide, by decide⟩ 0 0 ⟨rfl, rfl⟩ ⟨by decide, by decide⟩ (Nat.le_of_ble_eq_true rfl) (fun t19 => ?_)
          refine gg_iload (S := sX7_alike) 4 80 rfl dX7_alike_78 rfl ?_
          refine gg_iadd (S := sX7_alike) 81 rfl dX7_alike_80 ?_
          refine gg_ld (S := sX7_alike) 82 rfl dX7_alike_81 (fun t20 => ?_)
          refine gg_aload_n (S := sX7_alike) 0 83 rfl dX7_alike_82 rfl rfl ?_
          refine gg_gr (S := sX7_alike) cfX7 (by decide) (fun _ _ => rfl) 86 rfl flX7_58 dX7_alike_83 (fun t21 => ?_)
          refine gg_aload_n (S := sX7_alike) 0 87 rfl dX7_alike_86 rfl rfl ?_
          refine gg_iload_n (S := sX7_alike) 2 88 rfl dX7_alike_87 rfl rfl ?_
          refine gg_callVi (S := sX7_alike) (S' := sX7_workFrom) (cs := 0) (sl := 0) (As := [vi x2]) (st := [vr t21, vi t20]) 91 rfl (fun b24 => lkX7_workFrom b24 x2) mwX7_workFrom rfl mlX7_239 dX7_alike_88 cfX7 ⟨by decide, by decide⟩ 0 0 ⟨rfl, rfl⟩ ⟨by decide, by decide⟩ (Nat.le_of_ble_eq_true rfl) (fun t22 => ?_)
          refine gg_iload (S := sX7_alike) 4 93 rfl dX7_alike_91 rfl ?_
          refine gg_iadd (S := sX7_alike) 94 rfl dX7_alike_93 ?_
          refine gg_ld (S := sX7_alike) 95 rfl dX7_alike_94 (fun t23 => ?_)
          refine gg_join (fun t24 => [(0, vr (some x0)), (1, vi x1), (2, vi x2), (4, vi y15)]) (fun t24 => [vi t24]) 103 0 0 (fun κ95 hJ95 => ?_) ?_
          · refine gg_ic_ne (S := sX7_alike) (tgt := 102) 98 rfl dX7_alike_95 (by decide) ?_ ?_
            · refine gg_iconst (S := sX7_alike) 99 rfl dX7_alike_98 ?_
              refine gg_goto (S := sX7_alike) (tgt := 103) dX7_alike_99 (by decide) ?_
              exact gg_pure (gg_sub [0, 1, 2, 4] rfl (hJ95 1))
            · refine gg_iconst (S := sX7_alike) 103 rfl dX7_alike_102 ?_
              exact gg_pure (gg_sub [0, 1, 2, 4] rfl (hJ95 0))
          · intro t24
            refine gg_istore_n (S := sX7_alike) (L' := [(3, vi t24), (0, vr (some x0)), (1, vi x1), (2, vi x2), (4, vi y15)]) 104 rfl dX7_alike_103 rfl (by decide) rfl ?_
            refine gg_iinc (S := sX7_alike) (L' := [(4, vi (y15 + 1)), (3, vi t24), (0, vr (some x0)), (1, vi x1), (2, vi x2)]) 4 107 rfl dX7_alike_104 rfl (by decide) rfl ?_
            refine gg_goto (S := sX7_alike) (tgt := 54) dX7_alike_107 (by decide) ?_
            exact gg_pure (gg_sub [2, 3, 4, 1, 0] rfl (hr54 (t24, (y15 + 1))))
      · exact gg_pure (gg_sub [3] rfl (he54 y14))
    · intro t27
      refine gg_iload_n (S := sX7_alike) 0 111 rfl dX7_alike_110 rfl rfl ?_
      exact gg_zret (S := sX7_alike) (fun _ => rfl) rfl dX7_alike_111 (by decide) (by decide)

set_option maxRecDepth 100000 in
set_option maxHeartbeats 4000000 in
theorem lkX7_areVersions (x0 : Nat) (x1 : Int) (x2 : Int) (x3 : Int) : LK yX7_areVersions sX7_areVersions [vr (some x0), vi x1, vi x2, vi x3] en_i (X7_areVersions x0 x1 x2 x3) := by
  refine lk_go (L := [(0, vr (some x0)), (1, vi x1), (2, vi x2), (3, vi x3)]) (by decide +kernel) rfl (fun h => by cases h) (Nat.le_of_ble_eq_true rfl) rfl ?_
  intro K
  unfold X7_areVersions
  refine gg_aload_n (S := sX7_areVersions) 0 1 rfl dX7_areVersions_0 rfl rfl ?_
  refine gg_iload_n (S := sX7_areVersions) 1 2 rfl dX7_areVersions_1 rfl rfl ?_
  refine gg_callVi (S := sX7_areVersions) (S' := sX7_isVersion) (cs := 0) (sl := 0) (As := [vi x1]) (st := []) 5 rfl (fun b5 => lkX7_isVersion b5 x1) mwX7_isVersion rfl mlX7_111 dX7_areVersions_2 cfX7 ⟨by decide, by decide⟩ 0 0 ⟨rfl, rfl⟩ ⟨by decide, by decide⟩ (Nat.le_of_ble_eq_true rfl) (fun t1 => ?_)
  refine gg_if_eq (S := sX7_areVersions) (tgt := 28) 8 rfl dX7_areVersions_5 (by decide) ?_ ?_
  · refine gg_iconst (S := sX7_areVersions) 29 rfl dX7_areVersions_28 ?_
    exact gg_pure (gg_zretc (S := sX7_areVersions) (by decide) rfl dX7_areVersions_29 (by decide) (by decide))
  · refine gg_aload_n (S := sX7_areVersions) 0 9 rfl dX7_areVersions_8 rfl rfl ?_
    refine gg_iload_n (S := sX7_areVersions) 2 10 rfl dX7_areVersions_9 rfl rfl ?_
    refine gg_callVi (S := sX7_areVersions) (S' := sX7_isVersion) (cs := 0) (sl := 0) (As := [vi x2]) (st := []) 13 rfl (fun b4 => lkX7_isVersion b4 x2) mwX7_isVersion rfl mlX7_111 dX7_areVersions_10 cfX7 ⟨by decide, by decide⟩ 0 0 ⟨rfl, rfl⟩ ⟨by decide, by decide⟩ (Nat.le_of_ble_eq_true rfl) (fun t2 => ?_)
    refine gg_if_eq (S := sX7_areVersions) (tgt := 28) 16 rfl dX7_areVersions_13 (by decide) ?_ ?_
    · refine gg_iconst (S := sX7_areVersions) 29 rfl dX7_areVersions_28 ?_
      exact gg_pure (gg_zretc (S := sX7_areVersions) (by decide) rfl dX7_areVersions_29 (by decide) (by decide))
    · refine gg_aload_n (S := sX7_areVersions) 0 17 rfl dX7_areVersions_16 rfl rfl ?_
      refine gg_iload_n (S := sX7_areVersions) 3 18 rfl dX7_areVersions_17 rfl rfl ?_
      refine gg_callVi (S := sX7_areVersions) (S' := sX7_isVersion) (cs := 0) (sl := 0) (As := [vi x3]) (st := []) 21 rfl (fun b3 => lkX7_isVersion b3 x3) mwX7_isVersion rfl mlX7_111 dX7_areVersions_18 cfX7 ⟨by decide, by decide⟩ 0 0 ⟨rfl, rfl⟩ ⟨by decide, by decide⟩ (Nat.le_of_ble_eq_true rfl) (fun t3 => ?_)
      refine gg_if_eq (S := sX7_areVersions) (tgt := 28) 24 rfl dX7_areVersions_21 (by decide) ?_ ?_
      · refine gg_iconst (S := sX7_areVersions) 29 rfl dX7_areVersions_28 ?_
        exact gg_pure (gg_zretc (S := sX7_areVersions) (by decide) rfl dX7_areVersions_29 (by decide) (by decide))
      · refine gg_iconst (S := sX7_areVersions) 25 rfl dX7_areVersions_24 ?_
        refine gg_goto (S := sX7_areVersions) (tgt := 29) dX7_areVersions_25 (by decide) ?_
        exact gg_pure (gg_zretc (S := sX7_areVersions) (by decide) rfl dX7_areVersions_29 (by decide) (by decide))

set_option maxRecDepth 100000 in
set_option maxHeartbeats 4000000 in
theorem lkX7_asked (x0 : Nat) (x1 : Int) (x2 : Int) : LK yX7_asked sX7_asked [vr (some x0), vi x1, vi x2] en_i (X7_asked x0 x1 x2) := by
  refine lk_go (L := [(0, vr (some x0)), (1, vi x1), (2, vi x2)]) (by decide +kernel) rfl (fun h => by cases h) (Nat.le_of_ble_eq_true rfl) rfl ?_
  intro K
  unfold X7_asked
  refine gg_aload_n (S := sX7_asked) 0 1 rfl dX7_asked_0 rfl rfl ?_
  refine gg_iload_n (S := sX7_asked) 1 2 rfl dX7_asked_1 rfl rfl ?_
  refine gg_callVi (S := sX7_asked) (S' := sX7_isVersion) (cs := 0) (sl := 0) (As := [vi x1]) (st := []) 5 rfl (fun b6 => lkX7_isVersion b6 x1) mwX7_isVersion rfl mlX7_111 dX7_asked_2 cfX7 ⟨by decide, by decide⟩ 0 0 ⟨rfl, rfl⟩ ⟨by decide, by decide⟩ (Nat.le_of_ble_eq_true rfl) (fun t1 => ?_)
  refine gg_if_ne (S := sX7_asked) (tgt := 11) 8 rfl dX7_asked_5 (by decide) ?_ ?_
  · refine gg_bipush (S := sX7_asked) 10 rfl dX7_asked_8 (by decide) ?_
    exact gg_pure (gg_iret (S := sX7_asked) rfl dX7_asked_10 (by decide) (by decide))
  · refine gg_iload_n (S := sX7_asked) 2 12 rfl dX7_asked_11 rfl rfl ?_
    refine gg_iconst (S := sX7_asked) 13 rfl dX7_asked_12 ?_
    refine gg_bipush (S := sX7_asked) 15 rfl dX7_asked_13 (by decide) ?_
    refine gg_callSi (S := sX7_asked) (S' := sX7_within) (cs := 0) (sl := 0) (As := [vi x2, vi 0, vi 9]) (st := []) 18 rfl (lkX7_within x2 0 9) mwX7_within rfl mlX7_101 dX7_asked_15 ⟨by decide, by decide⟩ 0 0 ⟨rfl, rfl⟩ ⟨by decide, by decide⟩ (Nat.le_of_ble_eq_true rfl) (fun t2 => ?_)
    refine gg_if_ne (S := sX7_asked) (tgt := 24) 21 rfl dX7_asked_18 (by decide) ?_ ?_
    · refine gg_bipush (S := sX7_asked) 23 rfl dX7_asked_21 (by decide) ?_
      exact gg_pure (gg_iret (S := sX7_asked) rfl dX7_asked_23 (by decide) (by decide))
    · refine gg_aload_n (S := sX7_asked) 0 25 rfl dX7_asked_24 rfl rfl ?_
      refine gg_gr (S := sX7_asked) cfX7 (by decide) (fun _ _ => rfl) 28 rfl flX7_25 dX7_asked_25 (fun t3 => ?_)
      refine gg_iload_n (S := sX7_asked) 1 29 rfl dX7_asked_28 rfl rfl ?_
      refine gg_ld (S := sX7_asked) 30 rfl dX7_asked_29 (fun t4 => ?_)
      refine gg_istore_n (S := sX7_asked) (L' := [(3, vi t4), (0, vr (some x0)), (1, vi x1), (2, vi x2)]) 31 rfl dX7_asked_30 rfl (by decide) rfl ?_
      refine gg_aload_n (S := sX7_asked) 1 32 rfl dX7_asked_31 rfl rfl ?_
      refine gg_gr (S := sX7_asked) cfX7 (by decide) (fun _ _ => rfl) 35 rfl flX7_25 dX7_asked_32 (fun t5 => ?_)
      refine gg_iload_n (S := sX7_asked) 2 36 rfl dX7_asked_35 rfl rfl ?_
      refine gg_iload_n (S := sX7_asked) 3 37 rfl dX7_asked_36 rfl rfl ?_
      refine gg_st (S := sX7_asked) 38 rfl dX7_asked_37 ?_
      refine gg_iload_n (S := sX7_asked) 0 39 rfl dX7_asked_38 rfl rfl ?_
      exact gg_pure (gg_iret (S := sX7_asked) rfl dX7_asked_39 (by decide) (by decide))

set_option maxRecDepth 100000 in
set_option maxHeartbeats 4000000 in
theorem lkX7_newWork (x0 : Nat) : LK yX7_newWork sX7_newWork [vr (some x0)] en_v (X7_newWork x0) := by
  refine lk_go (L := [(0, vr (some x0))]) (by decide +kernel) rfl (fun h => by cases h) (Nat.le_of_ble_eq_true rfl) rfl ?_
  intro K
  unfold X7_newWork
  refine gg_aload_n (S := sX7_newWork) 0 1 rfl dX7_newWork_0 rfl rfl ?_
  refine gg_iconst (S := sX7_newWork) 2 rfl dX7_newWork_1 ?_
  refine gg_si (S := sX7_newWork) cfX7 (by decide) rfl (fun _ _ => rfl) rfl 5 rfl flX7_119 dX7_newWork_2 ?_
  refine gg_aload_n (S := sX7_newWork) 0 6 rfl dX7_newWork_5 rfl rfl ?_
  refine gg_iconst (S := sX7_newWork) 7 rfl dX7_newWork_6 ?_
  refine gg_si (S := sX7_newWork) cfX7 (by decide) rfl (fun _ _ => rfl) rfl 10 rfl flX7_122 dX7_newWork_7 ?_
  refine gg_aload_n (S := sX7_newWork) 0 11 rfl dX7_newWork_10 rfl rfl ?_
  refine gg_iconst (S := sX7_newWork) 12 rfl dX7_newWork_11 ?_
  refine gg_si (S := sX7_newWork) cfX7 (by decide) rfl (fun _ _ => rfl) rfl 15 rfl flX7_125 dX7_newWork_12 ?_
  exact gg_pure (gg_vret (S := sX7_newWork) rfl dX7_newWork_15 (by decide) (by decide))

set_option maxRecDepth 100000 in
set_option maxHeartbeats 4000000 in
theorem lkX7_storeWork (x0 : Nat) : LK yX7_storeWork sX7_storeWork [vr (some x0)] en_i (X7_storeWork x0) := by
  refine lk_go (L := [(0, vr (some x0))]) (by decide +kernel) rfl (fun h => by cases h) (Nat.le_of_ble_eq_true rfl) rfl ?_
  intro K
  unfold X7_storeWork
  refine gg_aload_n (S := sX7_storeWork) 0 1 rfl dX7_storeWork_0 rfl rfl ?_
  refine gg_gr (S := sX7_storeWork) cfX7 (by decide) (fun _ _ => rfl) 4 rfl flX7_28 dX7_storeWork_1 (fun t1 => ?_)
  refine gg_aload_n (S := sX7_storeWork) 0 5 rfl dX7_storeWork_4 rfl rfl ?_
  refine gg_gi (S := sX7_storeWork) cfX7 (by decide) (fun _ _ => rfl) 8 rfl flX7_105 dX7_storeWork_5 (fun t2 => ?_)
  refine gg_aload_n (S := sX7_storeWork) 0 9 rfl dX7_storeWork_8 rfl rfl ?_
  refine gg_gi (S := sX7_storeWork) cfX7 (by decide) (fun _ _ => rfl) 12 rfl flX7_119 dX7_storeWork_9 (fun t3 => ?_)
  refine gg_st (S := sX7_storeWork) 13 rfl dX7_storeWork_12 ?_
  refine gg_iconst (S := sX7_storeWork) 14 rfl dX7_storeWork_13 ?_
  refine gg_istore_n (S := sX7_storeWork) (L' := [(1, vi 0), (0, vr (some x0))]) 15 rfl dX7_storeWork_14 rfl (by decide) rfl ?_
  refine gg_sub [1, 0] rfl ?_
  refine gg_loopA (fun y4 => [(0, vr (some x0)), (1, vi y4)]) (fun _ => [(0, vr (some x0))]) 89 mo_N ?_ ?_ 0
  · intro κ15 hr15 he15
    intro y4
    dsimp only [X7_storeWork_L15]
    refine gg_iload_n (S := sX7_storeWork) 1 16 rfl dX7_storeWork_15 rfl rfl ?_
    refine gg_aload_n (S := sX7_storeWork) 0 17 rfl dX7_storeWork_16 rfl rfl ?_
    refine gg_gi (S := sX7_storeWork) cfX7 (by decide) (fun _ _ => rfl) 20 rfl flX7_119 dX7_storeWork_17 (fun t5 => ?_)
    refine gg_ic_ge (S := sX7_storeWork) (tgt := 89) 23 rfl dX7_storeWork_20 (by decide) ?_ ?_
    · refine gg_aload_n (S := sX7_storeWork) 0 24 rfl dX7_storeWork_23 rfl rfl ?_
      refine gg_gr (S := sX7_storeWork) cfX7 (by decide) (fun _ _ => rfl) 27 rfl flX7_31 dX7_storeWork_24 (fun t6 => ?_)
      refine gg_bipush (S := sX7_storeWork) 29 rfl dX7_storeWork_27 (by decide) ?_
      refine gg_aload_n (S := sX7_storeWork) 0 30 rfl dX7_storeWork_29 rfl rfl ?_
      refine gg_gi (S := sX7_storeWork) cfX7 (by decide) (fun _ _ => rfl) 33 rfl flX7_105 dX7_storeWork_30 (fun t7 => ?_)
      refine gg_imul (S := sX7_storeWork) 34 rfl dX7_storeWork_33 ?_
      refine gg_iload_n (S := sX7_storeWork) 1 35 rfl dX7_storeWork_34 rfl rfl ?_
      refine gg_iadd (S := sX7_storeWork) 36 rfl dX7_storeWork_35 ?_
      refine gg_aload_n (S := sX7_storeWork) 0 37 rfl dX7_storeWork_36 rfl rfl ?_
      refine gg_gr (S := sX7_storeWork) cfX7 (by decide) (fun _ _ => rfl) 40 rfl flX7_46 dX7_storeWork_37 (fun t8 => ?_)
      refine gg_iload_n (S := sX7_storeWork) 1 41 rfl dX7_storeWork_40 rfl rfl ?_
      refine gg_ld (S := sX7_storeWork) 42 rfl dX7_storeWork_41 (fun t9 => ?_)
      refine gg_st (S := sX7_storeWork) 43 rfl dX7_storeWork_42 ?_
      refine gg_aload_n (S := sX7_storeWork) 0 44 rfl dX7_storeWork_43 rfl rfl ?_
      refine gg_gr (S := sX7_storeWork) cfX7 (by decide) (fun _ _ => rfl) 47 rfl flX7_34 dX7_storeWork_44 (fun t10 => ?_)
      refine gg_bipush (S := sX7_storeWork) 49 rfl dX7_storeWork_47 (by decide) ?_
      refine gg_aload_n (S := sX7_storeWork) 0 50 rfl dX7_storeWork_49 rfl rfl ?_
      refine gg_gi (S := sX7_storeWork) cfX7 (by decide) (fun _ _ => rfl) 53 rfl flX7_105 dX7_storeWork_50 (fun t11 => ?_)
      refine gg_imul (S := sX7_storeWork) 54 rfl dX7_storeWork_53 ?_
      refine gg_iload_n (S := sX7_storeWork) 1 55 rfl dX7_storeWork_54 rfl rfl ?_
      refine gg_iadd (S := sX7_storeWork) 56 rfl dX7_storeWork_55 ?_
      refine gg_aload_n (S := sX7_storeWork) 0 57 rfl dX7_storeWork_56 rfl rfl ?_
      refine gg_gr (S := sX7_storeWork) cfX7 (by decide) (fun _ _ => rfl) 60 rfl flX7_49 dX7_storeWork_57 (fun t12 => ?_)
      refine gg_iload_n (S := sX7_storeWork) 1 61 rfl dX7_storeWork_60 rfl rfl ?_
      refine gg_ld (S := sX7_storeWork) 62 rfl dX7_storeWork_61 (fun t13 => ?_)
      refine gg_st (S := sX7_storeWork) 63 rfl dX7_storeWork_62 ?_
      refine gg_aload_n (S := sX7_storeWork) 0 64 rfl dX7_storeWork_63 rfl rfl ?_
      refine gg_gr (S := sX7_storeWork) cfX7 (by decide) (fun _ _ => rfl) 67 rfl flX7_37 dX7_storeWork_64 (fun t14 => ?_)
      refine gg_bipush (S := sX7_storeWork) 69 rfl dX7_storeWork_67 (by decide) ?_
      refine gg_aload_n (S := sX7_storeWork) 0 70 rfl dX7_storeWork_69 rfl rfl ?_
      refine gg_gi (S := sX7_storeWork) cfX7 (by decide) (fun _ _ => rfl) 73 rfl flX7_105 dX7_storeWork_70 (fun t15 => ?_)
      refine gg_imul (S := sX7_storeWork) 74 rfl dX7_storeWork_73 ?_
      refine gg_iload_n (S := sX7_storeWork) 1 75 rfl dX7_storeWork_74 rfl rfl ?_
      refine gg_iadd (S := sX7_storeWork) 76 rfl dX7_storeWork_75 ?_
      refine gg_aload_n (S := sX7_storeWork) 0 77 rfl dX7_storeWork_76 rfl rfl ?_
      refine gg_gr (S := sX7_storeWork) cfX7 (by decide) (fun _ _ => rfl) 80 rfl flX7_52 dX7_storeWork_77 (fun t16 => ?_)
      refine gg_iload_n (S := sX7_storeWork) 1 81 rfl dX7_storeWork_80 rfl rfl ?_
      refine gg_ld (S := sX7_storeWork) 82 rfl dX7_storeWork_81 (fun t17 => ?_)
      refine gg_st (S := sX7_storeWork) 83 rfl dX7_storeWork_82 ?_
      refine gg_iinc (S := sX7_storeWork) (L' := [(1, vi (y4 + 1)), (0, vr (some x0))]) 1 86 rfl dX7_storeWork_83 rfl (by decide) rfl ?_
      refine gg_goto (S := sX7_storeWork) (tgt := 15) dX7_storeWork_86 (by decide) ?_
      exact gg_pure (gg_sub [1, 0] rfl (hr15 (y4 + 1)))
    · exact gg_pure (gg_sub [0] rfl (he15 ()))
  · intro _
    refine gg_iconst (S := sX7_storeWork) 90 rfl dX7_storeWork_89 ?_
    refine gg_istore_n (S := sX7_storeWork) (L' := [(1, vi 0), (0, vr (some x0))]) 91 rfl dX7_storeWork_90 rfl (by decide) rfl ?_
    refine gg_sub [1, 0] rfl ?_
    refine gg_loopA (fun y18 => [(0, vr (some x0)), (1, vi y18)]) (fun _ => [(0, vr (some x0))]) 125 mo_N ?_ ?_ 0
    · intro κ91 hr91 he91
      intro y18
      dsimp only [X7_storeWork_L91]
      refine gg_iload_n (S := sX7_storeWork) 1 92 rfl dX7_storeWork_91 rfl rfl ?_
      refine gg_aload_n (S := sX7_storeWork) 0 93 rfl dX7_storeWork_92 rfl rfl ?_
      refine gg_gi (S := sX7_storeWork) cfX7 (by decide) (fun _ _ => rfl) 96 rfl flX7_122 dX7_storeWork_93 (fun t19 => ?_)
      refine gg_ic_ge (S := sX7_storeWork) (tgt := 125) 99 rfl dX7_storeWork_96 (by decide) ?_ ?_
      · refine gg_aload_n (S := sX7_storeWork) 0 100 rfl dX7_storeWork_99 rfl rfl ?_
        refine gg_gr (S := sX7_storeWork) cfX7 (by decide) (fun _ _ => rfl) 103 rfl flX7_40 dX7_storeWork_100 (fun t20 => ?_)
        refine gg_bipush (S := sX7_storeWork) 105 rfl dX7_storeWork_103 (by decide) ?_
        refine gg_aload_n (S := sX7_storeWork) 0 106 rfl dX7_storeWork_105 rfl rfl ?_
        refine gg_gi (S := sX7_storeWork) cfX7 (by decide) (fun _ _ => rfl) 109 rfl flX7_105 dX7_storeWork_106 (fun t21 => ?_)
        refine gg_imul (S := sX7_storeWork) 110 rfl dX7_storeWork_109 ?_
        refine gg_iload_n (S := sX7_storeWork) 1 111 rfl dX7_storeWork_110 rfl rfl ?_
        refine gg_iadd (S := sX7_storeWork) 112 rfl dX7_storeWork_111 ?_
        refine gg_aload_n (S := sX7_storeWork) 0 113 rfl dX7_storeWork_112 rfl rfl ?_
        refine gg_gr (S := sX7_storeWork) cfX7 (by decide) (fun _ _ => rfl) 116 rfl flX7_55 dX7_storeWork_113 (fun t22 => ?_)
        refine gg_iload_n (S := sX7_storeWork) 1 117 rfl dX7_storeWork_116 rfl rfl ?_
        refine gg_ld (S := sX7_storeWork) 118 rfl dX7_storeWork_117 (fun t23 => ?_)
        refine gg_st (S := sX7_storeWork) 119 rfl dX7_storeWork_118 ?_
        refine gg_iinc (S := sX7_storeWork) (L' := [(1, vi (y18 + 1)), (0, vr (some x0))]) 1 122 rfl dX7_storeWork_119 rfl (by decide) rfl ?_
        refine gg_goto (S := sX7_storeWork) (tgt := 91) dX7_storeWork_122 (by decide) ?_
        exact gg_pure (gg_sub [1, 0] rfl (hr91 (y18 + 1)))
      · exact gg_pure (gg_sub [0] rfl (he91 ()))
    · intro _
      refine gg_iconst (S := sX7_storeWork) 126 rfl dX7_storeWork_125 ?_
      refine gg_istore_n (S := sX7_storeWork) (L' := [(1, vi 0), (0, vr (some x0))]) 127 rfl dX7_storeWork_126 rfl (by decide) rfl ?_
      refine gg_sub [1, 0] rfl ?_
      refine gg_loopA (fun y24 => [(0, vr (some x0)), (1, vi y24)]) (fun _ => [(0, vr (some x0))]) 161 mo_N ?_ ?_ 0
      · intro κ127 hr127 he127
        intro y24
        dsimp only [X7_storeWork_L127]
        refine gg_iload_n (S := sX7_storeWork) 1 128 rfl dX7_storeWork_127 rfl rfl ?_
        refine gg_aload_n (S := sX7_storeWork) 0 129 rfl dX7_storeWork_128 rfl rfl ?_
        refine gg_gi (S := sX7_storeWork) cfX7 (by decide) (fun _ _ => rfl) 132 rfl flX7_125 dX7_storeWork_129 (fun t25 => ?_)
        refine gg_ic_ge (S := sX7_storeWork) (tgt := 161) 135 rfl dX7_storeWork_132 (by decide) ?_ ?_
        · refine gg_aload_n (S := sX7_storeWork) 0 136 rfl dX7_storeWork_135 rfl rfl ?_
          refine gg_gr (S := sX7_storeWork) cfX7 (by decide) (fun _ _ => rfl) 139 rfl flX7_43 dX7_storeWork_136 (fun t26 => ?_)
          refine gg_bipush (S := sX7_storeWork) 141 rfl dX7_storeWork_139 (by decide) ?_
          refine gg_aload_n (S := sX7_storeWork) 0 142 rfl dX7_storeWork_141 rfl rfl ?_
          refine gg_gi (S := sX7_storeWork) cfX7 (by decide) (fun _ _ => rfl) 145 rfl flX7_105 dX7_storeWork_142 (fun t27 => ?_)
          refine gg_imul (S := sX7_storeWork) 146 rfl dX7_storeWork_145 ?_
          refine gg_iload_n (S := sX7_storeWork) 1 147 rfl dX7_storeWork_146 rfl rfl ?_
          refine gg_iadd (S := sX7_storeWork) 148 rfl dX7_storeWork_147 ?_
          refine gg_aload_n (S := sX7_storeWork) 0 149 rfl dX7_storeWork_148 rfl rfl ?_
          refine gg_gr (S := sX7_storeWork) cfX7 (by decide) (fun _ _ => rfl) 152 rfl flX7_58 dX7_storeWork_149 (fun t28 => ?_)
          refine gg_iload_n (S := sX7_storeWork) 1 153 rfl dX7_storeWork_152 rfl rfl ?_
          refine gg_ld (S := sX7_storeWork) 154 rfl dX7_storeWork_153 (fun t29 => ?_)
          refine gg_st (S := sX7_storeWork) 155 rfl dX7_storeWork_154 ?_
          refine gg_iinc (S := sX7_storeWork) (L' := [(1, vi (y24 + 1)), (0, vr (some x0))]) 1 158 rfl dX7_storeWork_155 rfl (by decide) rfl ?_
          refine gg_goto (S := sX7_storeWork) (tgt := 127) dX7_storeWork_158 (by decide) ?_
          exact gg_pure (gg_sub [1, 0] rfl (hr127 (y24 + 1)))
        · exact gg_pure (gg_sub [0] rfl (he127 ()))
      · intro _
        refine gg_aload_n (S := sX7_storeWork) 0 162 rfl dX7_storeWork_161 rfl rfl ?_
        refine gg_dup (S := sX7_storeWork) 163 rfl dX7_storeWork_162 rfl ?_
        refine gg_gi (S := sX7_storeWork) cfX7 (by decide) (fun _ _ => rfl) 166 rfl flX7_105 dX7_storeWork_163 (fun t30 => ?_)
        refine gg_iconst (S := sX7_storeWork) 167 rfl dX7_storeWork_166 ?_
        refine gg_iadd (S := sX7_storeWork) 168 rfl dX7_storeWork_167 ?_
        refine gg_si (S := sX7_storeWork) cfX7 (by decide) rfl (fun _ _ => rfl) rfl 171 rfl flX7_105 dX7_storeWork_168 ?_
        refine gg_aload_n (S := sX7_storeWork) 0 172 rfl dX7_storeWork_171 rfl rfl ?_
        refine gg_gi (S := sX7_storeWork) cfX7 (by decide) (fun _ _ => rfl) 175 rfl flX7_105 dX7_storeWork_172 (fun t31 => ?_)
        refine gg_iconst (S := sX7_storeWork) 176 rfl dX7_storeWork_175 ?_
        refine gg_isub (S := sX7_storeWork) 177 rfl dX7_storeWork_176 ?_
        exact gg_pure (gg_iret (S := sX7_storeWork) rfl dX7_storeWork_177 (by decide) (by decide))

set_option maxRecDepth 100000 in
set_option maxHeartbeats 4000000 in
theorem lkX7_blank (x0 : Nat) : LK yX7_blank sX7_blank [vr (some x0)] en_i (X7_blank x0) := by
  refine lk_go (L := [(0, vr (some x0))]) (by decide +kernel) rfl (fun h => by cases h) (Nat.le_of_ble_eq_true rfl) rfl ?_
  intro K
  unfold X7_blank
  refine gg_aload_n (S := sX7_blank) 0 1 rfl dX7_blank_0 rfl rfl ?_
  refine gg_gi (S := sX7_blank) cfX7 (by decide) (fun _ _ => rfl) 4 rfl flX7_105 dX7_blank_1 (fun t1 => ?_)
  refine gg_bipush (S := sX7_blank) 6 rfl dX7_blank_4 (by decide) ?_
  refine gg_ic_ne (S := sX7_blank) (tgt := 12) 9 rfl dX7_blank_6 (by decide) ?_ ?_
  · refine gg_bipush (S := sX7_blank) 11 rfl dX7_blank_9 (by decide) ?_
    exact gg_pure (gg_iret (S := sX7_blank) rfl dX7_blank_11 (by decide) (by decide))
  · refine gg_aload_n (S := sX7_blank) 0 13 rfl dX7_blank_12 rfl rfl ?_
    refine gg_callVv (S := sX7_blank) (S' := sX7_newWork) (cs := 0) (sl := 0) (As := []) (st := []) 16 rfl (fun b3 => lkX7_newWork b3) mwX7_newWork rfl mlX7_128 dX7_blank_13 cfX7 ⟨by decide, by decide⟩ 0 0 ⟨rfl, rfl⟩ ⟨by decide, by decide⟩ (Nat.le_of_ble_eq_true rfl) (fun _ => ?_)
    refine gg_aload_n (S := sX7_blank) 0 17 rfl dX7_blank_16 rfl rfl ?_
    refine gg_callVi (S := sX7_blank) (S' := sX7_storeWork) (cs := 0) (sl := 0) (As := []) (st := []) 20 rfl (fun b2 => lkX7_storeWork b2) mwX7_storeWork rfl mlX7_152 dX7_blank_17 cfX7 ⟨by decide, by decide⟩ 0 0 ⟨rfl, rfl⟩ ⟨by decide, by decide⟩ (Nat.le_of_ble_eq_true rfl) (fun t2 => ?_)
    exact gg_pure (gg_iret (S := sX7_blank) rfl dX7_blank_20 (by decide) (by decide))

set_option maxRecDepth 100000 in
set_option maxHeartbeats 4000000 in
theorem lkX7_comes (x0 : Nat) (x1 : Int) : LK yX7_comes sX7_comes [vr (some x0), vi x1] en_v (X7_comes x0 x1) := by
  refine lk_go (L := [(0, vr (some x0)), (1, vi x1)]) (by decide +kernel) rfl (fun h => by cases h) (Nat.le_of_ble_eq_true rfl) rfl ?_
  intro K
  unfold X7_comes
  refine gg_aload_n (S := sX7_comes) 0 1 rfl dX7_comes_0 rfl rfl ?_
  refine gg_gr (S := sX7_comes) cfX7 (by decide) (fun _ _ => rfl) 4 rfl flX7_58 dX7_comes_1 (fun t1 => ?_)
  refine gg_aload_n (S := sX7_comes) 0 5 rfl dX7_comes_4 rfl rfl ?_
  refine gg_gi (S := sX7_comes) cfX7 (by decide) (fun _ _ => rfl) 8 rfl flX7_125 dX7_comes_5 (fun t2 => ?_)
  refine gg_iload_n (S := sX7_comes) 1 9 rfl dX7_comes_8 rfl rfl ?_
  refine gg_st (S := sX7_comes) 10 rfl dX7_comes_9 ?_
  refine gg_aload_n (S := sX7_comes) 0 11 rfl dX7_comes_10 rfl rfl ?_
  refine gg_dup (S := sX7_comes) 12 rfl dX7_comes_11 rfl ?_
  refine gg_gi (S := sX7_comes) cfX7 (by decide) (fun _ _ => rfl) 15 rfl flX7_125 dX7_comes_12 (fun t3 => ?_)
  refine gg_iconst (S := sX7_comes) 16 rfl dX7_comes_15 ?_
  refine gg_iadd (S := sX7_comes) 17 rfl dX7_comes_16 ?_
  refine gg_si (S := sX7_comes) cfX7 (by decide) rfl (fun _ _ => rfl) rfl 20 rfl flX7_125 dX7_comes_17 ?_
  refine gg_aload_n (S := sX7_comes) 0 21 rfl dX7_comes_20 rfl rfl ?_
  refine gg_gr (S := sX7_comes) cfX7 (by decide) (fun _ _ => rfl) 24 rfl flX7_52 dX7_comes_21 (fun t4 => ?_)
  refine gg_aload_n (S := sX7_comes) 0 25 rfl dX7_comes_24 rfl rfl ?_
  refine gg_gi (S := sX7_comes) cfX7 (by decide) (fun _ _ => rfl) 28 rfl flX7_119 dX7_comes_25 (fun t5 => ?_)
  refine gg_iconst (S := sX7_comes) 29 rfl dX7_comes_28 ?_
  refine gg_isub (S := sX7_comes) 30 rfl dX7_comes_29 ?_
  refine gg_dup2 (S := sX7_comes) 31 rfl dX7_comes_30 rfl rfl ?_
  refine gg_ld (S := sX7_comes) 32 rfl dX7_comes_31 (fun t6 => ?_)
  refine gg_iconst (S := sX7_comes) 33 rfl dX7_comes_32 ?_
  refine gg_iadd (S := sX7_comes) 34 rfl dX7_comes_33 ?_
  refine gg_st (S := sX7_comes) 35 rfl dX7_comes_34 ?_
  exact gg_pure (gg_vret (S := sX7_comes) rfl dX7_comes_35 (by decide) (by decide))

set_option maxRecDepth 100000 in
set_option maxHeartbeats 4000000 in
theorem lkX7_goes (x0 : Nat) (x1 : Int) : LK yX7_goes sX7_goes [vr (some x0), vi x1] en_v (X7_goes x0 x1) := by
  refine lk_go (L := [(0, vr (some x0)), (1, vi x1)]) (by decide +kernel) rfl (fun h => by cases h) (Nat.le_of_ble_eq_true rfl) rfl ?_
  intro K
  unfold X7_goes
  refine gg_aload_n (S := sX7_goes) 0 1 rfl dX7_goes_0 rfl rfl ?_
  refine gg_gr (S := sX7_goes) cfX7 (by decide) (fun _ _ => rfl) 4 rfl flX7_55 dX7_goes_1 (fun t1 => ?_)
  refine gg_aload_n (S := sX7_goes) 0 5 rfl dX7_goes_4 rfl rfl ?_
  refine gg_gi (S := sX7_goes) cfX7 (by decide) (fun _ _ => rfl) 8 rfl flX7_122 dX7_goes_5 (fun t2 => ?_)
  refine gg_iload_n (S := sX7_goes) 1 9 rfl dX7_goes_8 rfl rfl ?_
  refine gg_st (S := sX7_goes) 10 rfl dX7_goes_9 ?_
  refine gg_aload_n (S := sX7_goes) 0 11 rfl dX7_goes_10 rfl rfl ?_
  refine gg_dup (S := sX7_goes) 12 rfl dX7_goes_11 rfl ?_
  refine gg_gi (S := sX7_goes) cfX7 (by decide) (fun _ _ => rfl) 15 rfl flX7_122 dX7_goes_12 (fun t3 => ?_)
  refine gg_iconst (S := sX7_goes) 16 rfl dX7_goes_15 ?_
  refine gg_iadd (S := sX7_goes) 17 rfl dX7_goes_16 ?_
  refine gg_si (S := sX7_goes) cfX7 (by decide) rfl (fun _ _ => rfl) rfl 20 rfl flX7_122 dX7_goes_17 ?_
  refine gg_aload_n (S := sX7_goes) 0 21 rfl dX7_goes_20 rfl rfl ?_
  refine gg_gr (S := sX7_goes) cfX7 (by decide) (fun _ _ => rfl) 24 rfl flX7_49 dX7_goes_21 (fun t4 => ?_)
  refine gg_aload_n (S := sX7_goes) 0 25 rfl dX7_goes_24 rfl rfl ?_
  refine gg_gi (S := sX7_goes) cfX7 (by decide) (fun _ _ => rfl) 28 rfl flX7_119 dX7_goes_25 (fun t5 => ?_)
  refine gg_iconst (S := sX7_goes) 29 rfl dX7_goes_28 ?_
  refine gg_isub (S := sX7_goes) 30 rfl dX7_goes_29 ?_
  refine gg_dup2 (S := sX7_goes) 31 rfl dX7_goes_30 rfl rfl ?_
  refine gg_ld (S := sX7_goes) 32 rfl dX7_goes_31 (fun t6 => ?_)
  refine gg_iconst (S := sX7_goes) 33 rfl dX7_goes_32 ?_
  refine gg_iadd (S := sX7_goes) 34 rfl dX7_goes_33 ?_
  refine gg_st (S := sX7_goes) 35 rfl dX7_goes_34 ?_
  exact gg_pure (gg_vret (S := sX7_goes) rfl dX7_goes_35 (by decide) (by decide))

set_option maxRecDepth 100000 in
set_option maxHeartbeats 4000000 in
theorem lkX7_newHunk (x0 : Nat) (x1 : Int) : LK yX7_newHunk sX7_newHunk [vr (some x0), vi x1] en_v (X7_newHunk x0 x1) := by
  refine lk_go (L := [(0, vr (some x0)), (1, vi x1)]) (by decide +kernel) rfl (fun h => by cases h) (Nat.le_of_ble_eq_true rfl) rfl ?_
  intro K
  unfold X7_newHunk
  refine gg_aload_n (S := sX7_newHunk) 0 1 rfl dX7_newHunk_0 rfl rfl ?_
  refine gg_gr (S := sX7_newHunk) cfX7 (by decide) (fun _ _ => rfl) 4 rfl flX7_46 dX7_newHunk_1 (fun t1 => ?_)
  refine gg_aload_n (S := sX7_newHunk) 0 5 rfl dX7_newHunk_4 rfl rfl ?_
  refine gg_gi (S := sX7_newHunk) cfX7 (by decide) (fun _ _ => rfl) 8 rfl flX7_119 dX7_newHunk_5 (fun t2 => ?_)
  refine gg_iload_n (S := sX7_newHunk) 1 9 rfl dX7_newHunk_8 rfl rfl ?_
  refine gg_st (S := sX7_newHunk) 10 rfl dX7_newHunk_9 ?_
  refine gg_aload_n (S := sX7_newHunk) 0 11 rfl dX7_newHunk_10 rfl rfl ?_
  refine gg_gr (S := sX7_newHunk) cfX7 (by decide) (fun _ _ => rfl) 14 rfl flX7_49 dX7_newHunk_11 (fun t3 => ?_)
  refine gg_aload_n (S := sX7_newHunk) 0 15 rfl dX7_newHunk_14 rfl rfl ?_
  refine gg_gi (S := sX7_newHunk) cfX7 (by decide) (fun _ _ => rfl) 18 rfl flX7_119 dX7_newHunk_15 (fun t4 => ?_)
  refine gg_iconst (S := sX7_newHunk) 19 rfl dX7_newHunk_18 ?_
  refine gg_st (S := sX7_newHunk) 20 rfl dX7_newHunk_19 ?_
  refine gg_aload_n (S := sX7_newHunk) 0 21 rfl dX7_newHunk_20 rfl rfl ?_
  refine gg_gr (S := sX7_newHunk) cfX7 (by decide) (fun _ _ => rfl) 24 rfl flX7_52 dX7_newHunk_21 (fun t5 => ?_)
  refine gg_aload_n (S := sX7_newHunk) 0 25 rfl dX7_newHunk_24 rfl rfl ?_
  refine gg_gi (S := sX7_newHunk) cfX7 (by decide) (fun _ _ => rfl) 28 rfl flX7_119 dX7_newHunk_25 (fun t6 => ?_)
  refine gg_iconst (S := sX7_newHunk) 29 rfl dX7_newHunk_28 ?_
  refine gg_st (S := sX7_newHunk) 30 rfl dX7_newHunk_29 ?_
  refine gg_aload_n (S := sX7_newHunk) 0 31 rfl dX7_newHunk_30 rfl rfl ?_
  refine gg_dup (S := sX7_newHunk) 32 rfl dX7_newHunk_31 rfl ?_
  refine gg_gi (S := sX7_newHunk) cfX7 (by decide) (fun _ _ => rfl) 35 rfl flX7_119 dX7_newHunk_32 (fun t7 => ?_)
  refine gg_iconst (S := sX7_newHunk) 36 rfl dX7_newHunk_35 ?_
  refine gg_iadd (S := sX7_newHunk) 37 rfl dX7_newHunk_36 ?_
  refine gg_si (S := sX7_newHunk) cfX7 (by decide) rfl (fun _ _ => rfl) rfl 40 rfl flX7_119 dX7_newHunk_37 ?_
  exact gg_pure (gg_vret (S := sX7_newHunk) rfl dX7_newHunk_40 (by decide) (by decide))

set_option maxRecDepth 100000 in
set_option maxHeartbeats 4000000 in
theorem lkX7_layDifference (x0 : Nat) (x1 : Int) (x2 : Int) : LK yX7_layDifference sX7_layDifference [vr (some x0), vi x1, vi x2] en_v (X7_layDifference x0 x1 x2) := by
  refine lk_go (L := [(0, vr (some x0)), (1, vi x1), (2, vi x2)]) (by decide +kernel) rfl (fun h => by cases h) (Nat.le_of_ble_eq_true rfl) rfl ?_
  intro K
  unfold X7_layDifference
  refine gg_aload_n (S := sX7_layDifference) 0 1 rfl dX7_layDifference_0 rfl rfl ?_
  refine gg_gr (S := sX7_layDifference) cfX7 (by decide) (fun _ _ => rfl) 4 rfl flX7_13 dX7_layDifference_1 (fun t1 => ?_)
  refine gg_iload_n (S := sX7_layDifference) 1 5 rfl dX7_layDifference_4 rfl rfl ?_
  refine gg_ld (S := sX7_layDifference) 6 rfl dX7_layDifference_5 (fun t2 => ?_)
  refine gg_istore_n (S := sX7_layDifference) (L' := [(3, vi t2), (0, vr (some x0)), (1, vi x1), (2, vi x2)]) 7 rfl dX7_layDifference_6 rfl (by decide) rfl ?_
  refine gg_aload_n (S := sX7_layDifference) 1 8 rfl dX7_layDifference_7 rfl rfl ?_
  refine gg_gr (S := sX7_layDifference) cfX7 (by decide) (fun _ _ => rfl) 11 rfl flX7_13 dX7_layDifference_8 (fun t3 => ?_)
  refine gg_iload_n (S := sX7_layDifference) 3 12 rfl dX7_layDifference_11 rfl rfl ?_
  refine gg_ld (S := sX7_layDifference) 13 rfl dX7_layDifference_12 (fun t4 => ?_)
  refine gg_istore (S := sX7_layDifference) (L' := [(4, vi t4), (3, vi t2), (0, vr (some x0)), (1, vi x1), (2, vi x2)]) 15 rfl dX7_layDifference_13 (by decide) rfl ?_
  refine gg_iload_n (S := sX7_layDifference) 1 16 rfl dX7_layDifference_15 rfl rfl ?_
  refine gg_istore (S := sX7_layDifference) (L' := [(5, vi t2), (4, vi t4), (3, vi t2), (0, vr (some x0)), (1, vi x1), (2, vi x2)]) 18 rfl dX7_layDifference_16 (by decide) rfl ?_
  refine gg_sub [3, 4, 5, 2, 1, 0] rfl ?_
  refine gg_loopA (fun y5 => [(0, vr (some x0)), (1, vi x1), (2, vi x2), (3, vi t2), (4, vi t4), (5, vi y5)]) (fun _ => [(0, vr (some x0)), (1, vi x1), (2, vi x2), (3, vi t2), (4, vi t4)]) 178 mo_N ?_ ?_ t2
  · intro κ18 hr18 he18
    intro y5
    dsimp only [X7_layDifference_L18]
    refine gg_iload (S := sX7_layDifference) 5 20 rfl dX7_layDifference_18 rfl ?_
    refine gg_if_lt (S := sX7_layDifference) (tgt := 178) 23 rfl dX7_layDifference_20 (by decide) ?_ ?_
    · exact gg_pure (gg_sub [0, 1, 2, 3, 4] rfl (he18 ()))
    · refine gg_iload (S := sX7_layDifference) 4 25 rfl dX7_layDifference_23 rfl ?_
      refine gg_istore (S := sX7_layDifference) (L' := [(6, vi t4), (0, vr (some x0)), (1, vi x1), (2, vi x2), (3, vi t2), (4, vi t4), (5, vi y5)]) 27 rfl dX7_layDifference_25 (by decide) rfl ?_
      refine gg_sub [1, 2, 3, 4, 5, 6, 0] rfl ?_
      refine gg_loopA (fun y6 => [(0, vr (some x0)), (1, vi x1), (2, vi x2), (3, vi t2), (4, vi t4), (5, vi y5), (6, vi y6)]) (fun _ => [(0, vr (some x0)), (1, vi x1), (2, vi x2), (3, vi t2), (4, vi t4), (5, vi y5)]) 172 mo_N ?_ ?_ t4
      · intro κ27 hr27 he27
        intro y6
        dsimp only [X7_layDifference_L27]
        refine gg_iload (S := sX7_layDifference) 6 29 rfl dX7_layDifference_27 rfl ?_
        refine gg_if_lt (S := sX7_layDifference) (tgt := 172) 32 rfl dX7_layDifference_29 (by decide) ?_ ?_
        · exact gg_pure (gg_sub [0, 1, 2, 3, 4, 5] rfl (he27 ()))
        · refine gg_iconst (S := sX7_layDifference) 33 rfl dX7_layDifference_32 ?_
          refine gg_istore (S := sX7_layDifference) (L' := [(7, vi 0), (0, vr (some x0)), (1, vi x1), (2, vi x2), (3, vi t2), (4, vi t4), (5, vi y5), (6, vi y6)]) 35 rfl dX7_layDifference_33 (by decide) rfl ?_
          refine gg_iload (S := sX7_layDifference) 6 37 rfl dX7_layDifference_35 rfl ?_
          refine gg_iload_n (S := sX7_layDifference) 4 38 rfl dX7_layDifference_37 rfl rfl ?_
          refine gg_join (fun t19 => [(0, vr (some x0)), (1, vi x1), (2, vi x2), (3, vi t2), (4, vi t4), (5, vi y5), (6, vi y6), (7, vi t19)]) (fun t19 => []) 151 0 0 (fun κ38 hJ38 => ?_) ?_
          · refine gg_ic_ge (S := sX7_layDifference) (tgt := 151) 41 rfl dX7_layDifference_38 (by decide) ?_ ?_
            · refine gg_iload (S := sX7_layDifference) 7 43 rfl dX7_layDifference_41 rfl ?_
              refine gg_iload (S := sX7_layDifference) 5 45 rfl dX7_layDifference_43 rfl ?_
              refine gg_ic_ge (S := sX7_layDifference) (tgt := 151) 48 rfl dX7_layDifference_45 (by decide) ?_ ?_
              · refine gg_aload_n (S := sX7_layDifference) 1 49 rfl dX7_layDifference_48 rfl rfl ?_
                refine gg_gr (S := sX7_layDifference) cfX7 (by decide) (fun _ _ => rfl) 52 rfl flX7_61 dX7_layDifference_49 (fun t7 => ?_)
                refine gg_bipush (S := sX7_layDifference) 54 rfl dX7_layDifference_52 (by decide) ?_
                refine gg_iload (S := sX7_layDifference) 6 56 rfl dX7_layDifference_54 rfl ?_
                refine gg_iconst (S := sX7_layDifference) 57 rfl dX7_layDifference_56 ?_
                refine gg_iadd (S := sX7_layDifference) 58 rfl dX7_layDifference_57 ?_
                refine gg_imul (S := sX7_layDifference) 59 rfl dX7_layDifference_58 ?_
                refine gg_iload (S := sX7_layDifference) 7 61 rfl dX7_layDifference_59 rfl ?_
                refine gg_iadd (S := sX7_layDifference) 62 rfl dX7_layDifference_61 ?_
                refine gg_ld (S := sX7_layDifference) 63 rfl dX7_layDifference_62 (fun t8 => ?_)
                refine gg_istore (S := sX7_layDifference) (L' := [(8, vi t8), (7, vi 0), (0, vr (some x0)), (1, vi x1), (2, vi x2), (3, vi t2), (4, vi t4), (5, vi y5), (6, vi y6)]) 65 rfl dX7_layDifference_63 (by decide) rfl ?_
                refine gg_aload_n (S := sX7_layDifference) 2 66 rfl dX7_layDifference_65 rfl rfl ?_
                refine gg_gr (S := sX7_layDifference) cfX7 (by decide) (fun _ _ => rfl) 69 rfl flX7_61 dX7_layDifference_66 (fun t9 => ?_)
                refine gg_bipush (S := sX7_layDifference) 71 rfl dX7_layDifference_69 (by decide) ?_
                refine gg_iload (S := sX7_layDifference) 7 73 rfl dX7_layDifference_71 rfl ?_
                refine gg_imul (S := sX7_layDifference) 74 rfl dX7_layDifference_73 ?_
                refine gg_iload (S := sX7_layDifference) 8 76 rfl dX7_layDifference_74 rfl ?_
                refine gg_iadd (S := sX7_layDifference) 77 rfl dX7_layDifference_76 ?_
                refine gg_iconst (S := sX7_layDifference) 78 rfl dX7_layDifference_77 ?_
                refine gg_iadd (S := sX7_layDifference) 79 rfl dX7_layDifference_78 ?_
                refine gg_ld (S := sX7_layDifference) 80 rfl dX7_layDifference_79 (fun t10 => ?_)
                refine gg_istore (S := sX7_layDifference) (L' := [(9, vi t10), (8, vi t8), (7, vi 0), (0, vr (some x0)), (1, vi x1), (2, vi x2), (3, vi t2), (4, vi t4), (5, vi y5), (6, vi y6)]) 82 rfl dX7_layDifference_80 (by decide) rfl ?_
                refine gg_iload (S := sX7_layDifference) 1 84 rfl dX7_layDifference_82 rfl ?_
                refine gg_iload (S := sX7_layDifference) 0 86 rfl dX7_layDifference_84 rfl ?_
                refine gg_join (fun t11 => [(0, vr (some x0)), (1, vi x1), (2, vi x2), (3, vi t2), (4, vi t4), (5, vi y5), (6, vi y6)]) (fun t11 => [vi t11]) 96 0 0 (fun κ86 hJ86 => ?_) ?_
                · refine gg_ic_le (S := sX7_layDifference) (tgt := 94) 89 rfl dX7_layDifference_86 (by decide) ?_ ?_
                  · refine gg_iload (S := sX7_layDifference) 0 96 rfl dX7_layDifference_94 rfl ?_
                    exact gg_pure (gg_sub [3, 4, 5, 6, 7, 8, 9] rfl (hJ86 t10))
                  · refine gg_iload (S := sX7_layDifference) 1 91 rfl dX7_layDifference_89 rfl ?_
                    refine gg_goto (S := sX7_layDifference) (tgt := 96) dX7_layDifference_91 (by decide) ?_
                    exact gg_pure (gg_sub [3, 4, 5, 6, 7, 8, 9] rfl (hJ86 t8))
                · intro t11
                  refine gg_istore (S := sX7_layDifference) (L' := [(7, vi t11), (0, vr (some x0)), (1, vi x1), (2, vi x2), (3, vi t2), (4, vi t4), (5, vi y5), (6, vi y6)]) 98 rfl dX7_layDifference_96 (by decide) rfl ?_
                  refine gg_aload_n (S := sX7_layDifference) 1 99 rfl dX7_layDifference_98 rfl rfl ?_
                  refine gg_gr (S := sX7_layDifference) cfX7 (by decide) (fun _ _ => rfl) 102 rfl flX7_16 dX7_layDifference_99 (fun t12 => ?_)
                  refine gg_bipush (S := sX7_layDifference) 104 rfl dX7_layDifference_102 (by decide) ?_
                  refine gg_iload_n (S := sX7_layDifference) 2 105 rfl dX7_layDifference_104 rfl rfl ?_
                  refine gg_imul (S := sX7_layDifference) 106 rfl dX7_layDifference_105 ?_
                  refine gg_iload (S := sX7_layDifference) 6 108 rfl dX7_layDifference_106 rfl ?_
                  refine gg_iadd (S := sX7_layDifference) 109 rfl dX7_layDifference_108 ?_
                  refine gg_ld (S := sX7_layDifference) 110 rfl dX7_layDifference_109 (fun t13 => ?_)
                  refine gg_aload_n (S := sX7_layDifference) 1 111 rfl dX7_layDifference_110 rfl rfl ?_
                  refine gg_gr (S := sX7_layDifference) cfX7 (by decide) (fun _ _ => rfl) 114 rfl flX7_16 dX7_layDifference_111 (fun t14 => ?_)
                  refine gg_bipush (S := sX7_layDifference) 116 rfl dX7_layDifference_114 (by decide) ?_
                  refine gg_iload_n (S := sX7_layDifference) 3 117 rfl dX7_layDifference_116 rfl rfl ?_
                  refine gg_imul (S := sX7_layDifference) 118 rfl dX7_layDifference_117 ?_
                  refine gg_iload (S := sX7_layDifference) 7 120 rfl dX7_layDifference_118 rfl ?_
                  refine gg_iadd (S := sX7_layDifference) 121 rfl dX7_layDifference_120 ?_
                  refine gg_ld (S := sX7_layDifference) 122 rfl dX7_layDifference_121 (fun t15 => ?_)
                  refine gg_join (fun t18 => [(0, vr (some x0)), (1, vi x1), (2, vi x2), (3, vi t2), (4, vi t4), (5, vi y5), (6, vi y6)]) (fun t18 => [vi t18]) 149 0 0 (fun κ122 hJ122 => ?_) ?_
                  · refine gg_ic_ne (S := sX7_layDifference) (tgt := 147) 125 rfl dX7_layDifference_122 (by decide) ?_ ?_
                    · refine gg_aload_n (S := sX7_layDifference) 1 126 rfl dX7_layDifference_125 rfl rfl ?_
                      refine gg_gr (S := sX7_layDifference) cfX7 (by decide) (fun _ _ => rfl) 129 rfl flX7_61 dX7_layDifference_126 (fun t16 => ?_)
                      refine gg_bipush (S := sX7_layDifference) 131 rfl dX7_layDifference_129 (by decide) ?_
                      refine gg_iload (S := sX7_layDifference) 6 133 rfl dX7_layDifference_131 rfl ?_
                      refine gg_iconst (S := sX7_layDifference) 134 rfl dX7_layDifference_133 ?_
                      refine gg_iadd (S := sX7_layDifference) 135 rfl dX7_layDifference_134 ?_
                      refine gg_imul (S := sX7_layDifference) 136 rfl dX7_layDifference_135 ?_
                      refine gg_iload (S := sX7_layDifference) 7 138 rfl dX7_layDifference_136 rfl ?_
                      refine gg_iadd (S := sX7_layDifference) 139 rfl dX7_layDifference_138 ?_
                      refine gg_iconst (S := sX7_layDifference) 140 rfl dX7_layDifference_139 ?_
                      refine gg_iadd (S := sX7_layDifference) 141 rfl dX7_layDifference_140 ?_
                      refine gg_ld (S := sX7_layDifference) 142 rfl dX7_layDifference_141 (fun t17 => ?_)
                      refine gg_iconst (S := sX7_layDifference) 143 rfl dX7_layDifference_142 ?_
                      refine gg_iadd (S := sX7_layDifference) 144 rfl dX7_layDifference_143 ?_
                      refine gg_goto (S := sX7_layDifference) (tgt := 149) dX7_layDifference_144 (by decide) ?_
                      exact gg_pure (gg_sub [1, 2, 3, 4, 5, 6, 7] rfl (hJ122 (t17 + 1)))
                    · refine gg_iload (S := sX7_layDifference) 0 149 rfl dX7_layDifference_147 rfl ?_
                      exact gg_pure (gg_sub [1, 2, 3, 4, 5, 6, 7] rfl (hJ122 t11))
                  · intro t18
                    refine gg_istore (S := sX7_layDifference) (L' := [(7, vi t18), (0, vr (some x0)), (1, vi x1), (2, vi x2), (3, vi t2), (4, vi t4), (5, vi y5), (6, vi y6)]) 151 rfl dX7_layDifference_149 (by decide) rfl ?_
                    exact gg_pure (gg_sub [1, 2, 3, 4, 5, 6, 7, 0] rfl (hJ38 t18))
              · exact gg_pure (gg_sub [1, 2, 3, 4, 5, 6, 7, 0] rfl (hJ38 0))
            · exact gg_pure (gg_sub [1, 2, 3, 4, 5, 6, 7, 0] rfl (hJ38 0))
          · intro t19
            refine gg_aload_n (S := sX7_layDifference) 0 152 rfl dX7_layDifference_151 rfl rfl ?_
            refine gg_gr (S := sX7_layDifference) cfX7 (by decide) (fun _ _ => rfl) 155 rfl flX7_61 dX7_layDifference_152 (fun t20 => ?_)
            refine gg_bipush (S := sX7_layDifference) 157 rfl dX7_layDifference_155 (by decide) ?_
            refine gg_iload (S := sX7_layDifference) 5 159 rfl dX7_layDifference_157 rfl ?_
            refine gg_imul (S := sX7_layDifference) 160 rfl dX7_layDifference_159 ?_
            refine gg_iload (S := sX7_layDifference) 6 162 rfl dX7_layDifference_160 rfl ?_
            refine gg_iadd (S := sX7_layDifference) 163 rfl dX7_layDifference_162 ?_
            refine gg_iload (S := sX7_layDifference) 7 165 rfl dX7_layDifference_163 rfl ?_
            refine gg_st (S := sX7_layDifference) 166 rfl dX7_layDifference_165 ?_
            refine gg_iinc (S := sX7_layDifference) (L' := [(6, vi (y6 + (-1))), (0, vr (some x0)), (1, vi x1), (2, vi x2), (3, vi t2), (4, vi t4), (5, vi y5), (7, vi t19)]) 6 169 rfl dX7_layDifference_166 rfl (by decide) rfl ?_
            refine gg_goto (S := sX7_layDifference) (tgt := 27) dX7_layDifference_169 (by decide) ?_
            exact gg_pure (gg_sub [1, 2, 3, 4, 5, 6, 0] rfl (hr27 (y6 + (-1))))
      · intro _
        refine gg_iinc (S := sX7_layDifference) (L' := [(5, vi (y5 + (-1))), (0, vr (some x0)), (1, vi x1), (2, vi x2), (3, vi t2), (4, vi t4)]) 5 175 rfl dX7_layDifference_172 rfl (by decide) rfl ?_
        refine gg_goto (S := sX7_layDifference) (tgt := 18) dX7_layDifference_175 (by decide) ?_
        exact gg_pure (gg_sub [1, 2, 3, 4, 5, 0] rfl (hr18 (y5 + (-1))))
  · intro _
    refine gg_aload_n (S := sX7_layDifference) 0 179 rfl dX7_layDifference_178 rfl rfl ?_
    refine gg_callVv (S := sX7_layDifference) (S' := sX7_newWork) (cs := 0) (sl := 0) (As := []) (st := []) 182 rfl (fun b46 => lkX7_newWork b46) mwX7_newWork rfl mlX7_128 dX7_layDifference_179 cfX7 ⟨by decide, by decide⟩ 0 0 ⟨rfl, rfl⟩ ⟨by decide, by decide⟩ (Nat.le_of_ble_eq_true rfl) (fun _ => ?_)
    refine gg_aload_n (S := sX7_layDifference) 0 183 rfl dX7_layDifference_182 rfl rfl ?_
    refine gg_iconst (S := sX7_layDifference) 184 rfl dX7_layDifference_183 ?_
    refine gg_si (S := sX7_layDifference) cfX7 (by decide) rfl (fun _ _ => rfl) rfl 187 rfl flX7_131 dX7_layDifference_184 ?_
    refine gg_iconst (S := sX7_layDifference) 188 rfl dX7_layDifference_187 ?_
    refine gg_istore (S := sX7_layDifference) (L' := [(5, vi 0), (0, vr (some x0)), (1, vi x1), (2, vi x2), (3, vi t2), (4, vi t4)]) 190 rfl dX7_layDifference_188 (by decide) rfl ?_
    refine gg_iconst (S := sX7_layDifference) 191 rfl dX7_layDifference_190 ?_
    refine gg_istore (S := sX7_layDifference) (L' := [(6, vi 0), (5, vi 0), (0, vr (some x0)), (1, vi x1), (2, vi x2), (3, vi t2), (4, vi t4)]) 193 rfl dX7_layDifference_191 (by decide) rfl ?_
    refine gg_iconst (S := sX7_layDifference) 194 rfl dX7_layDifference_193 ?_
    refine gg_istore (S := sX7_layDifference) (L' := [(7, vi 0), (6, vi 0), (5, vi 0), (0, vr (some x0)), (1, vi x1), (2, vi x2), (3, vi t2), (4, vi t4)]) 196 rfl dX7_layDifference_194 (by decide) rfl ?_
    refine gg_sub [3, 4, 5, 6, 7, 2, 1, 0] rfl ?_
    refine gg_loopA (fun (y21, y22, y23) => [(0, vr (some x0)), (1, vi x1), (2, vi x2), (3, vi t2), (4, vi t4), (5, vi y21), (6, vi y22), (7, vi y23)]) (fun _ => []) 414 mo_N ?_ ?_ (0, 0, 0)
    · intro κ196 hr196 he196
      rintro ⟨y21, y22, y23⟩
      dsimp only [X7_layDifference_L196]
      refine gg_iload (S := sX7_layDifference) 6 198 rfl dX7_layDifference_196 rfl ?_
      refine gg_iload_n (S := sX7_layDifference) 3 199 rfl dX7_layDifference_198 rfl rfl ?_
      refine gg_cond [(0, vr (some x0)), (1, vi x1), (2, vi x2), (3, vi t2), (4, vi t4), (5, vi y21), (6, vi y22), (7, vi y23)] [] [] 209 414 0 0 (fun κ199 hT199 hF199 => ?_) ?_ ?_
      · refine gg_ic_lt (S := sX7_layDifference) (tgt := 209) 202 rfl dX7_layDifference_199 (by decide) ?_ ?_
        · exact gg_pure (gg_sub [0, 1, 2, 3, 4, 5, 6, 7] rfl hT199)
        · refine gg_iload (S := sX7_layDifference) 7 204 rfl dX7_layDifference_202 rfl ?_
          refine gg_iload (S := sX7_layDifference) 4 206 rfl dX7_layDifference_204 rfl ?_
          refine gg_ic_ge (S := sX7_layDifference) (tgt := 414) 209 rfl dX7_layDifference_206 (by decide) ?_ ?_
          · exact gg_pure (gg_sub [0, 1, 2, 3, 4, 5, 6, 7] rfl hT199)
          · exact gg_pure (gg_sub [] rfl hF199)
      · refine gg_iload (S := sX7_layDifference) 6 211 rfl dX7_layDifference_209 rfl ?_
        refine gg_iload_n (S := sX7_layDifference) 3 212 rfl dX7_layDifference_211 rfl rfl ?_
        refine gg_join (fun t28 => [(0, vr (some x0)), (1, vi x1), (2, vi x2), (3, vi t2), (4, vi t4), (5, vi y21), (6, vi y22), (7, vi y23)]) (fun t28 => [vi t28]) 254 0 0 (fun κ212 hJ212 => ?_) ?_
        · refine gg_ic_ge (S := sX7_layDifference) (tgt := 253) 215 rfl dX7_layDifference_212 (by decide) ?_ ?_
          · refine gg_iload (S := sX7_layDifference) 7 217 rfl dX7_layDifference_215 rfl ?_
            refine gg_iload (S := sX7_layDifference) 4 219 rfl dX7_layDifference_217 rfl ?_
            refine gg_ic_ge (S := sX7_layDifference) (tgt := 253) 222 rfl dX7_layDifference_219 (by decide) ?_ ?_
            · refine gg_aload_n (S := sX7_layDifference) 0 223 rfl dX7_layDifference_222 rfl rfl ?_
              refine gg_gr (S := sX7_layDifference) cfX7 (by decide) (fun _ _ => rfl) 226 rfl flX7_16 dX7_layDifference_223 (fun t24 => ?_)
              refine gg_bipush (S := sX7_layDifference) 228 rfl dX7_layDifference_226 (by decide) ?_
              refine gg_iload_n (S := sX7_layDifference) 1 229 rfl dX7_layDifference_228 rfl rfl ?_
              refine gg_imul (S := sX7_layDifference) 230 rfl dX7_layDifference_229 ?_
              refine gg_iload (S := sX7_layDifference) 6 232 rfl dX7_layDifference_230 rfl ?_
              refine gg_iadd (S := sX7_layDifference) 233 rfl dX7_layDifference_232 ?_
              refine gg_ld (S := sX7_layDifference) 234 rfl dX7_layDifference_233 (fun t25 => ?_)
              refine gg_aload_n (S := sX7_layDifference) 0 235 rfl dX7_layDifference_234 rfl rfl ?_
              refine gg_gr (S := sX7_layDifference) cfX7 (by decide) (fun _ _ => rfl) 238 rfl flX7_16 dX7_layDifference_235 (fun t26 => ?_)
              refine gg_bipush (S := sX7_layDifference) 240 rfl dX7_layDifference_238 (by decide) ?_
              refine gg_iload_n (S := sX7_layDifference) 2 241 rfl dX7_layDifference_240 rfl rfl ?_
              refine gg_imul (S := sX7_layDifference) 242 rfl dX7_layDifference_241 ?_
              refine gg_iload (S := sX7_layDifference) 7 244 rfl dX7_layDifference_242 rfl ?_
              refine gg_iadd (S := sX7_layDifference) 245 rfl dX7_layDifference_244 ?_
              refine gg_ld (S := sX7_layDifference) 246 rfl dX7_layDifference_245 (fun t27 => ?_)
              refine gg_ic_ne (S := sX7_layDifference) (tgt := 253) 249 rfl dX7_layDifference_246 (by decide) ?_ ?_
              · refine gg_iconst (S := sX7_layDifference) 250 rfl dX7_layDifference_249 ?_
                refine gg_goto (S := sX7_layDifference) (tgt := 254) dX7_layDifference_250 (by decide) ?_
                exact gg_pure (gg_sub [0, 1, 2, 3, 4, 5, 6, 7] rfl (hJ212 1))
              · refine gg_iconst (S := sX7_layDifference) 254 rfl dX7_layDifference_253 ?_
                exact gg_pure (gg_sub [0, 1, 2, 3, 4, 5, 6, 7] rfl (hJ212 0))
            · refine gg_iconst (S := sX7_layDifference) 254 rfl dX7_layDifference_253 ?_
              exact gg_pure (gg_sub [0, 1, 2, 3, 4, 5, 6, 7] rfl (hJ212 0))
          · refine gg_iconst (S := sX7_layDifference) 254 rfl dX7_layDifference_253 ?_
            exact gg_pure (gg_sub [0, 1, 2, 3, 4, 5, 6, 7] rfl (hJ212 0))
        · intro t28
          refine gg_istore (S := sX7_layDifference) (L' := [(8, vi t28), (0, vr (some x0)), (1, vi x1), (2, vi x2), (3, vi t2), (4, vi t4), (5, vi y21), (6, vi y22), (7, vi y23)]) 256 rfl dX7_layDifference_254 (by decide) rfl ?_
          refine gg_iload (S := sX7_layDifference) 0 258 rfl dX7_layDifference_256 rfl ?_
          refine gg_join (fun (t44, t45, t46) => [(0, vr (some x0)), (1, vi x1), (2, vi x2), (3, vi t2), (4, vi t4), (5, vi t44), (6, vi t45), (7, vi t46)]) (fun (t44, t45, t46) => []) 411 0 0 (fun κ258 hJ258 => ?_) ?_
          · refine gg_if_eq (S := sX7_layDifference) (tgt := 292) 261 rfl dX7_layDifference_258 (by decide) ?_ ?_
            · refine gg_iload (S := sX7_layDifference) 6 294 rfl dX7_layDifference_292 rfl ?_
              refine gg_join (fun _ => [(0, vr (some x0)), (1, vi x1), (2, vi x2), (3, vi t2), (4, vi t4), (6, vi y22), (7, vi y23)]) (fun _ => []) 303 0 0 (fun κ294 hJ294 => ?_) ?_
              · refine gg_if_ne (S := sX7_layDifference) (tgt := 303) 297 rfl dX7_layDifference_294 (by decide) ?_ ?_
                · refine gg_aload_n (S := sX7_layDifference) 1 298 rfl dX7_layDifference_297 rfl rfl ?_
                  refine gg_iload (S := sX7_layDifference) 7 300 rfl dX7_layDifference_298 rfl ?_
                  refine gg_callVv (S := sX7_layDifference) (S' := sX7_newHunk) (cs := 0) (sl := 0) (As := [vi y22]) (st := []) 303 rfl (fun b28 => lkX7_newHunk b28 y22) mwX7_newHunk rfl mlX7_134 dX7_layDifference_300 cfX7 ⟨by decide, by decide⟩ 0 0 ⟨rfl, rfl⟩ ⟨by decide, by decide⟩ (Nat.le_of_ble_eq_true rfl) (fun _ => ?_)
                  exact gg_pure (gg_sub [1, 2, 3, 4, 5, 7, 8] rfl (hJ294 ()))
                · exact gg_pure (gg_sub [1, 2, 3, 4, 5, 7, 8] rfl (hJ294 ()))
              · intro _
                refine gg_iconst (S := sX7_layDifference) 304 rfl dX7_layDifference_303 ?_
                refine gg_istore (S := sX7_layDifference) (L' := [(5, vi 1), (0, vr (some x0)), (1, vi x1), (2, vi x2), (3, vi t2), (4, vi t4), (6, vi y22), (7, vi y23)]) 306 rfl dX7_layDifference_304 (by decide) rfl ?_
                refine gg_iload (S := sX7_layDifference) 6 308 rfl dX7_layDifference_306 rfl ?_
                refine gg_iload_n (S := sX7_layDifference) 4 309 rfl dX7_layDifference_308 rfl rfl ?_
                refine gg_join (fun t34 => [(0, vr (some x0)), (1, vi x1), (2, vi x2), (3, vi t2), (4, vi t4), (5, vi 1), (6, vi y22), (7, vi y23)]) (fun t34 => [vi t34]) 355 0 0 (fun κ309 hJ309 => ?_) ?_
                · refine gg_ic_ge (S := sX7_layDifference) (tgt := 354) 312 rfl dX7_layDifference_309 (by decide) ?_ ?_
                  · refine gg_iload (S := sX7_layDifference) 7 314 rfl dX7_layDifference_312 rfl ?_
                    refine gg_iload (S := sX7_layDifference) 5 316 rfl dX7_layDifference_314 rfl ?_
                    refine gg_ic_eq (S := sX7_layDifference) (tgt := 350) 319 rfl dX7_layDifference_316 (by decide) ?_ ?_
                    · refine gg_iconst (S := sX7_layDifference) 351 rfl dX7_layDifference_350 ?_
                      refine gg_goto (S := sX7_layDifference) (tgt := 355) dX7_layDifference_351 (by decide) ?_
                      exact gg_pure (gg_sub [1, 2, 3, 4, 5, 0, 6, 7] rfl (hJ309 1))
                    · refine gg_aload_n (S := sX7_layDifference) 1 320 rfl dX7_layDifference_319 rfl rfl ?_
                      refine gg_gr (S := sX7_layDifference) cfX7 (by decide) (fun _ _ => rfl) 323 rfl flX7_61 dX7_layDifference_320 (fun t30 => ?_)
                      refine gg_bipush (S := sX7_layDifference) 325 rfl dX7_layDifference_323 (by decide) ?_
                      refine gg_iload (S := sX7_layDifference) 6 327 rfl dX7_layDifference_325 rfl ?_
                      refine gg_iconst (S := sX7_layDifference) 328 rfl dX7_layDifference_327 ?_
                      refine gg_iadd (S := sX7_layDifference) 329 rfl dX7_layDifference_328 ?_
                      refine gg_imul (S := sX7_layDifference) 330 rfl dX7_layDifference_329 ?_
                      refine gg_iload (S := sX7_layDifference) 7 332 rfl dX7_layDifference_330 rfl ?_
                      refine gg_iadd (S := sX7_layDifference) 333 rfl dX7_layDifference_332 ?_
                      refine gg_ld (S := sX7_layDifference) 334 rfl dX7_layDifference_333 (fun t31 => ?_)
                      refine gg_aload_n (S := sX7_layDifference) 1 335 rfl dX7_layDifference_334 rfl rfl ?_
                      refine gg_gr (S := sX7_layDifference) cfX7 (by decide) (fun _ _ => rfl) 338 rfl flX7_61 dX7_layDifference_335 (fun t32 => ?_)
                      refine gg_bipush (S := sX7_layDifference) 340 rfl dX7_layDifference_338 (by decide) ?_
                      refine gg_iload (S := sX7_layDifference) 6 342 rfl dX7_layDifference_340 rfl ?_
                      refine gg_imul (S := sX7_layDifference) 343 rfl dX7_layDifference_342 ?_
                      refine gg_iload (S := sX7_layDifference) 7 345 rfl dX7_layDifference_343 rfl ?_
                      refine gg_iadd (S := sX7_layDifference) 346 rfl dX7_layDifference_345 ?_
                      refine gg_ld (S := sX7_layDifference) 347 rfl dX7_layDifference_346 (fun t33 => ?_)
                      refine gg_ic_ne (S := sX7_layDifference) (tgt := 354) 350 rfl dX7_layDifference_347 (by decide) ?_ ?_
                      · refine gg_iconst (S := sX7_layDifference) 351 rfl dX7_layDifference_350 ?_
                        refine gg_goto (S := sX7_layDifference) (tgt := 355) dX7_layDifference_351 (by decide) ?_
                        exact gg_pure (gg_sub [1, 2, 3, 4, 5, 0, 6, 7] rfl (hJ309 1))
                      · refine gg_iconst (S := sX7_layDifference) 355 rfl dX7_layDifference_354 ?_
                        exact gg_pure (gg_sub [1, 2, 3, 4, 5, 0, 6, 7] rfl (hJ309 0))
                  · refine gg_iconst (S := sX7_layDifference) 355 rfl dX7_layDifference_354 ?_
                    exact gg_pure (gg_sub [1, 2, 3, 4, 5, 0, 6, 7] rfl (hJ309 0))
                · intro t34
                  refine gg_istore (S := sX7_layDifference) (L' := [(9, vi t34), (0, vr (some x0)), (1, vi x1), (2, vi x2), (3, vi t2), (4, vi t4), (5, vi 1), (6, vi y22), (7, vi y23)]) 357 rfl dX7_layDifference_355 (by decide) rfl ?_
                  refine gg_iload (S := sX7_layDifference) 0 359 rfl dX7_layDifference_357 rfl ?_
                  refine gg_if_eq (S := sX7_layDifference) (tgt := 392) 362 rfl dX7_layDifference_359 (by decide) ?_ ?_
                  · refine gg_aload_n (S := sX7_layDifference) 1 393 rfl dX7_layDifference_392 rfl rfl ?_
                    refine gg_aload_n (S := sX7_layDifference) 1 394 rfl dX7_layDifference_393 rfl rfl ?_
                    refine gg_gr (S := sX7_layDifference) cfX7 (by decide) (fun _ _ => rfl) 397 rfl flX7_16 dX7_layDifference_394 (fun t35 => ?_)
                    refine gg_bipush (S := sX7_layDifference) 399 rfl dX7_layDifference_397 (by decide) ?_
                    refine gg_iload_n (S := sX7_layDifference) 3 400 rfl dX7_layDifference_399 rfl rfl ?_
                    refine gg_imul (S := sX7_layDifference) 401 rfl dX7_layDifference_400 ?_
                    refine gg_iload (S := sX7_layDifference) 8 403 rfl dX7_layDifference_401 rfl ?_
                    refine gg_iadd (S := sX7_layDifference) 404 rfl dX7_layDifference_403 ?_
                    refine gg_ld (S := sX7_layDifference) 405 rfl dX7_layDifference_404 (fun t36 => ?_)
                    refine gg_callVv (S := sX7_layDifference) (S' := sX7_comes) (cs := 0) (sl := 0) (As := [vi t36]) (st := []) 408 rfl (fun b36 => lkX7_comes b36 t36) mwX7_comes rfl mlX7_141 dX7_layDifference_405 cfX7 ⟨by decide, by decide⟩ 0 0 ⟨rfl, rfl⟩ ⟨by decide, by decide⟩ (Nat.le_of_ble_eq_true rfl) (fun _ => ?_)
                    refine gg_iinc (S := sX7_layDifference) (L' := [(7, vi (y23 + 1)), (9, vi t34), (0, vr (some x0)), (1, vi x1), (2, vi x2), (3, vi t2), (4, vi t4), (5, vi 1), (6, vi y22)]) 8 411 rfl dX7_layDifference_408 rfl (by decide) rfl ?_
                    exact gg_pure (gg_sub [2, 3, 4, 5, 6, 7, 8, 0] rfl (hJ258 (1, y22, (y23 + 1))))
                  · refine gg_aload_n (S := sX7_layDifference) 1 363 rfl dX7_layDifference_362 rfl rfl ?_
                    refine gg_gr (S := sX7_layDifference) cfX7 (by decide) (fun _ _ => rfl) 366 rfl flX7_64 dX7_layDifference_363 (fun t38 => ?_)
                    refine gg_iload (S := sX7_layDifference) 7 368 rfl dX7_layDifference_366 rfl ?_
                    refine gg_iconst (S := sX7_layDifference) 369 rfl dX7_layDifference_368 ?_
                    refine gg_st (S := sX7_layDifference) 370 rfl dX7_layDifference_369 ?_
                    refine gg_aload_n (S := sX7_layDifference) 1 371 rfl dX7_layDifference_370 rfl rfl ?_
                    refine gg_aload_n (S := sX7_layDifference) 1 372 rfl dX7_layDifference_371 rfl rfl ?_
                    refine gg_gr (S := sX7_layDifference) cfX7 (by decide) (fun _ _ => rfl) 375 rfl flX7_16 dX7_layDifference_372 (fun t39 => ?_)
                    refine gg_bipush (S := sX7_layDifference) 377 rfl dX7_layDifference_375 (by decide) ?_
                    refine gg_iload_n (S := sX7_layDifference) 2 378 rfl dX7_layDifference_377 rfl rfl ?_
                    refine gg_imul (S := sX7_layDifference) 379 rfl dX7_layDifference_378 ?_
                    refine gg_iload (S := sX7_layDifference) 7 381 rfl dX7_layDifference_379 rfl ?_
                    refine gg_iadd (S := sX7_layDifference) 382 rfl dX7_layDifference_381 ?_
                    refine gg_ld (S := sX7_layDifference) 383 rfl dX7_layDifference_382 (fun t40 => ?_)
                    refine gg_callVv (S := sX7_layDifference) (S' := sX7_goes) (cs := 0) (sl := 0) (As := [vi t40]) (st := []) 386 rfl (fun b40 => lkX7_goes b40 t40) mwX7_goes rfl mlX7_138 dX7_layDifference_383 cfX7 ⟨by decide, by decide⟩ 0 0 ⟨rfl, rfl⟩ ⟨by decide, by decide⟩ (Nat.le_of_ble_eq_true rfl) (fun _ => ?_)
                    refine gg_iinc (S := sX7_layDifference) (L' := [(6, vi (y22 + 1)), (9, vi t34), (0, vr (some x0)), (1, vi x1), (2, vi x2), (3, vi t2), (4, vi t4), (5, vi 1), (7, vi y23)]) 7 389 rfl dX7_layDifference_386 rfl (by decide) rfl ?_
                    refine gg_goto (S := sX7_layDifference) (tgt := 411) dX7_layDifference_389 (by decide) ?_
                    exact gg_pure (gg_sub [2, 3, 4, 5, 6, 7, 0, 8] rfl (hJ258 (1, (y22 + 1), y23)))
            · refine gg_aload_n (S := sX7_layDifference) 1 262 rfl dX7_layDifference_261 rfl rfl ?_
              refine gg_gr (S := sX7_layDifference) cfX7 (by decide) (fun _ _ => rfl) 265 rfl flX7_64 dX7_layDifference_262 (fun t42 => ?_)
              refine gg_iload (S := sX7_layDifference) 7 267 rfl dX7_layDifference_265 rfl ?_
              refine gg_iload (S := sX7_layDifference) 8 269 rfl dX7_layDifference_267 rfl ?_
              refine gg_st (S := sX7_layDifference) 270 rfl dX7_layDifference_269 ?_
              refine gg_aload_n (S := sX7_layDifference) 1 271 rfl dX7_layDifference_270 rfl rfl ?_
              refine gg_dup (S := sX7_layDifference) 272 rfl dX7_layDifference_271 rfl ?_
              refine gg_gi (S := sX7_layDifference) cfX7 (by decide) (fun _ _ => rfl) 275 rfl flX7_131 dX7_layDifference_272 (fun t43 => ?_)
              refine gg_iconst (S := sX7_layDifference) 276 rfl dX7_layDifference_275 ?_
              refine gg_iadd (S := sX7_layDifference) 277 rfl dX7_layDifference_276 ?_
              refine gg_si (S := sX7_layDifference) cfX7 (by decide) rfl (fun _ _ => rfl) rfl 280 rfl flX7_131 dX7_layDifference_277 ?_
              refine gg_iconst (S := sX7_layDifference) 281 rfl dX7_layDifference_280 ?_
              refine gg_istore (S := sX7_layDifference) (L' := [(5, vi 0), (8, vi t28), (0, vr (some x0)), (1, vi x1), (2, vi x2), (3, vi t2), (4, vi t4), (6, vi y22), (7, vi y23)]) 283 rfl dX7_layDifference_281 (by decide) rfl ?_
              refine gg_iinc (S := sX7_layDifference) (L' := [(6, vi (y22 + 1)), (5, vi 0), (8, vi t28), (0, vr (some x0)), (1, vi x1), (2, vi x2), (3, vi t2), (4, vi t4), (7, vi y23)]) 7 286 rfl dX7_layDifference_283 rfl (by decide) rfl ?_
              refine gg_iinc (S := sX7_layDifference) (L' := [(7, vi (y23 + 1)), (6, vi (y22 + 1)), (5, vi 0), (8, vi t28), (0, vr (some x0)), (1, vi x1), (2, vi x2), (3, vi t2), (4, vi t4)]) 8 289 rfl dX7_layDifference_286 rfl (by decide) rfl ?_
              refine gg_goto (S := sX7_layDifference) (tgt := 411) dX7_layDifference_289 (by decide) ?_
              exact gg_pure (gg_sub [4, 5, 6, 7, 8, 2, 1, 0] rfl (hJ258 (0, (y22 + 1), (y23 + 1))))
          · rintro ⟨t44, t45, t46⟩
            dsimp only
            refine gg_goto (S := sX7_layDifference) (tgt := 196) dX7_layDifference_411 (by decide) ?_
            exact gg_pure (gg_sub [0, 1, 2, 3, 4, 5, 6, 7] rfl (hr196 (t44, t45, t46)))
      · exact gg_pure (gg_sub [] rfl (he196 ()))
    · intro _
      exact gg_pure (gg_vret (S := sX7_layDifference) rfl dX7_layDifference_414 (by decide) (by decide))

set_option maxRecDepth 100000 in
set_option maxHeartbeats 4000000 in
theorem lkX7_ledTo (x0 : Nat) (x1 : Int) (x2 : Int) (x3 : Int) : LK yX7_ledTo sX7_ledTo [vr (some x0), vi x1, vi x2, vi x3] en_i (X7_ledTo x0 x1 x2 x3) := by
  refine lk_go (L := [(0, vr (some x0)), (1, vi x1), (2, vi x2), (3, vi x3)]) (by decide +kernel) rfl (fun h => by cases h) (Nat.le_of_ble_eq_true rfl) rfl ?_
  intro K
  unfold X7_ledTo
  refine gg_iload_n (S := sX7_ledTo) 1 1 rfl dX7_ledTo_0 rfl rfl ?_
  refine gg_iconst (S := sX7_ledTo) 2 rfl dX7_ledTo_1 ?_
  refine gg_ic_eq (S := sX7_ledTo) (tgt := 45) 5 rfl dX7_ledTo_2 (by decide) ?_ ?_
  · refine gg_iconst (S := sX7_ledTo) 46 rfl dX7_ledTo_45 ?_
    exact gg_pure (gg_iret (S := sX7_ledTo) rfl dX7_ledTo_46 (by decide) (by decide))
  · refine gg_aload_n (S := sX7_ledTo) 0 6 rfl dX7_ledTo_5 rfl rfl ?_
    refine gg_iload_n (S := sX7_ledTo) 1 7 rfl dX7_ledTo_6 rfl rfl ?_
    refine gg_iload_n (S := sX7_ledTo) 2 8 rfl dX7_ledTo_7 rfl rfl ?_
    refine gg_callVv (S := sX7_ledTo) (S' := sX7_layDifference) (cs := 0) (sl := 0) (As := [vi x1, vi x2]) (st := []) 11 rfl (fun b5 => lkX7_layDifference b5 x1 x2) mwX7_layDifference rfl mlX7_144 dX7_ledTo_8 cfX7 ⟨by decide, by decide⟩ 0 0 ⟨rfl, rfl⟩ ⟨by decide, by decide⟩ (Nat.le_of_ble_eq_true rfl) (fun _ => ?_)
    refine gg_iconst (S := sX7_ledTo) 12 rfl dX7_ledTo_11 ?_
    refine gg_istore (S := sX7_ledTo) (L' := [(4, vi 0), (0, vr (some x0)), (1, vi x1), (2, vi x2), (3, vi x3)]) 14 rfl dX7_ledTo_12 (by decide) rfl ?_
    refine gg_sub [1, 2, 4, 0] rfl ?_
    refine gg_loop (fun y1 => [(0, vr (some x0)), (1, vi x1), (3, vi x3), (4, vi y1)]) mo_N ?_ 0
    · intro rec14 hr14
      intro y1
      dsimp only [X7_ledTo_L14]
      refine gg_iload (S := sX7_ledTo) 3 16 rfl dX7_ledTo_14 rfl ?_
      refine gg_aload_n (S := sX7_ledTo) 0 17 rfl dX7_ledTo_16 rfl rfl ?_
      refine gg_gr (S := sX7_ledTo) cfX7 (by decide) (fun _ _ => rfl) 20 rfl flX7_13 dX7_ledTo_17 (fun t2 => ?_)
      refine gg_iload_n (S := sX7_ledTo) 1 21 rfl dX7_ledTo_20 rfl rfl ?_
      refine gg_ld (S := sX7_ledTo) 22 rfl dX7_ledTo_21 (fun t3 => ?_)
      refine gg_ic_ge (S := sX7_ledTo) (tgt := 45) 25 rfl dX7_ledTo_22 (by decide) ?_ ?_
      · refine gg_aload_n (S := sX7_ledTo) 0 26 rfl dX7_ledTo_25 rfl rfl ?_
        refine gg_gr (S := sX7_ledTo) cfX7 (by decide) (fun _ _ => rfl) 29 rfl flX7_64 dX7_ledTo_26 (fun t4 => ?_)
        refine gg_iload (S := sX7_ledTo) 3 31 rfl dX7_ledTo_29 rfl ?_
        refine gg_ld (S := sX7_ledTo) 32 rfl dX7_ledTo_31 (fun t5 => ?_)
        refine gg_iload_n (S := sX7_ledTo) 2 33 rfl dX7_ledTo_32 rfl rfl ?_
        refine gg_ic_ne (S := sX7_ledTo) (tgt := 39) 36 rfl dX7_ledTo_33 (by decide) ?_ ?_
        · refine gg_iload (S := sX7_ledTo) 3 38 rfl dX7_ledTo_36 rfl ?_
          exact gg_pure (gg_iret (S := sX7_ledTo) rfl dX7_ledTo_38 (by decide) (by decide))
        · refine gg_iinc (S := sX7_ledTo) (L' := [(4, vi (y1 + 1)), (0, vr (some x0)), (1, vi x1), (3, vi x3)]) 3 42 rfl dX7_ledTo_39 rfl (by decide) rfl ?_
          refine gg_goto (S := sX7_ledTo) (tgt := 14) dX7_ledTo_42 (by decide) ?_
          exact gg_pure (gg_sub [1, 2, 3, 0] rfl (hr14 (y1 + 1)))
      · refine gg_iconst (S := sX7_ledTo) 46 rfl dX7_ledTo_45 ?_
        exact gg_pure (gg_iret (S := sX7_ledTo) rfl dX7_ledTo_46 (by decide) (by decide))

set_option maxRecDepth 100000 in
set_option maxHeartbeats 4000000 in
theorem lkX7_broughtBy (x0 : Nat) (x1 : Int) (x2 : Int) : LK yX7_broughtBy sX7_broughtBy [vr (some x0), vi x1, vi x2] en_i (X7_broughtBy x0 x1 x2) := by
  refine lk_go (L := [(0, vr (some x0)), (1, vi x1), (2, vi x2)]) (by decide +kernel) rfl (fun h => by cases h) (Nat.le_of_ble_eq_true rfl) rfl ?_
  intro K
  unfold X7_broughtBy
  refine gg_iload_n (S := sX7_broughtBy) 1 1 rfl dX7_broughtBy_0 rfl rfl ?_
  refine gg_istore_n (S := sX7_broughtBy) (L' := [(3, vi x1), (0, vr (some x0)), (1, vi x1), (2, vi x2)]) 2 rfl dX7_broughtBy_1 rfl (by decide) rfl ?_
  refine gg_iload_n (S := sX7_broughtBy) 3 3 rfl dX7_broughtBy_2 rfl rfl ?_
  refine gg_istore (S := sX7_broughtBy) (L' := [(4, vi x2), (3, vi x1), (0, vr (some x0)), (1, vi x1), (2, vi x2)]) 5 rfl dX7_broughtBy_3 (by decide) rfl ?_
  refine gg_iconst (S := sX7_broughtBy) 6 rfl dX7_broughtBy_5 ?_
  refine gg_istore (S := sX7_broughtBy) (L' := [(5, vi 1), (4, vi x2), (3, vi x1), (0, vr (some x0)), (1, vi x1), (2, vi x2)]) 8 rfl dX7_broughtBy_6 (by decide) rfl ?_
  refine gg_sub [3, 2, 1, 0] rfl ?_
  refine gg_loopA (fun (y1, y2, y3) => [(0, vr (some x0)), (3, vi y1), (4, vi y2), (5, vi y3)]) (fun t22 => [(3, vi t22)]) 117 mo_N ?_ ?_ (x1, x2, 1)
  · intro κ8 hr8 he8
    rintro ⟨y1, y2, y3⟩
    dsimp only [X7_broughtBy_L8]
    refine gg_iload (S := sX7_broughtBy) 3 10 rfl dX7_broughtBy_8 rfl ?_
    refine gg_if_eq (S := sX7_broughtBy) (tgt := 117) 13 rfl dX7_broughtBy_10 (by decide) ?_ ?_
    · exact gg_pure (gg_sub [1] rfl (he8 y1))
    · refine gg_aload_n (S := sX7_broughtBy) 0 14 rfl dX7_broughtBy_13 rfl rfl ?_
      refine gg_aload_n (S := sX7_broughtBy) 0 15 rfl dX7_broughtBy_14 rfl rfl ?_
      refine gg_gr (S := sX7_broughtBy) cfX7 (by decide) (fun _ _ => rfl) 18 rfl flX7_19 dX7_broughtBy_15 (fun t4 => ?_)
      refine gg_iload_n (S := sX7_broughtBy) 1 19 rfl dX7_broughtBy_18 rfl rfl ?_
      refine gg_ld (S := sX7_broughtBy) 20 rfl dX7_broughtBy_19 (fun t5 => ?_)
      refine gg_iload_n (S := sX7_broughtBy) 1 21 rfl dX7_broughtBy_20 rfl rfl ?_
      refine gg_iload (S := sX7_broughtBy) 2 23 rfl dX7_broughtBy_21 rfl ?_
      refine gg_callVi (S := sX7_broughtBy) (S' := sX7_ledTo) (cs := 0) (sl := 0) (As := [vi t5, vi y1, vi y2]) (st := []) 26 rfl (fun b20 => lkX7_ledTo b20 t5 y1 y2) mwX7_ledTo rfl mlX7_257 dX7_broughtBy_23 cfX7 ⟨by decide, by decide⟩ 0 0 ⟨rfl, rfl⟩ ⟨by decide, by decide⟩ (Nat.le_of_ble_eq_true rfl) (fun t6 => ?_)
      refine gg_istore (S := sX7_broughtBy) (L' := [(6, vi t6), (0, vr (some x0)), (3, vi y1), (4, vi y2), (5, vi y3)]) 28 rfl dX7_broughtBy_26 (by decide) rfl ?_
      refine gg_iload (S := sX7_broughtBy) 0 30 rfl dX7_broughtBy_28 rfl ?_
      refine gg_iconst (S := sX7_broughtBy) 31 rfl dX7_broughtBy_30 ?_
      refine gg_join (fun t11 => [(0, vr (some x0)), (3, vi y1), (4, vi y2), (6, vi t6)]) (fun t11 => [vi t11]) 51 0 0 (fun κ31 hJ31 => ?_) ?_
      · refine gg_ic_ne (S := sX7_broughtBy) (tgt := 50) 34 rfl dX7_broughtBy_31 (by decide) ?_ ?_
        · refine gg_aload_n (S := sX7_broughtBy) 1 35 rfl dX7_broughtBy_34 rfl rfl ?_
          refine gg_aload_n (S := sX7_broughtBy) 1 36 rfl dX7_broughtBy_35 rfl rfl ?_
          refine gg_gr (S := sX7_broughtBy) cfX7 (by decide) (fun _ _ => rfl) 39 rfl flX7_22 dX7_broughtBy_36 (fun t7 => ?_)
          refine gg_iload_n (S := sX7_broughtBy) 2 40 rfl dX7_broughtBy_39 rfl rfl ?_
          refine gg_ld (S := sX7_broughtBy) 41 rfl dX7_broughtBy_40 (fun t8 => ?_)
          refine gg_iload_n (S := sX7_broughtBy) 2 42 rfl dX7_broughtBy_41 rfl rfl ?_
          refine gg_iload (S := sX7_broughtBy) 3 44 rfl dX7_broughtBy_42 rfl ?_
          refine gg_callVi (S := sX7_broughtBy) (S' := sX7_ledTo) (cs := 0) (sl := 0) (As := [vi t8, vi y1, vi y2]) (st := []) 47 rfl (fun b9 => lkX7_ledTo b9 t8 y1 y2) mwX7_ledTo rfl mlX7_257 dX7_broughtBy_44 cfX7 ⟨by decide, by decide⟩ 0 0 ⟨rfl, rfl⟩ ⟨by decide, by decide⟩ (Nat.le_of_ble_eq_true rfl) (fun t9 => ?_)
          refine gg_goto (S := sX7_broughtBy) (tgt := 51) dX7_broughtBy_47 (by decide) ?_
          exact gg_pure (gg_sub [1, 2, 3, 0] rfl (hJ31 t9))
        · refine gg_iconst (S := sX7_broughtBy) 51 rfl dX7_broughtBy_50 ?_
          exact gg_pure (gg_sub [1, 2, 3, 0] rfl (hJ31 (-1)))
      · intro t11
        refine gg_istore (S := sX7_broughtBy) (L' := [(7, vi t11), (0, vr (some x0)), (3, vi y1), (4, vi y2), (6, vi t6)]) 53 rfl dX7_broughtBy_51 (by decide) rfl ?_
        refine gg_iload (S := sX7_broughtBy) 4 55 rfl dX7_broughtBy_53 rfl ?_
        refine gg_iconst (S := sX7_broughtBy) 56 rfl dX7_broughtBy_55 ?_
        refine gg_join (fun t12 => [(0, vr (some x0)), (3, vi y1), (4, vi y2), (6, vi t6), (7, vi t11)]) (fun t12 => [vi t12]) 70 0 0 (fun κ56 hJ56 => ?_) ?_
        · refine gg_ic_ne (S := sX7_broughtBy) (tgt := 65) 59 rfl dX7_broughtBy_56 (by decide) ?_ ?_
          · refine gg_iload (S := sX7_broughtBy) 0 61 rfl dX7_broughtBy_59 rfl ?_
            refine gg_iconst (S := sX7_broughtBy) 62 rfl dX7_broughtBy_61 ?_
            refine gg_ic_eq (S := sX7_broughtBy) (tgt := 69) 65 rfl dX7_broughtBy_62 (by decide) ?_ ?_
            · refine gg_iconst (S := sX7_broughtBy) 70 rfl dX7_broughtBy_69 ?_
              exact gg_pure (gg_sub [1, 2, 3, 4, 0] rfl (hJ56 0))
            · refine gg_iconst (S := sX7_broughtBy) 66 rfl dX7_broughtBy_65 ?_
              refine gg_goto (S := sX7_broughtBy) (tgt := 70) dX7_broughtBy_66 (by decide) ?_
              exact gg_pure (gg_sub [1, 2, 3, 4, 0] rfl (hJ56 1))
          · refine gg_iconst (S := sX7_broughtBy) 66 rfl dX7_broughtBy_65 ?_
            refine gg_goto (S := sX7_broughtBy) (tgt := 70) dX7_broughtBy_66 (by decide) ?_
            exact gg_pure (gg_sub [1, 2, 3, 4, 0] rfl (hJ56 1))
        · intro t12
          refine gg_istore (S := sX7_broughtBy) (L' := [(5, vi t12), (0, vr (some x0)), (3, vi y1), (4, vi y2), (6, vi t6), (7, vi t11)]) 72 rfl dX7_broughtBy_70 (by decide) rfl ?_
          refine gg_iload (S := sX7_broughtBy) 0 74 rfl dX7_broughtBy_72 rfl ?_
          refine gg_join (fun (t19, t20) => [(0, vr (some x0)), (3, vi t19), (4, vi t20), (5, vi t12)]) (fun (t19, t20) => []) 114 0 0 (fun κ74 hJ74 => ?_) ?_
          · refine gg_if_eq (S := sX7_broughtBy) (tgt := 114) 77 rfl dX7_broughtBy_74 (by decide) ?_ ?_
            · exact gg_pure (gg_sub [1, 2, 3, 0] rfl (hJ74 (y1, y2)))
            · refine gg_iload (S := sX7_broughtBy) 4 79 rfl dX7_broughtBy_77 rfl ?_
              refine gg_iconst (S := sX7_broughtBy) 80 rfl dX7_broughtBy_79 ?_
              refine gg_join (fun t17 => [(0, vr (some x0)), (5, vi t12), (6, vi t6), (7, vi t11)]) (fun t17 => [vi t17]) 98 0 0 (fun κ80 hJ80 => ?_) ?_
              · refine gg_ic_eq (S := sX7_broughtBy) (tgt := 92) 83 rfl dX7_broughtBy_80 (by decide) ?_ ?_
                · refine gg_aload_n (S := sX7_broughtBy) 1 93 rfl dX7_broughtBy_92 rfl rfl ?_
                  refine gg_gr (S := sX7_broughtBy) cfX7 (by decide) (fun _ _ => rfl) 96 rfl flX7_22 dX7_broughtBy_93 (fun t13 => ?_)
                  refine gg_iload_n (S := sX7_broughtBy) 2 97 rfl dX7_broughtBy_96 rfl rfl ?_
                  refine gg_ld (S := sX7_broughtBy) 98 rfl dX7_broughtBy_97 (fun t14 => ?_)
                  exact gg_pure (gg_sub [1, 0, 4, 5] rfl (hJ80 t14))
                · refine gg_aload_n (S := sX7_broughtBy) 1 84 rfl dX7_broughtBy_83 rfl rfl ?_
                  refine gg_gr (S := sX7_broughtBy) cfX7 (by decide) (fun _ _ => rfl) 87 rfl flX7_19 dX7_broughtBy_84 (fun t15 => ?_)
                  refine gg_iload_n (S := sX7_broughtBy) 2 88 rfl dX7_broughtBy_87 rfl rfl ?_
                  refine gg_ld (S := sX7_broughtBy) 89 rfl dX7_broughtBy_88 (fun t16 => ?_)
                  refine gg_goto (S := sX7_broughtBy) (tgt := 98) dX7_broughtBy_89 (by decide) ?_
                  exact gg_pure (gg_sub [1, 0, 4, 5] rfl (hJ80 t16))
              · intro t17
                refine gg_istore_n (S := sX7_broughtBy) (L' := [(3, vi t17), (0, vr (some x0)), (5, vi t12), (6, vi t6), (7, vi t11)]) 99 rfl dX7_broughtBy_98 rfl (by decide) rfl ?_
                refine gg_iload (S := sX7_broughtBy) 3 101 rfl dX7_broughtBy_99 rfl ?_
                refine gg_iconst (S := sX7_broughtBy) 102 rfl dX7_broughtBy_101 ?_
                refine gg_join (fun t18 => [(0, vr (some x0)), (3, vi t17), (5, vi t12)]) (fun t18 => [vi t18]) 112 0 0 (fun κ102 hJ102 => ?_) ?_
                · refine gg_ic_eq (S := sX7_broughtBy) (tgt := 110) 105 rfl dX7_broughtBy_102 (by decide) ?_ ?_
                  · refine gg_iload (S := sX7_broughtBy) 4 112 rfl dX7_broughtBy_110 rfl ?_
                    exact gg_pure (gg_sub [1, 0, 2] rfl (hJ102 t11))
                  · refine gg_iload (S := sX7_broughtBy) 3 107 rfl dX7_broughtBy_105 rfl ?_
                    refine gg_goto (S := sX7_broughtBy) (tgt := 112) dX7_broughtBy_107 (by decide) ?_
                    exact gg_pure (gg_sub [1, 0, 2] rfl (hJ102 t6))
                · intro t18
                  refine gg_istore (S := sX7_broughtBy) (L' := [(4, vi t18), (0, vr (some x0)), (3, vi t17), (5, vi t12)]) 114 rfl dX7_broughtBy_112 (by decide) rfl ?_
                  exact gg_pure (gg_sub [1, 2, 0, 3] rfl (hJ74 (t17, t18)))
          · rintro ⟨t19, t20⟩
            dsimp only
            refine gg_goto (S := sX7_broughtBy) (tgt := 8) dX7_broughtBy_114 (by decide) ?_
            exact gg_pure (gg_sub [0, 1, 2, 3] rfl (hr8 (t19, t20, t12)))
  · intro t22
    refine gg_iload_n (S := sX7_broughtBy) 0 118 rfl dX7_broughtBy_117 rfl rfl ?_
    exact gg_pure (gg_iret (S := sX7_broughtBy) rfl dX7_broughtBy_118 (by decide) (by decide))
