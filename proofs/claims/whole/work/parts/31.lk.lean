set_option maxRecDepth 100000 in
set_option maxHeartbeats 4000000 in
theorem lkX2_tryFrom_ (n : Nat) (ih : ∀ (x0 : Nat) (x1 x2 x3 : Int), LK yX2_tryFrom (sX2_tryFrom n) [vr (some x0), vi x1, vi x2, vi x3] en_v (X2_tryFrom n x0 x1 x2 x3)) (x0 : Nat) (x1 x2 x3 : Int) : LK yX2_tryFrom (sX2_tryFrom (n + 1)) [vr (some x0), vi x1, vi x2, vi x3] en_v (X2_tryFrom (n + 1) x0 x1 x2 x3) := by
  refine lk_go (L := [(0, vr (some x0)), (1, vi x1), (2, vi x2), (3, vi x3)]) (by decide +kernel) rfl (fun h => by cases h) (Nat.le_of_ble_eq_true rfl) rfl ?_
  intro K
  show GG _ _ _ _ _ _ _ _ (mo_b (X2_tryFromB (X2_tryFrom n) x0 x1 x2 x3) mo_p)
  unfold X2_tryFromB
  refine gg_iload_n (S := sX2_tryFrom (n + 1)) 1 1 rfl dX2_tryFrom_0 rfl rfl ?_
  refine gg_if_lt (S := sX2_tryFrom (n + 1)) (tgt := 12) 4 rfl dX2_tryFrom_1 (by decide) ?_ ?_
  · refine gg_aload_n (S := sX2_tryFrom (n + 1)) 0 13 rfl dX2_tryFrom_12 rfl rfl ?_
    refine gg_iload_n (S := sX2_tryFrom (n + 1)) 2 14 rfl dX2_tryFrom_13 rfl rfl ?_
    refine gg_callVv (S := sX2_tryFrom (n + 1)) (S' := sX2_takeIfLess) (cs := 0) (sl := 0) (As := [vi x2]) (st := []) 17 rfl (fun b0 => lkX2_takeIfLess b0 x2) mwX2_takeIfLess rfl mlX2_93 dX2_tryFrom_14 cfX2 (show _ ∧ _ by simp only [sX2_takeIfLess, sX2_tryFrom]; omega) 0 0 ⟨rfl, rfl⟩ ⟨Nat.zero_le _, Nat.zero_le _⟩ (Nat.le_of_ble_eq_true rfl) (fun _ => ?_)
    exact gg_pure (gg_vret (S := sX2_tryFrom (n + 1)) rfl dX2_tryFrom_17 (Nat.zero_le _) (Nat.zero_le _))
  · refine gg_iload_n (S := sX2_tryFrom (n + 1)) 1 5 rfl dX2_tryFrom_4 rfl rfl ?_
    refine gg_aload_n (S := sX2_tryFrom (n + 1)) 0 6 rfl dX2_tryFrom_5 rfl rfl ?_
    refine gg_gi (S := sX2_tryFrom (n + 1)) cfX2 (by decide) (fun _ _ => rfl) 9 rfl flX2_42 dX2_tryFrom_6 (fun t2 => ?_)
    refine gg_ic_lt (S := sX2_tryFrom (n + 1)) (tgt := 18) 12 rfl dX2_tryFrom_9 (by decide) ?_ ?_
    · refine gg_iconst (S := sX2_tryFrom (n + 1)) 19 rfl dX2_tryFrom_18 ?_
      refine gg_istore (S := sX2_tryFrom (n + 1)) (L' := [(4, vi (-1)), (0, vr (some x0)), (1, vi x1), (2, vi x2), (3, vi x3)]) 21 rfl dX2_tryFrom_19 (show _ < 9 by decide) rfl ?_
      refine gg_sub [1, 2, 3, 4, 0] rfl ?_
      refine gg_loopA (fun y3 => [(0, vr (some x0)), (1, vi x1), (2, vi x2), (3, vi x3), (4, vi y3)]) (fun _ => []) 154 mo_N ?_ ?_ (-1)
      · intro κ21 hr21 he21
        intro y3
        dsimp only [X2_tryFrom_L21]
        refine gg_iload (S := sX2_tryFrom (n + 1)) 4 23 rfl dX2_tryFrom_21 rfl ?_
        refine gg_aload_n (S := sX2_tryFrom (n + 1)) 0 24 rfl dX2_tryFrom_23 rfl rfl ?_
        refine gg_gi (S := sX2_tryFrom (n + 1)) cfX2 (by decide) (fun _ _ => rfl) 27 rfl flX2_42 dX2_tryFrom_24 (fun t4 => ?_)
        refine gg_ic_ge (S := sX2_tryFrom (n + 1)) (tgt := 154) 30 rfl dX2_tryFrom_27 (by decide) ?_ ?_
        · refine gg_aload_n (S := sX2_tryFrom (n + 1)) 0 31 rfl dX2_tryFrom_30 rfl rfl ?_
          refine gg_iload_n (S := sX2_tryFrom (n + 1)) 1 32 rfl dX2_tryFrom_31 rfl rfl ?_
          refine gg_iload (S := sX2_tryFrom (n + 1)) 4 34 rfl dX2_tryFrom_32 rfl ?_
          refine gg_callVi (S := sX2_tryFrom (n + 1)) (S' := sX2_remadeAtLeast) (cs := 0) (sl := 0) (As := [vi x1, vi y3]) (st := []) 37 rfl (fun b21 => lkX2_remadeAtLeast b21 x1 y3) mwX2_remadeAtLeast rfl mlX2_97 dX2_tryFrom_34 cfX2 (show _ ∧ _ by simp only [sX2_remadeAtLeast, sX2_tryFrom]; omega) 0 0 ⟨rfl, rfl⟩ ⟨Nat.zero_le _, Nat.zero_le _⟩ (Nat.le_of_ble_eq_true rfl) (fun t5 => ?_)
          refine gg_istore (S := sX2_tryFrom (n + 1)) (L' := [(5, vi t5), (0, vr (some x0)), (1, vi x1), (2, vi x2), (3, vi x3), (4, vi y3)]) 39 rfl dX2_tryFrom_37 (show _ < 9 by decide) rfl ?_
          refine gg_iload_n (S := sX2_tryFrom (n + 1)) 3 40 rfl dX2_tryFrom_39 rfl rfl ?_
          refine gg_aload_n (S := sX2_tryFrom (n + 1)) 1 41 rfl dX2_tryFrom_40 rfl rfl ?_
          refine gg_iload_n (S := sX2_tryFrom (n + 1)) 2 42 rfl dX2_tryFrom_41 rfl rfl ?_
          refine gg_iload (S := sX2_tryFrom (n + 1)) 5 44 rfl dX2_tryFrom_42 rfl ?_
          refine gg_callVi (S := sX2_tryFrom (n + 1)) (S' := sX2_pieceRoom) (cs := 0) (sl := 0) (As := [vi x1, vi y3]) (st := [vi x2]) 47 rfl (fun b20 => lkX2_pieceRoom b20 x1 y3) mwX2_pieceRoom rfl mlX2_90 dX2_tryFrom_44 cfX2 (show _ ∧ _ by simp only [sX2_pieceRoom, sX2_tryFrom]; omega) 0 0 ⟨rfl, rfl⟩ ⟨Nat.zero_le _, Nat.zero_le _⟩ (Nat.le_of_ble_eq_true rfl) (fun t6 => ?_)
          refine gg_iadd (S := sX2_tryFrom (n + 1)) 48 rfl dX2_tryFrom_47 ?_
          refine gg_istore (S := sX2_tryFrom (n + 1)) (L' := [(6, vi (x2 + t6)), (5, vi t5), (0, vr (some x0)), (1, vi x1), (2, vi x2), (3, vi x3), (4, vi y3)]) 50 rfl dX2_tryFrom_48 (show _ < 9 by decide) rfl ?_
          refine gg_iload_n (S := sX2_tryFrom (n + 1)) 5 51 rfl dX2_tryFrom_50 rfl rfl ?_
          refine gg_aload_n (S := sX2_tryFrom (n + 1)) 2 52 rfl dX2_tryFrom_51 rfl rfl ?_
          refine gg_gr (S := sX2_tryFrom (n + 1)) cfX2 (by decide) (fun _ _ => rfl) 55 rfl flX2_18 dX2_tryFrom_52 (fun t7 => ?_)
          refine gg_iload_n (S := sX2_tryFrom (n + 1)) 3 56 rfl dX2_tryFrom_55 rfl rfl ?_
          refine gg_ld (S := sX2_tryFrom (n + 1)) 57 rfl dX2_tryFrom_56 (fun t8 => ?_)
          refine gg_iload (S := sX2_tryFrom (n + 1)) 1 59 rfl dX2_tryFrom_57 rfl ?_
          refine gg_imul (S := sX2_tryFrom (n + 1)) 60 rfl dX2_tryFrom_59 ?_
          refine gg_iadd (S := sX2_tryFrom (n + 1)) 61 rfl dX2_tryFrom_60 ?_
          refine gg_istore (S := sX2_tryFrom (n + 1)) (L' := [(7, vi (x3 + (t8 * t5))), (6, vi (x2 + t6)), (5, vi t5), (0, vr (some x0)), (1, vi x1), (2, vi x2), (3, vi x3), (4, vi y3)]) 63 rfl dX2_tryFrom_61 (show _ < 9 by decide) rfl ?_
          refine gg_iload (S := sX2_tryFrom (n + 1)) 7 65 rfl dX2_tryFrom_63 rfl ?_
          refine gg_iload_n (S := sX2_tryFrom (n + 1)) 4 66 rfl dX2_tryFrom_65 rfl rfl ?_
          refine gg_join (fun t12 => [(0, vr (some x0)), (1, vi x1), (2, vi x2), (3, vi x3), (4, vi y3), (6, vi (x2 + t6)), (7, vi (x3 + (t8 * t5)))]) (fun t12 => [vi t12]) 93 0 0 (fun κ66 hJ66 => ?_) ?_
          · refine gg_ic_eq (S := sX2_tryFrom (n + 1)) (tgt := 92) 69 rfl dX2_tryFrom_66 (by decide) ?_ ?_
            · refine gg_iconst (S := sX2_tryFrom (n + 1)) 93 rfl dX2_tryFrom_92 ?_
              exact gg_pure (gg_sub [3, 4, 5, 6, 7, 1, 0] rfl (hJ66 0))
            · refine gg_iload (S := sX2_tryFrom (n + 1)) 2 71 rfl dX2_tryFrom_69 rfl ?_
              refine gg_aload_n (S := sX2_tryFrom (n + 1)) 3 72 rfl dX2_tryFrom_71 rfl rfl ?_
              refine gg_gi (S := sX2_tryFrom (n + 1)) cfX2 (by decide) (fun _ _ => rfl) 75 rfl flX2_46 dX2_tryFrom_72 (fun t9 => ?_)
              refine gg_ic_gt (S := sX2_tryFrom (n + 1)) (tgt := 92) 78 rfl dX2_tryFrom_75 (by decide) ?_ ?_
              · refine gg_aload_n (S := sX2_tryFrom (n + 1)) 3 79 rfl dX2_tryFrom_78 rfl rfl ?_
                refine gg_iload (S := sX2_tryFrom (n + 1)) 7 81 rfl dX2_tryFrom_79 rfl ?_
                refine gg_iload_n (S := sX2_tryFrom (n + 1)) 4 82 rfl dX2_tryFrom_81 rfl rfl ?_
                refine gg_callVi (S := sX2_tryFrom (n + 1)) (S' := sX2_leadsTo) (cs := 0) (sl := 0) (As := [vi y3, vi x1]) (st := []) 85 rfl (fun b10 => lkX2_leadsTo b10 y3 x1) mwX2_leadsTo rfl mlX2_100 dX2_tryFrom_82 cfX2 (show _ ∧ _ by simp only [sX2_leadsTo, sX2_tryFrom]; omega) 0 0 ⟨rfl, rfl⟩ ⟨Nat.zero_le _, Nat.zero_le _⟩ (Nat.le_of_ble_eq_true rfl) (fun t10 => ?_)
                refine gg_if_ne (S := sX2_tryFrom (n + 1)) (tgt := 92) 88 rfl dX2_tryFrom_85 (by decide) ?_ ?_
                · refine gg_iconst (S := sX2_tryFrom (n + 1)) 89 rfl dX2_tryFrom_88 ?_
                  refine gg_goto (S := sX2_tryFrom (n + 1)) (tgt := 93) dX2_tryFrom_89 (by decide) ?_
                  exact gg_pure (gg_sub [3, 4, 5, 6, 7, 1, 0] rfl (hJ66 1))
                · refine gg_iconst (S := sX2_tryFrom (n + 1)) 93 rfl dX2_tryFrom_92 ?_
                  exact gg_pure (gg_sub [3, 4, 5, 6, 7, 1, 0] rfl (hJ66 0))
              · refine gg_iconst (S := sX2_tryFrom (n + 1)) 93 rfl dX2_tryFrom_92 ?_
                exact gg_pure (gg_sub [3, 4, 5, 6, 7, 1, 0] rfl (hJ66 0))
          · intro t12
            refine gg_istore (S := sX2_tryFrom (n + 1)) (L' := [(8, vi t12), (0, vr (some x0)), (1, vi x1), (2, vi x2), (3, vi x3), (4, vi y3), (6, vi (x2 + t6)), (7, vi (x3 + (t8 * t5)))]) 95 rfl dX2_tryFrom_93 (show _ < 9 by decide) rfl ?_
            refine gg_iload (S := sX2_tryFrom (n + 1)) 0 97 rfl dX2_tryFrom_95 rfl ?_
            refine gg_join (fun _ => [(0, vr (some x0)), (1, vi x1), (2, vi x2), (3, vi x3), (4, vi y3)]) (fun _ => []) 148 0 0 (fun κ97 hJ97 => ?_) ?_
            · refine gg_if_eq (S := sX2_tryFrom (n + 1)) (tgt := 148) 100 rfl dX2_tryFrom_97 (by decide) ?_ ?_
              · exact gg_pure (gg_sub [1, 2, 3, 4, 5] rfl (hJ97 ()))
              · refine gg_aload_n (S := sX2_tryFrom (n + 1)) 1 101 rfl dX2_tryFrom_100 rfl rfl ?_
                refine gg_iload (S := sX2_tryFrom (n + 1)) 6 103 rfl dX2_tryFrom_101 rfl ?_
                refine gg_aload_n (S := sX2_tryFrom (n + 1)) 1 104 rfl dX2_tryFrom_103 rfl rfl ?_
                refine gg_gr (S := sX2_tryFrom (n + 1)) cfX2 (by decide) (fun _ _ => rfl) 107 rfl flX2_21 dX2_tryFrom_104 (fun t13 => ?_)
                refine gg_iload_n (S := sX2_tryFrom (n + 1)) 2 108 rfl dX2_tryFrom_107 rfl rfl ?_
                refine gg_iconst (S := sX2_tryFrom (n + 1)) 109 rfl dX2_tryFrom_108 ?_
                refine gg_iadd (S := sX2_tryFrom (n + 1)) 110 rfl dX2_tryFrom_109 ?_
                refine gg_ld (S := sX2_tryFrom (n + 1)) 111 rfl dX2_tryFrom_110 (fun t14 => ?_)
                refine gg_iadd (S := sX2_tryFrom (n + 1)) 112 rfl dX2_tryFrom_111 ?_
                refine gg_iload (S := sX2_tryFrom (n + 1)) 7 114 rfl dX2_tryFrom_112 rfl ?_
                refine gg_aload_n (S := sX2_tryFrom (n + 1)) 1 115 rfl dX2_tryFrom_114 rfl rfl ?_
                refine gg_gr (S := sX2_tryFrom (n + 1)) cfX2 (by decide) (fun _ _ => rfl) 118 rfl flX2_24 dX2_tryFrom_115 (fun t15 => ?_)
                refine gg_iload_n (S := sX2_tryFrom (n + 1)) 2 119 rfl dX2_tryFrom_118 rfl rfl ?_
                refine gg_iconst (S := sX2_tryFrom (n + 1)) 120 rfl dX2_tryFrom_119 ?_
                refine gg_iadd (S := sX2_tryFrom (n + 1)) 121 rfl dX2_tryFrom_120 ?_
                refine gg_ld (S := sX2_tryFrom (n + 1)) 122 rfl dX2_tryFrom_121 (fun t16 => ?_)
                refine gg_iadd (S := sX2_tryFrom (n + 1)) 123 rfl dX2_tryFrom_122 ?_
                refine gg_callVi (S := sX2_tryFrom (n + 1)) (S' := sX2_isLess) (cs := 0) (sl := 0) (As := [vi ((x2 + t6) + t14), vi ((x3 + (t8 * t5)) + t16)]) (st := []) 126 rfl (fun b19 => lkX2_isLess b19 ((x2 + t6) + t14) ((x3 + (t8 * t5)) + t16)) mwX2_isLess rfl mlX2_103 dX2_tryFrom_123 cfX2 (show _ ∧ _ by simp only [sX2_isLess, sX2_tryFrom]; omega) 0 0 ⟨rfl, rfl⟩ ⟨Nat.zero_le _, Nat.zero_le _⟩ (Nat.le_of_ble_eq_true rfl) (fun t17 => ?_)
                refine gg_if_eq (S := sX2_tryFrom (n + 1)) (tgt := 148) 129 rfl dX2_tryFrom_126 (by decide) ?_ ?_
                · exact gg_pure (gg_sub [1, 2, 3, 4, 5] rfl (hJ97 ()))
                · refine gg_aload_n (S := sX2_tryFrom (n + 1)) 1 130 rfl dX2_tryFrom_129 rfl rfl ?_
                  refine gg_gr (S := sX2_tryFrom (n + 1)) cfX2 (by decide) (fun _ _ => rfl) 133 rfl flX2_27 dX2_tryFrom_130 (fun t18 => ?_)
                  refine gg_iload_n (S := sX2_tryFrom (n + 1)) 2 134 rfl dX2_tryFrom_133 rfl rfl ?_
                  refine gg_iload (S := sX2_tryFrom (n + 1)) 5 136 rfl dX2_tryFrom_134 rfl ?_
                  refine gg_st (S := sX2_tryFrom (n + 1)) 137 rfl dX2_tryFrom_136 ?_
                  refine gg_aload_n (S := sX2_tryFrom (n + 1)) 1 138 rfl dX2_tryFrom_137 rfl rfl ?_
                  refine gg_iload_n (S := sX2_tryFrom (n + 1)) 2 139 rfl dX2_tryFrom_138 rfl rfl ?_
                  refine gg_iconst (S := sX2_tryFrom (n + 1)) 140 rfl dX2_tryFrom_139 ?_
                  refine gg_iadd (S := sX2_tryFrom (n + 1)) 141 rfl dX2_tryFrom_140 ?_
                  refine gg_iload (S := sX2_tryFrom (n + 1)) 6 143 rfl dX2_tryFrom_141 rfl ?_
                  refine gg_iload (S := sX2_tryFrom (n + 1)) 7 145 rfl dX2_tryFrom_143 rfl ?_
                  refine gg_callVv (S := sX2_tryFrom (n + 1)) (S' := sX2_tryFrom n) (cs := 0) (sl := 0) (As := [vi (x1 + 1), vi (x2 + t6), vi (x3 + (t8 * t5))]) (st := []) 148 rfl (fun b18 => ih b18 (x1 + 1) (x2 + t6) (x3 + (t8 * t5))) (mwX2_tryFrom n) rfl mlX2_62 dX2_tryFrom_145 cfX2 (show _ ∧ _ by simp only [sX2_tryFrom]; omega) 0 0 ⟨rfl, rfl⟩ ⟨Nat.zero_le _, Nat.zero_le _⟩ (Nat.le_of_ble_eq_true rfl) (fun _ => ?_)
                  exact gg_pure (gg_sub [1, 2, 3, 4, 5] rfl (hJ97 ()))
            · intro _
              refine gg_iinc (S := sX2_tryFrom (n + 1)) (L' := [(4, vi (y3 + 1)), (0, vr (some x0)), (1, vi x1), (2, vi x2), (3, vi x3)]) 4 151 rfl dX2_tryFrom_148 rfl (show _ < 9 by decide) rfl ?_
              refine gg_goto (S := sX2_tryFrom (n + 1)) (tgt := 21) dX2_tryFrom_151 (by decide) ?_
              exact gg_pure (gg_sub [1, 2, 3, 4, 0] rfl (hr21 (y3 + 1)))
        · exact gg_pure (gg_sub [] rfl (he21 ()))
      · intro _
        exact gg_pure (gg_vret (S := sX2_tryFrom (n + 1)) rfl dX2_tryFrom_154 (Nat.zero_le _) (Nat.zero_le _))
    · refine gg_aload_n (S := sX2_tryFrom (n + 1)) 0 13 rfl dX2_tryFrom_12 rfl rfl ?_
      refine gg_iload_n (S := sX2_tryFrom (n + 1)) 2 14 rfl dX2_tryFrom_13 rfl rfl ?_
      refine gg_callVv (S := sX2_tryFrom (n + 1)) (S' := sX2_takeIfLess) (cs := 0) (sl := 0) (As := [vi x2]) (st := []) 17 rfl (fun b22 => lkX2_takeIfLess b22 x2) mwX2_takeIfLess rfl mlX2_93 dX2_tryFrom_14 cfX2 (show _ ∧ _ by simp only [sX2_takeIfLess, sX2_tryFrom]; omega) 0 0 ⟨rfl, rfl⟩ ⟨Nat.zero_le _, Nat.zero_le _⟩ (Nat.le_of_ble_eq_true rfl) (fun _ => ?_)
      exact gg_pure (gg_vret (S := sX2_tryFrom (n + 1)) rfl dX2_tryFrom_17 (Nat.zero_le _) (Nat.zero_le _))
theorem lkX2_tryFrom0 : ∀ (n : Nat) (x0 : Nat) (x1 x2 x3 : Int), LK yX2_tryFrom (sX2_tryFrom n) [vr (some x0), vi x1, vi x2, vi x3] en_v (X2_tryFrom n x0 x1 x2 x3)
  | 0, x0, x1, x2, x3 => fun l G h r h' e => by cases e
  | n + 1, x0, x1, x2, x3 => lkX2_tryFrom_ n (lkX2_tryFrom0 n) x0 x1 x2 x3
theorem lkX2_tryFrom (n : Nat) (x0 : Nat) (x1 x2 x3 : Int) : LK yX2_tryFrom (sX2_tryFrom (n + 1)) [vr (some x0), vi x1, vi x2, vi x3] en_v (X2_tryFrom (n + 1) x0 x1 x2 x3) := lkX2_tryFrom0 (n + 1) x0 x1 x2 x3

set_option maxRecDepth 100000 in
set_option maxHeartbeats 4000000 in
theorem lkX2_find (x0 : Nat) : LK yX2_find sX2_find [vr (some x0)] en_v (X2_find x0) := by
  refine lk_go (L := [(0, vr (some x0))]) (by decide +kernel) rfl (fun h => by cases h) (Nat.le_of_ble_eq_true rfl) rfl ?_
  intro K
  unfold X2_find
  refine gg_iconst (S := sX2_find) 1 rfl dX2_find_0 ?_
  refine gg_istore_n (S := sX2_find) (L' := [(1, vi 0), (0, vr (some x0))]) 2 rfl dX2_find_1 rfl (by decide) rfl ?_
  refine gg_sub [1, 0] rfl ?_
  refine gg_loop (fun y1 => [(0, vr (some x0)), (1, vi y1)]) mo_N ?_ 0
  · intro rec2 hr2
    intro y1
    dsimp only [X2_find_L2]
    refine gg_iload_n (S := sX2_find) 1 3 rfl dX2_find_2 rfl rfl ?_
    refine gg_aload_n (S := sX2_find) 0 4 rfl dX2_find_3 rfl rfl ?_
    refine gg_gi (S := sX2_find) cfX2 (by decide) (fun _ _ => rfl) 7 rfl flX2_42 dX2_find_4 (fun t2 => ?_)
    refine gg_ic_ge (S := sX2_find) (tgt := 30) 10 rfl dX2_find_7 (by decide) ?_ ?_
    · refine gg_aload_n (S := sX2_find) 0 11 rfl dX2_find_10 rfl rfl ?_
      refine gg_gr (S := sX2_find) cfX2 (by decide) (fun _ _ => rfl) 14 rfl flX2_9 dX2_find_11 (fun t5 => ?_)
      refine gg_iload_n (S := sX2_find) 1 15 rfl dX2_find_14 rfl rfl ?_
      refine gg_ld (S := sX2_find) 16 rfl dX2_find_15 (fun t6 => ?_)
      refine gg_aload_n (S := sX2_find) 0 17 rfl dX2_find_16 rfl rfl ?_
      refine gg_gi (S := sX2_find) cfX2 (by decide) (fun _ _ => rfl) 20 rfl flX2_46 dX2_find_17 (fun t7 => ?_)
      refine gg_ic_le (S := sX2_find) (tgt := 24) 23 rfl dX2_find_20 (by decide) ?_ ?_
      · refine gg_iinc (S := sX2_find) (L' := [(1, vi (y1 + 1)), (0, vr (some x0))]) 1 27 rfl dX2_find_24 rfl (by decide) rfl ?_
        refine gg_goto (S := sX2_find) (tgt := 2) dX2_find_27 (by decide) ?_
        exact gg_pure (gg_sub [1, 0] rfl (hr2 (y1 + 1)))
      · exact gg_pure (gg_vret (S := sX2_find) rfl dX2_find_23 (by decide) (by decide))
    · refine gg_aload_n (S := sX2_find) 0 31 rfl dX2_find_30 rfl rfl ?_
      refine gg_callVv (S := sX2_find) (S' := sX2_reckonLeastFrom) (cs := 0) (sl := 0) (As := []) (st := []) 34 rfl (fun b3 => lkX2_reckonLeastFrom b3) mwX2_reckonLeastFrom rfl mlX2_59 dX2_find_31 cfX2 ⟨by decide, by decide⟩ 0 0 ⟨rfl, rfl⟩ ⟨by decide, by decide⟩ (Nat.le_of_ble_eq_true rfl) (fun _ => ?_)
      refine gg_aload_n (S := sX2_find) 0 35 rfl dX2_find_34 rfl rfl ?_
      refine gg_iconst (S := sX2_find) 36 rfl dX2_find_35 ?_
      refine gg_iconst (S := sX2_find) 37 rfl dX2_find_36 ?_
      refine gg_iconst (S := sX2_find) 38 rfl dX2_find_37 ?_
      refine gg_callVv (S := sX2_find) (S' := sX2_tryFrom 8) (cs := 0) (sl := 0) (As := [vi 0, vi 0, vi 0]) (st := []) 41 rfl (fun b2 => lkX2_tryFrom 7 b2 0 0 0) (mwX2_tryFrom 8) rfl mlX2_62 dX2_find_38 cfX2 ⟨by decide, by decide⟩ 0 0 ⟨rfl, rfl⟩ ⟨by decide, by decide⟩ (Nat.le_of_ble_eq_true rfl) (fun _ => ?_)
      exact gg_pure (gg_vret (S := sX2_find) rfl dX2_find_41 (by decide) (by decide))

set_option maxRecDepth 100000 in
set_option maxHeartbeats 4000000 in
theorem lkX2_init (x0 : Nat) : LK yX2_init sX2_init [vr (some x0)] en_v (X2_init x0) := by
  refine lk_go (L := [(0, vr (some x0))]) (by decide +kernel) rfl (fun _ => rfl) (Nat.le_of_ble_eq_true rfl) rfl ?_
  intro K
  unfold X2_init
  refine gg_aload_n (S := sX2_init) 0 1 rfl dX2_init_0 rfl rfl ?_
  refine gg_objI (S := sX2_init) 4 rfl mlX2_3 oi_i oi_c dX2_init_1 (by decide) (Nat.le_of_ble_eq_true rfl) ?_
  refine gg_aload_n (S := sX2_init) 0 5 rfl dX2_init_4 rfl rfl ?_
  refine gg_bipush (S := sX2_init) 7 rfl dX2_init_5 (by decide) ?_
  refine gg_ni (S := sX2_init) (cap := 6) (cs := 0) (sl := 0) 9 rfl ac_I dX2_init_7 (by decide) 1 6 ⟨rfl, rfl⟩ (by decide) (by decide) (fun t1 => ?_)
  refine gg_srF (S := sX2_init) cfX2 (by decide) (Or.inl ⟨_, rfl⟩) (fun _ _ => rfl) rfl rfl rfl 12 rfl flX2_9 dX2_init_9 ?_
  refine gg_aload_n (S := sX2_init) 0 13 rfl dX2_init_12 rfl rfl ?_
  refine gg_bipush (S := sX2_init) 15 rfl dX2_init_13 (by decide) ?_
  refine gg_ni (S := sX2_init) (cap := 36) (cs := 1) (sl := 6) 17 rfl ac_I dX2_init_15 (by decide) 2 42 ⟨rfl, rfl⟩ (by decide) (by decide) (fun t2 => ?_)
  refine gg_srF (S := sX2_init) cfX2 (by decide) (Or.inl ⟨_, rfl⟩) (fun _ _ => rfl) rfl rfl rfl 20 rfl flX2_15 dX2_init_17 ?_
  refine gg_aload_n (S := sX2_init) 0 21 rfl dX2_init_20 rfl rfl ?_
  refine gg_bipush (S := sX2_init) 23 rfl dX2_init_21 (by decide) ?_
  refine gg_ni (S := sX2_init) (cap := 6) (cs := 2) (sl := 42) 25 rfl ac_I dX2_init_23 (by decide) 3 48 ⟨rfl, rfl⟩ (by decide) (by decide) (fun t3 => ?_)
  refine gg_srF (S := sX2_init) cfX2 (by decide) (Or.inl ⟨_, rfl⟩) (fun _ _ => rfl) rfl rfl rfl 28 rfl flX2_18 dX2_init_25 ?_
  refine gg_aload_n (S := sX2_init) 0 29 rfl dX2_init_28 rfl rfl ?_
  refine gg_bipush (S := sX2_init) 31 rfl dX2_init_29 (by decide) ?_
  refine gg_ni (S := sX2_init) (cap := 7) (cs := 3) (sl := 48) 33 rfl ac_I dX2_init_31 (by decide) 4 55 ⟨rfl, rfl⟩ (by decide) (by decide) (fun t4 => ?_)
  refine gg_srF (S := sX2_init) cfX2 (by decide) (Or.inl ⟨_, rfl⟩) (fun _ _ => rfl) rfl rfl rfl 36 rfl flX2_21 dX2_init_33 ?_
  refine gg_aload_n (S := sX2_init) 0 37 rfl dX2_init_36 rfl rfl ?_
  refine gg_bipush (S := sX2_init) 39 rfl dX2_init_37 (by decide) ?_
  refine gg_ni (S := sX2_init) (cap := 7) (cs := 4) (sl := 55) 41 rfl ac_I dX2_init_39 (by decide) 5 62 ⟨rfl, rfl⟩ (by decide) (by decide) (fun t5 => ?_)
  refine gg_srF (S := sX2_init) cfX2 (by decide) (Or.inl ⟨_, rfl⟩) (fun _ _ => rfl) rfl rfl rfl 44 rfl flX2_24 dX2_init_41 ?_
  refine gg_aload_n (S := sX2_init) 0 45 rfl dX2_init_44 rfl rfl ?_
  refine gg_bipush (S := sX2_init) 47 rfl dX2_init_45 (by decide) ?_
  refine gg_ni (S := sX2_init) (cap := 6) (cs := 5) (sl := 62) 49 rfl ac_I dX2_init_47 (by decide) 6 68 ⟨rfl, rfl⟩ (by decide) (by decide) (fun t6 => ?_)
  refine gg_srF (S := sX2_init) cfX2 (by decide) (Or.inl ⟨_, rfl⟩) (fun _ _ => rfl) rfl rfl rfl 52 rfl flX2_27 dX2_init_49 ?_
  refine gg_aload_n (S := sX2_init) 0 53 rfl dX2_init_52 rfl rfl ?_
  refine gg_bipush (S := sX2_init) 55 rfl dX2_init_53 (by decide) ?_
  refine gg_ni (S := sX2_init) (cap := 6) (cs := 6) (sl := 68) 57 rfl ac_I dX2_init_55 (by decide) 7 74 ⟨rfl, rfl⟩ (by decide) (by decide) (fun t7 => ?_)
  refine gg_srF (S := sX2_init) cfX2 (by decide) (Or.inl ⟨_, rfl⟩) (fun _ _ => rfl) rfl rfl rfl 60 rfl flX2_30 dX2_init_57 ?_
  exact gg_pure (gg_vret (S := sX2_init) rfl dX2_init_60 (by decide) (by decide))

set_option maxRecDepth 100000 in
set_option maxHeartbeats 4000000 in
theorem lkX2_remadeFor (x0 : Nat) (x1 : Int) : LK yX2_remadeFor sX2_remadeFor [vr (some x0), vi x1] en_i (X2_remadeFor x0 x1) := by
  refine lk_go (L := [(0, vr (some x0)), (1, vi x1)]) (by decide +kernel) rfl (fun h => by cases h) (Nat.le_of_ble_eq_true rfl) rfl ?_
  intro K
  unfold X2_remadeFor
  refine gg_aload_n (S := sX2_remadeFor) 0 1 rfl dX2_remadeFor_0 rfl rfl ?_
  refine gg_gi (S := sX2_remadeFor) cfX2 (by decide) (fun _ _ => rfl) 4 rfl flX2_49 dX2_remadeFor_1 (fun t1 => ?_)
  refine gg_if_eq (S := sX2_remadeFor) (tgt := 31) 7 rfl dX2_remadeFor_4 (by decide) ?_ ?_
  · refine gg_bipush (S := sX2_remadeFor) 33 rfl dX2_remadeFor_31 (by decide) ?_
    exact gg_pure (gg_iret (S := sX2_remadeFor) rfl dX2_remadeFor_33 (by decide) (by decide))
  · refine gg_iload_n (S := sX2_remadeFor) 1 8 rfl dX2_remadeFor_7 rfl rfl ?_
    refine gg_if_lt (S := sX2_remadeFor) (tgt := 31) 11 rfl dX2_remadeFor_8 (by decide) ?_ ?_
    · refine gg_bipush (S := sX2_remadeFor) 33 rfl dX2_remadeFor_31 (by decide) ?_
      exact gg_pure (gg_iret (S := sX2_remadeFor) rfl dX2_remadeFor_33 (by decide) (by decide))
    · refine gg_iload_n (S := sX2_remadeFor) 1 12 rfl dX2_remadeFor_11 rfl rfl ?_
      refine gg_aload_n (S := sX2_remadeFor) 0 13 rfl dX2_remadeFor_12 rfl rfl ?_
      refine gg_gi (S := sX2_remadeFor) cfX2 (by decide) (fun _ _ => rfl) 16 rfl flX2_42 dX2_remadeFor_13 (fun t2 => ?_)
      refine gg_ic_ge (S := sX2_remadeFor) (tgt := 31) 19 rfl dX2_remadeFor_16 (by decide) ?_ ?_
      · refine gg_aload_n (S := sX2_remadeFor) 0 20 rfl dX2_remadeFor_19 rfl rfl ?_
        refine gg_aload_n (S := sX2_remadeFor) 0 21 rfl dX2_remadeFor_20 rfl rfl ?_
        refine gg_gr (S := sX2_remadeFor) cfX2 (by decide) (fun _ _ => rfl) 24 rfl flX2_30 dX2_remadeFor_21 (fun t3 => ?_)
        refine gg_iload_n (S := sX2_remadeFor) 1 25 rfl dX2_remadeFor_24 rfl rfl ?_
        refine gg_callVi (S := sX2_remadeFor) (S' := sX2_remadeBy) (cs := 0) (sl := 0) (As := [vr t3, vi x1]) (st := []) 28 rfl (fun b4 => lkX2_remadeBy b4 t3 x1) mwX2_remadeBy rfl mlX2_66 dX2_remadeFor_25 cfX2 ⟨by decide, by decide⟩ 0 0 ⟨rfl, rfl⟩ ⟨by decide, by decide⟩ (Nat.le_of_ble_eq_true rfl) (fun t4 => ?_)
        refine gg_goto (S := sX2_remadeFor) (tgt := 33) dX2_remadeFor_28 (by decide) ?_
        exact gg_pure (gg_iret (S := sX2_remadeFor) rfl dX2_remadeFor_33 (by decide) (by decide))
      · refine gg_bipush (S := sX2_remadeFor) 33 rfl dX2_remadeFor_31 (by decide) ?_
        exact gg_pure (gg_iret (S := sX2_remadeFor) rfl dX2_remadeFor_33 (by decide) (by decide))

set_option maxRecDepth 100000 in
set_option maxHeartbeats 4000000 in
theorem lkX2_roomOrNone (x0 : Nat) : LK yX2_roomOrNone sX2_roomOrNone [vr (some x0)] en_i (X2_roomOrNone x0) := by
  refine lk_go (L := [(0, vr (some x0))]) (by decide +kernel) rfl (fun h => by cases h) (Nat.le_of_ble_eq_true rfl) rfl ?_
  intro K
  unfold X2_roomOrNone
  refine gg_aload_n (S := sX2_roomOrNone) 0 1 rfl dX2_roomOrNone_0 rfl rfl ?_
  refine gg_gi (S := sX2_roomOrNone) cfX2 (by decide) (fun _ _ => rfl) 4 rfl flX2_49 dX2_roomOrNone_1 (fun t1 => ?_)
  refine gg_if_eq (S := sX2_roomOrNone) (tgt := 14) 7 rfl dX2_roomOrNone_4 (by decide) ?_ ?_
  · refine gg_iconst (S := sX2_roomOrNone) 15 rfl dX2_roomOrNone_14 ?_
    exact gg_pure (gg_iret (S := sX2_roomOrNone) rfl dX2_roomOrNone_15 (by decide) (by decide))
  · refine gg_aload_n (S := sX2_roomOrNone) 0 8 rfl dX2_roomOrNone_7 rfl rfl ?_
    refine gg_gi (S := sX2_roomOrNone) cfX2 (by decide) (fun _ _ => rfl) 11 rfl flX2_53 dX2_roomOrNone_8 (fun t2 => ?_)
    refine gg_goto (S := sX2_roomOrNone) (tgt := 15) dX2_roomOrNone_11 (by decide) ?_
    exact gg_pure (gg_iret (S := sX2_roomOrNone) rfl dX2_roomOrNone_15 (by decide) (by decide))

set_option maxRecDepth 100000 in
set_option maxHeartbeats 4000000 in
theorem lkX2_setPatch (x0 : Nat) (x1 : Int) (x2 : Int) (x3 : Int) : LK yX2_setPatch sX2_setPatch [vr (some x0), vi x1, vi x2, vi x3] en_v (X2_setPatch x0 x1 x2 x3) := by
  refine lk_go (L := [(0, vr (some x0)), (1, vi x1), (2, vi x2), (3, vi x3)]) (by decide +kernel) rfl (fun h => by cases h) (Nat.le_of_ble_eq_true rfl) rfl ?_
  intro K
  unfold X2_setPatch
  refine gg_iload_n (S := sX2_setPatch) 1 1 rfl dX2_setPatch_0 rfl rfl ?_
  refine gg_if_lt (S := sX2_setPatch) (tgt := 32) 4 rfl dX2_setPatch_1 (by decide) ?_ ?_
  · exact gg_pure (gg_vret (S := sX2_setPatch) rfl dX2_setPatch_32 (by decide) (by decide))
  · refine gg_iload_n (S := sX2_setPatch) 1 5 rfl dX2_setPatch_4 rfl rfl ?_
    refine gg_bipush (S := sX2_setPatch) 7 rfl dX2_setPatch_5 (by decide) ?_
    refine gg_ic_ge (S := sX2_setPatch) (tgt := 32) 10 rfl dX2_setPatch_7 (by decide) ?_ ?_
    · refine gg_iload_n (S := sX2_setPatch) 2 11 rfl dX2_setPatch_10 rfl rfl ?_
      refine gg_if_lt (S := sX2_setPatch) (tgt := 32) 14 rfl dX2_setPatch_11 (by decide) ?_ ?_
      · exact gg_pure (gg_vret (S := sX2_setPatch) rfl dX2_setPatch_32 (by decide) (by decide))
      · refine gg_iload_n (S := sX2_setPatch) 2 15 rfl dX2_setPatch_14 rfl rfl ?_
        refine gg_bipush (S := sX2_setPatch) 17 rfl dX2_setPatch_15 (by decide) ?_
        refine gg_ic_ge (S := sX2_setPatch) (tgt := 32) 20 rfl dX2_setPatch_17 (by decide) ?_ ?_
        · refine gg_aload_n (S := sX2_setPatch) 0 21 rfl dX2_setPatch_20 rfl rfl ?_
          refine gg_gr (S := sX2_setPatch) cfX2 (by decide) (fun _ _ => rfl) 24 rfl flX2_15 dX2_setPatch_21 (fun t1 => ?_)
          refine gg_iload_n (S := sX2_setPatch) 2 25 rfl dX2_setPatch_24 rfl rfl ?_
          refine gg_bipush (S := sX2_setPatch) 27 rfl dX2_setPatch_25 (by decide) ?_
          refine gg_imul (S := sX2_setPatch) 28 rfl dX2_setPatch_27 ?_
          refine gg_iload_n (S := sX2_setPatch) 1 29 rfl dX2_setPatch_28 rfl rfl ?_
          refine gg_iadd (S := sX2_setPatch) 30 rfl dX2_setPatch_29 ?_
          refine gg_iload_n (S := sX2_setPatch) 3 31 rfl dX2_setPatch_30 rfl rfl ?_
          refine gg_st (S := sX2_setPatch) 32 rfl dX2_setPatch_31 ?_
          exact gg_pure (gg_vret (S := sX2_setPatch) rfl dX2_setPatch_32 (by decide) (by decide))
        · exact gg_pure (gg_vret (S := sX2_setPatch) rfl dX2_setPatch_32 (by decide) (by decide))
    · exact gg_pure (gg_vret (S := sX2_setPatch) rfl dX2_setPatch_32 (by decide) (by decide))

set_option maxRecDepth 100000 in
set_option maxHeartbeats 4000000 in
theorem lkX2_setWhole (x0 : Nat) (x1 : Int) (x2 : Int) (x3 : Int) : LK yX2_setWhole sX2_setWhole [vr (some x0), vi x1, vi x2, vi x3] en_v (X2_setWhole x0 x1 x2 x3) := by
  refine lk_go (L := [(0, vr (some x0)), (1, vi x1), (2, vi x2), (3, vi x3)]) (by decide +kernel) rfl (fun h => by cases h) (Nat.le_of_ble_eq_true rfl) rfl ?_
  intro K
  unfold X2_setWhole
  refine gg_iload_n (S := sX2_setWhole) 1 1 rfl dX2_setWhole_0 rfl rfl ?_
  refine gg_if_lt (S := sX2_setWhole) (tgt := 24) 4 rfl dX2_setWhole_1 (by decide) ?_ ?_
  · exact gg_pure (gg_vret (S := sX2_setWhole) rfl dX2_setWhole_24 (by decide) (by decide))
  · refine gg_iload_n (S := sX2_setWhole) 1 5 rfl dX2_setWhole_4 rfl rfl ?_
    refine gg_bipush (S := sX2_setWhole) 7 rfl dX2_setWhole_5 (by decide) ?_
    refine gg_ic_ge (S := sX2_setWhole) (tgt := 24) 10 rfl dX2_setWhole_7 (by decide) ?_ ?_
    · refine gg_aload_n (S := sX2_setWhole) 0 11 rfl dX2_setWhole_10 rfl rfl ?_
      refine gg_gr (S := sX2_setWhole) cfX2 (by decide) (fun _ _ => rfl) 14 rfl flX2_9 dX2_setWhole_11 (fun t1 => ?_)
      refine gg_iload_n (S := sX2_setWhole) 1 15 rfl dX2_setWhole_14 rfl rfl ?_
      refine gg_iload_n (S := sX2_setWhole) 2 16 rfl dX2_setWhole_15 rfl rfl ?_
      refine gg_st (S := sX2_setWhole) 17 rfl dX2_setWhole_16 ?_
      refine gg_aload_n (S := sX2_setWhole) 0 18 rfl dX2_setWhole_17 rfl rfl ?_
      refine gg_gr (S := sX2_setWhole) cfX2 (by decide) (fun _ _ => rfl) 21 rfl flX2_18 dX2_setWhole_18 (fun t2 => ?_)
      refine gg_iload_n (S := sX2_setWhole) 1 22 rfl dX2_setWhole_21 rfl rfl ?_
      refine gg_iload_n (S := sX2_setWhole) 3 23 rfl dX2_setWhole_22 rfl rfl ?_
      refine gg_st (S := sX2_setWhole) 24 rfl dX2_setWhole_23 ?_
      exact gg_pure (gg_vret (S := sX2_setWhole) rfl dX2_setWhole_24 (by decide) (by decide))
    · exact gg_pure (gg_vret (S := sX2_setWhole) rfl dX2_setWhole_24 (by decide) (by decide))

set_option maxRecDepth 100000 in
set_option maxHeartbeats 4000000 in
theorem lkX2_sourceOf (x0 : Nat) (x1 : Int) : LK yX2_sourceOf sX2_sourceOf [vr (some x0), vi x1] en_i (X2_sourceOf x0 x1) := by
  refine lk_go (L := [(0, vr (some x0)), (1, vi x1)]) (by decide +kernel) rfl (fun h => by cases h) (Nat.le_of_ble_eq_true rfl) rfl ?_
  intro K
  unfold X2_sourceOf
  refine gg_aload_n (S := sX2_sourceOf) 0 1 rfl dX2_sourceOf_0 rfl rfl ?_
  refine gg_gi (S := sX2_sourceOf) cfX2 (by decide) (fun _ _ => rfl) 4 rfl flX2_49 dX2_sourceOf_1 (fun t1 => ?_)
  refine gg_if_eq (S := sX2_sourceOf) (tgt := 28) 7 rfl dX2_sourceOf_4 (by decide) ?_ ?_
  · refine gg_bipush (S := sX2_sourceOf) 30 rfl dX2_sourceOf_28 (by decide) ?_
    exact gg_pure (gg_iret (S := sX2_sourceOf) rfl dX2_sourceOf_30 (by decide) (by decide))
  · refine gg_iload_n (S := sX2_sourceOf) 1 8 rfl dX2_sourceOf_7 rfl rfl ?_
    refine gg_if_lt (S := sX2_sourceOf) (tgt := 28) 11 rfl dX2_sourceOf_8 (by decide) ?_ ?_
    · refine gg_bipush (S := sX2_sourceOf) 30 rfl dX2_sourceOf_28 (by decide) ?_
      exact gg_pure (gg_iret (S := sX2_sourceOf) rfl dX2_sourceOf_30 (by decide) (by decide))
    · refine gg_iload_n (S := sX2_sourceOf) 1 12 rfl dX2_sourceOf_11 rfl rfl ?_
      refine gg_aload_n (S := sX2_sourceOf) 0 13 rfl dX2_sourceOf_12 rfl rfl ?_
      refine gg_gi (S := sX2_sourceOf) cfX2 (by decide) (fun _ _ => rfl) 16 rfl flX2_42 dX2_sourceOf_13 (fun t2 => ?_)
      refine gg_ic_ge (S := sX2_sourceOf) (tgt := 28) 19 rfl dX2_sourceOf_16 (by decide) ?_ ?_
      · refine gg_aload_n (S := sX2_sourceOf) 0 20 rfl dX2_sourceOf_19 rfl rfl ?_
        refine gg_gr (S := sX2_sourceOf) cfX2 (by decide) (fun _ _ => rfl) 23 rfl flX2_30 dX2_sourceOf_20 (fun t3 => ?_)
        refine gg_iload_n (S := sX2_sourceOf) 1 24 rfl dX2_sourceOf_23 rfl rfl ?_
        refine gg_ld (S := sX2_sourceOf) 25 rfl dX2_sourceOf_24 (fun t4 => ?_)
        refine gg_goto (S := sX2_sourceOf) (tgt := 30) dX2_sourceOf_25 (by decide) ?_
        exact gg_pure (gg_iret (S := sX2_sourceOf) rfl dX2_sourceOf_30 (by decide) (by decide))
      · refine gg_bipush (S := sX2_sourceOf) 30 rfl dX2_sourceOf_28 (by decide) ?_
        exact gg_pure (gg_iret (S := sX2_sourceOf) rfl dX2_sourceOf_30 (by decide) (by decide))

set_option maxRecDepth 100000 in
set_option maxHeartbeats 4000000 in
theorem lkX2_sumOrNone (x0 : Nat) : LK yX2_sumOrNone sX2_sumOrNone [vr (some x0)] en_i (X2_sumOrNone x0) := by
  refine lk_go (L := [(0, vr (some x0))]) (by decide +kernel) rfl (fun h => by cases h) (Nat.le_of_ble_eq_true rfl) rfl ?_
  intro K
  unfold X2_sumOrNone
  refine gg_aload_n (S := sX2_sumOrNone) 0 1 rfl dX2_sumOrNone_0 rfl rfl ?_
  refine gg_gi (S := sX2_sumOrNone) cfX2 (by decide) (fun _ _ => rfl) 4 rfl flX2_49 dX2_sumOrNone_1 (fun t1 => ?_)
  refine gg_if_eq (S := sX2_sumOrNone) (tgt := 14) 7 rfl dX2_sumOrNone_4 (by decide) ?_ ?_
  · refine gg_iconst (S := sX2_sumOrNone) 15 rfl dX2_sumOrNone_14 ?_
    exact gg_pure (gg_iret (S := sX2_sumOrNone) rfl dX2_sumOrNone_15 (by decide) (by decide))
  · refine gg_aload_n (S := sX2_sumOrNone) 0 8 rfl dX2_sumOrNone_7 rfl rfl ?_
    refine gg_gi (S := sX2_sumOrNone) cfX2 (by decide) (fun _ _ => rfl) 11 rfl flX2_56 dX2_sumOrNone_8 (fun t2 => ?_)
    refine gg_goto (S := sX2_sumOrNone) (tgt := 15) dX2_sumOrNone_11 (by decide) ?_
    exact gg_pure (gg_iret (S := sX2_sumOrNone) rfl dX2_sumOrNone_15 (by decide) (by decide))

set_option maxRecDepth 100000 in
set_option maxHeartbeats 4000000 in
theorem lkX3_allComing (x0 : Nat) : LK yX3_allComing sX3_allComing [vr (some x0)] en_i (X3_allComing x0) := by
  refine lk_go (L := [(0, vr (some x0))]) (by decide +kernel) rfl (fun h => by cases h) (Nat.le_of_ble_eq_true rfl) rfl ?_
  intro K
  unfold X3_allComing
  refine gg_aload_n (S := sX3_allComing) 0 1 rfl dX3_allComing_0 rfl rfl ?_
  refine gg_gr (S := sX3_allComing) cfX3 (by decide) (fun _ _ => rfl) 4 rfl flX3_24 dX3_allComing_1 (fun t1 => ?_)
  refine gg_aload_n (S := sX3_allComing) 0 5 rfl dX3_allComing_4 rfl rfl ?_
  refine gg_gi (S := sX3_allComing) cfX3 (by decide) (fun _ _ => rfl) 8 rfl flX3_33 dX3_allComing_5 (fun t2 => ?_)
  refine gg_callSi (S := sX3_allComing) (S' := sX3_start) (cs := 0) (sl := 0) (As := [vr t1, vi t2]) (st := []) 11 rfl (lkX3_start t1 t2) mwX3_start rfl mlX3_37 dX3_allComing_8 ⟨by decide, by decide⟩ 0 0 ⟨rfl, rfl⟩ ⟨by decide, by decide⟩ (Nat.le_of_ble_eq_true rfl) (fun t3 => ?_)
  exact gg_pure (gg_iret (S := sX3_allComing) rfl dX3_allComing_11 (by decide) (by decide))

set_option maxRecDepth 100000 in
set_option maxHeartbeats 4000000 in
theorem lkX3_allGoing (x0 : Nat) : LK yX3_allGoing sX3_allGoing [vr (some x0)] en_i (X3_allGoing x0) := by
  refine lk_go (L := [(0, vr (some x0))]) (by decide +kernel) rfl (fun h => by cases h) (Nat.le_of_ble_eq_true rfl) rfl ?_
  intro K
  unfold X3_allGoing
  refine gg_aload_n (S := sX3_allGoing) 0 1 rfl dX3_allGoing_0 rfl rfl ?_
  refine gg_gr (S := sX3_allGoing) cfX3 (by decide) (fun _ _ => rfl) 4 rfl flX3_21 dX3_allGoing_1 (fun t1 => ?_)
  refine gg_aload_n (S := sX3_allGoing) 0 5 rfl dX3_allGoing_4 rfl rfl ?_
  refine gg_gi (S := sX3_allGoing) cfX3 (by decide) (fun _ _ => rfl) 8 rfl flX3_33 dX3_allGoing_5 (fun t2 => ?_)
  refine gg_callSi (S := sX3_allGoing) (S' := sX3_start) (cs := 0) (sl := 0) (As := [vr t1, vi t2]) (st := []) 11 rfl (lkX3_start t1 t2) mwX3_start rfl mlX3_37 dX3_allGoing_8 ⟨by decide, by decide⟩ 0 0 ⟨rfl, rfl⟩ ⟨by decide, by decide⟩ (Nat.le_of_ble_eq_true rfl) (fun t3 => ?_)
  exact gg_pure (gg_iret (S := sX3_allGoing) rfl dX3_allGoing_11 (by decide) (by decide))

set_option maxRecDepth 100000 in
set_option maxHeartbeats 4000000 in
theorem lkX3_become (x0 : Nat) (x1 : Option Nat) : LK yX3_become sX3_become [vr (some x0), vr x1] en_v (X3_become x0 x1) := by
  refine lk_go (L := [(0, vr (some x0)), (1, vr x1)]) (by decide +kernel) rfl (fun h => by cases h) (Nat.le_of_ble_eq_true rfl) rfl ?_
  intro K
  unfold X3_become
  refine gg_aload_n (S := sX3_become) 0 1 rfl dX3_become_0 rfl rfl ?_
  refine gg_callVv (S := sX3_become) (S' := sX3_clear) (cs := 0) (sl := 0) (As := []) (st := []) 4 rfl (fun b6 => lkX3_clear b6) mwX3_clear rfl mlX3_95 dX3_become_1 cfX3 ⟨by decide, by decide⟩ 0 0 ⟨rfl, rfl⟩ ⟨by decide, by decide⟩ (Nat.le_of_ble_eq_true rfl) (fun _ => ?_)
  refine gg_iconst (S := sX3_become) 5 rfl dX3_become_4 ?_
  refine gg_istore_n (S := sX3_become) (L' := [(2, vi 0), (0, vr (some x0)), (1, vr x1)]) 6 rfl dX3_become_5 rfl (by decide) rfl ?_
  refine gg_sub [1, 2, 0] rfl ?_
  refine gg_loopA (fun y1 => [(0, vr (some x0)), (1, vr x1), (2, vi y1)]) (fun _ => []) 31 mo_N ?_ ?_ 0
  · intro κ6 hr6 he6
    intro y1
    dsimp only [X3_become_L6]
    refine gg_iload_n (S := sX3_become) 2 7 rfl dX3_become_6 rfl rfl ?_
    refine gg_aload_n (S := sX3_become) 1 8 rfl dX3_become_7 rfl rfl ?_
    refine gg_callVi (S := sX3_become) (S' := sX3_hunks) (cs := 0) (sl := 0) (As := []) (st := [vi y1]) 11 rfl (fun b5 => lkX3_hunks b5) mwX3_hunks rfl mlX3_98 dX3_become_8 cfX3 ⟨by decide, by decide⟩ 0 0 ⟨rfl, rfl⟩ ⟨by decide, by decide⟩ (Nat.le_of_ble_eq_true rfl) (fun t2 => ?_)
    refine gg_ic_ge (S := sX3_become) (tgt := 31) 14 rfl dX3_become_11 (by decide) ?_ ?_
    · refine gg_aload_n (S := sX3_become) 0 15 rfl dX3_become_14 rfl rfl ?_
      refine gg_aload_n (S := sX3_become) 1 16 rfl dX3_become_15 rfl rfl ?_
      refine gg_iload_n (S := sX3_become) 2 17 rfl dX3_become_16 rfl rfl ?_
      refine gg_aload_n (S := sX3_become) 1 18 rfl dX3_become_17 rfl rfl ?_
      refine gg_iload_n (S := sX3_become) 2 19 rfl dX3_become_18 rfl rfl ?_
      refine gg_callVi (S := sX3_become) (S' := sX3_begins) (cs := 0) (sl := 0) (As := [vi y1]) (st := [vi y1, vr x1, vr (some x0)]) 22 rfl (fun b4 => lkX3_begins b4 y1) mwX3_begins rfl mlX3_45 dX3_become_19 cfX3 ⟨by decide, by decide⟩ 0 0 ⟨rfl, rfl⟩ ⟨by decide, by decide⟩ (Nat.le_of_ble_eq_true rfl) (fun t3 => ?_)
      refine gg_callVv (S := sX3_become) (S' := sX3_addHunk) (cs := 0) (sl := 0) (As := [vr x1, vi y1, vi t3]) (st := []) 25 rfl (fun b3 => lkX3_addHunk b3 x1 y1 t3) mwX3_addHunk rfl mlX3_100 dX3_become_22 cfX3 ⟨by decide, by decide⟩ 0 0 ⟨rfl, rfl⟩ ⟨by decide, by decide⟩ (Nat.le_of_ble_eq_true rfl) (fun _ => ?_)
      refine gg_iinc (S := sX3_become) (L' := [(2, vi (y1 + 1)), (0, vr (some x0)), (1, vr x1)]) 2 28 rfl dX3_become_25 rfl (by decide) rfl ?_
      refine gg_goto (S := sX3_become) (tgt := 6) dX3_become_28 (by decide) ?_
      exact gg_pure (gg_sub [1, 2, 0] rfl (hr6 (y1 + 1)))
    · exact gg_pure (gg_sub [] rfl (he6 ()))
  · intro _
    exact gg_pure (gg_vret (S := sX3_become) rfl dX3_become_31 (by decide) (by decide))

set_option maxRecDepth 100000 in
set_option maxHeartbeats 4000000 in
theorem lkX3_becomeTurned (x0 : Nat) (x1 : Option Nat) : LK yX3_becomeTurned sX3_becomeTurned [vr (some x0), vr x1] en_v (X3_becomeTurned x0 x1) := by
  refine lk_go (L := [(0, vr (some x0)), (1, vr x1)]) (by decide +kernel) rfl (fun h => by cases h) (Nat.le_of_ble_eq_true rfl) rfl ?_
  intro K
  unfold X3_becomeTurned
  refine gg_aload_n (S := sX3_becomeTurned) 0 1 rfl dX3_becomeTurned_0 rfl rfl ?_
  refine gg_callVv (S := sX3_becomeTurned) (S' := sX3_clear) (cs := 0) (sl := 0) (As := []) (st := []) 4 rfl (fun b18 => lkX3_clear b18) mwX3_clear rfl mlX3_95 dX3_becomeTurned_1 cfX3 ⟨by decide, by decide⟩ 0 0 ⟨rfl, rfl⟩ ⟨by decide, by decide⟩ (Nat.le_of_ble_eq_true rfl) (fun _ => ?_)
  refine gg_iconst (S := sX3_becomeTurned) 5 rfl dX3_becomeTurned_4 ?_
  refine gg_istore_n (S := sX3_becomeTurned) (L' := [(2, vi 0), (0, vr (some x0)), (1, vr x1)]) 6 rfl dX3_becomeTurned_5 rfl (by decide) rfl ?_
  refine gg_sub [1, 2, 0] rfl ?_
  refine gg_loopA (fun y1 => [(0, vr (some x0)), (1, vr x1), (2, vi y1)]) (fun _ => []) 83 mo_N ?_ ?_ 0
  · intro κ6 hr6 he6
    intro y1
    dsimp only [X3_becomeTurned_L6]
    refine gg_iload_n (S := sX3_becomeTurned) 2 7 rfl dX3_becomeTurned_6 rfl rfl ?_
    refine gg_aload_n (S := sX3_becomeTurned) 1 8 rfl dX3_becomeTurned_7 rfl rfl ?_
    refine gg_callVi (S := sX3_becomeTurned) (S' := sX3_hunks) (cs := 0) (sl := 0) (As := []) (st := [vi y1]) 11 rfl (fun b17 => lkX3_hunks b17) mwX3_hunks rfl mlX3_98 dX3_becomeTurned_8 cfX3 ⟨by decide, by decide⟩ 0 0 ⟨rfl, rfl⟩ ⟨by decide, by decide⟩ (Nat.le_of_ble_eq_true rfl) (fun t2 => ?_)
    refine gg_ic_ge (S := sX3_becomeTurned) (tgt := 83) 14 rfl dX3_becomeTurned_11 (by decide) ?_ ?_
    · refine gg_aload_n (S := sX3_becomeTurned) 0 15 rfl dX3_becomeTurned_14 rfl rfl ?_
      refine gg_aload_n (S := sX3_becomeTurned) 1 16 rfl dX3_becomeTurned_15 rfl rfl ?_
      refine gg_iload_n (S := sX3_becomeTurned) 2 17 rfl dX3_becomeTurned_16 rfl rfl ?_
      refine gg_callVi (S := sX3_becomeTurned) (S' := sX3_beginsBehind) (cs := 0) (sl := 0) (As := [vi y1]) (st := [vr (some x0)]) 20 rfl (fun b16 => lkX3_beginsBehind b16 y1) mwX3_beginsBehind rfl mlX3_57 dX3_becomeTurned_17 cfX3 ⟨by decide, by decide⟩ 0 0 ⟨rfl, rfl⟩ ⟨by decide, by decide⟩ (Nat.le_of_ble_eq_true rfl) (fun t3 => ?_)
      refine gg_callVv (S := sX3_becomeTurned) (S' := sX3_begin) (cs := 0) (sl := 0) (As := [vi t3]) (st := []) 23 rfl (fun b15 => lkX3_begin b15 t3) mwX3_begin rfl mlX3_79 dX3_becomeTurned_20 cfX3 ⟨by decide, by decide⟩ 0 0 ⟨rfl, rfl⟩ ⟨by decide, by decide⟩ (Nat.le_of_ble_eq_true rfl) (fun _ => ?_)
      refine gg_iconst (S := sX3_becomeTurned) 24 rfl dX3_becomeTurned_23 ?_
      refine gg_istore_n (S := sX3_becomeTurned) (L' := [(3, vi 0), (0, vr (some x0)), (1, vr x1), (2, vi y1)]) 25 rfl dX3_becomeTurned_24 rfl (by decide) rfl ?_
      refine gg_sub [1, 2, 3, 0] rfl ?_
      refine gg_loopA (fun y4 => [(0, vr (some x0)), (1, vr x1), (2, vi y1), (3, vi y4)]) (fun _ => [(0, vr (some x0)), (1, vr x1), (2, vi y1)]) 50 mo_N ?_ ?_ 0
      · intro κ25 hr25 he25
        intro y4
        dsimp only [X3_becomeTurned_L25]
        refine gg_iload_n (S := sX3_becomeTurned) 3 26 rfl dX3_becomeTurned_25 rfl rfl ?_
        refine gg_aload_n (S := sX3_becomeTurned) 1 27 rfl dX3_becomeTurned_26 rfl rfl ?_
        refine gg_iload_n (S := sX3_becomeTurned) 2 28 rfl dX3_becomeTurned_27 rfl rfl ?_
        refine gg_callVi (S := sX3_becomeTurned) (S' := sX3_coming) (cs := 0) (sl := 0) (As := [vi y1]) (st := [vi y4]) 31 rfl (fun b8 => lkX3_coming b8 y1) mwX3_coming rfl mlX3_51 dX3_becomeTurned_28 cfX3 ⟨by decide, by decide⟩ 0 0 ⟨rfl, rfl⟩ ⟨by decide, by decide⟩ (Nat.le_of_ble_eq_true rfl) (fun t5 => ?_)
        refine gg_ic_ge (S := sX3_becomeTurned) (tgt := 50) 34 rfl dX3_becomeTurned_31 (by decide) ?_ ?_
        · refine gg_aload_n (S := sX3_becomeTurned) 0 35 rfl dX3_becomeTurned_34 rfl rfl ?_
          refine gg_aload_n (S := sX3_becomeTurned) 1 36 rfl dX3_becomeTurned_35 rfl rfl ?_
          refine gg_iload_n (S := sX3_becomeTurned) 2 37 rfl dX3_becomeTurned_36 rfl rfl ?_
          refine gg_iload_n (S := sX3_becomeTurned) 3 38 rfl dX3_becomeTurned_37 rfl rfl ?_
          refine gg_callVi (S := sX3_becomeTurned) (S' := sX3_comingLine) (cs := 0) (sl := 0) (As := [vi y1, vi y4]) (st := [vr (some x0)]) 41 rfl (fun b7 => lkX3_comingLine b7 y1 y4) mwX3_comingLine rfl mlX3_92 dX3_becomeTurned_38 cfX3 ⟨by decide, by decide⟩ 0 0 ⟨rfl, rfl⟩ ⟨by decide, by decide⟩ (Nat.le_of_ble_eq_true rfl) (fun t6 => ?_)
          refine gg_callVv (S := sX3_becomeTurned) (S' := sX3_addGoing) (cs := 0) (sl := 0) (As := [vi t6]) (st := []) 44 rfl (fun b6 => lkX3_addGoing b6 t6) mwX3_addGoing rfl mlX3_72 dX3_becomeTurned_41 cfX3 ⟨by decide, by decide⟩ 0 0 ⟨rfl, rfl⟩ ⟨by decide, by decide⟩ (Nat.le_of_ble_eq_true rfl) (fun _ => ?_)
          refine gg_iinc (S := sX3_becomeTurned) (L' := [(3, vi (y4 + 1)), (0, vr (some x0)), (1, vr x1), (2, vi y1)]) 3 47 rfl dX3_becomeTurned_44 rfl (by decide) rfl ?_
          refine gg_goto (S := sX3_becomeTurned) (tgt := 25) dX3_becomeTurned_47 (by decide) ?_
          exact gg_pure (gg_sub [1, 2, 3, 0] rfl (hr25 (y4 + 1)))
        · exact gg_pure (gg_sub [0, 1, 2] rfl (he25 ()))
      · intro _
        refine gg_iconst (S := sX3_becomeTurned) 51 rfl dX3_becomeTurned_50 ?_
        refine gg_istore_n (S := sX3_becomeTurned) (L' := [(3, vi 0), (0, vr (some x0)), (1, vr x1), (2, vi y1)]) 52 rfl dX3_becomeTurned_51 rfl (by decide) rfl ?_
        refine gg_sub [1, 2, 3, 0] rfl ?_
        refine gg_loopA (fun y10 => [(0, vr (some x0)), (1, vr x1), (2, vi y1), (3, vi y10)]) (fun _ => [(0, vr (some x0)), (1, vr x1), (2, vi y1)]) 77 mo_N ?_ ?_ 0
        · intro κ52 hr52 he52
          intro y10
          dsimp only [X3_becomeTurned_L52]
          refine gg_iload_n (S := sX3_becomeTurned) 3 53 rfl dX3_becomeTurned_52 rfl rfl ?_
          refine gg_aload_n (S := sX3_becomeTurned) 1 54 rfl dX3_becomeTurned_53 rfl rfl ?_
          refine gg_iload_n (S := sX3_becomeTurned) 2 55 rfl dX3_becomeTurned_54 rfl rfl ?_
          refine gg_callVi (S := sX3_becomeTurned) (S' := sX3_going) (cs := 0) (sl := 0) (As := [vi y1]) (st := [vi y10]) 58 rfl (fun b14 => lkX3_going b14 y1) mwX3_going rfl mlX3_48 dX3_becomeTurned_55 cfX3 ⟨by decide, by decide⟩ 0 0 ⟨rfl, rfl⟩ ⟨by decide, by decide⟩ (Nat.le_of_ble_eq_true rfl) (fun t11 => ?_)
          refine gg_ic_ge (S := sX3_becomeTurned) (tgt := 77) 61 rfl dX3_becomeTurned_58 (by decide) ?_ ?_
          · refine gg_aload_n (S := sX3_becomeTurned) 0 62 rfl dX3_becomeTurned_61 rfl rfl ?_
            refine gg_aload_n (S := sX3_becomeTurned) 1 63 rfl dX3_becomeTurned_62 rfl rfl ?_
            refine gg_iload_n (S := sX3_becomeTurned) 2 64 rfl dX3_becomeTurned_63 rfl rfl ?_
            refine gg_iload_n (S := sX3_becomeTurned) 3 65 rfl dX3_becomeTurned_64 rfl rfl ?_
            refine gg_callVi (S := sX3_becomeTurned) (S' := sX3_goingLine) (cs := 0) (sl := 0) (As := [vi y1, vi y10]) (st := [vr (some x0)]) 68 rfl (fun b13 => lkX3_goingLine b13 y1 y10) mwX3_goingLine rfl mlX3_89 dX3_becomeTurned_65 cfX3 ⟨by decide, by decide⟩ 0 0 ⟨rfl, rfl⟩ ⟨by decide, by decide⟩ (Nat.le_of_ble_eq_true rfl) (fun t12 => ?_)
            refine gg_callVv (S := sX3_becomeTurned) (S' := sX3_addComing) (cs := 0) (sl := 0) (As := [vi t12]) (st := []) 71 rfl (fun b12 => lkX3_addComing b12 t12) mwX3_addComing rfl mlX3_76 dX3_becomeTurned_68 cfX3 ⟨by decide, by decide⟩ 0 0 ⟨rfl, rfl⟩ ⟨by decide, by decide⟩ (Nat.le_of_ble_eq_true rfl) (fun _ => ?_)
            refine gg_iinc (S := sX3_becomeTurned) (L' := [(3, vi (y10 + 1)), (0, vr (some x0)), (1, vr x1), (2, vi y1)]) 3 74 rfl dX3_becomeTurned_71 rfl (by decide) rfl ?_
            refine gg_goto (S := sX3_becomeTurned) (tgt := 52) dX3_becomeTurned_74 (by decide) ?_
            exact gg_pure (gg_sub [1, 2, 3, 0] rfl (hr52 (y10 + 1)))
          · exact gg_pure (gg_sub [0, 1, 2] rfl (he52 ()))
        · intro _
          refine gg_iinc (S := sX3_becomeTurned) (L' := [(2, vi (y1 + 1)), (0, vr (some x0)), (1, vr x1)]) 2 80 rfl dX3_becomeTurned_77 rfl (by decide) rfl ?_
          refine gg_goto (S := sX3_becomeTurned) (tgt := 6) dX3_becomeTurned_80 (by decide) ?_
          exact gg_pure (gg_sub [1, 2, 0] rfl (hr6 (y1 + 1)))
    · exact gg_pure (gg_sub [] rfl (he6 ()))
  · intro _
    exact gg_pure (gg_vret (S := sX3_becomeTurned) rfl dX3_becomeTurned_83 (by decide) (by decide))

set_option maxRecDepth 100000 in
set_option maxHeartbeats 4000000 in
theorem lkX3_standsAt (x0 : Nat) (x1 : Option Nat) (x2 : Int) (x3 : Int) : LK yX3_standsAt sX3_standsAt [vr (some x0), vr x1, vi x2, vi x3] en_i (X3_standsAt x0 x1 x2 x3) := by
  refine lk_go (L := [(0, vr (some x0)), (1, vr x1), (2, vi x2), (3, vi x3)]) (by decide +kernel) rfl (fun h => by cases h) (Nat.le_of_ble_eq_true rfl) rfl ?_
  intro K
  unfold X3_standsAt
  refine gg_iload_n (S := sX3_standsAt) 3 1 rfl dX3_standsAt_0 rfl rfl ?_
  refine gg_aload_n (S := sX3_standsAt) 0 2 rfl dX3_standsAt_1 rfl rfl ?_
  refine gg_iload_n (S := sX3_standsAt) 2 3 rfl dX3_standsAt_2 rfl rfl ?_
  refine gg_callVi (S := sX3_standsAt) (S' := sX3_going) (cs := 0) (sl := 0) (As := [vi x2]) (st := [vi x3]) 6 rfl (fun b10 => lkX3_going b10 x2) mwX3_going rfl mlX3_48 dX3_standsAt_3 cfX3 ⟨by decide, by decide⟩ 0 0 ⟨rfl, rfl⟩ ⟨by decide, by decide⟩ (Nat.le_of_ble_eq_true rfl) (fun t1 => ?_)
  refine gg_iadd (S := sX3_standsAt) 7 rfl dX3_standsAt_6 ?_
  refine gg_aload_n (S := sX3_standsAt) 1 8 rfl dX3_standsAt_7 rfl rfl ?_
  refine gg_callVi (S := sX3_standsAt) (S' := sX4_size) (cs := 0) (sl := 0) (As := []) (st := [vi (x3 + t1)]) 11 rfl (fun b9 => lkX4_size b9) mwX4_size rfl mlX3_120 dX3_standsAt_8 cfX4 ⟨by decide, by decide⟩ 0 0 ⟨rfl, rfl⟩ ⟨by decide, by decide⟩ (Nat.le_of_ble_eq_true rfl) (fun t2 => ?_)
  refine gg_ic_le (S := sX3_standsAt) (tgt := 16) 14 rfl dX3_standsAt_11 (by decide) ?_ ?_
  · refine gg_iconst (S := sX3_standsAt) 17 rfl dX3_standsAt_16 ?_
    refine gg_istore (S := sX3_standsAt) (L' := [(4, vi 0), (0, vr (some x0)), (1, vr x1), (2, vi x2), (3, vi x3)]) 19 rfl dX3_standsAt_17 (by decide) rfl ?_
    refine gg_sub [1, 2, 3, 4, 0] rfl ?_
    refine gg_loop (fun y3 => [(0, vr (some x0)), (1, vr x1), (2, vi x2), (3, vi x3), (4, vi y3)]) mo_N ?_ 0
    · intro rec19 hr19
      intro y3
      dsimp only [X3_standsAt_L19]
      refine gg_iload (S := sX3_standsAt) 4 21 rfl dX3_standsAt_19 rfl ?_
      refine gg_aload_n (S := sX3_standsAt) 0 22 rfl dX3_standsAt_21 rfl rfl ?_
      refine gg_iload_n (S := sX3_standsAt) 2 23 rfl dX3_standsAt_22 rfl rfl ?_
      refine gg_callVi (S := sX3_standsAt) (S' := sX3_going) (cs := 0) (sl := 0) (As := [vi x2]) (st := [vi y3]) 26 rfl (fun b8 => lkX3_going b8 x2) mwX3_going rfl mlX3_48 dX3_standsAt_23 cfX3 ⟨by decide, by decide⟩ 0 0 ⟨rfl, rfl⟩ ⟨by decide, by decide⟩ (Nat.le_of_ble_eq_true rfl) (fun t4 => ?_)
      refine gg_ic_ge (S := sX3_standsAt) (tgt := 55) 29 rfl dX3_standsAt_26 (by decide) ?_ ?_
      · refine gg_aload_n (S := sX3_standsAt) 1 30 rfl dX3_standsAt_29 rfl rfl ?_
        refine gg_iload_n (S := sX3_standsAt) 3 31 rfl dX3_standsAt_30 rfl rfl ?_
        refine gg_iload (S := sX3_standsAt) 4 33 rfl dX3_standsAt_31 rfl ?_
        refine gg_iadd (S := sX3_standsAt) 34 rfl dX3_standsAt_33 ?_
        refine gg_callVi (S := sX3_standsAt) (S' := sX4_at) (cs := 0) (sl := 0) (As := [vi (x3 + y3)]) (st := []) 37 rfl (fun b7 => lkX4_at b7 (x3 + y3)) mwX4_at rfl mlX3_67 dX3_standsAt_34 cfX4 ⟨by decide, by decide⟩ 0 0 ⟨rfl, rfl⟩ ⟨by decide, by decide⟩ (Nat.le_of_ble_eq_true rfl) (fun t5 => ?_)
        refine gg_aload_n (S := sX3_standsAt) 0 38 rfl dX3_standsAt_37 rfl rfl ?_
        refine gg_iload_n (S := sX3_standsAt) 2 39 rfl dX3_standsAt_38 rfl rfl ?_
        refine gg_iload (S := sX3_standsAt) 4 41 rfl dX3_standsAt_39 rfl ?_
        refine gg_callVi (S := sX3_standsAt) (S' := sX3_goingLine) (cs := 0) (sl := 0) (As := [vi x2, vi y3]) (st := [vi t5]) 44 rfl (fun b6 => lkX3_goingLine b6 x2 y3) mwX3_goingLine rfl mlX3_89 dX3_standsAt_41 cfX3 ⟨by decide, by decide⟩ 0 0 ⟨rfl, rfl⟩ ⟨by decide, by decide⟩ (Nat.le_of_ble_eq_true rfl) (fun t6 => ?_)
        refine gg_ic_eq (S := sX3_standsAt) (tgt := 49) 47 rfl dX3_standsAt_44 (by decide) ?_ ?_
        · refine gg_iinc (S := sX3_standsAt) (L' := [(4, vi (y3 + 1)), (0, vr (some x0)), (1, vr x1), (2, vi x2), (3, vi x3)]) 4 52 rfl dX3_standsAt_49 rfl (by decide) rfl ?_
          refine gg_goto (S := sX3_standsAt) (tgt := 19) dX3_standsAt_52 (by decide) ?_
          exact gg_pure (gg_sub [1, 2, 3, 4, 0] rfl (hr19 (y3 + 1)))
        · refine gg_iconst (S := sX3_standsAt) 48 rfl dX3_standsAt_47 ?_
          exact gg_pure (gg_zretc (S := sX3_standsAt) (by decide) rfl dX3_standsAt_48 (by decide) (by decide))
      · refine gg_iconst (S := sX3_standsAt) 56 rfl dX3_standsAt_55 ?_
        exact gg_pure (gg_zretc (S := sX3_standsAt) (by decide) rfl dX3_standsAt_56 (by decide) (by decide))
  · refine gg_iconst (S := sX3_standsAt) 15 rfl dX3_standsAt_14 ?_
    exact gg_pure (gg_zretc (S := sX3_standsAt) (by decide) rfl dX3_standsAt_15 (by decide) (by decide))

set_option maxRecDepth 100000 in
set_option maxHeartbeats 4000000 in
theorem lkX3_fitsOn (x0 : Nat) (x1 : Option Nat) : LK yX3_fitsOn sX3_fitsOn [vr (some x0), vr x1] en_i (X3_fitsOn x0 x1) := by
  refine lk_go (L := [(0, vr (some x0)), (1, vr x1)]) (by decide +kernel) rfl (fun h => by cases h) (Nat.le_of_ble_eq_true rfl) rfl ?_
  intro K
  unfold X3_fitsOn
  refine gg_iconst (S := sX3_fitsOn) 1 rfl dX3_fitsOn_0 ?_
  refine gg_istore_n (S := sX3_fitsOn) (L' := [(2, vi 0), (0, vr (some x0)), (1, vr x1)]) 2 rfl dX3_fitsOn_1 rfl (by decide) rfl ?_
  refine gg_sub [1, 2, 0] rfl ?_
  refine gg_loop (fun y1 => [(0, vr (some x0)), (1, vr x1), (2, vi y1)]) mo_N ?_ 0
  · intro rec2 hr2
    intro y1
    dsimp only [X3_fitsOn_L2]
    refine gg_iload_n (S := sX3_fitsOn) 2 3 rfl dX3_fitsOn_2 rfl rfl ?_
    refine gg_aload_n (S := sX3_fitsOn) 0 4 rfl dX3_fitsOn_3 rfl rfl ?_
    refine gg_gi (S := sX3_fitsOn) cfX3 (by decide) (fun _ _ => rfl) 7 rfl flX3_33 dX3_fitsOn_4 (fun t2 => ?_)
    refine gg_ic_ge (S := sX3_fitsOn) (tgt := 32) 10 rfl dX3_fitsOn_7 (by decide) ?_ ?_
    · refine gg_aload_n (S := sX3_fitsOn) 0 11 rfl dX3_fitsOn_10 rfl rfl ?_
      refine gg_aload_n (S := sX3_fitsOn) 1 12 rfl dX3_fitsOn_11 rfl rfl ?_
      refine gg_iload_n (S := sX3_fitsOn) 2 13 rfl dX3_fitsOn_12 rfl rfl ?_
      refine gg_aload_n (S := sX3_fitsOn) 0 14 rfl dX3_fitsOn_13 rfl rfl ?_
      refine gg_iload_n (S := sX3_fitsOn) 2 15 rfl dX3_fitsOn_14 rfl rfl ?_
      refine gg_callVi (S := sX3_fitsOn) (S' := sX3_begins) (cs := 0) (sl := 0) (As := [vi y1]) (st := [vi y1, vr x1, vr (some x0)]) 18 rfl (fun b5 => lkX3_begins b5 y1) mwX3_begins rfl mlX3_45 dX3_fitsOn_15 cfX3 ⟨by decide, by decide⟩ 0 0 ⟨rfl, rfl⟩ ⟨by decide, by decide⟩ (Nat.le_of_ble_eq_true rfl) (fun t3 => ?_)
      refine gg_callVi (S := sX3_fitsOn) (S' := sX3_standsAt) (cs := 0) (sl := 0) (As := [vr x1, vi y1, vi t3]) (st := []) 21 rfl (fun b4 => lkX3_standsAt b4 x1 y1 t3) mwX3_standsAt rfl mlX3_108 dX3_fitsOn_18 cfX3 ⟨by decide, by decide⟩ 0 0 ⟨rfl, rfl⟩ ⟨by decide, by decide⟩ (Nat.le_of_ble_eq_true rfl) (fun t4 => ?_)
      refine gg_if_ne (S := sX3_fitsOn) (tgt := 26) 24 rfl dX3_fitsOn_21 (by decide) ?_ ?_
      · refine gg_iconst (S := sX3_fitsOn) 25 rfl dX3_fitsOn_24 ?_
        exact gg_pure (gg_zretc (S := sX3_fitsOn) (by decide) rfl dX3_fitsOn_25 (by decide) (by decide))
      · refine gg_iinc (S := sX3_fitsOn) (L' := [(2, vi (y1 + 1)), (0, vr (some x0)), (1, vr x1)]) 2 29 rfl dX3_fitsOn_26 rfl (by decide) rfl ?_
        refine gg_goto (S := sX3_fitsOn) (tgt := 2) dX3_fitsOn_29 (by decide) ?_
        exact gg_pure (gg_sub [1, 2, 0] rfl (hr2 (y1 + 1)))
    · refine gg_iconst (S := sX3_fitsOn) 33 rfl dX3_fitsOn_32 ?_
      exact gg_pure (gg_zretc (S := sX3_fitsOn) (by decide) rfl dX3_fitsOn_33 (by decide) (by decide))

set_option maxRecDepth 100000 in
set_option maxHeartbeats 4000000 in
theorem lkX3_isAlike (x0 : Nat) (x1 : Int) (x2 : Option Nat) (x3 : Int) : LK yX3_isAlike sX3_isAlike [vr (some x0), vi x1, vr x2, vi x3] en_i (X3_isAlike x0 x1 x2 x3) := by
  refine lk_go (L := [(0, vr (some x0)), (1, vi x1), (2, vr x2), (3, vi x3)]) (by decide +kernel) rfl (fun h => by cases h) (Nat.le_of_ble_eq_true rfl) rfl ?_
  intro K
  unfold X3_isAlike
  refine gg_aload_n (S := sX3_isAlike) 0 1 rfl dX3_isAlike_0 rfl rfl ?_
  refine gg_iload_n (S := sX3_isAlike) 1 2 rfl dX3_isAlike_1 rfl rfl ?_
  refine gg_callVi (S := sX3_isAlike) (S' := sX3_going) (cs := 0) (sl := 0) (As := [vi x1]) (st := []) 5 rfl (fun b34 => lkX3_going b34 x1) mwX3_going rfl mlX3_48 dX3_isAlike_2 cfX3 ⟨by decide, by decide⟩ 0 0 ⟨rfl, rfl⟩ ⟨by decide, by decide⟩ (Nat.le_of_ble_eq_true rfl) (fun t1 => ?_)
  refine gg_aload_n (S := sX3_isAlike) 2 6 rfl dX3_isAlike_5 rfl rfl ?_
  refine gg_iload_n (S := sX3_isAlike) 3 7 rfl dX3_isAlike_6 rfl rfl ?_
  refine gg_callVi (S := sX3_isAlike) (S' := sX3_going) (cs := 0) (sl := 0) (As := [vi x3]) (st := [vi t1]) 10 rfl (fun b33 => lkX3_going b33 x3) mwX3_going rfl mlX3_48 dX3_isAlike_7 cfX3 ⟨by decide, by decide⟩ 0 0 ⟨rfl, rfl⟩ ⟨by decide, by decide⟩ (Nat.le_of_ble_eq_true rfl) (fun t2 => ?_)
  refine gg_join (fun t7 => [(0, vr (some x0)), (1, vi x1), (2, vr x2), (3, vi x3)]) (fun t7 => [vi t7]) 31 0 0 (fun κ10 hJ10 => ?_) ?_
  · refine gg_ic_ne (S := sX3_isAlike) (tgt := 30) 13 rfl dX3_isAlike_10 (by decide) ?_ ?_
    · refine gg_aload_n (S := sX3_isAlike) 0 14 rfl dX3_isAlike_13 rfl rfl ?_
      refine gg_iload_n (S := sX3_isAlike) 1 15 rfl dX3_isAlike_14 rfl rfl ?_
      refine gg_callVi (S := sX3_isAlike) (S' := sX3_coming) (cs := 0) (sl := 0) (As := [vi x1]) (st := []) 18 rfl (fun b5 => lkX3_coming b5 x1) mwX3_coming rfl mlX3_51 dX3_isAlike_15 cfX3 ⟨by decide, by decide⟩ 0 0 ⟨rfl, rfl⟩ ⟨by decide, by decide⟩ (Nat.le_of_ble_eq_true rfl) (fun t3 => ?_)
      refine gg_aload_n (S := sX3_isAlike) 2 19 rfl dX3_isAlike_18 rfl rfl ?_
      refine gg_iload_n (S := sX3_isAlike) 3 20 rfl dX3_isAlike_19 rfl rfl ?_
      refine gg_callVi (S := sX3_isAlike) (S' := sX3_coming) (cs := 0) (sl := 0) (As := [vi x3]) (st := [vi t3]) 23 rfl (fun b4 => lkX3_coming b4 x3) mwX3_coming rfl mlX3_51 dX3_isAlike_20 cfX3 ⟨by decide, by decide⟩ 0 0 ⟨rfl, rfl⟩ ⟨by decide, by decide⟩ (Nat.le_of_ble_eq_true rfl) (fun t4 => ?_)
      refine gg_ic_ne (S := sX3_isAlike) (tgt := 30) 26 rfl dX3_isAlike_23 (by decide) ?_ ?_
      · refine gg_iconst (S := sX3_isAlike) 27 rfl dX3_isAlike_26 ?_
        refine gg_goto (S := sX3_isAlike) (tgt := 31) dX3_isAlike_27 (by decide) ?_
        exact gg_pure (gg_sub [0, 1, 2, 3] rfl (hJ10 1))
      · refine gg_iconst (S := sX3_isAlike) 31 rfl dX3_isAlike_30 ?_
        exact gg_pure (gg_sub [0, 1, 2, 3] rfl (hJ10 0))
    · refine gg_iconst (S := sX3_isAlike) 31 rfl dX3_isAlike_30 ?_
      exact gg_pure (gg_sub [0, 1, 2, 3] rfl (hJ10 0))
  · intro t7
    refine gg_istore (S := sX3_isAlike) (L' := [(4, vi t7), (0, vr (some x0)), (1, vi x1), (2, vr x2), (3, vi x3)]) 33 rfl dX3_isAlike_31 (by decide) rfl ?_
    refine gg_iload (S := sX3_isAlike) 0 35 rfl dX3_isAlike_33 rfl ?_
    refine gg_join (fun t12 => [(0, vr (some x0)), (1, vi x1), (2, vr x2), (3, vi x3)]) (fun t12 => [vi t12]) 56 0 0 (fun κ35 hJ35 => ?_) ?_
    · refine gg_if_eq (S := sX3_isAlike) (tgt := 55) 38 rfl dX3_isAlike_35 (by decide) ?_ ?_
      · refine gg_iconst (S := sX3_isAlike) 56 rfl dX3_isAlike_55 ?_
        exact gg_pure (gg_sub [1, 2, 3, 4] rfl (hJ35 0))
      · refine gg_aload_n (S := sX3_isAlike) 1 39 rfl dX3_isAlike_38 rfl rfl ?_
        refine gg_iload_n (S := sX3_isAlike) 2 40 rfl dX3_isAlike_39 rfl rfl ?_
        refine gg_callVi (S := sX3_isAlike) (S' := sX3_begins) (cs := 0) (sl := 0) (As := [vi x1]) (st := []) 43 rfl (fun b10 => lkX3_begins b10 x1) mwX3_begins rfl mlX3_45 dX3_isAlike_40 cfX3 ⟨by decide, by decide⟩ 0 0 ⟨rfl, rfl⟩ ⟨by decide, by decide⟩ (Nat.le_of_ble_eq_true rfl) (fun t8 => ?_)
        refine gg_aload_n (S := sX3_isAlike) 3 44 rfl dX3_isAlike_43 rfl rfl ?_
        refine gg_iload_n (S := sX3_isAlike) 4 45 rfl dX3_isAlike_44 rfl rfl ?_
        refine gg_callVi (S := sX3_isAlike) (S' := sX3_begins) (cs := 0) (sl := 0) (As := [vi x3]) (st := [vi t8]) 48 rfl (fun b9 => lkX3_begins b9 x3) mwX3_begins rfl mlX3_45 dX3_isAlike_45 cfX3 ⟨by decide, by decide⟩ 0 0 ⟨rfl, rfl⟩ ⟨by decide, by decide⟩ (Nat.le_of_ble_eq_true rfl) (fun t9 => ?_)
        refine gg_ic_ne (S := sX3_isAlike) (tgt := 55) 51 rfl dX3_isAlike_48 (by decide) ?_ ?_
        · refine gg_iconst (S := sX3_isAlike) 52 rfl dX3_isAlike_51 ?_
          refine gg_goto (S := sX3_isAlike) (tgt := 56) dX3_isAlike_52 (by decide) ?_
          exact gg_pure (gg_sub [1, 2, 3, 4] rfl (hJ35 1))
        · refine gg_iconst (S := sX3_isAlike) 56 rfl dX3_isAlike_55 ?_
          exact gg_pure (gg_sub [1, 2, 3, 4] rfl (hJ35 0))
    · intro t12
      refine gg_istore (S := sX3_isAlike) (L' := [(5, vi t12), (0, vr (some x0)), (1, vi x1), (2, vr x2), (3, vi x3)]) 58 rfl dX3_isAlike_56 (by decide) rfl ?_
      refine gg_iconst (S := sX3_isAlike) 59 rfl dX3_isAlike_58 ?_
      refine gg_istore (S := sX3_isAlike) (L' := [(6, vi 0), (5, vi t12), (0, vr (some x0)), (1, vi x1), (2, vr x2), (3, vi x3)]) 61 rfl dX3_isAlike_59 (by decide) rfl ?_
      refine gg_sub [2, 3, 4, 5, 1, 0] rfl ?_
      refine gg_loopA (fun (y13, y14) => [(0, vr (some x0)), (1, vi x1), (2, vr x2), (3, vi x3), (5, vi y13), (6, vi y14)]) (fun t22 => [(0, vr (some x0)), (1, vi x1), (2, vr x2), (3, vi x3), (5, vi t22)]) 106 mo_N ?_ ?_ (t12, 0)
      · intro κ61 hr61 he61
        rintro ⟨y13, y14⟩
        dsimp only [X3_isAlike_L61]
        refine gg_iload (S := sX3_isAlike) 4 63 rfl dX3_isAlike_61 rfl ?_
        refine gg_if_eq (S := sX3_isAlike) (tgt := 106) 66 rfl dX3_isAlike_63 (by decide) ?_ ?_
        · exact gg_pure (gg_sub [0, 1, 2, 3, 4] rfl (he61 y13))
        · refine gg_iload (S := sX3_isAlike) 5 68 rfl dX3_isAlike_66 rfl ?_
          refine gg_aload_n (S := sX3_isAlike) 0 69 rfl dX3_isAlike_68 rfl rfl ?_
          refine gg_iload_n (S := sX3_isAlike) 1 70 rfl dX3_isAlike_69 rfl rfl ?_
          refine gg_callVi (S := sX3_isAlike) (S' := sX3_going) (cs := 0) (sl := 0) (As := [vi x1]) (st := [vi y14]) 73 rfl (fun b20 => lkX3_going b20 x1) mwX3_going rfl mlX3_48 dX3_isAlike_70 cfX3 ⟨by decide, by decide⟩ 0 0 ⟨rfl, rfl⟩ ⟨by decide, by decide⟩ (Nat.le_of_ble_eq_true rfl) (fun t15 => ?_)
          refine gg_ic_ge (S := sX3_isAlike) (tgt := 106) 76 rfl dX3_isAlike_73 (by decide) ?_ ?_
          · refine gg_aload_n (S := sX3_isAlike) 0 77 rfl dX3_isAlike_76 rfl rfl ?_
            refine gg_iload_n (S := sX3_isAlike) 1 78 rfl dX3_isAlike_77 rfl rfl ?_
            refine gg_iload (S := sX3_isAlike) 5 80 rfl dX3_isAlike_78 rfl ?_
            refine gg_callVi (S := sX3_isAlike) (S' := sX3_goingLine) (cs := 0) (sl := 0) (As := [vi x1, vi y14]) (st := []) 83 rfl (fun b19 => lkX3_goingLine b19 x1 y14) mwX3_goingLine rfl mlX3_89 dX3_isAlike_80 cfX3 ⟨by decide, by decide⟩ 0 0 ⟨rfl, rfl⟩ ⟨by decide, by decide⟩ (Nat.le_of_ble_eq_true rfl) (fun t16 => ?_)
            refine gg_aload_n (S := sX3_isAlike) 2 84 rfl dX3_isAlike_83 rfl rfl ?_
            refine gg_iload_n (S := sX3_isAlike) 3 85 rfl dX3_isAlike_84 rfl rfl ?_
            refine gg_iload (S := sX3_isAlike) 5 87 rfl dX3_isAlike_85 rfl ?_
            refine gg_callVi (S := sX3_isAlike) (S' := sX3_goingLine) (cs := 0) (sl := 0) (As := [vi x3, vi y14]) (st := [vi t16]) 90 rfl (fun b18 => lkX3_goingLine b18 x3 y14) mwX3_goingLine rfl mlX3_89 dX3_isAlike_87 cfX3 ⟨by decide, by decide⟩ 0 0 ⟨rfl, rfl⟩ ⟨by decide, by decide⟩ (Nat.le_of_ble_eq_true rfl) (fun t17 => ?_)
            refine gg_join (fun t18 => [(0, vr (some x0)), (1, vi x1), (2, vr x2), (3, vi x3), (6, vi y14)]) (fun t18 => [vi t18]) 98 0 0 (fun κ90 hJ90 => ?_) ?_
            · refine gg_ic_ne (S := sX3_isAlike) (tgt := 97) 93 rfl dX3_isAlike_90 (by decide) ?_ ?_
              · refine gg_iconst (S := sX3_isAlike) 94 rfl dX3_isAlike_93 ?_
                refine gg_goto (S := sX3_isAlike) (tgt := 98) dX3_isAlike_94 (by decide) ?_
                exact gg_pure (gg_sub [0, 1, 2, 3, 5] rfl (hJ90 1))
              · refine gg_iconst (S := sX3_isAlike) 98 rfl dX3_isAlike_97 ?_
                exact gg_pure (gg_sub [0, 1, 2, 3, 5] rfl (hJ90 0))
            · intro t18
              refine gg_istore (S := sX3_isAlike) (L' := [(5, vi t18), (0, vr (some x0)), (1, vi x1), (2, vr x2), (3, vi x3), (6, vi y14)]) 100 rfl dX3_isAlike_98 (by decide) rfl ?_
              refine gg_iinc (S := sX3_isAlike) (L' := [(6, vi (y14 + 1)), (5, vi t18), (0, vr (some x0)), (1, vi x1), (2, vr x2), (3, vi x3)]) 5 103 rfl dX3_isAlike_100 rfl (by decide) rfl ?_
              refine gg_goto (S := sX3_isAlike) (tgt := 61) dX3_isAlike_103 (by decide) ?_
              exact gg_pure (gg_sub [2, 3, 4, 5, 1, 0] rfl (hr61 (t18, (y14 + 1))))
          · exact gg_pure (gg_sub [0, 1, 2, 3, 4] rfl (he61 y13))
      · intro t22
        refine gg_iconst (S := sX3_isAlike) 107 rfl dX3_isAlike_106 ?_
        refine gg_istore (S := sX3_isAlike) (L' := [(6, vi 0), (0, vr (some x0)), (1, vi x1), (2, vr x2), (3, vi x3), (5, vi t22)]) 109 rfl dX3_isAlike_107 (by decide) rfl ?_
        refine gg_sub [1, 2, 3, 4, 5, 0] rfl ?_
        refine gg_loopA (fun (y23, y24) => [(0, vr (some x0)), (1, vi x1), (2, vr x2), (3, vi x3), (5, vi y23), (6, vi y24)]) (fun t32 => [(5, vi t32)]) 154 mo_N ?_ ?_ (t22, 0)
        · intro κ109 hr109 he109
          rintro ⟨y23, y24⟩
          dsimp only [X3_isAlike_L109]
          refine gg_iload (S := sX3_isAlike) 4 111 rfl dX3_isAlike_109 rfl ?_
          refine gg_if_eq (S := sX3_isAlike) (tgt := 154) 114 rfl dX3_isAlike_111 (by decide) ?_ ?_
          · exact gg_pure (gg_sub [4] rfl (he109 y23))
          · refine gg_iload (S := sX3_isAlike) 5 116 rfl dX3_isAlike_114 rfl ?_
            refine gg_aload_n (S := sX3_isAlike) 0 117 rfl dX3_isAlike_116 rfl rfl ?_
            refine gg_iload_n (S := sX3_isAlike) 1 118 rfl dX3_isAlike_117 rfl rfl ?_
            refine gg_callVi (S := sX3_isAlike) (S' := sX3_coming) (cs := 0) (sl := 0) (As := [vi x1]) (st := [vi y24]) 121 rfl (fun b30 => lkX3_coming b30 x1) mwX3_coming rfl mlX3_51 dX3_isAlike_118 cfX3 ⟨by decide, by decide⟩ 0 0 ⟨rfl, rfl⟩ ⟨by decide, by decide⟩ (Nat.le_of_ble_eq_true rfl) (fun t25 => ?_)
            refine gg_ic_ge (S := sX3_isAlike) (tgt := 154) 124 rfl dX3_isAlike_121 (by decide) ?_ ?_
            · refine gg_aload_n (S := sX3_isAlike) 0 125 rfl dX3_isAlike_124 rfl rfl ?_
              refine gg_iload_n (S := sX3_isAlike) 1 126 rfl dX3_isAlike_125 rfl rfl ?_
              refine gg_iload (S := sX3_isAlike) 5 128 rfl dX3_isAlike_126 rfl ?_
              refine gg_callVi (S := sX3_isAlike) (S' := sX3_comingLine) (cs := 0) (sl := 0) (As := [vi x1, vi y24]) (st := []) 131 rfl (fun b29 => lkX3_comingLine b29 x1 y24) mwX3_comingLine rfl mlX3_92 dX3_isAlike_128 cfX3 ⟨by decide, by decide⟩ 0 0 ⟨rfl, rfl⟩ ⟨by decide, by decide⟩ (Nat.le_of_ble_eq_true rfl) (fun t26 => ?_)
              refine gg_aload_n (S := sX3_isAlike) 2 132 rfl dX3_isAlike_131 rfl rfl ?_
              refine gg_iload_n (S := sX3_isAlike) 3 133 rfl dX3_isAlike_132 rfl rfl ?_
              refine gg_iload (S := sX3_isAlike) 5 135 rfl dX3_isAlike_133 rfl ?_
              refine gg_callVi (S := sX3_isAlike) (S' := sX3_comingLine) (cs := 0) (sl := 0) (As := [vi x3, vi y24]) (st := [vi t26]) 138 rfl (fun b28 => lkX3_comingLine b28 x3 y24) mwX3_comingLine rfl mlX3_92 dX3_isAlike_135 cfX3 ⟨by decide, by decide⟩ 0 0 ⟨rfl, rfl⟩ ⟨by decide, by decide⟩ (Nat.le_of_ble_eq_true rfl) (fun t27 => ?_)
              refine gg_join (fun t28 => [(0, vr (some x0)), (1, vi x1), (2, vr x2), (3, vi x3), (6, vi y24)]) (fun t28 => [vi t28]) 146 0 0 (fun κ138 hJ138 => ?_) ?_
              · refine gg_ic_ne (S := sX3_isAlike) (tgt := 145) 141 rfl dX3_isAlike_138 (by decide) ?_ ?_
                · refine gg_iconst (S := sX3_isAlike) 142 rfl dX3_isAlike_141 ?_
                  refine gg_goto (S := sX3_isAlike) (tgt := 146) dX3_isAlike_142 (by decide) ?_
                  exact gg_pure (gg_sub [0, 1, 2, 3, 5] rfl (hJ138 1))
                · refine gg_iconst (S := sX3_isAlike) 146 rfl dX3_isAlike_145 ?_
                  exact gg_pure (gg_sub [0, 1, 2, 3, 5] rfl (hJ138 0))
              · intro t28
                refine gg_istore (S := sX3_isAlike) (L' := [(5, vi t28), (0, vr (some x0)), (1, vi x1), (2, vr x2), (3, vi x3), (6, vi y24)]) 148 rfl dX3_isAlike_146 (by decide) rfl ?_
                refine gg_iinc (S := sX3_isAlike) (L' := [(6, vi (y24 + 1)), (5, vi t28), (0, vr (some x0)), (1, vi x1), (2, vr x2), (3, vi x3)]) 5 151 rfl dX3_isAlike_148 rfl (by decide) rfl ?_
                refine gg_goto (S := sX3_isAlike) (tgt := 109) dX3_isAlike_151 (by decide) ?_
                exact gg_pure (gg_sub [2, 3, 4, 5, 1, 0] rfl (hr109 (t28, (y24 + 1))))
            · exact gg_pure (gg_sub [4] rfl (he109 y23))
        · intro t32
          refine gg_iload (S := sX3_isAlike) 0 156 rfl dX3_isAlike_154 rfl ?_
          exact gg_zret (S := sX3_isAlike) (fun _ => rfl) rfl dX3_isAlike_156 (by decide) (by decide)

set_option maxRecDepth 100000 in
set_option maxHeartbeats 4000000 in
theorem lkX3_hasAlike (x0 : Nat) (x1 : Option Nat) (x2 : Int) : LK yX3_hasAlike sX3_hasAlike [vr (some x0), vr x1, vi x2] en_i (X3_hasAlike x0 x1 x2) := by
  refine lk_go (L := [(0, vr (some x0)), (1, vr x1), (2, vi x2)]) (by decide +kernel) rfl (fun h => by cases h) (Nat.le_of_ble_eq_true rfl) rfl ?_
  intro K
  unfold X3_hasAlike
  refine gg_iconst (S := sX3_hasAlike) 1 rfl dX3_hasAlike_0 ?_
  refine gg_istore_n (S := sX3_hasAlike) (L' := [(3, vi 0), (0, vr (some x0)), (1, vr x1), (2, vi x2)]) 2 rfl dX3_hasAlike_1 rfl (by decide) rfl ?_
  refine gg_sub [1, 2, 3, 0] rfl ?_
  refine gg_loop (fun y1 => [(0, vr (some x0)), (1, vr x1), (2, vi x2), (3, vi y1)]) mo_N ?_ 0
  · intro rec2 hr2
    intro y1
    dsimp only [X3_hasAlike_L2]
    refine gg_iload_n (S := sX3_hasAlike) 3 3 rfl dX3_hasAlike_2 rfl rfl ?_
    refine gg_aload_n (S := sX3_hasAlike) 0 4 rfl dX3_hasAlike_3 rfl rfl ?_
    refine gg_gi (S := sX3_hasAlike) cfX3 (by decide) (fun _ _ => rfl) 7 rfl flX3_33 dX3_hasAlike_4 (fun t2 => ?_)
    refine gg_ic_ge (S := sX3_hasAlike) (tgt := 28) 10 rfl dX3_hasAlike_7 (by decide) ?_ ?_
    · refine gg_aload_n (S := sX3_hasAlike) 0 11 rfl dX3_hasAlike_10 rfl rfl ?_
      refine gg_iload_n (S := sX3_hasAlike) 3 12 rfl dX3_hasAlike_11 rfl rfl ?_
      refine gg_aload_n (S := sX3_hasAlike) 1 13 rfl dX3_hasAlike_12 rfl rfl ?_
      refine gg_iload_n (S := sX3_hasAlike) 2 14 rfl dX3_hasAlike_13 rfl rfl ?_
      refine gg_callVi (S := sX3_hasAlike) (S' := sX3_isAlike) (cs := 0) (sl := 0) (As := [vi y1, vr x1, vi x2]) (st := []) 17 rfl (fun b3 => lkX3_isAlike b3 y1 x1 x2) mwX3_isAlike rfl mlX3_104 dX3_hasAlike_14 cfX3 ⟨by decide, by decide⟩ 0 0 ⟨rfl, rfl⟩ ⟨by decide, by decide⟩ (Nat.le_of_ble_eq_true rfl) (fun t3 => ?_)
      refine gg_if_eq (S := sX3_hasAlike) (tgt := 22) 20 rfl dX3_hasAlike_17 (by decide) ?_ ?_
      · refine gg_iinc (S := sX3_hasAlike) (L' := [(3, vi (y1 + 1)), (0, vr (some x0)), (1, vr x1), (2, vi x2)]) 3 25 rfl dX3_hasAlike_22 rfl (by decide) rfl ?_
        refine gg_goto (S := sX3_hasAlike) (tgt := 2) dX3_hasAlike_25 (by decide) ?_
        exact gg_pure (gg_sub [1, 2, 3, 0] rfl (hr2 (y1 + 1)))
      · refine gg_iconst (S := sX3_hasAlike) 21 rfl dX3_hasAlike_20 ?_
        exact gg_pure (gg_zretc (S := sX3_hasAlike) (by decide) rfl dX3_hasAlike_21 (by decide) (by decide))
    · refine gg_iconst (S := sX3_hasAlike) 29 rfl dX3_hasAlike_28 ?_
      exact gg_pure (gg_zretc (S := sX3_hasAlike) (by decide) rfl dX3_hasAlike_29 (by decide) (by decide))

set_option maxRecDepth 100000 in
set_option maxHeartbeats 4000000 in
theorem lkX3_init (x0 : Nat) (x1 : Int) (x2 : Int) : LK yX3_init sX3_init [vr (some x0), vi x1, vi x2] en_v (X3_init x0 x1 x2) := by
  refine lk_go (L := [(0, vr (some x0)), (1, vi x1), (2, vi x2)]) (by decide +kernel) rfl (fun _ => rfl) (Nat.le_of_ble_eq_true rfl) rfl ?_
  intro K
  unfold X3_init
  refine gg_aload_n (S := sX3_init) 0 1 rfl dX3_init_0 rfl rfl ?_
  refine gg_objI (S := sX3_init) 4 rfl mlX3_3 oi_i oi_c dX3_init_1 (by decide) (Nat.le_of_ble_eq_true rfl) ?_
  refine gg_iload_n (S := sX3_init) 1 5 rfl dX3_init_4 rfl rfl ?_
  refine gg_iconst (S := sX3_init) 6 rfl dX3_init_5 ?_
  refine gg_mmax (S := sX3_init) 9 rfl mlX3_9 ms_max iiJ9 mc_max dX3_init_6 (by decide) (Nat.le_of_ble_eq_true rfl) (by decide) (by decide) (fun t1 => ?_)
  refine gg_istore_n (S := sX3_init) (L' := [(3, vi t1), (0, vr (some x0)), (1, vi x1), (2, vi x2)]) 10 rfl dX3_init_9 rfl (by decide) rfl ?_
  refine gg_iload_n (S := sX3_init) 3 11 rfl dX3_init_10 rfl rfl ?_
  refine gg_iconst (S := sX3_init) 12 rfl dX3_init_11 ?_
  refine gg_mmax (S := sX3_init) 15 rfl mlX3_9 ms_max iiJ9 mc_max dX3_init_12 (by decide) (Nat.le_of_ble_eq_true rfl) (by decide) (by decide) (fun t2 => ?_)
  refine gg_istore (S := sX3_init) (L' := [(4, vi t2), (3, vi t1), (0, vr (some x0)), (1, vi x1), (2, vi x2)]) 17 rfl dX3_init_15 (by decide) rfl ?_
  refine gg_aload_n (S := sX3_init) 2 18 rfl dX3_init_17 rfl rfl ?_
  refine gg_iload_n (S := sX3_init) 1 19 rfl dX3_init_18 rfl rfl ?_
  refine gg_ni (S := sX3_init) (cap := 64) (cs := 0) (sl := 0) 21 rfl ac_I dX3_init_19 (by decide) 1 64 ⟨rfl, rfl⟩ (by decide) (by decide) (fun t3 => ?_)
  refine gg_srF (S := sX3_init) cfX3 (by decide) (Or.inl ⟨_, rfl⟩) (fun _ _ => rfl) rfl rfl rfl 24 rfl flX3_15 dX3_init_21 ?_
  refine gg_aload_n (S := sX3_init) 2 25 rfl dX3_init_24 rfl rfl ?_
  refine gg_iload_n (S := sX3_init) 1 26 rfl dX3_init_25 rfl rfl ?_
  refine gg_iconst (S := sX3_init) 27 rfl dX3_init_26 ?_
  refine gg_iadd (S := sX3_init) 28 rfl dX3_init_27 ?_
  refine gg_ni (S := sX3_init) (cap := 64) (cs := 1) (sl := 64) 30 rfl ac_I dX3_init_28 (by decide) 2 128 ⟨rfl, rfl⟩ (by decide) (by decide) (fun t4 => ?_)
  refine gg_srF (S := sX3_init) cfX3 (by decide) (Or.inl ⟨_, rfl⟩) (fun _ _ => rfl) rfl rfl rfl 33 rfl flX3_21 dX3_init_30 ?_
  refine gg_aload_n (S := sX3_init) 2 34 rfl dX3_init_33 rfl rfl ?_
  refine gg_iload_n (S := sX3_init) 1 35 rfl dX3_init_34 rfl rfl ?_
  refine gg_iconst (S := sX3_init) 36 rfl dX3_init_35 ?_
  refine gg_iadd (S := sX3_init) 37 rfl dX3_init_36 ?_
  refine gg_ni (S := sX3_init) (cap := 64) (cs := 2) (sl := 128) 39 rfl ac_I dX3_init_37 (by decide) 3 192 ⟨rfl, rfl⟩ (by decide) (by decide) (fun t5 => ?_)
  refine gg_srF (S := sX3_init) cfX3 (by decide) (Or.inl ⟨_, rfl⟩) (fun _ _ => rfl) rfl rfl rfl 42 rfl flX3_24 dX3_init_39 ?_
  refine gg_aload_n (S := sX3_init) 2 43 rfl dX3_init_42 rfl rfl ?_
  refine gg_iload (S := sX3_init) 0 45 rfl dX3_init_43 rfl ?_
  refine gg_ni (S := sX3_init) (cap := 64) (cs := 3) (sl := 192) 47 rfl ac_I dX3_init_45 (by decide) 4 256 ⟨rfl, rfl⟩ (by decide) (by decide) (fun t6 => ?_)
  refine gg_srF (S := sX3_init) cfX3 (by decide) (Or.inl ⟨_, rfl⟩) (fun _ _ => rfl) rfl rfl rfl 50 rfl flX3_27 dX3_init_47 ?_
  refine gg_aload_n (S := sX3_init) 2 51 rfl dX3_init_50 rfl rfl ?_
  refine gg_iload (S := sX3_init) 0 53 rfl dX3_init_51 rfl ?_
  refine gg_ni (S := sX3_init) (cap := 64) (cs := 4) (sl := 256) 55 rfl ac_I dX3_init_53 (by decide) 5 320 ⟨rfl, rfl⟩ (by decide) (by decide) (fun t7 => ?_)
  refine gg_srF (S := sX3_init) cfX3 (by decide) (Or.inl ⟨_, rfl⟩) (fun _ _ => rfl) rfl rfl rfl 58 rfl flX3_30 dX3_init_55 ?_
  exact gg_pure (gg_vret (S := sX3_init) rfl dX3_init_58 (by decide) (by decide))

set_option maxRecDepth 100000 in
set_option maxHeartbeats 4000000 in
theorem lkX3_nearestPlace (x0 : Nat) (x1 : Option Nat) (x2 : Int) (x3 : Int) (x4 : Int) : LK yX3_nearestPlace sX3_nearestPlace [vr (some x0), vr x1, vi x2, vi x3, vi x4] en_i (X3_nearestPlace x0 x1 x2 x3 x4) := by
  refine lk_go (L := [(0, vr (some x0)), (1, vr x1), (2, vi x2), (3, vi x3), (4, vi x4)]) (by decide +kernel) rfl (fun h => by cases h) (Nat.le_of_ble_eq_true rfl) rfl ?_
  intro K
  unfold X3_nearestPlace
  refine gg_iconst (S := sX3_nearestPlace) 1 rfl dX3_nearestPlace_0 ?_
  refine gg_istore (S := sX3_nearestPlace) (L' := [(5, vi (-1)), (0, vr (some x0)), (1, vr x1), (2, vi x2), (3, vi x3), (4, vi x4)]) 3 rfl dX3_nearestPlace_1 (by decide) rfl ?_
  refine gg_iload (S := sX3_nearestPlace) 5 5 rfl dX3_nearestPlace_3 rfl ?_
  refine gg_istore (S := sX3_nearestPlace) (L' := [(6, vi x4), (5, vi (-1)), (0, vr (some x0)), (1, vr x1), (2, vi x2), (3, vi x3), (4, vi x4)]) 7 rfl dX3_nearestPlace_5 (by decide) rfl ?_
  refine gg_sub [2, 3, 4, 5, 1, 0] rfl ?_
  refine gg_loopA (fun (y1, y2) => [(0, vr (some x0)), (1, vr x1), (2, vi x2), (3, vi x3), (5, vi y1), (6, vi y2)]) (fun t11 => [(5, vi t11)]) 72 mo_N ?_ ?_ ((-1), x4)
  · intro κ7 hr7 he7
    rintro ⟨y1, y2⟩
    dsimp only [X3_nearestPlace_L7]
    refine gg_iload (S := sX3_nearestPlace) 5 9 rfl dX3_nearestPlace_7 rfl ?_
    refine gg_aload_n (S := sX3_nearestPlace) 1 10 rfl dX3_nearestPlace_9 rfl rfl ?_
    refine gg_callVi (S := sX3_nearestPlace) (S' := sX4_size) (cs := 0) (sl := 0) (As := []) (st := [vi y2]) 13 rfl (fun b9 => lkX4_size b9) mwX4_size rfl mlX3_120 dX3_nearestPlace_10 cfX4 ⟨by decide, by decide⟩ 0 0 ⟨rfl, rfl⟩ ⟨by decide, by decide⟩ (Nat.le_of_ble_eq_true rfl) (fun t3 => ?_)
    refine gg_ic_gt (S := sX3_nearestPlace) (tgt := 72) 16 rfl dX3_nearestPlace_13 (by decide) ?_ ?_
    · refine gg_iload (S := sX3_nearestPlace) 4 18 rfl dX3_nearestPlace_16 rfl ?_
      refine gg_iconst (S := sX3_nearestPlace) 19 rfl dX3_nearestPlace_18 ?_
      refine gg_join (fun t6 => [(0, vr (some x0)), (1, vr x1), (2, vi x2), (3, vi x3), (5, vi y1), (6, vi y2)]) (fun t6 => [vi t6]) 44 0 0 (fun κ19 hJ19 => ?_) ?_
      · refine gg_ic_eq (S := sX3_nearestPlace) (tgt := 39) 22 rfl dX3_nearestPlace_19 (by decide) ?_ ?_
        · refine gg_iconst (S := sX3_nearestPlace) 40 rfl dX3_nearestPlace_39 ?_
          refine gg_goto (S := sX3_nearestPlace) (tgt := 44) dX3_nearestPlace_40 (by decide) ?_
          exact gg_pure (gg_sub [0, 1, 2, 3, 4, 5] rfl (hJ19 1))
        · refine gg_iload (S := sX3_nearestPlace) 5 24 rfl dX3_nearestPlace_22 rfl ?_
          refine gg_iload_n (S := sX3_nearestPlace) 3 25 rfl dX3_nearestPlace_24 rfl rfl ?_
          refine gg_isub (S := sX3_nearestPlace) 26 rfl dX3_nearestPlace_25 ?_
          refine gg_mabs (S := sX3_nearestPlace) 29 rfl mlX3_130 ms_abs iiJ9 mc_abs dX3_nearestPlace_26 (by decide) (Nat.le_of_ble_eq_true rfl) (by decide) (by decide) (fun t4 => ?_)
          refine gg_iload (S := sX3_nearestPlace) 4 31 rfl dX3_nearestPlace_29 rfl ?_
          refine gg_iload_n (S := sX3_nearestPlace) 3 32 rfl dX3_nearestPlace_31 rfl rfl ?_
          refine gg_isub (S := sX3_nearestPlace) 33 rfl dX3_nearestPlace_32 ?_
          refine gg_mabs (S := sX3_nearestPlace) 36 rfl mlX3_130 ms_abs iiJ9 mc_abs dX3_nearestPlace_33 (by decide) (Nat.le_of_ble_eq_true rfl) (by decide) (by decide) (fun t5 => ?_)
          refine gg_ic_ge (S := sX3_nearestPlace) (tgt := 43) 39 rfl dX3_nearestPlace_36 (by decide) ?_ ?_
          · refine gg_iconst (S := sX3_nearestPlace) 40 rfl dX3_nearestPlace_39 ?_
            refine gg_goto (S := sX3_nearestPlace) (tgt := 44) dX3_nearestPlace_40 (by decide) ?_
            exact gg_pure (gg_sub [0, 1, 2, 3, 4, 5] rfl (hJ19 1))
          · refine gg_iconst (S := sX3_nearestPlace) 44 rfl dX3_nearestPlace_43 ?_
            exact gg_pure (gg_sub [0, 1, 2, 3, 4, 5] rfl (hJ19 0))
      · intro t6
        refine gg_istore (S := sX3_nearestPlace) (L' := [(7, vi t6), (0, vr (some x0)), (1, vr x1), (2, vi x2), (3, vi x3), (5, vi y1), (6, vi y2)]) 46 rfl dX3_nearestPlace_44 (by decide) rfl ?_
        refine gg_iload (S := sX3_nearestPlace) 0 48 rfl dX3_nearestPlace_46 rfl ?_
        refine gg_join (fun t9 => [(0, vr (some x0)), (1, vr x1), (2, vi x2), (3, vi x3), (5, vi t9), (6, vi y2)]) (fun t9 => []) 66 0 0 (fun κ48 hJ48 => ?_) ?_
        · refine gg_if_eq (S := sX3_nearestPlace) (tgt := 66) 51 rfl dX3_nearestPlace_48 (by decide) ?_ ?_
          · exact gg_pure (gg_sub [1, 2, 3, 4, 5, 6] rfl (hJ48 y1))
          · refine gg_aload_n (S := sX3_nearestPlace) 1 52 rfl dX3_nearestPlace_51 rfl rfl ?_
            refine gg_aload_n (S := sX3_nearestPlace) 2 53 rfl dX3_nearestPlace_52 rfl rfl ?_
            refine gg_iload_n (S := sX3_nearestPlace) 3 54 rfl dX3_nearestPlace_53 rfl rfl ?_
            refine gg_iload (S := sX3_nearestPlace) 6 56 rfl dX3_nearestPlace_54 rfl ?_
            refine gg_callVi (S := sX3_nearestPlace) (S' := sX3_standsAt) (cs := 0) (sl := 0) (As := [vr x1, vi x2, vi y2]) (st := []) 59 rfl (fun b7 => lkX3_standsAt b7 x1 x2 y2) mwX3_standsAt rfl mlX3_108 dX3_nearestPlace_56 cfX3 ⟨by decide, by decide⟩ 0 0 ⟨rfl, rfl⟩ ⟨by decide, by decide⟩ (Nat.le_of_ble_eq_true rfl) (fun t7 => ?_)
            refine gg_if_eq (S := sX3_nearestPlace) (tgt := 66) 62 rfl dX3_nearestPlace_59 (by decide) ?_ ?_
            · exact gg_pure (gg_sub [1, 2, 3, 4, 5, 6] rfl (hJ48 y1))
            · refine gg_iload (S := sX3_nearestPlace) 6 64 rfl dX3_nearestPlace_62 rfl ?_
              refine gg_istore (S := sX3_nearestPlace) (L' := [(5, vi y2), (7, vi t6), (0, vr (some x0)), (1, vr x1), (2, vi x2), (3, vi x3), (6, vi y2)]) 66 rfl dX3_nearestPlace_64 (by decide) rfl ?_
              exact gg_pure (gg_sub [2, 3, 4, 5, 0, 6] rfl (hJ48 y2))
        · intro t9
          refine gg_iinc (S := sX3_nearestPlace) (L' := [(6, vi (y2 + 1)), (0, vr (some x0)), (1, vr x1), (2, vi x2), (3, vi x3), (5, vi t9)]) 5 69 rfl dX3_nearestPlace_66 rfl (by decide) rfl ?_
          refine gg_goto (S := sX3_nearestPlace) (tgt := 7) dX3_nearestPlace_69 (by decide) ?_
          exact gg_pure (gg_sub [1, 2, 3, 4, 5, 0] rfl (hr7 (t9, (y2 + 1))))
    · exact gg_pure (gg_sub [4] rfl (he7 y1))
  · intro t11
    refine gg_iload (S := sX3_nearestPlace) 0 74 rfl dX3_nearestPlace_72 rfl ?_
    exact gg_pure (gg_iret (S := sX3_nearestPlace) rfl dX3_nearestPlace_74 (by decide) (by decide))

set_option maxRecDepth 100000 in
set_option maxHeartbeats 4000000 in
theorem lkX4_insert (x0 : Nat) (x1 : Int) (x2 : Int) : LK yX4_insert sX4_insert [vr (some x0), vi x1, vi x2] en_v (X4_insert x0 x1 x2) := by
  refine lk_go (L := [(0, vr (some x0)), (1, vi x1), (2, vi x2)]) (by decide +kernel) rfl (fun h => by cases h) (Nat.le_of_ble_eq_true rfl) rfl ?_
  intro K
  unfold X4_insert
  refine gg_iload_n (S := sX4_insert) 1 1 rfl dX4_insert_0 rfl rfl ?_
  refine gg_if_lt (S := sX4_insert) (tgt := 24) 4 rfl dX4_insert_1 (by decide) ?_ ?_
  · exact gg_pure (gg_vret (S := sX4_insert) rfl dX4_insert_24 (by decide) (by decide))
  · refine gg_iload_n (S := sX4_insert) 1 5 rfl dX4_insert_4 rfl rfl ?_
    refine gg_aload_n (S := sX4_insert) 0 6 rfl dX4_insert_5 rfl rfl ?_
    refine gg_gi (S := sX4_insert) cfX4 (by decide) (fun _ _ => rfl) 9 rfl flX4_21 dX4_insert_6 (fun t1 => ?_)
    refine gg_ic_gt (S := sX4_insert) (tgt := 24) 12 rfl dX4_insert_9 (by decide) ?_ ?_
    · refine gg_aload_n (S := sX4_insert) 0 13 rfl dX4_insert_12 rfl rfl ?_
      refine gg_gi (S := sX4_insert) cfX4 (by decide) (fun _ _ => rfl) 16 rfl flX4_21 dX4_insert_13 (fun t2 => ?_)
      refine gg_aload_n (S := sX4_insert) 0 17 rfl dX4_insert_16 rfl rfl ?_
      refine gg_gr (S := sX4_insert) cfX4 (by decide) (fun _ _ => rfl) 20 rfl flX4_15 dX4_insert_17 (fun t3 => ?_)
      refine gg_alen (S := sX4_insert) 21 rfl dX4_insert_20 (fun t4 => ?_)
      refine gg_ic_lt (S := sX4_insert) (tgt := 25) 24 rfl dX4_insert_21 (by decide) ?_ ?_
      · refine gg_aload_n (S := sX4_insert) 0 26 rfl dX4_insert_25 rfl rfl ?_
        refine gg_gi (S := sX4_insert) cfX4 (by decide) (fun _ _ => rfl) 29 rfl flX4_21 dX4_insert_26 (fun t5 => ?_)
        refine gg_istore_n (S := sX4_insert) (L' := [(3, vi t5), (0, vr (some x0)), (1, vi x1), (2, vi x2)]) 30 rfl dX4_insert_29 rfl (by decide) rfl ?_
        refine gg_sub [1, 2, 3, 0] rfl ?_
        refine gg_loopA (fun y6 => [(0, vr (some x0)), (1, vi x1), (2, vi x2), (3, vi y6)]) (fun _ => [(0, vr (some x0)), (1, vi x1), (2, vi x2)]) 55 mo_N ?_ ?_ t5
        · intro κ30 hr30 he30
          intro y6
          dsimp only [X4_insert_L30]
          refine gg_iload_n (S := sX4_insert) 3 31 rfl dX4_insert_30 rfl rfl ?_
          refine gg_iload_n (S := sX4_insert) 1 32 rfl dX4_insert_31 rfl rfl ?_
          refine gg_ic_le (S := sX4_insert) (tgt := 55) 35 rfl dX4_insert_32 (by decide) ?_ ?_
          · exact gg_pure (gg_sub [0, 1, 2] rfl (he30 ()))
          · refine gg_aload_n (S := sX4_insert) 0 36 rfl dX4_insert_35 rfl rfl ?_
            refine gg_gr (S := sX4_insert) cfX4 (by decide) (fun _ _ => rfl) 39 rfl flX4_15 dX4_insert_36 (fun t7 => ?_)
            refine gg_iload_n (S := sX4_insert) 3 40 rfl dX4_insert_39 rfl rfl ?_
            refine gg_aload_n (S := sX4_insert) 0 41 rfl dX4_insert_40 rfl rfl ?_
            refine gg_gr (S := sX4_insert) cfX4 (by decide) (fun _ _ => rfl) 44 rfl flX4_15 dX4_insert_41 (fun t8 => ?_)
            refine gg_iload_n (S := sX4_insert) 3 45 rfl dX4_insert_44 rfl rfl ?_
            refine gg_iconst (S := sX4_insert) 46 rfl dX4_insert_45 ?_
            refine gg_isub (S := sX4_insert) 47 rfl dX4_insert_46 ?_
            refine gg_ld (S := sX4_insert) 48 rfl dX4_insert_47 (fun t9 => ?_)
            refine gg_st (S := sX4_insert) 49 rfl dX4_insert_48 ?_
            refine gg_iinc (S := sX4_insert) (L' := [(3, vi (y6 + (-1))), (0, vr (some x0)), (1, vi x1), (2, vi x2)]) 3 52 rfl dX4_insert_49 rfl (by decide) rfl ?_
            refine gg_goto (S := sX4_insert) (tgt := 30) dX4_insert_52 (by decide) ?_
            exact gg_pure (gg_sub [1, 2, 3, 0] rfl (hr30 (y6 + (-1))))
        · intro _
          refine gg_aload_n (S := sX4_insert) 0 56 rfl dX4_insert_55 rfl rfl ?_
          refine gg_gr (S := sX4_insert) cfX4 (by decide) (fun _ _ => rfl) 59 rfl flX4_15 dX4_insert_56 (fun t10 => ?_)
          refine gg_iload_n (S := sX4_insert) 1 60 rfl dX4_insert_59 rfl rfl ?_
          refine gg_iload_n (S := sX4_insert) 2 61 rfl dX4_insert_60 rfl rfl ?_
          refine gg_st (S := sX4_insert) 62 rfl dX4_insert_61 ?_
          refine gg_aload_n (S := sX4_insert) 0 63 rfl dX4_insert_62 rfl rfl ?_
          refine gg_dup (S := sX4_insert) 64 rfl dX4_insert_63 rfl ?_
          refine gg_gi (S := sX4_insert) cfX4 (by decide) (fun _ _ => rfl) 67 rfl flX4_21 dX4_insert_64 (fun t11 => ?_)
          refine gg_iconst (S := sX4_insert) 68 rfl dX4_insert_67 ?_
          refine gg_iadd (S := sX4_insert) 69 rfl dX4_insert_68 ?_
          refine gg_si (S := sX4_insert) cfX4 (by decide) rfl (fun _ _ => rfl) rfl 72 rfl flX4_21 dX4_insert_69 ?_
          exact gg_pure (gg_vret (S := sX4_insert) rfl dX4_insert_72 (by decide) (by decide))
      · exact gg_pure (gg_vret (S := sX4_insert) rfl dX4_insert_24 (by decide) (by decide))
    · exact gg_pure (gg_vret (S := sX4_insert) rfl dX4_insert_24 (by decide) (by decide))

set_option maxRecDepth 100000 in
set_option maxHeartbeats 4000000 in
theorem lkX4_remove (x0 : Nat) (x1 : Int) : LK yX4_remove sX4_remove [vr (some x0), vi x1] en_v (X4_remove x0 x1) := by
  refine lk_go (L := [(0, vr (some x0)), (1, vi x1)]) (by decide +kernel) rfl (fun h => by cases h) (Nat.le_of_ble_eq_true rfl) rfl ?_
  intro K
  unfold X4_remove
  refine gg_iload_n (S := sX4_remove) 1 1 rfl dX4_remove_0 rfl rfl ?_
  refine gg_if_lt (S := sX4_remove) (tgt := 24) 4 rfl dX4_remove_1 (by decide) ?_ ?_
  · exact gg_pure (gg_vret (S := sX4_remove) rfl dX4_remove_24 (by decide) (by decide))
  · refine gg_iload_n (S := sX4_remove) 1 5 rfl dX4_remove_4 rfl rfl ?_
    refine gg_aload_n (S := sX4_remove) 0 6 rfl dX4_remove_5 rfl rfl ?_
    refine gg_gi (S := sX4_remove) cfX4 (by decide) (fun _ _ => rfl) 9 rfl flX4_21 dX4_remove_6 (fun t1 => ?_)
    refine gg_ic_ge (S := sX4_remove) (tgt := 24) 12 rfl dX4_remove_9 (by decide) ?_ ?_
    · refine gg_aload_n (S := sX4_remove) 0 13 rfl dX4_remove_12 rfl rfl ?_
      refine gg_gi (S := sX4_remove) cfX4 (by decide) (fun _ _ => rfl) 16 rfl flX4_21 dX4_remove_13 (fun t2 => ?_)
      refine gg_aload_n (S := sX4_remove) 0 17 rfl dX4_remove_16 rfl rfl ?_
      refine gg_gr (S := sX4_remove) cfX4 (by decide) (fun _ _ => rfl) 20 rfl flX4_15 dX4_remove_17 (fun t3 => ?_)
      refine gg_alen (S := sX4_remove) 21 rfl dX4_remove_20 (fun t4 => ?_)
      refine gg_ic_le (S := sX4_remove) (tgt := 25) 24 rfl dX4_remove_21 (by decide) ?_ ?_
      · refine gg_iload_n (S := sX4_remove) 1 26 rfl dX4_remove_25 rfl rfl ?_
        refine gg_istore_n (S := sX4_remove) (L' := [(2, vi x1), (0, vr (some x0)), (1, vi x1)]) 27 rfl dX4_remove_26 rfl (by decide) rfl ?_
        refine gg_sub [1, 0] rfl ?_
        refine gg_loopA (fun y5 => [(0, vr (some x0)), (2, vi y5)]) (fun _ => [(0, vr (some x0))]) 57 mo_N ?_ ?_ x1
        · intro κ27 hr27 he27
          intro y5
          dsimp only [X4_remove_L27]
          refine gg_iload_n (S := sX4_remove) 1 28 rfl dX4_remove_27 rfl rfl ?_
          refine gg_aload_n (S := sX4_remove) 0 29 rfl dX4_remove_28 rfl rfl ?_
          refine gg_gi (S := sX4_remove) cfX4 (by decide) (fun _ _ => rfl) 32 rfl flX4_21 dX4_remove_29 (fun t6 => ?_)
          refine gg_iconst (S := sX4_remove) 33 rfl dX4_remove_32 ?_
          refine gg_isub (S := sX4_remove) 34 rfl dX4_remove_33 ?_
          refine gg_ic_ge (S := sX4_remove) (tgt := 57) 37 rfl dX4_remove_34 (by decide) ?_ ?_
          · refine gg_aload_n (S := sX4_remove) 0 38 rfl dX4_remove_37 rfl rfl ?_
            refine gg_gr (S := sX4_remove) cfX4 (by decide) (fun _ _ => rfl) 41 rfl flX4_15 dX4_remove_38 (fun t7 => ?_)
            refine gg_iload_n (S := sX4_remove) 1 42 rfl dX4_remove_41 rfl rfl ?_
            refine gg_aload_n (S := sX4_remove) 0 43 rfl dX4_remove_42 rfl rfl ?_
            refine gg_gr (S := sX4_remove) cfX4 (by decide) (fun _ _ => rfl) 46 rfl flX4_15 dX4_remove_43 (fun t8 => ?_)
            refine gg_iload_n (S := sX4_remove) 1 47 rfl dX4_remove_46 rfl rfl ?_
            refine gg_iconst (S := sX4_remove) 48 rfl dX4_remove_47 ?_
            refine gg_iadd (S := sX4_remove) 49 rfl dX4_remove_48 ?_
            refine gg_ld (S := sX4_remove) 50 rfl dX4_remove_49 (fun t9 => ?_)
            refine gg_st (S := sX4_remove) 51 rfl dX4_remove_50 ?_
            refine gg_iinc (S := sX4_remove) (L' := [(2, vi (y5 + 1)), (0, vr (some x0))]) 1 54 rfl dX4_remove_51 rfl (by decide) rfl ?_
            refine gg_goto (S := sX4_remove) (tgt := 27) dX4_remove_54 (by decide) ?_
            exact gg_pure (gg_sub [1, 0] rfl (hr27 (y5 + 1)))
          · exact gg_pure (gg_sub [0] rfl (he27 ()))
        · intro _
          refine gg_aload_n (S := sX4_remove) 0 58 rfl dX4_remove_57 rfl rfl ?_
          refine gg_dup (S := sX4_remove) 59 rfl dX4_remove_58 rfl ?_
          refine gg_gi (S := sX4_remove) cfX4 (by decide) (fun _ _ => rfl) 62 rfl flX4_21 dX4_remove_59 (fun t10 => ?_)
          refine gg_iconst (S := sX4_remove) 63 rfl dX4_remove_62 ?_
          refine gg_isub (S := sX4_remove) 64 rfl dX4_remove_63 ?_
          refine gg_si (S := sX4_remove) cfX4 (by decide) rfl (fun _ _ => rfl) rfl 67 rfl flX4_21 dX4_remove_64 ?_
          exact gg_pure (gg_vret (S := sX4_remove) rfl dX4_remove_67 (by decide) (by decide))
      · exact gg_pure (gg_vret (S := sX4_remove) rfl dX4_remove_24 (by decide) (by decide))
    · exact gg_pure (gg_vret (S := sX4_remove) rfl dX4_remove_24 (by decide) (by decide))

set_option maxRecDepth 100000 in
set_option maxHeartbeats 4000000 in
theorem lkX3_replace (x0 : Nat) (x1 : Option Nat) (x2 : Int) (x3 : Int) : LK yX3_replace sX3_replace [vr (some x0), vr x1, vi x2, vi x3] en_v (X3_replace x0 x1 x2 x3) := by
  refine lk_go (L := [(0, vr (some x0)), (1, vr x1), (2, vi x2), (3, vi x3)]) (by decide +kernel) rfl (fun h => by cases h) (Nat.le_of_ble_eq_true rfl) rfl ?_
  intro K
  unfold X3_replace
  refine gg_iconst (S := sX3_replace) 1 rfl dX3_replace_0 ?_
  refine gg_istore (S := sX3_replace) (L' := [(4, vi 0), (0, vr (some x0)), (1, vr x1), (2, vi x2), (3, vi x3)]) 3 rfl dX3_replace_1 (by decide) rfl ?_
  refine gg_sub [1, 2, 3, 4, 0] rfl ?_
  refine gg_loopA (fun y1 => [(0, vr (some x0)), (1, vr x1), (2, vi x2), (3, vi x3), (4, vi y1)]) (fun _ => [(0, vr (some x0)), (1, vr x1), (2, vi x2), (3, vi x3)]) 24 mo_N ?_ ?_ 0
  · intro κ3 hr3 he3
    intro y1
    dsimp only [X3_replace_L3]
    refine gg_iload (S := sX3_replace) 4 5 rfl dX3_replace_3 rfl ?_
    refine gg_aload_n (S := sX3_replace) 0 6 rfl dX3_replace_5 rfl rfl ?_
    refine gg_iload_n (S := sX3_replace) 2 7 rfl dX3_replace_6 rfl rfl ?_
    refine gg_callVi (S := sX3_replace) (S' := sX3_going) (cs := 0) (sl := 0) (As := [vi x2]) (st := [vi y1]) 10 rfl (fun b3 => lkX3_going b3 x2) mwX3_going rfl mlX3_48 dX3_replace_7 cfX3 ⟨by decide, by decide⟩ 0 0 ⟨rfl, rfl⟩ ⟨by decide, by decide⟩ (Nat.le_of_ble_eq_true rfl) (fun t2 => ?_)
    refine gg_ic_ge (S := sX3_replace) (tgt := 24) 13 rfl dX3_replace_10 (by decide) ?_ ?_
    · refine gg_aload_n (S := sX3_replace) 1 14 rfl dX3_replace_13 rfl rfl ?_
      refine gg_iload_n (S := sX3_replace) 3 15 rfl dX3_replace_14 rfl rfl ?_
      refine gg_callVv (S := sX3_replace) (S' := sX4_remove) (cs := 0) (sl := 0) (As := [vi x3]) (st := []) 18 rfl (fun b2 => lkX4_remove b2 x3) mwX4_remove rfl mlX3_133 dX3_replace_15 cfX4 ⟨by decide, by decide⟩ 0 0 ⟨rfl, rfl⟩ ⟨by decide, by decide⟩ (Nat.le_of_ble_eq_true rfl) (fun _ => ?_)
      refine gg_iinc (S := sX3_replace) (L' := [(4, vi (y1 + 1)), (0, vr (some x0)), (1, vr x1), (2, vi x2), (3, vi x3)]) 4 21 rfl dX3_replace_18 rfl (by decide) rfl ?_
      refine gg_goto (S := sX3_replace) (tgt := 3) dX3_replace_21 (by decide) ?_
      exact gg_pure (gg_sub [1, 2, 3, 4, 0] rfl (hr3 (y1 + 1)))
    · exact gg_pure (gg_sub [0, 1, 2, 3] rfl (he3 ()))
  · intro _
    refine gg_iconst (S := sX3_replace) 25 rfl dX3_replace_24 ?_
    refine gg_istore (S := sX3_replace) (L' := [(4, vi 0), (0, vr (some x0)), (1, vr x1), (2, vi x2), (3, vi x3)]) 27 rfl dX3_replace_25 (by decide) rfl ?_
    refine gg_sub [1, 2, 3, 4, 0] rfl ?_
    refine gg_loopA (fun y5 => [(0, vr (some x0)), (1, vr x1), (2, vi x2), (3, vi x3), (4, vi y5)]) (fun _ => []) 58 mo_N ?_ ?_ 0
    · intro κ27 hr27 he27
      intro y5
      dsimp only [X3_replace_L27]
      refine gg_iload (S := sX3_replace) 4 29 rfl dX3_replace_27 rfl ?_
      refine gg_aload_n (S := sX3_replace) 0 30 rfl dX3_replace_29 rfl rfl ?_
      refine gg_iload_n (S := sX3_replace) 2 31 rfl dX3_replace_30 rfl rfl ?_
      refine gg_callVi (S := sX3_replace) (S' := sX3_coming) (cs := 0) (sl := 0) (As := [vi x2]) (st := [vi y5]) 34 rfl (fun b9 => lkX3_coming b9 x2) mwX3_coming rfl mlX3_51 dX3_replace_31 cfX3 ⟨by decide, by decide⟩ 0 0 ⟨rfl, rfl⟩ ⟨by decide, by decide⟩ (Nat.le_of_ble_eq_true rfl) (fun t6 => ?_)
      refine gg_ic_ge (S := sX3_replace) (tgt := 58) 37 rfl dX3_replace_34 (by decide) ?_ ?_
      · refine gg_aload_n (S := sX3_replace) 1 38 rfl dX3_replace_37 rfl rfl ?_
        refine gg_iload_n (S := sX3_replace) 3 39 rfl dX3_replace_38 rfl rfl ?_
        refine gg_iload (S := sX3_replace) 4 41 rfl dX3_replace_39 rfl ?_
        refine gg_iadd (S := sX3_replace) 42 rfl dX3_replace_41 ?_
        refine gg_aload_n (S := sX3_replace) 0 43 rfl dX3_replace_42 rfl rfl ?_
        refine gg_iload_n (S := sX3_replace) 2 44 rfl dX3_replace_43 rfl rfl ?_
        refine gg_iload (S := sX3_replace) 4 46 rfl dX3_replace_44 rfl ?_
        refine gg_callVi (S := sX3_replace) (S' := sX3_comingLine) (cs := 0) (sl := 0) (As := [vi x2, vi y5]) (st := [vi (x3 + y5), vr x1]) 49 rfl (fun b8 => lkX3_comingLine b8 x2 y5) mwX3_comingLine rfl mlX3_92 dX3_replace_46 cfX3 ⟨by decide, by decide⟩ 0 0 ⟨rfl, rfl⟩ ⟨by decide, by decide⟩ (Nat.le_of_ble_eq_true rfl) (fun t7 => ?_)
        refine gg_callVv (S := sX3_replace) (S' := sX4_insert) (cs := 0) (sl := 0) (As := [vi (x3 + y5), vi t7]) (st := []) 52 rfl (fun b7 => lkX4_insert b7 (x3 + y5) t7) mwX4_insert rfl mlX3_136 dX3_replace_49 cfX4 ⟨by decide, by decide⟩ 0 0 ⟨rfl, rfl⟩ ⟨by decide, by decide⟩ (Nat.le_of_ble_eq_true rfl) (fun _ => ?_)
        refine gg_iinc (S := sX3_replace) (L' := [(4, vi (y5 + 1)), (0, vr (some x0)), (1, vr x1), (2, vi x2), (3, vi x3)]) 4 55 rfl dX3_replace_52 rfl (by decide) rfl ?_
        refine gg_goto (S := sX3_replace) (tgt := 27) dX3_replace_55 (by decide) ?_
        exact gg_pure (gg_sub [1, 2, 3, 4, 0] rfl (hr27 (y5 + 1)))
      · exact gg_pure (gg_sub [] rfl (he27 ()))
    · intro _
      exact gg_pure (gg_vret (S := sX3_replace) rfl dX3_replace_58 (by decide) (by decide))

set_option maxRecDepth 100000 in
set_option maxHeartbeats 4000000 in
theorem lkX3_layLooselyOn (x0 : Nat) (x1 : Option Nat) : LK yX3_layLooselyOn sX3_layLooselyOn [vr (some x0), vr x1] en_i (X3_layLooselyOn x0 x1) := by
  refine lk_go (L := [(0, vr (some x0)), (1, vr x1)]) (by decide +kernel) rfl (fun h => by cases h) (Nat.le_of_ble_eq_true rfl) rfl ?_
  intro K
  unfold X3_layLooselyOn
  refine gg_iconst (S := sX3_layLooselyOn) 1 rfl dX3_layLooselyOn_0 ?_
  refine gg_istore_n (S := sX3_layLooselyOn) (L' := [(2, vi 0), (0, vr (some x0)), (1, vr x1)]) 2 rfl dX3_layLooselyOn_1 rfl (by decide) rfl ?_
  refine gg_iconst (S := sX3_layLooselyOn) 3 rfl dX3_layLooselyOn_2 ?_
  refine gg_istore_n (S := sX3_layLooselyOn) (L' := [(3, vi 0), (2, vi 0), (0, vr (some x0)), (1, vr x1)]) 4 rfl dX3_layLooselyOn_3 rfl (by decide) rfl ?_
  refine gg_iconst (S := sX3_layLooselyOn) 5 rfl dX3_layLooselyOn_4 ?_
  refine gg_istore (S := sX3_layLooselyOn) (L' := [(4, vi 0), (3, vi 0), (2, vi 0), (0, vr (some x0)), (1, vr x1)]) 7 rfl dX3_layLooselyOn_5 (by decide) rfl ?_
  refine gg_iconst (S := sX3_layLooselyOn) 8 rfl dX3_layLooselyOn_7 ?_
  refine gg_istore (S := sX3_layLooselyOn) (L' := [(5, vi 0), (4, vi 0), (3, vi 0), (2, vi 0), (0, vr (some x0)), (1, vr x1)]) 10 rfl dX3_layLooselyOn_8 (by decide) rfl ?_
  refine gg_sub [4, 5, 3, 2, 1, 0] rfl ?_
  refine gg_loop (fun (y1, y2, y3, y4) => [(0, vr (some x0)), (1, vr x1), (2, vi y1), (3, vi y2), (4, vi y3), (5, vi y4)]) mo_N ?_ (0, 0, 0, 0)
  · intro rec10 hr10
    rintro ⟨y1, y2, y3, y4⟩
    dsimp only [X3_layLooselyOn_L10]
    refine gg_iload (S := sX3_layLooselyOn) 5 12 rfl dX3_layLooselyOn_10 rfl ?_
    refine gg_aload_n (S := sX3_layLooselyOn) 0 13 rfl dX3_layLooselyOn_12 rfl rfl ?_
    refine gg_gi (S := sX3_layLooselyOn) cfX3 (by decide) (fun _ _ => rfl) 16 rfl flX3_33 dX3_layLooselyOn_13 (fun t5 => ?_)
    refine gg_ic_ge (S := sX3_layLooselyOn) (tgt := 111) 19 rfl dX3_layLooselyOn_16 (by decide) ?_ ?_
    · refine gg_aload_n (S := sX3_layLooselyOn) 0 20 rfl dX3_layLooselyOn_19 rfl rfl ?_
      refine gg_iload (S := sX3_layLooselyOn) 5 22 rfl dX3_layLooselyOn_20 rfl ?_
      refine gg_callVi (S := sX3_layLooselyOn) (S' := sX3_begins) (cs := 0) (sl := 0) (As := [vi y4]) (st := []) 25 rfl (fun b16 => lkX3_begins b16 y4) mwX3_begins rfl mlX3_45 dX3_layLooselyOn_22 cfX3 ⟨by decide, by decide⟩ 0 0 ⟨rfl, rfl⟩ ⟨by decide, by decide⟩ (Nat.le_of_ble_eq_true rfl) (fun t6 => ?_)
      refine gg_iload_n (S := sX3_layLooselyOn) 2 26 rfl dX3_layLooselyOn_25 rfl rfl ?_
      refine gg_iadd (S := sX3_layLooselyOn) 27 rfl dX3_layLooselyOn_26 ?_
      refine gg_istore (S := sX3_layLooselyOn) (L' := [(6, vi (t6 + y1)), (0, vr (some x0)), (1, vr x1), (2, vi y1), (3, vi y2), (4, vi y3), (5, vi y4)]) 29 rfl dX3_layLooselyOn_27 (by decide) rfl ?_
      refine gg_aload_n (S := sX3_layLooselyOn) 1 30 rfl dX3_layLooselyOn_29 rfl rfl ?_
      refine gg_aload_n (S := sX3_layLooselyOn) 2 31 rfl dX3_layLooselyOn_30 rfl rfl ?_
      refine gg_iload (S := sX3_layLooselyOn) 6 33 rfl dX3_layLooselyOn_31 rfl ?_
      refine gg_iload (S := sX3_layLooselyOn) 0 35 rfl dX3_layLooselyOn_33 rfl ?_
      refine gg_iload_n (S := sX3_layLooselyOn) 4 36 rfl dX3_layLooselyOn_35 rfl rfl ?_
      refine gg_callVi (S := sX3_layLooselyOn) (S' := sX3_nearestPlace) (cs := 0) (sl := 0) (As := [vr x1, vi y4, vi (t6 + y1), vi y2]) (st := []) 39 rfl (fun b15 => lkX3_nearestPlace b15 x1 y4 (t6 + y1) y2) mwX3_nearestPlace rfl mlX3_123 dX3_layLooselyOn_36 cfX3 ⟨by decide, by decide⟩ 0 0 ⟨rfl, rfl⟩ ⟨by decide, by decide⟩ (Nat.le_of_ble_eq_true rfl) (fun t7 => ?_)
      refine gg_istore (S := sX3_layLooselyOn) (L' := [(7, vi t7), (6, vi (t6 + y1)), (0, vr (some x0)), (1, vr x1), (2, vi y1), (3, vi y2), (4, vi y3), (5, vi y4)]) 41 rfl dX3_layLooselyOn_39 (by decide) rfl ?_
      refine gg_iload (S := sX3_layLooselyOn) 0 43 rfl dX3_layLooselyOn_41 rfl ?_
      refine gg_iconst (S := sX3_layLooselyOn) 44 rfl dX3_layLooselyOn_43 ?_
      refine gg_ic_ne (S := sX3_layLooselyOn) (tgt := 49) 47 rfl dX3_layLooselyOn_44 (by decide) ?_ ?_
      · refine gg_iconst (S := sX3_layLooselyOn) 48 rfl dX3_layLooselyOn_47 ?_
        exact gg_pure (gg_iret (S := sX3_layLooselyOn) rfl dX3_layLooselyOn_48 (by decide) (by decide))
      · refine gg_aload_n (S := sX3_layLooselyOn) 2 50 rfl dX3_layLooselyOn_49 rfl rfl ?_
        refine gg_aload_n (S := sX3_layLooselyOn) 3 51 rfl dX3_layLooselyOn_50 rfl rfl ?_
        refine gg_iload (S := sX3_layLooselyOn) 7 53 rfl dX3_layLooselyOn_51 rfl ?_
        refine gg_iload (S := sX3_layLooselyOn) 0 55 rfl dX3_layLooselyOn_53 rfl ?_
        refine gg_callVv (S := sX3_layLooselyOn) (S' := sX3_replace) (cs := 0) (sl := 0) (As := [vr x1, vi y4, vi t7]) (st := []) 58 rfl (fun b14 => lkX3_replace b14 x1 y4 t7) mwX3_replace rfl mlX3_127 dX3_layLooselyOn_55 cfX3 ⟨by decide, by decide⟩ 0 0 ⟨rfl, rfl⟩ ⟨by decide, by decide⟩ (Nat.le_of_ble_eq_true rfl) (fun _ => ?_)
        refine gg_iload (S := sX3_layLooselyOn) 6 60 rfl dX3_layLooselyOn_58 rfl ?_
        refine gg_iload (S := sX3_layLooselyOn) 0 62 rfl dX3_layLooselyOn_60 rfl ?_
        refine gg_iload (S := sX3_layLooselyOn) 1 64 rfl dX3_layLooselyOn_62 rfl ?_
        refine gg_isub (S := sX3_layLooselyOn) 65 rfl dX3_layLooselyOn_64 ?_
        refine gg_mabs (S := sX3_layLooselyOn) 68 rfl mlX3_130 ms_abs iiJ9 mc_abs dX3_layLooselyOn_65 (by decide) (Nat.le_of_ble_eq_true rfl) (by decide) (by decide) (fun t8 => ?_)
        refine gg_iadd (S := sX3_layLooselyOn) 69 rfl dX3_layLooselyOn_68 ?_
        refine gg_istore (S := sX3_layLooselyOn) (L' := [(4, vi (y3 + t8)), (7, vi t7), (6, vi (t6 + y1)), (0, vr (some x0)), (1, vr x1), (2, vi y1), (3, vi y2), (5, vi y4)]) 71 rfl dX3_layLooselyOn_69 (by decide) rfl ?_
        refine gg_iload_n (S := sX3_layLooselyOn) 5 72 rfl dX3_layLooselyOn_71 rfl rfl ?_
        refine gg_iload (S := sX3_layLooselyOn) 1 74 rfl dX3_layLooselyOn_72 rfl ?_
        refine gg_iload (S := sX3_layLooselyOn) 2 76 rfl dX3_layLooselyOn_74 rfl ?_
        refine gg_isub (S := sX3_layLooselyOn) 77 rfl dX3_layLooselyOn_76 ?_
        refine gg_aload_n (S := sX3_layLooselyOn) 3 78 rfl dX3_layLooselyOn_77 rfl rfl ?_
        refine gg_iload (S := sX3_layLooselyOn) 7 80 rfl dX3_layLooselyOn_78 rfl ?_
        refine gg_callVi (S := sX3_layLooselyOn) (S' := sX3_coming) (cs := 0) (sl := 0) (As := [vi y4]) (st := [vi (t7 - (t6 + y1)), vi y1]) 83 rfl (fun b13 => lkX3_coming b13 y4) mwX3_coming rfl mlX3_51 dX3_layLooselyOn_80 cfX3 ⟨by decide, by decide⟩ 0 0 ⟨rfl, rfl⟩ ⟨by decide, by decide⟩ (Nat.le_of_ble_eq_true rfl) (fun t9 => ?_)
        refine gg_iadd (S := sX3_layLooselyOn) 84 rfl dX3_layLooselyOn_83 ?_
        refine gg_aload_n (S := sX3_layLooselyOn) 3 85 rfl dX3_layLooselyOn_84 rfl rfl ?_
        refine gg_iload (S := sX3_layLooselyOn) 7 87 rfl dX3_layLooselyOn_85 rfl ?_
        refine gg_callVi (S := sX3_layLooselyOn) (S' := sX3_going) (cs := 0) (sl := 0) (As := [vi y4]) (st := [vi ((t7 - (t6 + y1)) + t9), vi y1]) 90 rfl (fun b12 => lkX3_going b12 y4) mwX3_going rfl mlX3_48 dX3_layLooselyOn_87 cfX3 ⟨by decide, by decide⟩ 0 0 ⟨rfl, rfl⟩ ⟨by decide, by decide⟩ (Nat.le_of_ble_eq_true rfl) (fun t10 => ?_)
        refine gg_isub (S := sX3_layLooselyOn) 91 rfl dX3_layLooselyOn_90 ?_
        refine gg_iadd (S := sX3_layLooselyOn) 92 rfl dX3_layLooselyOn_91 ?_
        refine gg_istore_n (S := sX3_layLooselyOn) (L' := [(2, vi (y1 + (((t7 - (t6 + y1)) + t9) - t10))), (4, vi (y3 + t8)), (7, vi t7), (6, vi (t6 + y1)), (0, vr (some x0)), (1, vr x1), (3, vi y2), (5, vi y4)]) 93 rfl dX3_layLooselyOn_92 rfl (by decide) rfl ?_
        refine gg_iload (S := sX3_layLooselyOn) 2 95 rfl dX3_layLooselyOn_93 rfl ?_
        refine gg_aload_n (S := sX3_layLooselyOn) 4 96 rfl dX3_layLooselyOn_95 rfl rfl ?_
        refine gg_iload (S := sX3_layLooselyOn) 7 98 rfl dX3_layLooselyOn_96 rfl ?_
        refine gg_callVi (S := sX3_layLooselyOn) (S' := sX3_coming) (cs := 0) (sl := 0) (As := [vi y4]) (st := [vi t7]) 101 rfl (fun b11 => lkX3_coming b11 y4) mwX3_coming rfl mlX3_51 dX3_layLooselyOn_98 cfX3 ⟨by decide, by decide⟩ 0 0 ⟨rfl, rfl⟩ ⟨by decide, by decide⟩ (Nat.le_of_ble_eq_true rfl) (fun t11 => ?_)
        refine gg_iadd (S := sX3_layLooselyOn) 102 rfl dX3_layLooselyOn_101 ?_
        refine gg_iconst (S := sX3_layLooselyOn) 103 rfl dX3_layLooselyOn_102 ?_
        refine gg_iadd (S := sX3_layLooselyOn) 104 rfl dX3_layLooselyOn_103 ?_
        refine gg_istore_n (S := sX3_layLooselyOn) (L' := [(3, vi ((t7 + t11) + 1)), (2, vi (y1 + (((t7 - (t6 + y1)) + t9) - t10))), (4, vi (y3 + t8)), (7, vi t7), (6, vi (t6 + y1)), (0, vr (some x0)), (1, vr x1), (5, vi y4)]) 105 rfl dX3_layLooselyOn_104 rfl (by decide) rfl ?_
        refine gg_iinc (S := sX3_layLooselyOn) (L' := [(5, vi (y4 + 1)), (3, vi ((t7 + t11) + 1)), (2, vi (y1 + (((t7 - (t6 + y1)) + t9) - t10))), (4, vi (y3 + t8)), (7, vi t7), (6, vi (t6 + y1)), (0, vr (some x0)), (1, vr x1)]) 7 108 rfl dX3_layLooselyOn_105 rfl (by decide) rfl ?_
        refine gg_goto (S := sX3_layLooselyOn) (tgt := 10) dX3_layLooselyOn_108 (by decide) ?_
        exact gg_pure (gg_sub [6, 7, 2, 1, 3, 0] rfl (hr10 ((y1 + (((t7 - (t6 + y1)) + t9) - t10)), ((t7 + t11) + 1), (y3 + t8), (y4 + 1))))
    · refine gg_iload (S := sX3_layLooselyOn) 4 113 rfl dX3_layLooselyOn_111 rfl ?_
      exact gg_pure (gg_iret (S := sX3_layLooselyOn) rfl dX3_layLooselyOn_113 (by decide) (by decide))

set_option maxRecDepth 100000 in
set_option maxHeartbeats 4000000 in
theorem lkX4_add (x0 : Nat) (x1 : Int) : LK yX4_add sX4_add [vr (some x0), vi x1] en_v (X4_add x0 x1) := by
  refine lk_go (L := [(0, vr (some x0)), (1, vi x1)]) (by decide +kernel) rfl (fun h => by cases h) (Nat.le_of_ble_eq_true rfl) rfl ?_
  intro K
  unfold X4_add
  refine gg_aload_n (S := sX4_add) 0 1 rfl dX4_add_0 rfl rfl ?_
  refine gg_aload_n (S := sX4_add) 0 2 rfl dX4_add_1 rfl rfl ?_
  refine gg_gi (S := sX4_add) cfX4 (by decide) (fun _ _ => rfl) 5 rfl flX4_21 dX4_add_2 (fun t1 => ?_)
  refine gg_iload_n (S := sX4_add) 1 6 rfl dX4_add_5 rfl rfl ?_
  refine gg_callVv (S := sX4_add) (S' := sX4_insert) (cs := 0) (sl := 0) (As := [vi t1, vi x1]) (st := []) 9 rfl (fun b1 => lkX4_insert b1 t1 x1) mwX4_insert rfl mlX4_25 dX4_add_6 cfX4 ⟨by decide, by decide⟩ 0 0 ⟨rfl, rfl⟩ ⟨by decide, by decide⟩ (Nat.le_of_ble_eq_true rfl) (fun _ => ?_)
  exact gg_pure (gg_vret (S := sX4_add) rfl dX4_add_9 (by decide) (by decide))

set_option maxRecDepth 100000 in
set_option maxHeartbeats 4000000 in
theorem lkX4_addPart (x0 : Nat) (x1 : Option Nat) (x2 : Int) (x3 : Int) : LK yX4_addPart sX4_addPart [vr (some x0), vr x1, vi x2, vi x3] en_v (X4_addPart x0 x1 x2 x3) := by
  refine lk_go (L := [(0, vr (some x0)), (1, vr x1), (2, vi x2), (3, vi x3)]) (by decide +kernel) rfl (fun h => by cases h) (Nat.le_of_ble_eq_true rfl) rfl ?_
  intro K
  unfold X4_addPart
  refine gg_iload_n (S := sX4_addPart) 2 1 rfl dX4_addPart_0 rfl rfl ?_
  refine gg_istore (S := sX4_addPart) (L' := [(4, vi x2), (0, vr (some x0)), (1, vr x1), (2, vi x2), (3, vi x3)]) 3 rfl dX4_addPart_1 (by decide) rfl ?_
  refine gg_sub [1, 2, 4, 0] rfl ?_
  refine gg_loopA (fun y1 => [(0, vr (some x0)), (1, vr x1), (3, vi x3), (4, vi y1)]) (fun _ => []) 25 mo_N ?_ ?_ x2
  · intro κ3 hr3 he3
    intro y1
    dsimp only [X4_addPart_L3]
    refine gg_iload (S := sX4_addPart) 3 5 rfl dX4_addPart_3 rfl ?_
    refine gg_iload_n (S := sX4_addPart) 2 6 rfl dX4_addPart_5 rfl rfl ?_
    refine gg_ic_ge (S := sX4_addPart) (tgt := 25) 9 rfl dX4_addPart_6 (by decide) ?_ ?_
    · refine gg_aload_n (S := sX4_addPart) 0 10 rfl dX4_addPart_9 rfl rfl ?_
      refine gg_aload_n (S := sX4_addPart) 1 11 rfl dX4_addPart_10 rfl rfl ?_
      refine gg_iload (S := sX4_addPart) 3 13 rfl dX4_addPart_11 rfl ?_
      refine gg_callVi (S := sX4_addPart) (S' := sX4_at) (cs := 0) (sl := 0) (As := [vi y1]) (st := [vr (some x0)]) 16 rfl (fun b3 => lkX4_at b3 y1) mwX4_at rfl mlX4_39 dX4_addPart_13 cfX4 ⟨by decide, by decide⟩ 0 0 ⟨rfl, rfl⟩ ⟨by decide, by decide⟩ (Nat.le_of_ble_eq_true rfl) (fun t2 => ?_)
      refine gg_callVv (S := sX4_addPart) (S' := sX4_add) (cs := 0) (sl := 0) (As := [vi t2]) (st := []) 19 rfl (fun b2 => lkX4_add b2 t2) mwX4_add rfl mlX4_43 dX4_addPart_16 cfX4 ⟨by decide, by decide⟩ 0 0 ⟨rfl, rfl⟩ ⟨by decide, by decide⟩ (Nat.le_of_ble_eq_true rfl) (fun _ => ?_)
      refine gg_iinc (S := sX4_addPart) (L' := [(4, vi (y1 + 1)), (0, vr (some x0)), (1, vr x1), (3, vi x3)]) 3 22 rfl dX4_addPart_19 rfl (by decide) rfl ?_
      refine gg_goto (S := sX4_addPart) (tgt := 3) dX4_addPart_22 (by decide) ?_
      exact gg_pure (gg_sub [1, 2, 3, 0] rfl (hr3 (y1 + 1)))
    · exact gg_pure (gg_sub [] rfl (he3 ()))
  · intro _
    exact gg_pure (gg_vret (S := sX4_addPart) rfl dX4_addPart_25 (by decide) (by decide))

set_option maxRecDepth 100000 in
set_option maxHeartbeats 4000000 in
theorem lkX4_clear (x0 : Nat) : LK yX4_clear sX4_clear [vr (some x0)] en_v (X4_clear x0) := by
  refine lk_go (L := [(0, vr (some x0))]) (by decide +kernel) rfl (fun h => by cases h) (Nat.le_of_ble_eq_true rfl) rfl ?_
  intro K
  unfold X4_clear
  refine gg_aload_n (S := sX4_clear) 0 1 rfl dX4_clear_0 rfl rfl ?_
  refine gg_iconst (S := sX4_clear) 2 rfl dX4_clear_1 ?_
  refine gg_si (S := sX4_clear) cfX4 (by decide) rfl (fun _ _ => rfl) rfl 5 rfl flX4_21 dX4_clear_2 ?_
  exact gg_pure (gg_vret (S := sX4_clear) rfl dX4_clear_5 (by decide) (by decide))

set_option maxRecDepth 100000 in
set_option maxHeartbeats 4000000 in
theorem lkX3_layOn (x0 : Nat) (x1 : Option Nat) (x2 : Option Nat) : LK yX3_layOn sX3_layOn [vr (some x0), vr x1, vr x2] en_v (X3_layOn x0 x1 x2) := by
  refine lk_go (L := [(0, vr (some x0)), (1, vr x1), (2, vr x2)]) (by decide +kernel) rfl (fun h => by cases h) (Nat.le_of_ble_eq_true rfl) rfl ?_
  intro K
  unfold X3_layOn
  refine gg_iconst (S := sX3_layOn) 1 rfl dX3_layOn_0 ?_
  refine gg_istore_n (S := sX3_layOn) (L' := [(3, vi 0), (0, vr (some x0)), (1, vr x1), (2, vr x2)]) 2 rfl dX3_layOn_1 rfl (by decide) rfl ?_
  refine gg_aload_n (S := sX3_layOn) 3 3 rfl dX3_layOn_2 rfl rfl ?_
  refine gg_callVv (S := sX3_layOn) (S' := sX4_clear) (cs := 0) (sl := 0) (As := []) (st := []) 6 rfl (fun b18 => lkX4_clear b18) mwX4_clear rfl mlX3_112 dX3_layOn_3 cfX4 ⟨by decide, by decide⟩ 0 0 ⟨rfl, rfl⟩ ⟨by decide, by decide⟩ (Nat.le_of_ble_eq_true rfl) (fun _ => ?_)
  refine gg_iconst (S := sX3_layOn) 7 rfl dX3_layOn_6 ?_
  refine gg_istore (S := sX3_layOn) (L' := [(4, vi 0), (3, vi 0), (0, vr (some x0)), (1, vr x1), (2, vr x2)]) 9 rfl dX3_layOn_7 (by decide) rfl ?_
  refine gg_sub [2, 3, 4, 1, 0] rfl ?_
  refine gg_loopA (fun (y1, y2) => [(0, vr (some x0)), (1, vr x1), (2, vr x2), (3, vi y1), (4, vi y2)]) (fun t15 => [(1, vr x1), (2, vr x2), (3, vi t15)]) 75 mo_N ?_ ?_ (0, 0)
  · intro κ9 hr9 he9
    rintro ⟨y1, y2⟩
    dsimp only [X3_layOn_L9]
    refine gg_iload (S := sX3_layOn) 4 11 rfl dX3_layOn_9 rfl ?_
    refine gg_aload_n (S := sX3_layOn) 0 12 rfl dX3_layOn_11 rfl rfl ?_
    refine gg_gi (S := sX3_layOn) cfX3 (by decide) (fun _ _ => rfl) 15 rfl flX3_33 dX3_layOn_12 (fun t3 => ?_)
    refine gg_ic_ge (S := sX3_layOn) (tgt := 75) 18 rfl dX3_layOn_15 (by decide) ?_ ?_
    · refine gg_aload_n (S := sX3_layOn) 2 19 rfl dX3_layOn_18 rfl rfl ?_
      refine gg_aload_n (S := sX3_layOn) 1 20 rfl dX3_layOn_19 rfl rfl ?_
      refine gg_iload_n (S := sX3_layOn) 3 21 rfl dX3_layOn_20 rfl rfl ?_
      refine gg_aload_n (S := sX3_layOn) 0 22 rfl dX3_layOn_21 rfl rfl ?_
      refine gg_iload (S := sX3_layOn) 4 24 rfl dX3_layOn_22 rfl ?_
      refine gg_callVi (S := sX3_layOn) (S' := sX3_begins) (cs := 0) (sl := 0) (As := [vi y2]) (st := [vi y1, vr x1, vr x2]) 27 rfl (fun b13 => lkX3_begins b13 y2) mwX3_begins rfl mlX3_45 dX3_layOn_24 cfX3 ⟨by decide, by decide⟩ 0 0 ⟨rfl, rfl⟩ ⟨by decide, by decide⟩ (Nat.le_of_ble_eq_true rfl) (fun t4 => ?_)
      refine gg_callVv (S := sX3_layOn) (S' := sX4_addPart) (cs := 0) (sl := 0) (As := [vr x1, vi y1, vi t4]) (st := []) 30 rfl (fun b12 => lkX4_addPart b12 x1 y1 t4) mwX4_addPart rfl mlX3_113 dX3_layOn_27 cfX4 ⟨by decide, by decide⟩ 0 0 ⟨rfl, rfl⟩ ⟨by decide, by decide⟩ (Nat.le_of_ble_eq_true rfl) (fun _ => ?_)
      refine gg_iconst (S := sX3_layOn) 31 rfl dX3_layOn_30 ?_
      refine gg_istore (S := sX3_layOn) (L' := [(5, vi 0), (0, vr (some x0)), (1, vr x1), (2, vr x2), (3, vi y1), (4, vi y2)]) 33 rfl dX3_layOn_31 (by decide) rfl ?_
      refine gg_sub [1, 2, 3, 5, 0] rfl ?_
      refine gg_loopA (fun y5 => [(0, vr (some x0)), (1, vr x1), (2, vr x2), (4, vi y2), (5, vi y5)]) (fun _ => [(0, vr (some x0)), (1, vr x1), (2, vr x2), (4, vi y2)]) 62 mo_N ?_ ?_ 0
      · intro κ33 hr33 he33
        intro y5
        dsimp only [X3_layOn_L33]
        refine gg_iload (S := sX3_layOn) 4 35 rfl dX3_layOn_33 rfl ?_
        refine gg_aload_n (S := sX3_layOn) 0 36 rfl dX3_layOn_35 rfl rfl ?_
        refine gg_iload (S := sX3_layOn) 3 38 rfl dX3_layOn_36 rfl ?_
        refine gg_callVi (S := sX3_layOn) (S' := sX3_coming) (cs := 0) (sl := 0) (As := [vi y2]) (st := [vi y5]) 41 rfl (fun b9 => lkX3_coming b9 y2) mwX3_coming rfl mlX3_51 dX3_layOn_38 cfX3 ⟨by decide, by decide⟩ 0 0 ⟨rfl, rfl⟩ ⟨by decide, by decide⟩ (Nat.le_of_ble_eq_true rfl) (fun t6 => ?_)
        refine gg_ic_ge (S := sX3_layOn) (tgt := 62) 44 rfl dX3_layOn_41 (by decide) ?_ ?_
        · refine gg_aload_n (S := sX3_layOn) 2 45 rfl dX3_layOn_44 rfl rfl ?_
          refine gg_aload_n (S := sX3_layOn) 0 46 rfl dX3_layOn_45 rfl rfl ?_
          refine gg_iload (S := sX3_layOn) 3 48 rfl dX3_layOn_46 rfl ?_
          refine gg_iload (S := sX3_layOn) 4 50 rfl dX3_layOn_48 rfl ?_
          refine gg_callVi (S := sX3_layOn) (S' := sX3_comingLine) (cs := 0) (sl := 0) (As := [vi y2, vi y5]) (st := [vr x2]) 53 rfl (fun b8 => lkX3_comingLine b8 y2 y5) mwX3_comingLine rfl mlX3_92 dX3_layOn_50 cfX3 ⟨by decide, by decide⟩ 0 0 ⟨rfl, rfl⟩ ⟨by decide, by decide⟩ (Nat.le_of_ble_eq_true rfl) (fun t7 => ?_)
          refine gg_callVv (S := sX3_layOn) (S' := sX4_add) (cs := 0) (sl := 0) (As := [vi t7]) (st := []) 56 rfl (fun b7 => lkX4_add b7 t7) mwX4_add rfl mlX3_117 dX3_layOn_53 cfX4 ⟨by decide, by decide⟩ 0 0 ⟨rfl, rfl⟩ ⟨by decide, by decide⟩ (Nat.le_of_ble_eq_true rfl) (fun _ => ?_)
          refine gg_iinc (S := sX3_layOn) (L' := [(5, vi (y5 + 1)), (0, vr (some x0)), (1, vr x1), (2, vr x2), (4, vi y2)]) 4 59 rfl dX3_layOn_56 rfl (by decide) rfl ?_
          refine gg_goto (S := sX3_layOn) (tgt := 33) dX3_layOn_59 (by decide) ?_
          exact gg_pure (gg_sub [1, 2, 3, 4, 0] rfl (hr33 (y5 + 1)))
        · exact gg_pure (gg_sub [0, 1, 2, 3] rfl (he33 ()))
      · intro _
        refine gg_aload_n (S := sX3_layOn) 0 63 rfl dX3_layOn_62 rfl rfl ?_
        refine gg_iload (S := sX3_layOn) 3 65 rfl dX3_layOn_63 rfl ?_
        refine gg_callVi (S := sX3_layOn) (S' := sX3_ends) (cs := 0) (sl := 0) (As := [vi y2]) (st := []) 68 rfl (fun b11 => lkX3_ends b11 y2) mwX3_ends rfl mlX3_60 dX3_layOn_65 cfX3 ⟨by decide, by decide⟩ 0 0 ⟨rfl, rfl⟩ ⟨by decide, by decide⟩ (Nat.le_of_ble_eq_true rfl) (fun t11 => ?_)
        refine gg_istore_n (S := sX3_layOn) (L' := [(3, vi t11), (0, vr (some x0)), (1, vr x1), (2, vr x2), (4, vi y2)]) 69 rfl dX3_layOn_68 rfl (by decide) rfl ?_
        refine gg_iinc (S := sX3_layOn) (L' := [(4, vi (y2 + 1)), (3, vi t11), (0, vr (some x0)), (1, vr x1), (2, vr x2)]) 4 72 rfl dX3_layOn_69 rfl (by decide) rfl ?_
        refine gg_goto (S := sX3_layOn) (tgt := 9) dX3_layOn_72 (by decide) ?_
        exact gg_pure (gg_sub [2, 3, 4, 1, 0] rfl (hr9 (t11, (y2 + 1))))
    · exact gg_pure (gg_sub [1, 2, 3] rfl (he9 y1))
  · intro t15
    refine gg_aload_n (S := sX3_layOn) 1 76 rfl dX3_layOn_75 rfl rfl ?_
    refine gg_aload_n (S := sX3_layOn) 0 77 rfl dX3_layOn_76 rfl rfl ?_
    refine gg_iload_n (S := sX3_layOn) 2 78 rfl dX3_layOn_77 rfl rfl ?_
    refine gg_aload_n (S := sX3_layOn) 0 79 rfl dX3_layOn_78 rfl rfl ?_
    refine gg_callVi (S := sX3_layOn) (S' := sX4_size) (cs := 0) (sl := 0) (As := []) (st := [vi t15, vr x1, vr x2]) 82 rfl (fun b17 => lkX4_size b17) mwX4_size rfl mlX3_120 dX3_layOn_79 cfX4 ⟨by decide, by decide⟩ 0 0 ⟨rfl, rfl⟩ ⟨by decide, by decide⟩ (Nat.le_of_ble_eq_true rfl) (fun t16 => ?_)
    refine gg_callVv (S := sX3_layOn) (S' := sX4_addPart) (cs := 0) (sl := 0) (As := [vr x1, vi t15, vi t16]) (st := []) 85 rfl (fun b16 => lkX4_addPart b16 x1 t15 t16) mwX4_addPart rfl mlX3_113 dX3_layOn_82 cfX4 ⟨by decide, by decide⟩ 0 0 ⟨rfl, rfl⟩ ⟨by decide, by decide⟩ (Nat.le_of_ble_eq_true rfl) (fun _ => ?_)
    exact gg_pure (gg_vret (S := sX3_layOn) rfl dX3_layOn_85 (by decide) (by decide))

set_option maxRecDepth 100000 in
set_option maxHeartbeats 4000000 in
theorem lkX3_mayBeginNext (x0 : Nat) (x1 : Int) : LK yX3_mayBeginNext sX3_mayBeginNext [vr (some x0), vi x1] en_i (X3_mayBeginNext x0 x1) := by
  refine lk_go (L := [(0, vr (some x0)), (1, vi x1)]) (by decide +kernel) rfl (fun h => by cases h) (Nat.le_of_ble_eq_true rfl) rfl ?_
  intro K
  unfold X3_mayBeginNext
  refine gg_aload_n (S := sX3_mayBeginNext) 0 1 rfl dX3_mayBeginNext_0 rfl rfl ?_
  refine gg_gi (S := sX3_mayBeginNext) cfX3 (by decide) (fun _ _ => rfl) 4 rfl flX3_33 dX3_mayBeginNext_1 (fun t1 => ?_)
  refine gg_if_eq (S := sX3_mayBeginNext) (tgt := 21) 7 rfl dX3_mayBeginNext_4 (by decide) ?_ ?_
  · refine gg_iconst (S := sX3_mayBeginNext) 22 rfl dX3_mayBeginNext_21 ?_
    refine gg_goto (S := sX3_mayBeginNext) (tgt := 26) dX3_mayBeginNext_22 (by decide) ?_
    exact gg_pure (gg_zretc (S := sX3_mayBeginNext) (by decide) rfl dX3_mayBeginNext_26 (by decide) (by decide))
  · refine gg_iload_n (S := sX3_mayBeginNext) 1 8 rfl dX3_mayBeginNext_7 rfl rfl ?_
    refine gg_aload_n (S := sX3_mayBeginNext) 0 9 rfl dX3_mayBeginNext_8 rfl rfl ?_
    refine gg_aload_n (S := sX3_mayBeginNext) 0 10 rfl dX3_mayBeginNext_9 rfl rfl ?_
    refine gg_gi (S := sX3_mayBeginNext) cfX3 (by decide) (fun _ _ => rfl) 13 rfl flX3_33 dX3_mayBeginNext_10 (fun t2 => ?_)
    refine gg_iconst (S := sX3_mayBeginNext) 14 rfl dX3_mayBeginNext_13 ?_
    refine gg_isub (S := sX3_mayBeginNext) 15 rfl dX3_mayBeginNext_14 ?_
    refine gg_callVi (S := sX3_mayBeginNext) (S' := sX3_ends) (cs := 0) (sl := 0) (As := [vi (t2 - 1)]) (st := [vi x1]) 18 rfl (fun b3 => lkX3_ends b3 (t2 - 1)) mwX3_ends rfl mlX3_60 dX3_mayBeginNext_15 cfX3 ⟨by decide, by decide⟩ 0 0 ⟨rfl, rfl⟩ ⟨by decide, by decide⟩ (Nat.le_of_ble_eq_true rfl) (fun t3 => ?_)
    refine gg_ic_le (S := sX3_mayBeginNext) (tgt := 25) 21 rfl dX3_mayBeginNext_18 (by decide) ?_ ?_
    · refine gg_iconst (S := sX3_mayBeginNext) 26 rfl dX3_mayBeginNext_25 ?_
      exact gg_pure (gg_zretc (S := sX3_mayBeginNext) (by decide) rfl dX3_mayBeginNext_26 (by decide) (by decide))
    · refine gg_iconst (S := sX3_mayBeginNext) 22 rfl dX3_mayBeginNext_21 ?_
      refine gg_goto (S := sX3_mayBeginNext) (tgt := 26) dX3_mayBeginNext_22 (by decide) ?_
      exact gg_pure (gg_zretc (S := sX3_mayBeginNext) (by decide) rfl dX3_mayBeginNext_26 (by decide) (by decide))

set_option maxRecDepth 100000 in
set_option maxHeartbeats 4000000 in
theorem lkX3_room (x0 : Nat) : LK yX3_room sX3_room [vr (some x0)] en_i (X3_room x0) := by
  refine lk_go (L := [(0, vr (some x0))]) (by decide +kernel) rfl (fun h => by cases h) (Nat.le_of_ble_eq_true rfl) rfl ?_
  intro K
  unfold X3_room
  refine gg_iconst (S := sX3_room) 1 rfl dX3_room_0 ?_
  refine gg_aload_n (S := sX3_room) 0 2 rfl dX3_room_1 rfl rfl ?_
  refine gg_gi (S := sX3_room) cfX3 (by decide) (fun _ _ => rfl) 5 rfl flX3_33 dX3_room_2 (fun t1 => ?_)
  refine gg_imul (S := sX3_room) 6 rfl dX3_room_5 ?_
  refine gg_aload_n (S := sX3_room) 0 7 rfl dX3_room_6 rfl rfl ?_
  refine gg_callVi (S := sX3_room) (S' := sX3_allComing) (cs := 0) (sl := 0) (As := []) (st := [vi (2 * t1)]) 10 rfl (fun b2 => lkX3_allComing b2) mwX3_allComing rfl mlX3_41 dX3_room_7 cfX3 ⟨by decide, by decide⟩ 0 0 ⟨rfl, rfl⟩ ⟨by decide, by decide⟩ (Nat.le_of_ble_eq_true rfl) (fun t2 => ?_)
  refine gg_iadd (S := sX3_room) 11 rfl dX3_room_10 ?_
  refine gg_iconst (S := sX3_room) 12 rfl dX3_room_11 ?_
  refine gg_iadd (S := sX3_room) 13 rfl dX3_room_12 ?_
  exact gg_pure (gg_iret (S := sX3_room) rfl dX3_room_13 (by decide) (by decide))

set_option maxRecDepth 100000 in
set_option maxHeartbeats 4000000 in
theorem lkX4_become (x0 : Nat) (x1 : Option Nat) : LK yX4_become sX4_become [vr (some x0), vr x1] en_v (X4_become x0 x1) := by
  refine lk_go (L := [(0, vr (some x0)), (1, vr x1)]) (by decide +kernel) rfl (fun h => by cases h) (Nat.le_of_ble_eq_true rfl) rfl ?_
  intro K
  unfold X4_become
  refine gg_aload_n (S := sX4_become) 0 1 rfl dX4_become_0 rfl rfl ?_
  refine gg_callVv (S := sX4_become) (S' := sX4_clear) (cs := 0) (sl := 0) (As := []) (st := []) 4 rfl (fun b3 => lkX4_clear b3) mwX4_clear rfl mlX4_29 dX4_become_1 cfX4 ⟨by decide, by decide⟩ 0 0 ⟨rfl, rfl⟩ ⟨by decide, by decide⟩ (Nat.le_of_ble_eq_true rfl) (fun _ => ?_)
  refine gg_aload_n (S := sX4_become) 0 5 rfl dX4_become_4 rfl rfl ?_
  refine gg_aload_n (S := sX4_become) 1 6 rfl dX4_become_5 rfl rfl ?_
  refine gg_iconst (S := sX4_become) 7 rfl dX4_become_6 ?_
  refine gg_aload_n (S := sX4_become) 1 8 rfl dX4_become_7 rfl rfl ?_
  refine gg_callVi (S := sX4_become) (S' := sX4_size) (cs := 0) (sl := 0) (As := []) (st := [vi 0, vr x1, vr (some x0)]) 11 rfl (fun b2 => lkX4_size b2) mwX4_size rfl mlX4_32 dX4_become_8 cfX4 ⟨by decide, by decide⟩ 0 0 ⟨rfl, rfl⟩ ⟨by decide, by decide⟩ (Nat.le_of_ble_eq_true rfl) (fun t1 => ?_)
  refine gg_callVv (S := sX4_become) (S' := sX4_addPart) (cs := 0) (sl := 0) (As := [vr x1, vi 0, vi t1]) (st := []) 14 rfl (fun b1 => lkX4_addPart b1 x1 0 t1) mwX4_addPart rfl mlX4_35 dX4_become_11 cfX4 ⟨by decide, by decide⟩ 0 0 ⟨rfl, rfl⟩ ⟨by decide, by decide⟩ (Nat.le_of_ble_eq_true rfl) (fun _ => ?_)
  exact gg_pure (gg_vret (S := sX4_become) rfl dX4_become_14 (by decide) (by decide))

set_option maxRecDepth 100000 in
set_option maxHeartbeats 4000000 in
theorem lkX4_init (x0 : Nat) (x1 : Int) : LK yX4_init sX4_init [vr (some x0), vi x1] en_v (X4_init x0 x1) := by
  refine lk_go (L := [(0, vr (some x0)), (1, vi x1)]) (by decide +kernel) rfl (fun _ => rfl) (Nat.le_of_ble_eq_true rfl) rfl ?_
  intro K
  unfold X4_init
  refine gg_aload_n (S := sX4_init) 0 1 rfl dX4_init_0 rfl rfl ?_
  refine gg_objI (S := sX4_init) 4 rfl mlX4_3 oi_i oi_c dX4_init_1 (by decide) (Nat.le_of_ble_eq_true rfl) ?_
  refine gg_aload_n (S := sX4_init) 0 5 rfl dX4_init_4 rfl rfl ?_
  refine gg_iload_n (S := sX4_init) 1 6 rfl dX4_init_5 rfl rfl ?_
  refine gg_iconst (S := sX4_init) 7 rfl dX4_init_6 ?_
  refine gg_mmax (S := sX4_init) 10 rfl mlX4_9 ms_max iiJ9 mc_max dX4_init_7 (by decide) (Nat.le_of_ble_eq_true rfl) (by decide) (by decide) (fun t1 => ?_)
  refine gg_ni (S := sX4_init) (cap := 64) (cs := 0) (sl := 0) 12 rfl ac_I dX4_init_10 (by decide) 1 64 ⟨rfl, rfl⟩ (by decide) (by decide) (fun t2 => ?_)
  refine gg_srF (S := sX4_init) cfX4 (by decide) (Or.inl ⟨_, rfl⟩) (fun _ _ => rfl) rfl rfl rfl 15 rfl flX4_15 dX4_init_12 ?_
  exact gg_pure (gg_vret (S := sX4_init) rfl dX4_init_15 (by decide) (by decide))

set_option maxRecDepth 100000 in
set_option maxHeartbeats 4000000 in
theorem lkX6_mix (x0 : Int) (x2 : Int) : LK yX6_mix sX6_mix [vl x0, vi x2] en_l (X6_mix x0 x2) := by
  refine lk_go (L := [(0, vl x0), (2, vi x2)]) (by decide +kernel) rfl (fun h => by cases h) (Nat.le_of_ble_eq_true rfl) rfl ?_
  intro K
  unfold X6_mix
  refine gg_ldc2 (S := sX6_mix) (n := 31) 3 rfl dX6_mix_0 clX6_316 (by decide) ?_
  refine gg_lload_n (S := sX6_mix) 0 4 rfl dX6_mix_3 rfl rfl ?_
  refine gg_lmul (S := sX6_mix) 5 rfl dX6_mix_4 ?_
  refine gg_iload_n (S := sX6_mix) 1 6 rfl dX6_mix_5 rfl rfl ?_
  refine gg_i2l (S := sX6_mix) 7 rfl dX6_mix_6 ?_
  refine gg_ladd (S := sX6_mix) 8 rfl dX6_mix_7 ?_
  exact gg_pure (gg_lret (S := sX6_mix) rfl dX6_mix_8 (by decide) (by decide))

set_option maxRecDepth 100000 in
set_option maxHeartbeats 4000000 in
theorem lkX4_mixInto (x0 : Nat) (x1 : Int) : LK yX4_mixInto sX4_mixInto [vr (some x0), vl x1] en_l (X4_mixInto x0 x1) := by
  refine lk_go (L := [(0, vr (some x0)), (1, vl x1)]) (by decide +kernel) rfl (fun h => by cases h) (Nat.le_of_ble_eq_true rfl) rfl ?_
  intro K
  unfold X4_mixInto
  refine gg_lload_n (S := sX4_mixInto) 1 1 rfl dX4_mixInto_0 rfl rfl ?_
  refine gg_lstore_n (S := sX4_mixInto) (L' := [(3, vl x1), (0, vr (some x0)), (1, vl x1)]) 2 rfl dX4_mixInto_1 rfl (by decide) rfl ?_
  refine gg_iconst (S := sX4_mixInto) 3 rfl dX4_mixInto_2 ?_
  refine gg_istore (S := sX4_mixInto) (L' := [(5, vi 0), (3, vl x1), (0, vr (some x0)), (1, vl x1)]) 5 rfl dX4_mixInto_3 (by decide) rfl ?_
  refine gg_sub [2, 1, 0] rfl ?_
  refine gg_loopA (fun (y1, y2) => [(0, vr (some x0)), (3, vl y1), (5, vi y2)]) (fun t8 => [(3, vl t8)]) 31 mo_N ?_ ?_ (x1, 0)
  · intro κ5 hr5 he5
    rintro ⟨y1, y2⟩
    dsimp only [X4_mixInto_L5]
    refine gg_iload (S := sX4_mixInto) 2 7 rfl dX4_mixInto_5 rfl ?_
    refine gg_aload_n (S := sX4_mixInto) 0 8 rfl dX4_mixInto_7 rfl rfl ?_
    refine gg_gi (S := sX4_mixInto) cfX4 (by decide) (fun _ _ => rfl) 11 rfl flX4_21 dX4_mixInto_8 (fun t3 => ?_)
    refine gg_ic_ge (S := sX4_mixInto) (tgt := 31) 14 rfl dX4_mixInto_11 (by decide) ?_ ?_
    · refine gg_lload_n (S := sX4_mixInto) 1 15 rfl dX4_mixInto_14 rfl rfl ?_
      refine gg_aload_n (S := sX4_mixInto) 0 16 rfl dX4_mixInto_15 rfl rfl ?_
      refine gg_iload (S := sX4_mixInto) 2 18 rfl dX4_mixInto_16 rfl ?_
      refine gg_callVi (S := sX4_mixInto) (S' := sX4_at) (cs := 0) (sl := 0) (As := [vi y2]) (st := [vl y1]) 21 rfl (fun b6 => lkX4_at b6 y2) mwX4_at rfl mlX4_39 dX4_mixInto_18 cfX4 ⟨by decide, by decide⟩ 0 0 ⟨rfl, rfl⟩ ⟨by decide, by decide⟩ (Nat.le_of_ble_eq_true rfl) (fun t4 => ?_)
      refine gg_callSNl (S := sX4_mixInto) (S' := sX6_mix) (cs := 0) (sl := 0) (As := [vl y1, vi t4]) (st := []) 24 rfl (lkX6_mix y1 t4) mwX6_mix rfl mlX4_47 dX4_mixInto_21 ⟨by decide, by decide⟩ 0 0 ⟨rfl, rfl⟩ ⟨by decide, by decide⟩ (Nat.le_of_ble_eq_true rfl) (fun t5 => ?_)
      refine gg_lstore_n (S := sX4_mixInto) (L' := [(3, vl t5), (0, vr (some x0)), (5, vi y2)]) 25 rfl dX4_mixInto_24 rfl (by decide) rfl ?_
      refine gg_iinc (S := sX4_mixInto) (L' := [(5, vi (y2 + 1)), (3, vl t5), (0, vr (some x0))]) 2 28 rfl dX4_mixInto_25 rfl (by decide) rfl ?_
      refine gg_goto (S := sX4_mixInto) (tgt := 5) dX4_mixInto_28 (by decide) ?_
      exact gg_pure (gg_sub [2, 1, 0] rfl (hr5 (t5, (y2 + 1))))
    · exact gg_pure (gg_sub [1] rfl (he5 y1))
  · intro t8
    refine gg_lload_n (S := sX4_mixInto) 0 32 rfl dX4_mixInto_31 rfl rfl ?_
    exact gg_pure (gg_lret (S := sX4_mixInto) rfl dX4_mixInto_32 (by decide) (by decide))

set_option maxRecDepth 100000 in
set_option maxHeartbeats 4000000 in
theorem lkX4_room (x0 : Nat) : LK yX4_room sX4_room [vr (some x0)] en_i (X4_room x0) := by
  refine lk_go (L := [(0, vr (some x0))]) (by decide +kernel) rfl (fun h => by cases h) (Nat.le_of_ble_eq_true rfl) rfl ?_
  intro K
  unfold X4_room
  refine gg_aload_n (S := sX4_room) 0 1 rfl dX4_room_0 rfl rfl ?_
  refine gg_gi (S := sX4_room) cfX4 (by decide) (fun _ _ => rfl) 4 rfl flX4_21 dX4_room_1 (fun t1 => ?_)
  refine gg_iconst (S := sX4_room) 5 rfl dX4_room_4 ?_
  refine gg_iadd (S := sX4_room) 6 rfl dX4_room_5 ?_
  exact gg_pure (gg_iret (S := sX4_room) rfl dX4_room_6 (by decide) (by decide))

set_option maxRecDepth 100000 in
set_option maxHeartbeats 4000000 in
theorem lkX5_setBringer (x0 : Nat) (x1 : Int) (x2 : Int) : LK yX5_setBringer sX5_setBringer [vr (some x0), vi x1, vi x2] en_v (X5_setBringer x0 x1 x2) := by
  refine lk_go (L := [(0, vr (some x0)), (1, vi x1), (2, vi x2)]) (by decide +kernel) rfl (fun h => by cases h) (Nat.le_of_ble_eq_true rfl) rfl ?_
  intro K
  unfold X5_setBringer
  refine gg_iload_n (S := sX5_setBringer) 1 1 rfl dX5_setBringer_0 rfl rfl ?_
  refine gg_if_lt (S := sX5_setBringer) (tgt := 20) 4 rfl dX5_setBringer_1 (by decide) ?_ ?_
  · exact gg_pure (gg_vret (S := sX5_setBringer) rfl dX5_setBringer_20 (by decide) (by decide))
  · refine gg_iload_n (S := sX5_setBringer) 1 5 rfl dX5_setBringer_4 rfl rfl ?_
    refine gg_aload_n (S := sX5_setBringer) 0 6 rfl dX5_setBringer_5 rfl rfl ?_
    refine gg_gr (S := sX5_setBringer) cfX5 (by decide) (fun _ _ => rfl) 9 rfl flX5_20 dX5_setBringer_6 (fun t1 => ?_)
    refine gg_alen (S := sX5_setBringer) 10 rfl dX5_setBringer_9 (fun t2 => ?_)
    refine gg_ic_ge (S := sX5_setBringer) (tgt := 20) 13 rfl dX5_setBringer_10 (by decide) ?_ ?_
    · refine gg_aload_n (S := sX5_setBringer) 0 14 rfl dX5_setBringer_13 rfl rfl ?_
      refine gg_gr (S := sX5_setBringer) cfX5 (by decide) (fun _ _ => rfl) 17 rfl flX5_20 dX5_setBringer_14 (fun t3 => ?_)
      refine gg_iload_n (S := sX5_setBringer) 1 18 rfl dX5_setBringer_17 rfl rfl ?_
      refine gg_iload_n (S := sX5_setBringer) 2 19 rfl dX5_setBringer_18 rfl rfl ?_
      refine gg_st (S := sX5_setBringer) 20 rfl dX5_setBringer_19 ?_
      exact gg_pure (gg_vret (S := sX5_setBringer) rfl dX5_setBringer_20 (by decide) (by decide))
    · exact gg_pure (gg_vret (S := sX5_setBringer) rfl dX5_setBringer_20 (by decide) (by decide))

set_option maxRecDepth 100000 in
set_option maxHeartbeats 4000000 in
theorem lkX5_allBroughtBy (x0 : Nat) (x1 : Int) : LK yX5_allBroughtBy sX5_allBroughtBy [vr (some x0), vi x1] en_v (X5_allBroughtBy x0 x1) := by
  refine lk_go (L := [(0, vr (some x0)), (1, vi x1)]) (by decide +kernel) rfl (fun h => by cases h) (Nat.le_of_ble_eq_true rfl) rfl ?_
  intro K
  unfold X5_allBroughtBy
  refine gg_iconst (S := sX5_allBroughtBy) 1 rfl dX5_allBroughtBy_0 ?_
  refine gg_istore_n (S := sX5_allBroughtBy) (L' := [(2, vi 0), (0, vr (some x0)), (1, vi x1)]) 2 rfl dX5_allBroughtBy_1 rfl (by decide) rfl ?_
  refine gg_sub [1, 2, 0] rfl ?_
  refine gg_loopA (fun y1 => [(0, vr (some x0)), (1, vi x1), (2, vi y1)]) (fun _ => []) 25 mo_N ?_ ?_ 0
  · intro κ2 hr2 he2
    intro y1
    dsimp only [X5_allBroughtBy_L2]
    refine gg_iload_n (S := sX5_allBroughtBy) 2 3 rfl dX5_allBroughtBy_2 rfl rfl ?_
    refine gg_aload_n (S := sX5_allBroughtBy) 0 4 rfl dX5_allBroughtBy_3 rfl rfl ?_
    refine gg_gr (S := sX5_allBroughtBy) cfX5 (by decide) (fun _ _ => rfl) 7 rfl flX5_14 dX5_allBroughtBy_4 (fun t2 => ?_)
    refine gg_callVi (S := sX5_allBroughtBy) (S' := sX4_size) (cs := 0) (sl := 0) (As := []) (st := [vi y1]) 10 rfl (fun b4 => lkX4_size b4) mwX4_size rfl mlX5_34 dX5_allBroughtBy_7 cfX4 ⟨by decide, by decide⟩ 0 0 ⟨rfl, rfl⟩ ⟨by decide, by decide⟩ (Nat.le_of_ble_eq_true rfl) (fun t3 => ?_)
    refine gg_ic_ge (S := sX5_allBroughtBy) (tgt := 25) 13 rfl dX5_allBroughtBy_10 (by decide) ?_ ?_
    · refine gg_aload_n (S := sX5_allBroughtBy) 0 14 rfl dX5_allBroughtBy_13 rfl rfl ?_
      refine gg_iload_n (S := sX5_allBroughtBy) 2 15 rfl dX5_allBroughtBy_14 rfl rfl ?_
      refine gg_iload_n (S := sX5_allBroughtBy) 1 16 rfl dX5_allBroughtBy_15 rfl rfl ?_
      refine gg_callVv (S := sX5_allBroughtBy) (S' := sX5_setBringer) (cs := 0) (sl := 0) (As := [vi y1, vi x1]) (st := []) 19 rfl (fun b3 => lkX5_setBringer b3 y1 x1) mwX5_setBringer rfl mlX5_38 dX5_allBroughtBy_16 cfX5 ⟨by decide, by decide⟩ 0 0 ⟨rfl, rfl⟩ ⟨by decide, by decide⟩ (Nat.le_of_ble_eq_true rfl) (fun _ => ?_)
      refine gg_iinc (S := sX5_allBroughtBy) (L' := [(2, vi (y1 + 1)), (0, vr (some x0)), (1, vi x1)]) 2 22 rfl dX5_allBroughtBy_19 rfl (by decide) rfl ?_
      refine gg_goto (S := sX5_allBroughtBy) (tgt := 2) dX5_allBroughtBy_22 (by decide) ?_
      exact gg_pure (gg_sub [1, 2, 0] rfl (hr2 (y1 + 1)))
    · exact gg_pure (gg_sub [] rfl (he2 ()))
  · intro _
    exact gg_pure (gg_vret (S := sX5_allBroughtBy) rfl dX5_allBroughtBy_25 (by decide) (by decide))

set_option maxRecDepth 100000 in
set_option maxHeartbeats 4000000 in
theorem lkX5_bringerOf (x0 : Nat) (x1 : Int) : LK yX5_bringerOf sX5_bringerOf [vr (some x0), vi x1] en_i (X5_bringerOf x0 x1) := by
  refine lk_go (L := [(0, vr (some x0)), (1, vi x1)]) (by decide +kernel) rfl (fun h => by cases h) (Nat.le_of_ble_eq_true rfl) rfl ?_
  intro K
  unfold X5_bringerOf
  refine gg_iload_n (S := sX5_bringerOf) 1 1 rfl dX5_bringerOf_0 rfl rfl ?_
  refine gg_if_lt (S := sX5_bringerOf) (tgt := 22) 4 rfl dX5_bringerOf_1 (by decide) ?_ ?_
  · refine gg_iconst (S := sX5_bringerOf) 23 rfl dX5_bringerOf_22 ?_
    exact gg_pure (gg_iret (S := sX5_bringerOf) rfl dX5_bringerOf_23 (by decide) (by decide))
  · refine gg_iload_n (S := sX5_bringerOf) 1 5 rfl dX5_bringerOf_4 rfl rfl ?_
    refine gg_aload_n (S := sX5_bringerOf) 0 6 rfl dX5_bringerOf_5 rfl rfl ?_
    refine gg_gr (S := sX5_bringerOf) cfX5 (by decide) (fun _ _ => rfl) 9 rfl flX5_20 dX5_bringerOf_6 (fun t1 => ?_)
    refine gg_alen (S := sX5_bringerOf) 10 rfl dX5_bringerOf_9 (fun t2 => ?_)
    refine gg_ic_ge (S := sX5_bringerOf) (tgt := 22) 13 rfl dX5_bringerOf_10 (by decide) ?_ ?_
    · refine gg_aload_n (S := sX5_bringerOf) 0 14 rfl dX5_bringerOf_13 rfl rfl ?_
      refine gg_gr (S := sX5_bringerOf) cfX5 (by decide) (fun _ _ => rfl) 17 rfl flX5_20 dX5_bringerOf_14 (fun t3 => ?_)
      refine gg_iload_n (S := sX5_bringerOf) 1 18 rfl dX5_bringerOf_17 rfl rfl ?_
      refine gg_ld (S := sX5_bringerOf) 19 rfl dX5_bringerOf_18 (fun t4 => ?_)
      refine gg_goto (S := sX5_bringerOf) (tgt := 23) dX5_bringerOf_19 (by decide) ?_
      exact gg_pure (gg_iret (S := sX5_bringerOf) rfl dX5_bringerOf_23 (by decide) (by decide))
    · refine gg_iconst (S := sX5_bringerOf) 23 rfl dX5_bringerOf_22 ?_
      exact gg_pure (gg_iret (S := sX5_bringerOf) rfl dX5_bringerOf_23 (by decide) (by decide))

set_option maxRecDepth 100000 in
set_option maxHeartbeats 4000000 in
theorem lkX5_init (x0 : Nat) (x1 : Int) (x2 : Int) : LK yX5_init sX5_init [vr (some x0), vi x1, vi x2] en_v (X5_init x0 x1 x2) := by
  refine lk_go (L := [(0, vr (some x0)), (1, vi x1), (2, vi x2)]) (by decide +kernel) rfl (fun _ => rfl) (Nat.le_of_ble_eq_true rfl) rfl ?_
  intro K
  unfold X5_init
  refine gg_aload_n (S := sX5_init) 0 1 rfl dX5_init_0 rfl rfl ?_
  refine gg_objI (S := sX5_init) 4 rfl mlX5_3 oi_i oi_c dX5_init_1 (by decide) (Nat.le_of_ble_eq_true rfl) ?_
  refine gg_aload_n (S := sX5_init) 0 5 rfl dX5_init_4 rfl rfl ?_
  refine gg_no (S := sX5_init) (cs := 0) (sl := 0) cfX4 8 rfl ckX5_9 inX4 iiX4 dvX4 dX5_init_5 1 2 ⟨rfl, rfl⟩ (by decide) (by decide) (fun t1 => ?_)
  refine gg_dup (S := sX5_init) 9 rfl dX5_init_8 rfl ?_
  refine gg_bipush (S := sX5_init) 11 rfl dX5_init_9 (by decide) ?_
  refine gg_callI (S := sX5_init) (S' := sX4_init) (cs := 1) (sl := 2) (As := [vi 14]) (st := [vr t1, vr (some x0)]) 14 rfl (fun b2 => lkX4_init b2 14) mwX4_init rfl mlX5_11 dX5_init_11 ⟨by decide, by decide⟩ 2 66 ⟨rfl, rfl⟩ ⟨by decide, by decide⟩ (Nat.le_of_ble_eq_true rfl) (fun _ => ?_)
  refine gg_srF (S := sX5_init) cfX5 (by decide) (Or.inr ⟨_, rfl⟩) (fun _ _ => rfl) rfl rfl rfl 17 rfl flX5_14 dX5_init_14 ?_
  refine gg_aload_n (S := sX5_init) 0 18 rfl dX5_init_17 rfl rfl ?_
  refine gg_bipush (S := sX5_init) 20 rfl dX5_init_18 (by decide) ?_
  refine gg_ni (S := sX5_init) (cap := 14) (cs := 2) (sl := 66) 22 rfl ac_I dX5_init_20 (by decide) 3 80 ⟨rfl, rfl⟩ (by decide) (by decide) (fun t2 => ?_)
  refine gg_srF (S := sX5_init) cfX5 (by decide) (Or.inl ⟨_, rfl⟩) (fun _ _ => rfl) rfl rfl rfl 25 rfl flX5_20 dX5_init_22 ?_
  refine gg_aload_n (S := sX5_init) 0 26 rfl dX5_init_25 rfl rfl ?_
  refine gg_iconst (S := sX5_init) 27 rfl dX5_init_26 ?_
  refine gg_si (S := sX5_init) cfX5 (by decide) rfl (fun _ _ => rfl) rfl 30 rfl flX5_24 dX5_init_27 ?_
  refine gg_aload_n (S := sX5_init) 0 31 rfl dX5_init_30 rfl rfl ?_
  refine gg_iload_n (S := sX5_init) 1 32 rfl dX5_init_31 rfl rfl ?_
  refine gg_siF (S := sX5_init) cfX5 (by decide) rfl (fun _ _ => rfl) rfl rfl rfl 35 rfl flX5_28 dX5_init_32 ?_
  refine gg_aload_n (S := sX5_init) 0 36 rfl dX5_init_35 rfl rfl ?_
  refine gg_iload_n (S := sX5_init) 2 37 rfl dX5_init_36 rfl rfl ?_
  refine gg_siF (S := sX5_init) cfX5 (by decide) rfl (fun _ _ => rfl) rfl rfl rfl 40 rfl flX5_31 dX5_init_37 ?_
  exact gg_pure (gg_vret (S := sX5_init) rfl dX5_init_40 (by decide) (by decide))

set_option maxRecDepth 100000 in
set_option maxHeartbeats 4000000 in
theorem lkX6_versionOrNull (x0 : Nat) (x1 : Int) : LK yX6_versionOrNull sX6_versionOrNull [vr (some x0), vi x1] en_r (X6_versionOrNull x0 x1) := by
  refine lk_go (L := [(0, vr (some x0)), (1, vi x1)]) (by decide +kernel) rfl (fun h => by cases h) (Nat.le_of_ble_eq_true rfl) rfl ?_
  intro K
  unfold X6_versionOrNull
  refine gg_iload_n (S := sX6_versionOrNull) 1 1 rfl dX6_versionOrNull_0 rfl rfl ?_
  refine gg_if_lt (S := sX6_versionOrNull) (tgt := 30) 4 rfl dX6_versionOrNull_1 (by decide) ?_ ?_
  · refine gg_null (S := sX6_versionOrNull) 31 rfl dX6_versionOrNull_30 ?_
    exact gg_pure (gg_aret (S := sX6_versionOrNull) rfl dX6_versionOrNull_31 (by decide) (by decide))
  · refine gg_iload_n (S := sX6_versionOrNull) 1 5 rfl dX6_versionOrNull_4 rfl rfl ?_
    refine gg_aload_n (S := sX6_versionOrNull) 0 6 rfl dX6_versionOrNull_5 rfl rfl ?_
    refine gg_gi (S := sX6_versionOrNull) cfX6 (by decide) (fun _ _ => rfl) 9 rfl flX6_106 dX6_versionOrNull_6 (fun t1 => ?_)
    refine gg_ic_ge (S := sX6_versionOrNull) (tgt := 30) 12 rfl dX6_versionOrNull_9 (by decide) ?_ ?_
    · refine gg_iload_n (S := sX6_versionOrNull) 1 13 rfl dX6_versionOrNull_12 rfl rfl ?_
      refine gg_aload_n (S := sX6_versionOrNull) 0 14 rfl dX6_versionOrNull_13 rfl rfl ?_
      refine gg_gr (S := sX6_versionOrNull) cfX6 (by decide) (fun _ _ => rfl) 17 rfl flX6_23 dX6_versionOrNull_14 (fun t2 => ?_)
      refine gg_alen (S := sX6_versionOrNull) 18 rfl dX6_versionOrNull_17 (fun t3 => ?_)
      refine gg_ic_ge (S := sX6_versionOrNull) (tgt := 30) 21 rfl dX6_versionOrNull_18 (by decide) ?_ ?_
      · refine gg_aload_n (S := sX6_versionOrNull) 0 22 rfl dX6_versionOrNull_21 rfl rfl ?_
        refine gg_gr (S := sX6_versionOrNull) cfX6 (by decide) (fun _ _ => rfl) 25 rfl flX6_23 dX6_versionOrNull_22 (fun t4 => ?_)
        refine gg_iload_n (S := sX6_versionOrNull) 1 26 rfl dX6_versionOrNull_25 rfl rfl ?_
        refine gg_rl2 (S := sX6_versionOrNull) 27 rfl dX6_versionOrNull_26 (fun t5 => ?_)
        refine gg_goto (S := sX6_versionOrNull) (tgt := 31) dX6_versionOrNull_27 (by decide) ?_
        exact gg_pure (gg_aret (S := sX6_versionOrNull) rfl dX6_versionOrNull_31 (by decide) (by decide))
      · refine gg_null (S := sX6_versionOrNull) 31 rfl dX6_versionOrNull_30 ?_
        exact gg_pure (gg_aret (S := sX6_versionOrNull) rfl dX6_versionOrNull_31 (by decide) (by decide))
    · refine gg_null (S := sX6_versionOrNull) 31 rfl dX6_versionOrNull_30 ?_
      exact gg_pure (gg_aret (S := sX6_versionOrNull) rfl dX6_versionOrNull_31 (by decide) (by decide))

set_option maxRecDepth 100000 in
set_option maxHeartbeats 4000000 in
theorem lkX6_about (x0 : Nat) (x1 : Int) (x2 : Int) : LK yX6_about sX6_about [vr (some x0), vi x1, vi x2] en_i (X6_about x0 x1 x2) := by
  refine lk_go (L := [(0, vr (some x0)), (1, vi x1), (2, vi x2)]) (by decide +kernel) rfl (fun h => by cases h) (Nat.le_of_ble_eq_true rfl) rfl ?_
  intro K
  unfold X6_about
  refine gg_aload_n (S := sX6_about) 0 1 rfl dX6_about_0 rfl rfl ?_
  refine gg_iload_n (S := sX6_about) 1 2 rfl dX6_about_1 rfl rfl ?_
  refine gg_callVr (S := sX6_about) (S' := sX6_versionOrNull) (cs := 0) (sl := 0) (As := [vi x1]) (st := []) 5 rfl (fun b10 => lkX6_versionOrNull b10 x1) mwX6_versionOrNull rfl mlX6_92 dX6_about_2 cfX6 ⟨by decide, by decide⟩ 0 0 ⟨rfl, rfl⟩ ⟨by decide, by decide⟩ (Nat.le_of_ble_eq_true rfl) (fun t1 => ?_)
  refine gg_astore_n (S := sX6_about) (L' := [(3, vr t1), (0, vr (some x0)), (1, vi x1), (2, vi x2)]) 6 rfl dX6_about_5 rfl (by decide) rfl ?_
  refine gg_aload_n (S := sX6_about) 0 7 rfl dX6_about_6 rfl rfl ?_
  refine gg_ifnonnull (S := sX6_about) (tgt := 13) 10 rfl dX6_about_7 (by decide) ?_ ?_
  · refine gg_bipush (S := sX6_about) 12 rfl dX6_about_10 (by decide) ?_
    exact gg_pure (gg_iret (S := sX6_about) rfl dX6_about_12 (by decide) (by decide))
  · refine gg_iload_n (S := sX6_about) 3 14 rfl dX6_about_13 rfl rfl ?_
    refine gg_tsw5 (S := sX6_about) dX6_about_14 (t0 := 48) (t1 := 56) (t2 := 61) (t3 := 66) (t4 := 71) (td := 79) (by decide) (by decide) (by decide) (by decide) (by decide) (by decide) ?_ ?_ ?_ ?_ ?_ ?_
    · refine gg_aload_n (S := sX6_about) 0 49 rfl dX6_about_48 rfl rfl ?_
      refine gg_grN (S := sX6_about) cfX5 (by decide) (fun _ _ => rfl) 52 rfl flX6_96 dX6_about_49 (fun t2 => ?_)
      refine gg_callVi (S := sX6_about) (S' := sX4_size) (cs := 0) (sl := 0) (As := []) (st := []) 55 rfl (fun b3 => lkX4_size b3) mwX4_size rfl mlX6_71 dX6_about_52 cfX4 ⟨by decide, by decide⟩ 0 0 ⟨rfl, rfl⟩ ⟨by decide, by decide⟩ (Nat.le_of_ble_eq_true rfl) (fun t3 => ?_)
      exact gg_pure (gg_iret (S := sX6_about) rfl dX6_about_55 (by decide) (by decide))
    · refine gg_aload_n (S := sX6_about) 0 57 rfl dX6_about_56 rfl rfl ?_
      refine gg_giN (S := sX6_about) cfX5 (by decide) (fun _ _ => rfl) 60 rfl flX6_118 dX6_about_57 (fun t5 => ?_)
      exact gg_pure (gg_iret (S := sX6_about) rfl dX6_about_60 (by decide) (by decide))
    · refine gg_aload_n (S := sX6_about) 0 62 rfl dX6_about_61 rfl rfl ?_
      refine gg_giN (S := sX6_about) cfX5 (by decide) (fun _ _ => rfl) 65 rfl flX6_121 dX6_about_62 (fun t6 => ?_)
      exact gg_pure (gg_iret (S := sX6_about) rfl dX6_about_65 (by decide) (by decide))
    · refine gg_aload_n (S := sX6_about) 0 67 rfl dX6_about_66 rfl rfl ?_
      refine gg_giN (S := sX6_about) cfX5 (by decide) (fun _ _ => rfl) 70 rfl flX6_124 dX6_about_67 (fun t7 => ?_)
      exact gg_pure (gg_iret (S := sX6_about) rfl dX6_about_70 (by decide) (by decide))
    · refine gg_aload_n (S := sX6_about) 0 72 rfl dX6_about_71 rfl rfl ?_
      refine gg_grN (S := sX6_about) cfX5 (by decide) (fun _ _ => rfl) 75 rfl flX6_96 dX6_about_72 (fun t8 => ?_)
      refine gg_callVi (S := sX6_about) (S' := sX4_room) (cs := 0) (sl := 0) (As := []) (st := []) 78 rfl (fun b9 => lkX4_room b9) mwX4_room rfl mlX6_127 dX6_about_75 cfX4 ⟨by decide, by decide⟩ 0 0 ⟨rfl, rfl⟩ ⟨by decide, by decide⟩ (Nat.le_of_ble_eq_true rfl) (fun t9 => ?_)
      exact gg_pure (gg_iret (S := sX6_about) rfl dX6_about_78 (by decide) (by decide))
    · refine gg_bipush (S := sX6_about) 81 rfl dX6_about_79 (by decide) ?_
      exact gg_pure (gg_iret (S := sX6_about) rfl dX6_about_81 (by decide) (by decide))

set_option maxRecDepth 100000 in
set_option maxHeartbeats 4000000 in
theorem lkX6_addPatch (x0 : Nat) (x1 : Option Nat) : LK yX6_addPatch sX6_addPatch [vr (some x0), vr x1] en_i (X6_addPatch x0 x1) := by
  refine lk_go (L := [(0, vr (some x0)), (1, vr x1)]) (by decide +kernel) rfl (fun h => by cases h) (Nat.le_of_ble_eq_true rfl) rfl ?_
  intro K
  unfold X6_addPatch
  refine gg_aload_n (S := sX6_addPatch) 0 1 rfl dX6_addPatch_0 rfl rfl ?_
  refine gg_gi (S := sX6_addPatch) cfX6 (by decide) (fun _ _ => rfl) 4 rfl flX6_287 dX6_addPatch_1 (fun t1 => ?_)
  refine gg_if_lt (S := sX6_addPatch) (tgt := 19) 7 rfl dX6_addPatch_4 (by decide) ?_ ?_
  · refine gg_bipush (S := sX6_addPatch) 21 rfl dX6_addPatch_19 (by decide) ?_
    exact gg_pure (gg_iret (S := sX6_addPatch) rfl dX6_addPatch_21 (by decide) (by decide))
  · refine gg_aload_n (S := sX6_addPatch) 0 8 rfl dX6_addPatch_7 rfl rfl ?_
    refine gg_gi (S := sX6_addPatch) cfX6 (by decide) (fun _ _ => rfl) 11 rfl flX6_287 dX6_addPatch_8 (fun t2 => ?_)
    refine gg_aload_n (S := sX6_addPatch) 0 12 rfl dX6_addPatch_11 rfl rfl ?_
    refine gg_gr (S := sX6_addPatch) cfX6 (by decide) (fun _ _ => rfl) 15 rfl flX6_29 dX6_addPatch_12 (fun t3 => ?_)
    refine gg_alen (S := sX6_addPatch) 16 rfl dX6_addPatch_15 (fun t4 => ?_)
    refine gg_ic_lt (S := sX6_addPatch) (tgt := 22) 19 rfl dX6_addPatch_16 (by decide) ?_ ?_
    · refine gg_aload_n (S := sX6_addPatch) 0 23 rfl dX6_addPatch_22 rfl rfl ?_
      refine gg_gr (S := sX6_addPatch) cfX6 (by decide) (fun _ _ => rfl) 26 rfl flX6_29 dX6_addPatch_23 (fun t5 => ?_)
      refine gg_aload_n (S := sX6_addPatch) 0 27 rfl dX6_addPatch_26 rfl rfl ?_
      refine gg_gi (S := sX6_addPatch) cfX6 (by decide) (fun _ _ => rfl) 30 rfl flX6_287 dX6_addPatch_27 (fun t6 => ?_)
      refine gg_aload_n (S := sX6_addPatch) 1 31 rfl dX6_addPatch_30 rfl rfl ?_
      refine gg_rs3 (S := sX6_addPatch) 32 rfl dX6_addPatch_31 ?_
      refine gg_aload_n (S := sX6_addPatch) 0 33 rfl dX6_addPatch_32 rfl rfl ?_
      refine gg_dup (S := sX6_addPatch) 34 rfl dX6_addPatch_33 rfl ?_
      refine gg_gi (S := sX6_addPatch) cfX6 (by decide) (fun _ _ => rfl) 37 rfl flX6_287 dX6_addPatch_34 (fun t7 => ?_)
      refine gg_iconst (S := sX6_addPatch) 38 rfl dX6_addPatch_37 ?_
      refine gg_iadd (S := sX6_addPatch) 39 rfl dX6_addPatch_38 ?_
      refine gg_si (S := sX6_addPatch) cfX6 (by decide) rfl (fun _ _ => rfl) rfl 42 rfl flX6_287 dX6_addPatch_39 ?_
      refine gg_aload_n (S := sX6_addPatch) 0 43 rfl dX6_addPatch_42 rfl rfl ?_
      refine gg_gi (S := sX6_addPatch) cfX6 (by decide) (fun _ _ => rfl) 46 rfl flX6_287 dX6_addPatch_43 (fun t8 => ?_)
      refine gg_iconst (S := sX6_addPatch) 47 rfl dX6_addPatch_46 ?_
      refine gg_isub (S := sX6_addPatch) 48 rfl dX6_addPatch_47 ?_
      exact gg_pure (gg_iret (S := sX6_addPatch) rfl dX6_addPatch_48 (by decide) (by decide))
    · refine gg_bipush (S := sX6_addPatch) 21 rfl dX6_addPatch_19 (by decide) ?_
      exact gg_pure (gg_iret (S := sX6_addPatch) rfl dX6_addPatch_21 (by decide) (by decide))

set_option maxRecDepth 100000 in
set_option maxHeartbeats 4000000 in
theorem lkX6_asked (x0 : Nat) (x1 : Int) (x2 : Int) : LK yX6_asked sX6_asked [vr (some x0), vi x1, vi x2] en_i (X6_asked x0 x1 x2) := by
  refine lk_go (L := [(0, vr (some x0)), (1, vi x1), (2, vi x2)]) (by decide +kernel) rfl (fun h => by cases h) (Nat.le_of_ble_eq_true rfl) rfl ?_
  intro K
  unfold X6_asked
  refine gg_aload_n (S := sX6_asked) 0 1 rfl dX6_asked_0 rfl rfl ?_
  refine gg_iload_n (S := sX6_asked) 1 2 rfl dX6_asked_1 rfl rfl ?_
  refine gg_callVr (S := sX6_asked) (S' := sX6_versionOrNull) (cs := 0) (sl := 0) (As := [vi x1]) (st := []) 5 rfl (fun b2 => lkX6_versionOrNull b2 x1) mwX6_versionOrNull rfl mlX6_92 dX6_asked_2 cfX6 ⟨by decide, by decide⟩ 0 0 ⟨rfl, rfl⟩ ⟨by decide, by decide⟩ (Nat.le_of_ble_eq_true rfl) (fun t1 => ?_)
  refine gg_astore_n (S := sX6_asked) (L' := [(3, vr t1), (0, vr (some x0)), (1, vi x1), (2, vi x2)]) 6 rfl dX6_asked_5 rfl (by decide) rfl ?_
  refine gg_aload_n (S := sX6_asked) 0 7 rfl dX6_asked_6 rfl rfl ?_
  refine gg_ifnonnull (S := sX6_asked) (tgt := 13) 10 rfl dX6_asked_7 (by decide) ?_ ?_
  · refine gg_bipush (S := sX6_asked) 12 rfl dX6_asked_10 (by decide) ?_
    exact gg_pure (gg_iret (S := sX6_asked) rfl dX6_asked_12 (by decide) (by decide))
  · refine gg_iload_n (S := sX6_asked) 3 14 rfl dX6_asked_13 rfl rfl ?_
    refine gg_if_lt (S := sX6_asked) (tgt := 23) 17 rfl dX6_asked_14 (by decide) ?_ ?_
    · refine gg_bipush (S := sX6_asked) 25 rfl dX6_asked_23 (by decide) ?_
      exact gg_pure (gg_iret (S := sX6_asked) rfl dX6_asked_25 (by decide) (by decide))
    · refine gg_iload_n (S := sX6_asked) 3 18 rfl dX6_asked_17 rfl rfl ?_
      refine gg_bipush (S := sX6_asked) 20 rfl dX6_asked_18 (by decide) ?_
      refine gg_ic_le (S := sX6_asked) (tgt := 26) 23 rfl dX6_asked_20 (by decide) ?_ ?_
      · refine gg_aload_n (S := sX6_asked) 0 27 rfl dX6_asked_26 rfl rfl ?_
        refine gg_giN (S := sX6_asked) cfX5 (by decide) (fun _ _ => rfl) 30 rfl flX6_124 dX6_asked_27 (fun t2 => ?_)
        refine gg_istore (S := sX6_asked) (L' := [(4, vi t2), (3, vr t1), (0, vr (some x0)), (1, vi x1), (2, vi x2)]) 32 rfl dX6_asked_30 (by decide) rfl ?_
        refine gg_aload_n (S := sX6_asked) 1 33 rfl dX6_asked_32 rfl rfl ?_
        refine gg_iload_n (S := sX6_asked) 4 34 rfl dX6_asked_33 rfl rfl ?_
        refine gg_siN (S := sX6_asked) cfX5 (by decide) rfl (fun _ _ => rfl) rfl 37 rfl flX6_124 dX6_asked_34 ?_
        refine gg_iload (S := sX6_asked) 0 39 rfl dX6_asked_37 rfl ?_
        exact gg_pure (gg_iret (S := sX6_asked) rfl dX6_asked_39 (by decide) (by decide))
      · refine gg_bipush (S := sX6_asked) 25 rfl dX6_asked_23 (by decide) ?_
        exact gg_pure (gg_iret (S := sX6_asked) rfl dX6_asked_25 (by decide) (by decide))

set_option maxRecDepth 100000 in
set_option maxHeartbeats 4000000 in
theorem lkX6_hasRoomForPatches (x0 : Nat) (x1 : Int) : LK yX6_hasRoomForPatches sX6_hasRoomForPatches [vr (some x0), vi x1] en_i (X6_hasRoomForPatches x0 x1) := by
  refine lk_go (L := [(0, vr (some x0)), (1, vi x1)]) (by decide +kernel) rfl (fun h => by cases h) (Nat.le_of_ble_eq_true rfl) rfl ?_
  intro K
  unfold X6_hasRoomForPatches
  refine gg_aload_n (S := sX6_hasRoomForPatches) 0 1 rfl dX6_hasRoomForPatches_0 rfl rfl ?_
  refine gg_gi (S := sX6_hasRoomForPatches) cfX6 (by decide) (fun _ _ => rfl) 4 rfl flX6_287 dX6_hasRoomForPatches_1 (fun t1 => ?_)
  refine gg_iload_n (S := sX6_hasRoomForPatches) 1 5 rfl dX6_hasRoomForPatches_4 rfl rfl ?_
  refine gg_iadd (S := sX6_hasRoomForPatches) 6 rfl dX6_hasRoomForPatches_5 ?_
  refine gg_bipush (S := sX6_hasRoomForPatches) 8 rfl dX6_hasRoomForPatches_6 (by decide) ?_
  refine gg_ic_gt (S := sX6_hasRoomForPatches) (tgt := 15) 11 rfl dX6_hasRoomForPatches_8 (by decide) ?_ ?_
  · refine gg_iconst (S := sX6_hasRoomForPatches) 12 rfl dX6_hasRoomForPatches_11 ?_
    refine gg_goto (S := sX6_hasRoomForPatches) (tgt := 16) dX6_hasRoomForPatches_12 (by decide) ?_
    exact gg_pure (gg_zretc (S := sX6_hasRoomForPatches) (by decide) rfl dX6_hasRoomForPatches_16 (by decide) (by decide))
  · refine gg_iconst (S := sX6_hasRoomForPatches) 16 rfl dX6_hasRoomForPatches_15 ?_
    exact gg_pure (gg_zretc (S := sX6_hasRoomForPatches) (by decide) rfl dX6_hasRoomForPatches_16 (by decide) (by decide))

set_option maxRecDepth 100000 in
set_option maxHeartbeats 4000000 in
theorem lkX6_newPatch  : LK yX6_newPatch sX6_newPatch [] en_r (X6_newPatch) := by
  refine lk_go (L := []) (by decide +kernel) rfl (fun h => by cases h) (Nat.le_of_ble_eq_true rfl) rfl ?_
  intro K
  unfold X6_newPatch
  refine gg_no (S := sX6_newPatch) (cs := 0) (sl := 0) cfX3 3 rfl ckX6_27 inX3 iiX3 dvX3 dX6_newPatch_0 1 6 ⟨rfl, rfl⟩ (by decide) (by decide) (fun t1 => ?_)
  refine gg_dup (S := sX6_newPatch) 4 rfl dX6_newPatch_3 rfl ?_
  refine gg_bipush (S := sX6_newPatch) 6 rfl dX6_newPatch_4 (by decide) ?_
  refine gg_bipush (S := sX6_newPatch) 8 rfl dX6_newPatch_6 (by decide) ?_
  refine gg_callI (S := sX6_newPatch) (S' := sX3_init) (cs := 1) (sl := 6) (As := [vi 10, vi 28]) (st := [vr t1]) 11 rfl (fun b1 => lkX3_init b1 10 28) mwX3_init rfl mlX6_44 dX6_newPatch_8 ⟨by decide, by decide⟩ 6 326 ⟨rfl, rfl⟩ ⟨by decide, by decide⟩ (Nat.le_of_ble_eq_true rfl) (fun _ => ?_)
  exact gg_pure (gg_aret (S := sX6_newPatch) rfl dX6_newPatch_11 (by decide) (by decide))

set_option maxRecDepth 100000 in
set_option maxHeartbeats 4000000 in
theorem lkX6_blank (x0 : Nat) : LK yX6_blank sX6_blank [vr (some x0)] en_i (X6_blank x0) := by
  refine lk_go (L := [(0, vr (some x0))]) (by decide +kernel) rfl (fun h => by cases h) (Nat.le_of_ble_eq_true rfl) rfl ?_
  intro K
  unfold X6_blank
  refine gg_aload_n (S := sX6_blank) 0 1 rfl dX6_blank_0 rfl rfl ?_
  refine gg_iconst (S := sX6_blank) 2 rfl dX6_blank_1 ?_
  refine gg_callVi (S := sX6_blank) (S' := sX6_hasRoomForPatches) (cs := 0) (sl := 0) (As := [vi 1]) (st := []) 5 rfl (fun b5 => lkX6_hasRoomForPatches b5 1) mwX6_hasRoomForPatches rfl mlX6_148 dX6_blank_2 cfX6 ⟨by decide, by decide⟩ 0 0 ⟨rfl, rfl⟩ ⟨by decide, by decide⟩ (Nat.le_of_ble_eq_true rfl) (fun t1 => ?_)
  refine gg_if_eq (S := sX6_blank) (tgt := 18) 8 rfl dX6_blank_5 (by decide) ?_ ?_
  · refine gg_bipush (S := sX6_blank) 20 rfl dX6_blank_18 (by decide) ?_
    exact gg_pure (gg_iret (S := sX6_blank) rfl dX6_blank_20 (by decide) (by decide))
  · refine gg_aload_n (S := sX6_blank) 0 9 rfl dX6_blank_8 rfl rfl ?_
    refine gg_callSr (S := sX6_blank) (S' := sX6_newPatch) (cs := 0) (sl := 0) (As := []) (st := [vr (some x0)]) 12 rfl (lkX6_newPatch) mwX6_newPatch rfl mlX6_151 dX6_blank_9 ⟨by decide, by decide⟩ 6 326 ⟨rfl, rfl⟩ ⟨by decide, by decide⟩ (Nat.le_of_ble_eq_true rfl) (fun t2 => ?_)
    refine gg_callVi (S := sX6_blank) (S' := sX6_addPatch) (cs := 6) (sl := 326) (As := [vr t2]) (st := []) 15 rfl (fun b3 => lkX6_addPatch b3 t2) mwX6_addPatch rfl mlX6_155 dX6_blank_12 cfX6 ⟨by decide, by decide⟩ 6 326 ⟨rfl, rfl⟩ ⟨by decide, by decide⟩ (Nat.le_of_ble_eq_true rfl) (fun t3 => ?_)
    refine gg_goto (S := sX6_blank) (tgt := 20) dX6_blank_15 (by decide) ?_
    exact gg_pure (gg_iret (S := sX6_blank) rfl dX6_blank_20 (by decide) (by decide))

set_option maxRecDepth 100000 in
set_option maxHeartbeats 4000000 in
theorem lkX6_brought (x0 : Nat) (x1 : Int) (x2 : Int) : LK yX6_brought sX6_brought [vr (some x0), vi x1, vi x2] en_i (X6_brought x0 x1 x2) := by
  refine lk_go (L := [(0, vr (some x0)), (1, vi x1), (2, vi x2)]) (by decide +kernel) rfl (fun h => by cases h) (Nat.le_of_ble_eq_true rfl) rfl ?_
  intro K
  unfold X6_brought
  refine gg_aload_n (S := sX6_brought) 0 1 rfl dX6_brought_0 rfl rfl ?_
  refine gg_iload_n (S := sX6_brought) 1 2 rfl dX6_brought_1 rfl rfl ?_
  refine gg_callVr (S := sX6_brought) (S' := sX6_versionOrNull) (cs := 0) (sl := 0) (As := [vi x1]) (st := []) 5 rfl (fun b6 => lkX6_versionOrNull b6 x1) mwX6_versionOrNull rfl mlX6_92 dX6_brought_2 cfX6 ⟨by decide, by decide⟩ 0 0 ⟨rfl, rfl⟩ ⟨by decide, by decide⟩ (Nat.le_of_ble_eq_true rfl) (fun t1 => ?_)
  refine gg_astore_n (S := sX6_brought) (L' := [(3, vr t1), (0, vr (some x0)), (1, vi x1), (2, vi x2)]) 6 rfl dX6_brought_5 rfl (by decide) rfl ?_
  refine gg_aload_n (S := sX6_brought) 0 7 rfl dX6_brought_6 rfl rfl ?_
  refine gg_ifnull (S := sX6_brought) (tgt := 25) 10 rfl dX6_brought_7 (by decide) ?_ ?_
  · refine gg_bipush (S := sX6_brought) 27 rfl dX6_brought_25 (by decide) ?_
    exact gg_pure (gg_iret (S := sX6_brought) rfl dX6_brought_27 (by decide) (by decide))
  · refine gg_iload_n (S := sX6_brought) 3 11 rfl dX6_brought_10 rfl rfl ?_
    refine gg_if_lt (S := sX6_brought) (tgt := 25) 14 rfl dX6_brought_11 (by decide) ?_ ?_
    · refine gg_bipush (S := sX6_brought) 27 rfl dX6_brought_25 (by decide) ?_
      exact gg_pure (gg_iret (S := sX6_brought) rfl dX6_brought_27 (by decide) (by decide))
    · refine gg_iload_n (S := sX6_brought) 3 15 rfl dX6_brought_14 rfl rfl ?_
      refine gg_aload_n (S := sX6_brought) 0 16 rfl dX6_brought_15 rfl rfl ?_
      refine gg_grN (S := sX6_brought) cfX5 (by decide) (fun _ _ => rfl) 19 rfl flX6_96 dX6_brought_16 (fun t2 => ?_)
      refine gg_callVi (S := sX6_brought) (S' := sX4_size) (cs := 0) (sl := 0) (As := []) (st := [vi x2]) 22 rfl (fun b5 => lkX4_size b5) mwX4_size rfl mlX6_71 dX6_brought_19 cfX4 ⟨by decide, by decide⟩ 0 0 ⟨rfl, rfl⟩ ⟨by decide, by decide⟩ (Nat.le_of_ble_eq_true rfl) (fun t3 => ?_)
      refine gg_ic_lt (S := sX6_brought) (tgt := 28) 25 rfl dX6_brought_22 (by decide) ?_ ?_
      · refine gg_aload_n (S := sX6_brought) 0 29 rfl dX6_brought_28 rfl rfl ?_
        refine gg_iload_n (S := sX6_brought) 3 30 rfl dX6_brought_29 rfl rfl ?_
        refine gg_callVi (S := sX6_brought) (S' := sX5_bringerOf) (cs := 0) (sl := 0) (As := [vi x2]) (st := []) 33 rfl (fun b4 => lkX5_bringerOf b4 x2) mwX5_bringerOf rfl mlX6_250 dX6_brought_30 cfX5 ⟨by decide, by decide⟩ 0 0 ⟨rfl, rfl⟩ ⟨by decide, by decide⟩ (Nat.le_of_ble_eq_true rfl) (fun t4 => ?_)
        exact gg_pure (gg_iret (S := sX6_brought) rfl dX6_brought_33 (by decide) (by decide))
      · refine gg_bipush (S := sX6_brought) 27 rfl dX6_brought_25 (by decide) ?_
        exact gg_pure (gg_iret (S := sX6_brought) rfl dX6_brought_27 (by decide) (by decide))

set_option maxRecDepth 100000 in
set_option maxHeartbeats 4000000 in
theorem lkX6_clashes (x0 : Nat) : LK yX6_clashes sX6_clashes [vr (some x0)] en_i (X6_clashes x0) := by
  refine lk_go (L := [(0, vr (some x0))]) (by decide +kernel) rfl (fun h => by cases h) (Nat.le_of_ble_eq_true rfl) rfl ?_
  intro K
  unfold X6_clashes
  refine gg_iconst (S := sX6_clashes) 1 rfl dX6_clashes_0 ?_
  refine gg_istore_n (S := sX6_clashes) (L' := [(1, vi 0), (0, vr (some x0))]) 2 rfl dX6_clashes_1 rfl (by decide) rfl ?_
  refine gg_iconst (S := sX6_clashes) 3 rfl dX6_clashes_2 ?_
  refine gg_istore_n (S := sX6_clashes) (L' := [(2, vi 0), (1, vi 0), (0, vr (some x0))]) 4 rfl dX6_clashes_3 rfl (by decide) rfl ?_
  refine gg_sub [2, 1, 0] rfl ?_
  refine gg_loopA (fun (y1, y2) => [(0, vr (some x0)), (1, vi y1), (2, vi y2)]) (fun t20 => [(1, vi t20)]) 67 mo_N ?_ ?_ (0, 0)
  · intro κ4 hr4 he4
    rintro ⟨y1, y2⟩
    dsimp only [X6_clashes_L4]
    refine gg_iload_n (S := sX6_clashes) 2 5 rfl dX6_clashes_4 rfl rfl ?_
    refine gg_aload_n (S := sX6_clashes) 0 6 rfl dX6_clashes_5 rfl rfl ?_
    refine gg_gr (S := sX6_clashes) cfX6 (by decide) (fun _ _ => rfl) 9 rfl flX6_47 dX6_clashes_6 (fun t3 => ?_)
    refine gg_callVi (S := sX6_clashes) (S' := sX3_hunks) (cs := 0) (sl := 0) (As := []) (st := [vi y2]) 12 rfl (fun b18 => lkX3_hunks b18) mwX3_hunks rfl mlX6_170 dX6_clashes_9 cfX3 ⟨by decide, by decide⟩ 0 0 ⟨rfl, rfl⟩ ⟨by decide, by decide⟩ (Nat.le_of_ble_eq_true rfl) (fun t4 => ?_)
    refine gg_ic_ge (S := sX6_clashes) (tgt := 67) 15 rfl dX6_clashes_12 (by decide) ?_ ?_
    · refine gg_aload_n (S := sX6_clashes) 0 16 rfl dX6_clashes_15 rfl rfl ?_
      refine gg_gr (S := sX6_clashes) cfX6 (by decide) (fun _ _ => rfl) 19 rfl flX6_51 dX6_clashes_16 (fun t5 => ?_)
      refine gg_aload_n (S := sX6_clashes) 0 20 rfl dX6_clashes_19 rfl rfl ?_
      refine gg_gr (S := sX6_clashes) cfX6 (by decide) (fun _ _ => rfl) 23 rfl flX6_47 dX6_clashes_20 (fun t6 => ?_)
      refine gg_iload_n (S := sX6_clashes) 2 24 rfl dX6_clashes_23 rfl rfl ?_
      refine gg_callVi (S := sX6_clashes) (S' := sX3_begins) (cs := 0) (sl := 0) (As := [vi y2]) (st := [vr t5]) 27 rfl (fun b17 => lkX3_begins b17 y2) mwX3_begins rfl mlX6_188 dX6_clashes_24 cfX3 ⟨by decide, by decide⟩ 0 0 ⟨rfl, rfl⟩ ⟨by decide, by decide⟩ (Nat.le_of_ble_eq_true rfl) (fun t7 => ?_)
      refine gg_aload_n (S := sX6_clashes) 0 28 rfl dX6_clashes_27 rfl rfl ?_
      refine gg_gr (S := sX6_clashes) cfX6 (by decide) (fun _ _ => rfl) 31 rfl flX6_47 dX6_clashes_28 (fun t8 => ?_)
      refine gg_iload_n (S := sX6_clashes) 2 32 rfl dX6_clashes_31 rfl rfl ?_
      refine gg_callVi (S := sX6_clashes) (S' := sX3_ends) (cs := 0) (sl := 0) (As := [vi y2]) (st := [vi t7, vr t5]) 35 rfl (fun b16 => lkX3_ends b16 y2) mwX3_ends rfl mlX6_337 dX6_clashes_32 cfX3 ⟨by decide, by decide⟩ 0 0 ⟨rfl, rfl⟩ ⟨by decide, by decide⟩ (Nat.le_of_ble_eq_true rfl) (fun t9 => ?_)
      refine gg_callVi (S := sX6_clashes) (S' := sX3_touches) (cs := 0) (sl := 0) (As := [vi t7, vi t9]) (st := []) 38 rfl (fun b15 => lkX3_touches b15 t7 t9) mwX3_touches rfl mlX6_340 dX6_clashes_35 cfX3 ⟨by decide, by decide⟩ 0 0 ⟨rfl, rfl⟩ ⟨by decide, by decide⟩ (Nat.le_of_ble_eq_true rfl) (fun t10 => ?_)
      refine gg_istore_n (S := sX6_clashes) (L' := [(3, vi t10), (0, vr (some x0)), (1, vi y1), (2, vi y2)]) 39 rfl dX6_clashes_38 rfl (by decide) rfl ?_
      refine gg_iload_n (S := sX6_clashes) 0 40 rfl dX6_clashes_39 rfl rfl ?_
      refine gg_join (fun t15 => [(0, vr (some x0)), (1, vi t15), (2, vi y2)]) (fun t15 => []) 61 0 0 (fun κ40 hJ40 => ?_) ?_
      · refine gg_if_eq (S := sX6_clashes) (tgt := 61) 43 rfl dX6_clashes_40 (by decide) ?_ ?_
        · exact gg_pure (gg_sub [1, 2, 3] rfl (hJ40 y1))
        · refine gg_aload_n (S := sX6_clashes) 1 44 rfl dX6_clashes_43 rfl rfl ?_
          refine gg_gr (S := sX6_clashes) cfX6 (by decide) (fun _ _ => rfl) 47 rfl flX6_51 dX6_clashes_44 (fun t11 => ?_)
          refine gg_aload_n (S := sX6_clashes) 1 48 rfl dX6_clashes_47 rfl rfl ?_
          refine gg_gr (S := sX6_clashes) cfX6 (by decide) (fun _ _ => rfl) 51 rfl flX6_47 dX6_clashes_48 (fun t12 => ?_)
          refine gg_iload_n (S := sX6_clashes) 3 52 rfl dX6_clashes_51 rfl rfl ?_
          refine gg_callVi (S := sX6_clashes) (S' := sX3_hasAlike) (cs := 0) (sl := 0) (As := [vr t12, vi y2]) (st := []) 55 rfl (fun b13 => lkX3_hasAlike b13 t12 y2) mwX3_hasAlike rfl mlX6_343 dX6_clashes_52 cfX3 ⟨by decide, by decide⟩ 0 0 ⟨rfl, rfl⟩ ⟨by decide, by decide⟩ (Nat.le_of_ble_eq_true rfl) (fun t13 => ?_)
          refine gg_if_ne (S := sX6_clashes) (tgt := 61) 58 rfl dX6_clashes_55 (by decide) ?_ ?_
          · refine gg_iinc (S := sX6_clashes) (L' := [(1, vi (y1 + 1)), (3, vi t10), (0, vr (some x0)), (2, vi y2)]) 2 61 rfl dX6_clashes_58 rfl (by decide) rfl ?_
            exact gg_pure (gg_sub [2, 0, 3] rfl (hJ40 (y1 + 1)))
          · exact gg_pure (gg_sub [1, 2, 3] rfl (hJ40 y1))
      · intro t15
        refine gg_iinc (S := sX6_clashes) (L' := [(2, vi (y2 + 1)), (0, vr (some x0)), (1, vi t15)]) 2 64 rfl dX6_clashes_61 rfl (by decide) rfl ?_
        refine gg_goto (S := sX6_clashes) (tgt := 4) dX6_clashes_64 (by decide) ?_
        exact gg_pure (gg_sub [1, 2, 0] rfl (hr4 (t15, (y2 + 1))))
    · exact gg_pure (gg_sub [1] rfl (he4 y1))
  · intro t20
    refine gg_iload_n (S := sX6_clashes) 0 68 rfl dX6_clashes_67 rfl rfl ?_
    exact gg_pure (gg_iret (S := sX6_clashes) rfl dX6_clashes_68 (by decide) (by decide))

set_option maxRecDepth 100000 in
set_option maxHeartbeats 4000000 in
theorem lkX6_writeDifference (x0 : Nat) (x1 : Option Nat) (x2 : Option Nat) (x3 : Option Nat) : LK yX6_writeDifference sX6_writeDifference [vr (some x0), vr x1, vr x2, vr x3] en_v (X6_writeDifference x0 x1 x2 x3) := by
  refine lk_go (L := [(0, vr (some x0)), (1, vr x1), (2, vr x2), (3, vr x3)]) (by decide +kernel) rfl (fun h => by cases h) (Nat.le_of_ble_eq_true rfl) rfl ?_
  intro K
  unfold X6_writeDifference
  refine gg_aload_n (S := sX6_writeDifference) 0 1 rfl dX6_writeDifference_0 rfl rfl ?_
  refine gg_gr (S := sX6_writeDifference) cfX6 (by decide) (fun _ _ => rfl) 4 rfl flX6_40 dX6_writeDifference_1 (fun t1 => ?_)
  refine gg_aload_n (S := sX6_writeDifference) 1 5 rfl dX6_writeDifference_4 rfl rfl ?_
  refine gg_grN (S := sX6_writeDifference) cfX5 (by decide) (fun _ _ => rfl) 8 rfl flX6_96 dX6_writeDifference_5 (fun t2 => ?_)
  refine gg_aload_n (S := sX6_writeDifference) 2 9 rfl dX6_writeDifference_8 rfl rfl ?_
  refine gg_grN (S := sX6_writeDifference) cfX5 (by decide) (fun _ _ => rfl) 12 rfl flX6_96 dX6_writeDifference_9 (fun t3 => ?_)
  refine gg_callVv (S := sX6_writeDifference) (S' := sX1_find) (cs := 0) (sl := 0) (As := [vr t2, vr t3]) (st := []) 15 rfl (fun b7 => lkX1_find b7 t2 t3) mwX1_find rfl mlX6_141 dX6_writeDifference_12 cfX1 ⟨by decide, by decide⟩ 0 0 ⟨rfl, rfl⟩ ⟨by decide, by decide⟩ (Nat.le_of_ble_eq_true rfl) (fun _ => ?_)
  refine gg_aload_n (S := sX6_writeDifference) 0 16 rfl dX6_writeDifference_15 rfl rfl ?_
  refine gg_gr (S := sX6_writeDifference) cfX6 (by decide) (fun _ _ => rfl) 19 rfl flX6_40 dX6_writeDifference_16 (fun t4 => ?_)
  refine gg_aload_n (S := sX6_writeDifference) 1 20 rfl dX6_writeDifference_19 rfl rfl ?_
  refine gg_grN (S := sX6_writeDifference) cfX5 (by decide) (fun _ _ => rfl) 23 rfl flX6_96 dX6_writeDifference_20 (fun t5 => ?_)
  refine gg_aload_n (S := sX6_writeDifference) 2 24 rfl dX6_writeDifference_23 rfl rfl ?_
  refine gg_grN (S := sX6_writeDifference) cfX5 (by decide) (fun _ _ => rfl) 27 rfl flX6_96 dX6_writeDifference_24 (fun t6 => ?_)
  refine gg_aload_n (S := sX6_writeDifference) 3 28 rfl dX6_writeDifference_27 rfl rfl ?_
  refine gg_callVv (S := sX6_writeDifference) (S' := sX1_writeHunks) (cs := 0) (sl := 0) (As := [vr t5, vr t6, vr x3]) (st := []) 31 rfl (fun b6 => lkX1_writeHunks b6 t5 t6 x3) mwX1_writeHunks rfl mlX6_319 dX6_writeDifference_28 cfX1 ⟨by decide, by decide⟩ 0 0 ⟨rfl, rfl⟩ ⟨by decide, by decide⟩ (Nat.le_of_ble_eq_true rfl) (fun _ => ?_)
  exact gg_pure (gg_vret (S := sX6_writeDifference) rfl dX6_writeDifference_31 (by decide) (by decide))

set_option maxRecDepth 100000 in
set_option maxHeartbeats 4000000 in
theorem lkX6_writeBothDifferences (x0 : Nat) (x1 : Int) (x2 : Int) (x3 : Int) : LK yX6_writeBothDifferences sX6_writeBothDifferences [vr (some x0), vi x1, vi x2, vi x3] en_i (X6_writeBothDifferences x0 x1 x2 x3) := by
  refine lk_go (L := [(0, vr (some x0)), (1, vi x1), (2, vi x2), (3, vi x3)]) (by decide +kernel) rfl (fun h => by cases h) (Nat.le_of_ble_eq_true rfl) rfl ?_
  intro K
  unfold X6_writeBothDifferences
  refine gg_aload_n (S := sX6_writeBothDifferences) 0 1 rfl dX6_writeBothDifferences_0 rfl rfl ?_
  refine gg_iload_n (S := sX6_writeBothDifferences) 1 2 rfl dX6_writeBothDifferences_1 rfl rfl ?_
  refine gg_callVr (S := sX6_writeBothDifferences) (S' := sX6_versionOrNull) (cs := 0) (sl := 0) (As := [vi x1]) (st := []) 5 rfl (fun b9 => lkX6_versionOrNull b9 x1) mwX6_versionOrNull rfl mlX6_92 dX6_writeBothDifferences_2 cfX6 ⟨by decide, by decide⟩ 0 0 ⟨rfl, rfl⟩ ⟨by decide, by decide⟩ (Nat.le_of_ble_eq_true rfl) (fun t1 => ?_)
  refine gg_astore (S := sX6_writeBothDifferences) (L' := [(4, vr t1), (0, vr (some x0)), (1, vi x1), (2, vi x2), (3, vi x3)]) 7 rfl dX6_writeBothDifferences_5 (by decide) rfl ?_
  refine gg_aload_n (S := sX6_writeBothDifferences) 1 8 rfl dX6_writeBothDifferences_7 rfl rfl ?_
  refine gg_iload_n (S := sX6_writeBothDifferences) 3 9 rfl dX6_writeBothDifferences_8 rfl rfl ?_
  refine gg_callVr (S := sX6_writeBothDifferences) (S' := sX6_versionOrNull) (cs := 0) (sl := 0) (As := [vi x2]) (st := []) 12 rfl (fun b8 => lkX6_versionOrNull b8 x2) mwX6_versionOrNull rfl mlX6_92 dX6_writeBothDifferences_9 cfX6 ⟨by decide, by decide⟩ 0 0 ⟨rfl, rfl⟩ ⟨by decide, by decide⟩ (Nat.le_of_ble_eq_true rfl) (fun t2 => ?_)
  refine gg_astore (S := sX6_writeBothDifferences) (L' := [(5, vr t2), (4, vr t1), (0, vr (some x0)), (1, vi x1), (2, vi x2), (3, vi x3)]) 14 rfl dX6_writeBothDifferences_12 (by decide) rfl ?_
  refine gg_aload_n (S := sX6_writeBothDifferences) 2 15 rfl dX6_writeBothDifferences_14 rfl rfl ?_
  refine gg_iload_n (S := sX6_writeBothDifferences) 5 16 rfl dX6_writeBothDifferences_15 rfl rfl ?_
  refine gg_callVr (S := sX6_writeBothDifferences) (S' := sX6_versionOrNull) (cs := 0) (sl := 0) (As := [vi x3]) (st := []) 19 rfl (fun b7 => lkX6_versionOrNull b7 x3) mwX6_versionOrNull rfl mlX6_92 dX6_writeBothDifferences_16 cfX6 ⟨by decide, by decide⟩ 0 0 ⟨rfl, rfl⟩ ⟨by decide, by decide⟩ (Nat.le_of_ble_eq_true rfl) (fun t3 => ?_)
  refine gg_astore (S := sX6_writeBothDifferences) (L' := [(6, vr t3), (5, vr t2), (4, vr t1), (0, vr (some x0)), (1, vi x1), (2, vi x2), (3, vi x3)]) 21 rfl dX6_writeBothDifferences_19 (by decide) rfl ?_
  refine gg_aload (S := sX6_writeBothDifferences) 2 23 rfl dX6_writeBothDifferences_21 rfl ?_
  refine gg_ifnull (S := sX6_writeBothDifferences) (tgt := 36) 26 rfl dX6_writeBothDifferences_23 (by decide) ?_ ?_
  · refine gg_iconst (S := sX6_writeBothDifferences) 37 rfl dX6_writeBothDifferences_36 ?_
    exact gg_pure (gg_zretc (S := sX6_writeBothDifferences) (by decide) rfl dX6_writeBothDifferences_37 (by decide) (by decide))
  · refine gg_aload (S := sX6_writeBothDifferences) 1 28 rfl dX6_writeBothDifferences_26 rfl ?_
    refine gg_ifnull (S := sX6_writeBothDifferences) (tgt := 36) 31 rfl dX6_writeBothDifferences_28 (by decide) ?_ ?_
    · refine gg_iconst (S := sX6_writeBothDifferences) 37 rfl dX6_writeBothDifferences_36 ?_
      exact gg_pure (gg_zretc (S := sX6_writeBothDifferences) (by decide) rfl dX6_writeBothDifferences_37 (by decide) (by decide))
    · refine gg_aload (S := sX6_writeBothDifferences) 0 33 rfl dX6_writeBothDifferences_31 rfl ?_
      refine gg_ifnonnull (S := sX6_writeBothDifferences) (tgt := 38) 36 rfl dX6_writeBothDifferences_33 (by decide) ?_ ?_
      · refine gg_iconst (S := sX6_writeBothDifferences) 37 rfl dX6_writeBothDifferences_36 ?_
        exact gg_pure (gg_zretc (S := sX6_writeBothDifferences) (by decide) rfl dX6_writeBothDifferences_37 (by decide) (by decide))
      · refine gg_aload_n (S := sX6_writeBothDifferences) 3 39 rfl dX6_writeBothDifferences_38 rfl rfl ?_
        refine gg_aload (S := sX6_writeBothDifferences) 2 41 rfl dX6_writeBothDifferences_39 rfl ?_
        refine gg_aload (S := sX6_writeBothDifferences) 1 43 rfl dX6_writeBothDifferences_41 rfl ?_
        refine gg_aload_n (S := sX6_writeBothDifferences) 3 44 rfl dX6_writeBothDifferences_43 rfl rfl ?_
        refine gg_gr (S := sX6_writeBothDifferences) cfX6 (by decide) (fun _ _ => rfl) 47 rfl flX6_47 dX6_writeBothDifferences_44 (fun t4 => ?_)
        refine gg_callVv (S := sX6_writeBothDifferences) (S' := sX6_writeDifference) (cs := 0) (sl := 0) (As := [vr t1, vr t2, vr t4]) (st := []) 50 rfl (fun b6 => lkX6_writeDifference b6 t1 t2 t4) mwX6_writeDifference rfl mlX6_130 dX6_writeBothDifferences_47 cfX6 ⟨by decide, by decide⟩ 0 0 ⟨rfl, rfl⟩ ⟨by decide, by decide⟩ (Nat.le_of_ble_eq_true rfl) (fun _ => ?_)
        refine gg_aload_n (S := sX6_writeBothDifferences) 3 51 rfl dX6_writeBothDifferences_50 rfl rfl ?_
        refine gg_aload (S := sX6_writeBothDifferences) 2 53 rfl dX6_writeBothDifferences_51 rfl ?_
        refine gg_aload (S := sX6_writeBothDifferences) 0 55 rfl dX6_writeBothDifferences_53 rfl ?_
        refine gg_aload_n (S := sX6_writeBothDifferences) 3 56 rfl dX6_writeBothDifferences_55 rfl rfl ?_
        refine gg_gr (S := sX6_writeBothDifferences) cfX6 (by decide) (fun _ _ => rfl) 59 rfl flX6_51 dX6_writeBothDifferences_56 (fun t5 => ?_)
        refine gg_callVv (S := sX6_writeBothDifferences) (S' := sX6_writeDifference) (cs := 0) (sl := 0) (As := [vr t1, vr t3, vr t5]) (st := []) 62 rfl (fun b5 => lkX6_writeDifference b5 t1 t3 t5) mwX6_writeDifference rfl mlX6_130 dX6_writeBothDifferences_59 cfX6 ⟨by decide, by decide⟩ 0 0 ⟨rfl, rfl⟩ ⟨by decide, by decide⟩ (Nat.le_of_ble_eq_true rfl) (fun _ => ?_)
        refine gg_iconst (S := sX6_writeBothDifferences) 63 rfl dX6_writeBothDifferences_62 ?_
        exact gg_pure (gg_zretc (S := sX6_writeBothDifferences) (by decide) rfl dX6_writeBothDifferences_63 (by decide) (by decide))

set_option maxRecDepth 100000 in
set_option maxHeartbeats 4000000 in
theorem lkX6_clash (x0 : Nat) (x1 : Int) (x2 : Int) (x3 : Int) : LK yX6_clash sX6_clash [vr (some x0), vi x1, vi x2, vi x3] en_i (X6_clash x0 x1 x2 x3) := by
  refine lk_go (L := [(0, vr (some x0)), (1, vi x1), (2, vi x2), (3, vi x3)]) (by decide +kernel) rfl (fun h => by cases h) (Nat.le_of_ble_eq_true rfl) rfl ?_
  intro K
  unfold X6_clash
  refine gg_aload_n (S := sX6_clash) 0 1 rfl dX6_clash_0 rfl rfl ?_
  refine gg_iload_n (S := sX6_clash) 1 2 rfl dX6_clash_1 rfl rfl ?_
  refine gg_iload_n (S := sX6_clash) 2 3 rfl dX6_clash_2 rfl rfl ?_
  refine gg_iload_n (S := sX6_clash) 3 4 rfl dX6_clash_3 rfl rfl ?_
  refine gg_callVi (S := sX6_clash) (S' := sX6_writeBothDifferences) (cs := 0) (sl := 0) (As := [vi x1, vi x2, vi x3]) (st := []) 7 rfl (fun b3 => lkX6_writeBothDifferences b3 x1 x2 x3) mwX6_writeBothDifferences rfl mlX6_241 dX6_clash_4 cfX6 ⟨by decide, by decide⟩ 0 0 ⟨rfl, rfl⟩ ⟨by decide, by decide⟩ (Nat.le_of_ble_eq_true rfl) (fun t1 => ?_)
  refine gg_if_ne (S := sX6_clash) (tgt := 13) 10 rfl dX6_clash_7 (by decide) ?_ ?_
  · refine gg_bipush (S := sX6_clash) 12 rfl dX6_clash_10 (by decide) ?_
    exact gg_pure (gg_iret (S := sX6_clash) rfl dX6_clash_12 (by decide) (by decide))
  · refine gg_aload_n (S := sX6_clash) 0 14 rfl dX6_clash_13 rfl rfl ?_
    refine gg_callVi (S := sX6_clash) (S' := sX6_clashes) (cs := 0) (sl := 0) (As := []) (st := []) 17 rfl (fun b2 => lkX6_clashes b2) mwX6_clashes rfl mlX6_244 dX6_clash_14 cfX6 ⟨by decide, by decide⟩ 0 0 ⟨rfl, rfl⟩ ⟨by decide, by decide⟩ (Nat.le_of_ble_eq_true rfl) (fun t2 => ?_)
    exact gg_pure (gg_iret (S := sX6_clash) rfl dX6_clash_17 (by decide) (by decide))

set_option maxRecDepth 100000 in
set_option maxHeartbeats 4000000 in
theorem lkX6_count (x0 : Nat) (x1 : Int) : LK yX6_count sX6_count [vr (some x0), vi x1] en_i (X6_count x0 x1) := by
  refine lk_go (L := [(0, vr (some x0)), (1, vi x1)]) (by decide +kernel) rfl (fun h => by cases h) (Nat.le_of_ble_eq_true rfl) rfl ?_
  intro K
  unfold X6_count
  refine gg_iload_n (S := sX6_count) 1 1 rfl dX6_count_0 rfl rfl ?_
  refine gg_tsw4 (S := sX6_count) dX6_count_1 (t0 := 32) (t1 := 37) (t2 := 45) (t3 := 50) (td := 55) (by decide) (by decide) (by decide) (by decide) (by decide) ?_ ?_ ?_ ?_ ?_
  · refine gg_aload_n (S := sX6_count) 0 33 rfl dX6_count_32 rfl rfl ?_
    refine gg_gi (S := sX6_count) cfX6 (by decide) (fun _ _ => rfl) 36 rfl flX6_106 dX6_count_33 (fun t1 => ?_)
    exact gg_pure (gg_iret (S := sX6_count) rfl dX6_count_36 (by decide) (by decide))
  · refine gg_aload_n (S := sX6_count) 0 38 rfl dX6_count_37 rfl rfl ?_
    refine gg_gr (S := sX6_count) cfX6 (by decide) (fun _ _ => rfl) 41 rfl flX6_14 dX6_count_38 (fun t2 => ?_)
    refine gg_callVi (S := sX6_count) (S' := sX4_size) (cs := 0) (sl := 0) (As := []) (st := []) 44 rfl (fun b3 => lkX4_size b3) mwX4_size rfl mlX6_71 dX6_count_41 cfX4 ⟨by decide, by decide⟩ 0 0 ⟨rfl, rfl⟩ ⟨by decide, by decide⟩ (Nat.le_of_ble_eq_true rfl) (fun t3 => ?_)
    exact gg_pure (gg_iret (S := sX6_count) rfl dX6_count_44 (by decide) (by decide))
  · refine gg_aload_n (S := sX6_count) 0 46 rfl dX6_count_45 rfl rfl ?_
    refine gg_gi (S := sX6_count) cfX6 (by decide) (fun _ _ => rfl) 49 rfl flX6_287 dX6_count_46 (fun t5 => ?_)
    exact gg_pure (gg_iret (S := sX6_count) rfl dX6_count_49 (by decide) (by decide))
  · refine gg_aload_n (S := sX6_count) 0 51 rfl dX6_count_50 rfl rfl ?_
    refine gg_gi (S := sX6_count) cfX6 (by decide) (fun _ _ => rfl) 54 rfl flX6_257 dX6_count_51 (fun t6 => ?_)
    exact gg_pure (gg_iret (S := sX6_count) rfl dX6_count_54 (by decide) (by decide))
  · refine gg_bipush (S := sX6_count) 57 rfl dX6_count_55 (by decide) ?_
    exact gg_pure (gg_iret (S := sX6_count) rfl dX6_count_57 (by decide) (by decide))

set_option maxRecDepth 100000 in
set_option maxHeartbeats 4000000 in
theorem lkX6_desk (x0 : Nat) (x1 : Int) : LK yX6_desk sX6_desk [vr (some x0), vi x1] en_i (X6_desk x0 x1) := by
  refine lk_go (L := [(0, vr (some x0)), (1, vi x1)]) (by decide +kernel) rfl (fun h => by cases h) (Nat.le_of_ble_eq_true rfl) rfl ?_
  intro K
  unfold X6_desk
  refine gg_aload_n (S := sX6_desk) 0 1 rfl dX6_desk_0 rfl rfl ?_
  refine gg_gr (S := sX6_desk) cfX6 (by decide) (fun _ _ => rfl) 4 rfl flX6_14 dX6_desk_1 (fun t1 => ?_)
  refine gg_iload_n (S := sX6_desk) 1 5 rfl dX6_desk_4 rfl rfl ?_
  refine gg_callVi (S := sX6_desk) (S' := sX4_at) (cs := 0) (sl := 0) (As := [vi x1]) (st := []) 8 rfl (fun b2 => lkX4_at b2 x1) mwX4_at rfl mlX6_82 dX6_desk_5 cfX4 ⟨by decide, by decide⟩ 0 0 ⟨rfl, rfl⟩ ⟨by decide, by decide⟩ (Nat.le_of_ble_eq_true rfl) (fun t2 => ?_)
  exact gg_pure (gg_iret (S := sX6_desk) rfl dX6_desk_8 (by decide) (by decide))

set_option maxRecDepth 100000 in
set_option maxHeartbeats 4000000 in
theorem lkX6_tellPatch (x0 : Option Nat) (x1 : Int) : LK yX6_tellPatch sX6_tellPatch [vr x0, vi x1] en_i (X6_tellPatch x0 x1) := by
  refine lk_go (L := [(0, vr x0), (1, vi x1)]) (by decide +kernel) rfl (fun h => by cases h) (Nat.le_of_ble_eq_true rfl) rfl ?_
  intro K
  unfold X6_tellPatch
  refine gg_iload_n (S := sX6_tellPatch) 1 1 rfl dX6_tellPatch_0 rfl rfl ?_
  refine gg_tsw3 (S := sX6_tellPatch) dX6_tellPatch_1 (t0 := 28) (t1 := 33) (t2 := 38) (td := 43) (by decide) (by decide) (by decide) (by decide) ?_ ?_ ?_ ?_
  · refine gg_aload_n (S := sX6_tellPatch) 0 29 rfl dX6_tellPatch_28 rfl rfl ?_
    refine gg_callVi (S := sX6_tellPatch) (S' := sX3_hunks) (cs := 0) (sl := 0) (As := []) (st := []) 32 rfl (fun b1 => lkX3_hunks b1) mwX3_hunks rfl mlX6_170 dX6_tellPatch_29 cfX3 ⟨by decide, by decide⟩ 0 0 ⟨rfl, rfl⟩ ⟨by decide, by decide⟩ (Nat.le_of_ble_eq_true rfl) (fun t1 => ?_)
    exact gg_pure (gg_iret (S := sX6_tellPatch) rfl dX6_tellPatch_32 (by decide) (by decide))
  · refine gg_aload_n (S := sX6_tellPatch) 0 34 rfl dX6_tellPatch_33 rfl rfl ?_
    refine gg_callVi (S := sX6_tellPatch) (S' := sX3_allGoing) (cs := 0) (sl := 0) (As := []) (st := []) 37 rfl (fun b3 => lkX3_allGoing b3) mwX3_allGoing rfl mlX6_134 dX6_tellPatch_34 cfX3 ⟨by decide, by decide⟩ 0 0 ⟨rfl, rfl⟩ ⟨by decide, by decide⟩ (Nat.le_of_ble_eq_true rfl) (fun t3 => ?_)
    exact gg_pure (gg_iret (S := sX6_tellPatch) rfl dX6_tellPatch_37 (by decide) (by decide))
  · refine gg_aload_n (S := sX6_tellPatch) 0 39 rfl dX6_tellPatch_38 rfl rfl ?_
    refine gg_callVi (S := sX6_tellPatch) (S' := sX3_allComing) (cs := 0) (sl := 0) (As := []) (st := []) 42 rfl (fun b5 => lkX3_allComing b5) mwX3_allComing rfl mlX6_173 dX6_tellPatch_39 cfX3 ⟨by decide, by decide⟩ 0 0 ⟨rfl, rfl⟩ ⟨by decide, by decide⟩ (Nat.le_of_ble_eq_true rfl) (fun t5 => ?_)
    exact gg_pure (gg_iret (S := sX6_tellPatch) rfl dX6_tellPatch_42 (by decide) (by decide))
  · refine gg_aload_n (S := sX6_tellPatch) 0 44 rfl dX6_tellPatch_43 rfl rfl ?_
    refine gg_callVi (S := sX6_tellPatch) (S' := sX3_room) (cs := 0) (sl := 0) (As := []) (st := []) 47 rfl (fun b7 => lkX3_room b7) mwX3_room rfl mlX6_318 dX6_tellPatch_44 cfX3 ⟨by decide, by decide⟩ 0 0 ⟨rfl, rfl⟩ ⟨by decide, by decide⟩ (Nat.le_of_ble_eq_true rfl) (fun t7 => ?_)
    exact gg_pure (gg_iret (S := sX6_tellPatch) rfl dX6_tellPatch_47 (by decide) (by decide))

set_option maxRecDepth 100000 in
set_option maxHeartbeats 4000000 in
theorem lkX6_differ (x0 : Nat) (x1 : Int) (x2 : Int) (x3 : Int) : LK yX6_differ sX6_differ [vr (some x0), vi x1, vi x2, vi x3] en_i (X6_differ x0 x1 x2 x3) := by
  refine lk_go (L := [(0, vr (some x0)), (1, vi x1), (2, vi x2), (3, vi x3)]) (by decide +kernel) rfl (fun h => by cases h) (Nat.le_of_ble_eq_true rfl) rfl ?_
  intro K
  unfold X6_differ
  refine gg_aload_n (S := sX6_differ) 0 1 rfl dX6_differ_0 rfl rfl ?_
  refine gg_iload_n (S := sX6_differ) 1 2 rfl dX6_differ_1 rfl rfl ?_
  refine gg_callVr (S := sX6_differ) (S' := sX6_versionOrNull) (cs := 0) (sl := 0) (As := [vi x1]) (st := []) 5 rfl (fun b14 => lkX6_versionOrNull b14 x1) mwX6_versionOrNull rfl mlX6_92 dX6_differ_2 cfX6 ⟨by decide, by decide⟩ 0 0 ⟨rfl, rfl⟩ ⟨by decide, by decide⟩ (Nat.le_of_ble_eq_true rfl) (fun t1 => ?_)
  refine gg_astore (S := sX6_differ) (L' := [(4, vr t1), (0, vr (some x0)), (1, vi x1), (2, vi x2), (3, vi x3)]) 7 rfl dX6_differ_5 (by decide) rfl ?_
  refine gg_aload_n (S := sX6_differ) 1 8 rfl dX6_differ_7 rfl rfl ?_
  refine gg_iload_n (S := sX6_differ) 3 9 rfl dX6_differ_8 rfl rfl ?_
  refine gg_callVr (S := sX6_differ) (S' := sX6_versionOrNull) (cs := 0) (sl := 0) (As := [vi x2]) (st := []) 12 rfl (fun b13 => lkX6_versionOrNull b13 x2) mwX6_versionOrNull rfl mlX6_92 dX6_differ_9 cfX6 ⟨by decide, by decide⟩ 0 0 ⟨rfl, rfl⟩ ⟨by decide, by decide⟩ (Nat.le_of_ble_eq_true rfl) (fun t2 => ?_)
  refine gg_astore (S := sX6_differ) (L' := [(5, vr t2), (4, vr t1), (0, vr (some x0)), (1, vi x1), (2, vi x2), (3, vi x3)]) 14 rfl dX6_differ_12 (by decide) rfl ?_
  refine gg_aload (S := sX6_differ) 1 16 rfl dX6_differ_14 rfl ?_
  refine gg_ifnull (S := sX6_differ) (tgt := 24) 19 rfl dX6_differ_16 (by decide) ?_ ?_
  · refine gg_bipush (S := sX6_differ) 26 rfl dX6_differ_24 (by decide) ?_
    exact gg_pure (gg_iret (S := sX6_differ) rfl dX6_differ_26 (by decide) (by decide))
  · refine gg_aload (S := sX6_differ) 0 21 rfl dX6_differ_19 rfl ?_
    refine gg_ifnonnull (S := sX6_differ) (tgt := 27) 24 rfl dX6_differ_21 (by decide) ?_ ?_
    · refine gg_bipush (S := sX6_differ) 26 rfl dX6_differ_24 (by decide) ?_
      exact gg_pure (gg_iret (S := sX6_differ) rfl dX6_differ_26 (by decide) (by decide))
    · refine gg_iload_n (S := sX6_differ) 5 28 rfl dX6_differ_27 rfl rfl ?_
      refine gg_if_lt (S := sX6_differ) (tgt := 36) 31 rfl dX6_differ_28 (by decide) ?_ ?_
      · refine gg_bipush (S := sX6_differ) 38 rfl dX6_differ_36 (by decide) ?_
        exact gg_pure (gg_iret (S := sX6_differ) rfl dX6_differ_38 (by decide) (by decide))
      · refine gg_iload_n (S := sX6_differ) 5 32 rfl dX6_differ_31 rfl rfl ?_
        refine gg_iconst (S := sX6_differ) 33 rfl dX6_differ_32 ?_
        refine gg_ic_le (S := sX6_differ) (tgt := 39) 36 rfl dX6_differ_33 (by decide) ?_ ?_
        · refine gg_aload_n (S := sX6_differ) 2 40 rfl dX6_differ_39 rfl rfl ?_
          refine gg_aload (S := sX6_differ) 1 42 rfl dX6_differ_40 rfl ?_
          refine gg_aload (S := sX6_differ) 0 44 rfl dX6_differ_42 rfl ?_
          refine gg_aload_n (S := sX6_differ) 2 45 rfl dX6_differ_44 rfl rfl ?_
          refine gg_gr (S := sX6_differ) cfX6 (by decide) (fun _ _ => rfl) 48 rfl flX6_47 dX6_differ_45 (fun t3 => ?_)
          refine gg_callVv (S := sX6_differ) (S' := sX6_writeDifference) (cs := 0) (sl := 0) (As := [vr t1, vr t2, vr t3]) (st := []) 51 rfl (fun b12 => lkX6_writeDifference b12 t1 t2 t3) mwX6_writeDifference rfl mlX6_130 dX6_differ_48 cfX6 ⟨by decide, by decide⟩ 0 0 ⟨rfl, rfl⟩ ⟨by decide, by decide⟩ (Nat.le_of_ble_eq_true rfl) (fun _ => ?_)
          refine gg_iload_n (S := sX6_differ) 5 52 rfl dX6_differ_51 rfl rfl ?_
          refine gg_if_ne (S := sX6_differ) (tgt := 74) 55 rfl dX6_differ_52 (by decide) ?_ ?_
          · refine gg_aload (S := sX6_differ) 1 57 rfl dX6_differ_55 rfl ?_
            refine gg_grN (S := sX6_differ) cfX5 (by decide) (fun _ _ => rfl) 60 rfl flX6_96 dX6_differ_57 (fun t7 => ?_)
            refine gg_callVi (S := sX6_differ) (S' := sX4_size) (cs := 0) (sl := 0) (As := []) (st := []) 63 rfl (fun b11 => lkX4_size b11) mwX4_size rfl mlX6_71 dX6_differ_60 cfX4 ⟨by decide, by decide⟩ 0 0 ⟨rfl, rfl⟩ ⟨by decide, by decide⟩ (Nat.le_of_ble_eq_true rfl) (fun t8 => ?_)
            refine gg_aload_n (S := sX6_differ) 2 64 rfl dX6_differ_63 rfl rfl ?_
            refine gg_gr (S := sX6_differ) cfX6 (by decide) (fun _ _ => rfl) 67 rfl flX6_47 dX6_differ_64 (fun t9 => ?_)
            refine gg_callVi (S := sX6_differ) (S' := sX3_allGoing) (cs := 0) (sl := 0) (As := []) (st := [vi t8]) 70 rfl (fun b10 => lkX3_allGoing b10) mwX3_allGoing rfl mlX6_134 dX6_differ_67 cfX3 ⟨by decide, by decide⟩ 0 0 ⟨rfl, rfl⟩ ⟨by decide, by decide⟩ (Nat.le_of_ble_eq_true rfl) (fun t10 => ?_)
            refine gg_isub (S := sX6_differ) 71 rfl dX6_differ_70 ?_
            refine gg_goto (S := sX6_differ) (tgt := 84) dX6_differ_71 (by decide) ?_
            exact gg_pure (gg_iret (S := sX6_differ) rfl dX6_differ_84 (by decide) (by decide))
          · refine gg_aload_n (S := sX6_differ) 2 75 rfl dX6_differ_74 rfl rfl ?_
            refine gg_gr (S := sX6_differ) cfX6 (by decide) (fun _ _ => rfl) 78 rfl flX6_47 dX6_differ_75 (fun t4 => ?_)
            refine gg_iload_n (S := sX6_differ) 5 79 rfl dX6_differ_78 rfl rfl ?_
            refine gg_iconst (S := sX6_differ) 80 rfl dX6_differ_79 ?_
            refine gg_isub (S := sX6_differ) 81 rfl dX6_differ_80 ?_
            refine gg_callSi (S := sX6_differ) (S' := sX6_tellPatch) (cs := 0) (sl := 0) (As := [vr t4, vi (x3 - 1)]) (st := []) 84 rfl (lkX6_tellPatch t4 (x3 - 1)) mwX6_tellPatch rfl mlX6_137 dX6_differ_81 ⟨by decide, by decide⟩ 0 0 ⟨rfl, rfl⟩ ⟨by decide, by decide⟩ (Nat.le_of_ble_eq_true rfl) (fun t5 => ?_)
            exact gg_pure (gg_iret (S := sX6_differ) rfl dX6_differ_84 (by decide) (by decide))
        · refine gg_bipush (S := sX6_differ) 38 rfl dX6_differ_36 (by decide) ?_
          exact gg_pure (gg_iret (S := sX6_differ) rfl dX6_differ_38 (by decide) (by decide))

set_option maxRecDepth 100000 in
set_option maxHeartbeats 4000000 in
theorem lkX6_differenceRoom (x0 : Nat) (x1 : Int) (x2 : Int) : LK yX6_differenceRoom sX6_differenceRoom [vr (some x0), vi x1, vi x2] en_i (X6_differenceRoom x0 x1 x2) := by
  refine lk_go (L := [(0, vr (some x0)), (1, vi x1), (2, vi x2)]) (by decide +kernel) rfl (fun h => by cases h) (Nat.le_of_ble_eq_true rfl) rfl ?_
  intro K
  unfold X6_differenceRoom
  refine gg_iload_n (S := sX6_differenceRoom) 1 1 rfl dX6_differenceRoom_0 rfl rfl ?_
  refine gg_bipush (S := sX6_differenceRoom) 3 rfl dX6_differenceRoom_1 (by decide) ?_
  refine gg_imul (S := sX6_differenceRoom) 4 rfl dX6_differenceRoom_3 ?_
  refine gg_iload_n (S := sX6_differenceRoom) 2 5 rfl dX6_differenceRoom_4 rfl rfl ?_
  refine gg_iadd (S := sX6_differenceRoom) 6 rfl dX6_differenceRoom_5 ?_
  refine gg_istore_n (S := sX6_differenceRoom) (L' := [(3, vi ((x1 * 10) + x2)), (0, vr (some x0)), (1, vi x1), (2, vi x2)]) 7 rfl dX6_differenceRoom_6 rfl (by decide) rfl ?_
  refine gg_iload_n (S := sX6_differenceRoom) 0 8 rfl dX6_differenceRoom_7 rfl rfl ?_
  refine gg_if_lt (S := sX6_differenceRoom) (tgt := 29) 11 rfl dX6_differenceRoom_8 (by decide) ?_ ?_
  · refine gg_iconst (S := sX6_differenceRoom) 30 rfl dX6_differenceRoom_29 ?_
    exact gg_pure (gg_iret (S := sX6_differenceRoom) rfl dX6_differenceRoom_30 (by decide) (by decide))
  · refine gg_iload_n (S := sX6_differenceRoom) 0 12 rfl dX6_differenceRoom_11 rfl rfl ?_
    refine gg_aload_n (S := sX6_differenceRoom) 1 13 rfl dX6_differenceRoom_12 rfl rfl ?_
    refine gg_gr (S := sX6_differenceRoom) cfX6 (by decide) (fun _ _ => rfl) 16 rfl flX6_33 dX6_differenceRoom_13 (fun t1 => ?_)
    refine gg_alen (S := sX6_differenceRoom) 17 rfl dX6_differenceRoom_16 (fun t2 => ?_)
    refine gg_ic_ge (S := sX6_differenceRoom) (tgt := 29) 20 rfl dX6_differenceRoom_17 (by decide) ?_ ?_
    · refine gg_aload_n (S := sX6_differenceRoom) 1 21 rfl dX6_differenceRoom_20 rfl rfl ?_
      refine gg_gr (S := sX6_differenceRoom) cfX6 (by decide) (fun _ _ => rfl) 24 rfl flX6_33 dX6_differenceRoom_21 (fun t3 => ?_)
      refine gg_iload_n (S := sX6_differenceRoom) 0 25 rfl dX6_differenceRoom_24 rfl rfl ?_
      refine gg_ld (S := sX6_differenceRoom) 26 rfl dX6_differenceRoom_25 (fun t4 => ?_)
      refine gg_goto (S := sX6_differenceRoom) (tgt := 30) dX6_differenceRoom_26 (by decide) ?_
      exact gg_pure (gg_iret (S := sX6_differenceRoom) rfl dX6_differenceRoom_30 (by decide) (by decide))
    · refine gg_iconst (S := sX6_differenceRoom) 30 rfl dX6_differenceRoom_29 ?_
      exact gg_pure (gg_iret (S := sX6_differenceRoom) rfl dX6_differenceRoom_30 (by decide) (by decide))

set_option maxRecDepth 100000 in
set_option maxHeartbeats 4000000 in
theorem lkX6_mixPatch (x0 : Int) (x2 : Option Nat) : LK yX6_mixPatch sX6_mixPatch [vl x0, vr x2] en_l (X6_mixPatch x0 x2) := by
  refine lk_go (L := [(0, vl x0), (2, vr x2)]) (by decide +kernel) rfl (fun h => by cases h) (Nat.le_of_ble_eq_true rfl) rfl ?_
  intro K
  unfold X6_mixPatch
  refine gg_lload_n (S := sX6_mixPatch) 0 1 rfl dX6_mixPatch_0 rfl rfl ?_
  refine gg_lstore_n (S := sX6_mixPatch) (L' := [(3, vl x0), (0, vl x0), (2, vr x2)]) 2 rfl dX6_mixPatch_1 rfl (by decide) rfl ?_
  refine gg_iconst (S := sX6_mixPatch) 3 rfl dX6_mixPatch_2 ?_
  refine gg_istore (S := sX6_mixPatch) (L' := [(5, vi 0), (3, vl x0), (0, vl x0), (2, vr x2)]) 5 rfl dX6_mixPatch_3 (by decide) rfl ?_
  refine gg_sub [3, 1, 0] rfl ?_
  refine gg_loopA (fun (y1, y2) => [(2, vr x2), (3, vl y1), (5, vi y2)]) (fun t7 => [(2, vr x2), (3, vl t7)]) 28 mo_N ?_ ?_ (x0, 0)
  · intro κ5 hr5 he5
    rintro ⟨y1, y2⟩
    dsimp only [X6_mixPatch_L5]
    refine gg_iload (S := sX6_mixPatch) 2 7 rfl dX6_mixPatch_5 rfl ?_
    refine gg_iconst (S := sX6_mixPatch) 8 rfl dX6_mixPatch_7 ?_
    refine gg_ic_gt (S := sX6_mixPatch) (tgt := 28) 11 rfl dX6_mixPatch_8 (by decide) ?_ ?_
    · refine gg_lload_n (S := sX6_mixPatch) 1 12 rfl dX6_mixPatch_11 rfl rfl ?_
      refine gg_aload_n (S := sX6_mixPatch) 0 13 rfl dX6_mixPatch_12 rfl rfl ?_
      refine gg_iload (S := sX6_mixPatch) 2 15 rfl dX6_mixPatch_13 rfl ?_
      refine gg_callSi (S := sX6_mixPatch) (S' := sX6_tellPatch) (cs := 0) (sl := 0) (As := [vr x2, vi y2]) (st := [vl y1]) 18 rfl (lkX6_tellPatch x2 y2) mwX6_tellPatch rfl mlX6_137 dX6_mixPatch_15 ⟨by decide, by decide⟩ 0 0 ⟨rfl, rfl⟩ ⟨by decide, by decide⟩ (Nat.le_of_ble_eq_true rfl) (fun t3 => ?_)
      refine gg_callSl (S := sX6_mixPatch) (S' := sX6_mix) (cs := 0) (sl := 0) (As := [vl y1, vi t3]) (st := []) 21 rfl (lkX6_mix y1 t3) mwX6_mix rfl mlX6_307 dX6_mixPatch_18 ⟨by decide, by decide⟩ 0 0 ⟨rfl, rfl⟩ ⟨by decide, by decide⟩ (Nat.le_of_ble_eq_true rfl) (fun t4 => ?_)
      refine gg_lstore_n (S := sX6_mixPatch) (L' := [(3, vl t4), (2, vr x2), (5, vi y2)]) 22 rfl dX6_mixPatch_21 rfl (by decide) rfl ?_
      refine gg_iinc (S := sX6_mixPatch) (L' := [(5, vi (y2 + 1)), (3, vl t4), (2, vr x2)]) 2 25 rfl dX6_mixPatch_22 rfl (by decide) rfl ?_
      refine gg_goto (S := sX6_mixPatch) (tgt := 5) dX6_mixPatch_25 (by decide) ?_
      exact gg_pure (gg_sub [2, 1, 0] rfl (hr5 (t4, (y2 + 1))))
    · exact gg_pure (gg_sub [0, 1] rfl (he5 y1))
  · intro t7
    refine gg_iconst (S := sX6_mixPatch) 29 rfl dX6_mixPatch_28 ?_
    refine gg_istore (S := sX6_mixPatch) (L' := [(5, vi 0), (2, vr x2), (3, vl t7)]) 31 rfl dX6_mixPatch_29 (by decide) rfl ?_
    refine gg_sub [1, 2, 0] rfl ?_
    refine gg_loopA (fun (y8, y9) => [(2, vr x2), (3, vl y8), (5, vi y9)]) (fun t42 => [(3, vl t42)]) 145 mo_N ?_ ?_ (t7, 0)
    · intro κ31 hr31 he31
      rintro ⟨y8, y9⟩
      dsimp only [X6_mixPatch_L31]
      refine gg_iload (S := sX6_mixPatch) 2 33 rfl dX6_mixPatch_31 rfl ?_
      refine gg_aload_n (S := sX6_mixPatch) 0 34 rfl dX6_mixPatch_33 rfl rfl ?_
      refine gg_callVi (S := sX6_mixPatch) (S' := sX3_hunks) (cs := 0) (sl := 0) (As := []) (st := [vi y9]) 37 rfl (fun b40 => lkX3_hunks b40) mwX3_hunks rfl mlX6_170 dX6_mixPatch_34 cfX3 ⟨by decide, by decide⟩ 0 0 ⟨rfl, rfl⟩ ⟨by decide, by decide⟩ (Nat.le_of_ble_eq_true rfl) (fun t10 => ?_)
      refine gg_ic_ge (S := sX6_mixPatch) (tgt := 145) 40 rfl dX6_mixPatch_37 (by decide) ?_ ?_
      · refine gg_lload_n (S := sX6_mixPatch) 1 41 rfl dX6_mixPatch_40 rfl rfl ?_
        refine gg_aload_n (S := sX6_mixPatch) 0 42 rfl dX6_mixPatch_41 rfl rfl ?_
        refine gg_iload (S := sX6_mixPatch) 2 44 rfl dX6_mixPatch_42 rfl ?_
        refine gg_callVi (S := sX6_mixPatch) (S' := sX3_begins) (cs := 0) (sl := 0) (As := [vi y9]) (st := [vl y8]) 47 rfl (fun b39 => lkX3_begins b39 y9) mwX3_begins rfl mlX6_188 dX6_mixPatch_44 cfX3 ⟨by decide, by decide⟩ 0 0 ⟨rfl, rfl⟩ ⟨by decide, by decide⟩ (Nat.le_of_ble_eq_true rfl) (fun t11 => ?_)
        refine gg_callSl (S := sX6_mixPatch) (S' := sX6_mix) (cs := 0) (sl := 0) (As := [vl y8, vi t11]) (st := []) 50 rfl (lkX6_mix y8 t11) mwX6_mix rfl mlX6_307 dX6_mixPatch_47 ⟨by decide, by decide⟩ 0 0 ⟨rfl, rfl⟩ ⟨by decide, by decide⟩ (Nat.le_of_ble_eq_true rfl) (fun t12 => ?_)
        refine gg_lstore_n (S := sX6_mixPatch) (L' := [(3, vl t12), (2, vr x2), (5, vi y9)]) 51 rfl dX6_mixPatch_50 rfl (by decide) rfl ?_
        refine gg_lload_n (S := sX6_mixPatch) 0 52 rfl dX6_mixPatch_51 rfl rfl ?_
        refine gg_aload_n (S := sX6_mixPatch) 1 53 rfl dX6_mixPatch_52 rfl rfl ?_
        refine gg_iload (S := sX6_mixPatch) 2 55 rfl dX6_mixPatch_53 rfl ?_
        refine gg_callVi (S := sX6_mixPatch) (S' := sX3_going) (cs := 0) (sl := 0) (As := [vi y9]) (st := [vl t12]) 58 rfl (fun b37 => lkX3_going b37 y9) mwX3_going rfl mlX6_191 dX6_mixPatch_55 cfX3 ⟨by decide, by decide⟩ 0 0 ⟨rfl, rfl⟩ ⟨by decide, by decide⟩ (Nat.le_of_ble_eq_true rfl) (fun t13 => ?_)
        refine gg_callSl (S := sX6_mixPatch) (S' := sX6_mix) (cs := 0) (sl := 0) (As := [vl t12, vi t13]) (st := []) 61 rfl (lkX6_mix t12 t13) mwX6_mix rfl mlX6_307 dX6_mixPatch_58 ⟨by decide, by decide⟩ 0 0 ⟨rfl, rfl⟩ ⟨by decide, by decide⟩ (Nat.le_of_ble_eq_true rfl) (fun t14 => ?_)
        refine gg_lstore_n (S := sX6_mixPatch) (L' := [(3, vl t14), (2, vr x2), (5, vi y9)]) 62 rfl dX6_mixPatch_61 rfl (by decide) rfl ?_
        refine gg_lload_n (S := sX6_mixPatch) 0 63 rfl dX6_mixPatch_62 rfl rfl ?_
        refine gg_aload_n (S := sX6_mixPatch) 1 64 rfl dX6_mixPatch_63 rfl rfl ?_
        refine gg_iload (S := sX6_mixPatch) 2 66 rfl dX6_mixPatch_64 rfl ?_
        refine gg_callVi (S := sX6_mixPatch) (S' := sX3_coming) (cs := 0) (sl := 0) (As := [vi y9]) (st := [vl t14]) 69 rfl (fun b35 => lkX3_coming b35 y9) mwX3_coming rfl mlX6_194 dX6_mixPatch_66 cfX3 ⟨by decide, by decide⟩ 0 0 ⟨rfl, rfl⟩ ⟨by decide, by decide⟩ (Nat.le_of_ble_eq_true rfl) (fun t15 => ?_)
        refine gg_callSl (S := sX6_mixPatch) (S' := sX6_mix) (cs := 0) (sl := 0) (As := [vl t14, vi t15]) (st := []) 72 rfl (lkX6_mix t14 t15) mwX6_mix rfl mlX6_307 dX6_mixPatch_69 ⟨by decide, by decide⟩ 0 0 ⟨rfl, rfl⟩ ⟨by decide, by decide⟩ (Nat.le_of_ble_eq_true rfl) (fun t16 => ?_)
        refine gg_lstore_n (S := sX6_mixPatch) (L' := [(3, vl t16), (2, vr x2), (5, vi y9)]) 73 rfl dX6_mixPatch_72 rfl (by decide) rfl ?_
        refine gg_iconst (S := sX6_mixPatch) 74 rfl dX6_mixPatch_73 ?_
        refine gg_istore (S := sX6_mixPatch) (L' := [(6, vi 0), (3, vl t16), (2, vr x2), (5, vi y9)]) 76 rfl dX6_mixPatch_74 (by decide) rfl ?_
        refine gg_sub [2, 1, 3, 0] rfl ?_
        refine gg_loopA (fun (y17, y18) => [(2, vr x2), (3, vl y17), (5, vi y9), (6, vi y18)]) (fun t25 => [(2, vr x2), (3, vl t25), (5, vi y9)]) 106 mo_N ?_ ?_ (t16, 0)
        · intro κ76 hr76 he76
          rintro ⟨y17, y18⟩
          dsimp only [X6_mixPatch_L76]
          refine gg_iload (S := sX6_mixPatch) 3 78 rfl dX6_mixPatch_76 rfl ?_
          refine gg_aload_n (S := sX6_mixPatch) 0 79 rfl dX6_mixPatch_78 rfl rfl ?_
          refine gg_iload (S := sX6_mixPatch) 2 81 rfl dX6_mixPatch_79 rfl ?_
          refine gg_callVi (S := sX6_mixPatch) (S' := sX3_going) (cs := 0) (sl := 0) (As := [vi y9]) (st := [vi y18]) 84 rfl (fun b23 => lkX3_going b23 y9) mwX3_going rfl mlX6_191 dX6_mixPatch_81 cfX3 ⟨by decide, by decide⟩ 0 0 ⟨rfl, rfl⟩ ⟨by decide, by decide⟩ (Nat.le_of_ble_eq_true rfl) (fun t19 => ?_)
          refine gg_ic_ge (S := sX6_mixPatch) (tgt := 106) 87 rfl dX6_mixPatch_84 (by decide) ?_ ?_
          · refine gg_lload_n (S := sX6_mixPatch) 1 88 rfl dX6_mixPatch_87 rfl rfl ?_
            refine gg_aload_n (S := sX6_mixPatch) 0 89 rfl dX6_mixPatch_88 rfl rfl ?_
            refine gg_iload (S := sX6_mixPatch) 2 91 rfl dX6_mixPatch_89 rfl ?_
            refine gg_iload (S := sX6_mixPatch) 3 93 rfl dX6_mixPatch_91 rfl ?_
            refine gg_callVi (S := sX6_mixPatch) (S' := sX3_goingLine) (cs := 0) (sl := 0) (As := [vi y9, vi y18]) (st := [vl y17]) 96 rfl (fun b22 => lkX3_goingLine b22 y9 y18) mwX3_goingLine rfl mlX6_197 dX6_mixPatch_93 cfX3 ⟨by decide, by decide⟩ 0 0 ⟨rfl, rfl⟩ ⟨by decide, by decide⟩ (Nat.le_of_ble_eq_true rfl) (fun t20 => ?_)
            refine gg_callSl (S := sX6_mixPatch) (S' := sX6_mix) (cs := 0) (sl := 0) (As := [vl y17, vi t20]) (st := []) 99 rfl (lkX6_mix y17 t20) mwX6_mix rfl mlX6_307 dX6_mixPatch_96 ⟨by decide, by decide⟩ 0 0 ⟨rfl, rfl⟩ ⟨by decide, by decide⟩ (Nat.le_of_ble_eq_true rfl) (fun t21 => ?_)
            refine gg_lstore_n (S := sX6_mixPatch) (L' := [(3, vl t21), (2, vr x2), (5, vi y9), (6, vi y18)]) 100 rfl dX6_mixPatch_99 rfl (by decide) rfl ?_
            refine gg_iinc (S := sX6_mixPatch) (L' := [(6, vi (y18 + 1)), (3, vl t21), (2, vr x2), (5, vi y9)]) 3 103 rfl dX6_mixPatch_100 rfl (by decide) rfl ?_
            refine gg_goto (S := sX6_mixPatch) (tgt := 76) dX6_mixPatch_103 (by decide) ?_
            exact gg_pure (gg_sub [2, 1, 3, 0] rfl (hr76 (t21, (y18 + 1))))
          · exact gg_pure (gg_sub [0, 1, 2] rfl (he76 y17))
        · intro t25
          refine gg_iconst (S := sX6_mixPatch) 107 rfl dX6_mixPatch_106 ?_
          refine gg_istore (S := sX6_mixPatch) (L' := [(6, vi 0), (2, vr x2), (3, vl t25), (5, vi y9)]) 109 rfl dX6_mixPatch_107 (by decide) rfl ?_
          refine gg_sub [1, 2, 3, 0] rfl ?_
          refine gg_loopA (fun (y26, y27) => [(2, vr x2), (3, vl y26), (5, vi y9), (6, vi y27)]) (fun t34 => [(2, vr x2), (3, vl t34), (5, vi y9)]) 139 mo_N ?_ ?_ (t25, 0)
          · intro κ109 hr109 he109
            rintro ⟨y26, y27⟩
            dsimp only [X6_mixPatch_L109]
            refine gg_iload (S := sX6_mixPatch) 3 111 rfl dX6_mixPatch_109 rfl ?_
            refine gg_aload_n (S := sX6_mixPatch) 0 112 rfl dX6_mixPatch_111 rfl rfl ?_
            refine gg_iload (S := sX6_mixPatch) 2 114 rfl dX6_mixPatch_112 rfl ?_
            refine gg_callVi (S := sX6_mixPatch) (S' := sX3_coming) (cs := 0) (sl := 0) (As := [vi y9]) (st := [vi y27]) 117 rfl (fun b32 => lkX3_coming b32 y9) mwX3_coming rfl mlX6_194 dX6_mixPatch_114 cfX3 ⟨by decide, by decide⟩ 0 0 ⟨rfl, rfl⟩ ⟨by decide, by decide⟩ (Nat.le_of_ble_eq_true rfl) (fun t28 => ?_)
            refine gg_ic_ge (S := sX6_mixPatch) (tgt := 139) 120 rfl dX6_mixPatch_117 (by decide) ?_ ?_
            · refine gg_lload_n (S := sX6_mixPatch) 1 121 rfl dX6_mixPatch_120 rfl rfl ?_
              refine gg_aload_n (S := sX6_mixPatch) 0 122 rfl dX6_mixPatch_121 rfl rfl ?_
              refine gg_iload (S := sX6_mixPatch) 2 124 rfl dX6_mixPatch_122 rfl ?_
              refine gg_iload (S := sX6_mixPatch) 3 126 rfl dX6_mixPatch_124 rfl ?_
              refine gg_callVi (S := sX6_mixPatch) (S' := sX3_comingLine) (cs := 0) (sl := 0) (As := [vi y9, vi y27]) (st := [vl y26]) 129 rfl (fun b31 => lkX3_comingLine b31 y9 y27) mwX3_comingLine rfl mlX6_201 dX6_mixPatch_126 cfX3 ⟨by decide, by decide⟩ 0 0 ⟨rfl, rfl⟩ ⟨by decide, by decide⟩ (Nat.le_of_ble_eq_true rfl) (fun t29 => ?_)
              refine gg_callSl (S := sX6_mixPatch) (S' := sX6_mix) (cs := 0) (sl := 0) (As := [vl y26, vi t29]) (st := []) 132 rfl (lkX6_mix y26 t29) mwX6_mix rfl mlX6_307 dX6_mixPatch_129 ⟨by decide, by decide⟩ 0 0 ⟨rfl, rfl⟩ ⟨by decide, by decide⟩ (Nat.le_of_ble_eq_true rfl) (fun t30 => ?_)
              refine gg_lstore_n (S := sX6_mixPatch) (L' := [(3, vl t30), (2, vr x2), (5, vi y9), (6, vi y27)]) 133 rfl dX6_mixPatch_132 rfl (by decide) rfl ?_
              refine gg_iinc (S := sX6_mixPatch) (L' := [(6, vi (y27 + 1)), (3, vl t30), (2, vr x2), (5, vi y9)]) 3 136 rfl dX6_mixPatch_133 rfl (by decide) rfl ?_
              refine gg_goto (S := sX6_mixPatch) (tgt := 109) dX6_mixPatch_136 (by decide) ?_
              exact gg_pure (gg_sub [2, 1, 3, 0] rfl (hr109 (t30, (y27 + 1))))
            · exact gg_pure (gg_sub [0, 1, 2] rfl (he109 y26))
          · intro t34
            refine gg_iinc (S := sX6_mixPatch) (L' := [(5, vi (y9 + 1)), (2, vr x2), (3, vl t34)]) 2 142 rfl dX6_mixPatch_139 rfl (by decide) rfl ?_
            refine gg_goto (S := sX6_mixPatch) (tgt := 31) dX6_mixPatch_142 (by decide) ?_
            exact gg_pure (gg_sub [1, 2, 0] rfl (hr31 (t34, (y9 + 1))))
      · exact gg_pure (gg_sub [1] rfl (he31 y8))
    · intro t42
      refine gg_lload_n (S := sX6_mixPatch) 0 146 rfl dX6_mixPatch_145 rfl rfl ?_
      exact gg_pure (gg_lret (S := sX6_mixPatch) rfl dX6_mixPatch_146 (by decide) (by decide))

set_option maxRecDepth 100000 in
set_option maxHeartbeats 4000000 in
theorem lkX6_mixVersion (x0 : Nat) (x1 : Int) (x3 : Int) : LK yX6_mixVersion sX6_mixVersion [vr (some x0), vl x1, vi x3] en_l (X6_mixVersion x0 x1 x3) := by
  refine lk_go (L := [(0, vr (some x0)), (1, vl x1), (3, vi x3)]) (by decide +kernel) rfl (fun h => by cases h) (Nat.le_of_ble_eq_true rfl) rfl ?_
  intro K
  unfold X6_mixVersion
  refine gg_lload_n (S := sX6_mixVersion) 1 1 rfl dX6_mixVersion_0 rfl rfl ?_
  refine gg_lstore (S := sX6_mixVersion) (L' := [(4, vl x1), (0, vr (some x0)), (1, vl x1), (3, vi x3)]) 3 rfl dX6_mixVersion_1 (by decide) rfl ?_
  refine gg_iconst (S := sX6_mixVersion) 4 rfl dX6_mixVersion_3 ?_
  refine gg_istore (S := sX6_mixVersion) (L' := [(6, vi 0), (4, vl x1), (0, vr (some x0)), (1, vl x1), (3, vi x3)]) 6 rfl dX6_mixVersion_4 (by decide) rfl ?_
  refine gg_sub [2, 4, 1, 0] rfl ?_
  refine gg_loopA (fun (y1, y2) => [(0, vr (some x0)), (3, vi x3), (4, vl y1), (6, vi y2)]) (fun t7 => [(0, vr (some x0)), (3, vi x3), (4, vl t7)]) 32 mo_N ?_ ?_ (x1, 0)
  · intro κ6 hr6 he6
    rintro ⟨y1, y2⟩
    dsimp only [X6_mixVersion_L6]
    refine gg_iload (S := sX6_mixVersion) 3 8 rfl dX6_mixVersion_6 rfl ?_
    refine gg_iconst (S := sX6_mixVersion) 9 rfl dX6_mixVersion_8 ?_
    refine gg_ic_gt (S := sX6_mixVersion) (tgt := 32) 12 rfl dX6_mixVersion_9 (by decide) ?_ ?_
    · refine gg_lload (S := sX6_mixVersion) 2 14 rfl dX6_mixVersion_12 rfl ?_
      refine gg_aload_n (S := sX6_mixVersion) 0 15 rfl dX6_mixVersion_14 rfl rfl ?_
      refine gg_iload_n (S := sX6_mixVersion) 1 16 rfl dX6_mixVersion_15 rfl rfl ?_
      refine gg_iload (S := sX6_mixVersion) 3 18 rfl dX6_mixVersion_16 rfl ?_
      refine gg_callVi (S := sX6_mixVersion) (S' := sX6_about) (cs := 0) (sl := 0) (As := [vi x3, vi y2]) (st := [vl y1]) 21 rfl (fun b5 => lkX6_about b5 x3 y2) mwX6_about rfl mlX6_313 dX6_mixVersion_18 cfX6 ⟨by decide, by decide⟩ 0 0 ⟨rfl, rfl⟩ ⟨by decide, by decide⟩ (Nat.le_of_ble_eq_true rfl) (fun t3 => ?_)
      refine gg_callSl (S := sX6_mixVersion) (S' := sX6_mix) (cs := 0) (sl := 0) (As := [vl y1, vi t3]) (st := []) 24 rfl (lkX6_mix y1 t3) mwX6_mix rfl mlX6_307 dX6_mixVersion_21 ⟨by decide, by decide⟩ 0 0 ⟨rfl, rfl⟩ ⟨by decide, by decide⟩ (Nat.le_of_ble_eq_true rfl) (fun t4 => ?_)
      refine gg_lstore (S := sX6_mixVersion) (L' := [(4, vl t4), (0, vr (some x0)), (3, vi x3), (6, vi y2)]) 26 rfl dX6_mixVersion_24 (by decide) rfl ?_
      refine gg_iinc (S := sX6_mixVersion) (L' := [(6, vi (y2 + 1)), (4, vl t4), (0, vr (some x0)), (3, vi x3)]) 3 29 rfl dX6_mixVersion_26 rfl (by decide) rfl ?_
      refine gg_goto (S := sX6_mixVersion) (tgt := 6) dX6_mixVersion_29 (by decide) ?_
      exact gg_pure (gg_sub [2, 3, 1, 0] rfl (hr6 (t4, (y2 + 1))))
    · exact gg_pure (gg_sub [0, 1, 2] rfl (he6 y1))
  · intro t7
    refine gg_aload_n (S := sX6_mixVersion) 0 33 rfl dX6_mixVersion_32 rfl rfl ?_
    refine gg_iload_n (S := sX6_mixVersion) 1 34 rfl dX6_mixVersion_33 rfl rfl ?_
    refine gg_callVr (S := sX6_mixVersion) (S' := sX6_versionOrNull) (cs := 0) (sl := 0) (As := [vi x3]) (st := []) 37 rfl (fun b11 => lkX6_versionOrNull b11 x3) mwX6_versionOrNull rfl mlX6_92 dX6_mixVersion_34 cfX6 ⟨by decide, by decide⟩ 0 0 ⟨rfl, rfl⟩ ⟨by decide, by decide⟩ (Nat.le_of_ble_eq_true rfl) (fun t8 => ?_)
    refine gg_astore (S := sX6_mixVersion) (L' := [(6, vr t8), (0, vr (some x0)), (3, vi x3), (4, vl t7)]) 39 rfl dX6_mixVersion_37 (by decide) rfl ?_
    refine gg_aload (S := sX6_mixVersion) 0 41 rfl dX6_mixVersion_39 rfl ?_
    refine gg_ifnonnull (S := sX6_mixVersion) (tgt := 49) 44 rfl dX6_mixVersion_41 (by decide) ?_ ?_
    · refine gg_lload (S := sX6_mixVersion) 3 46 rfl dX6_mixVersion_44 rfl ?_
      refine gg_goto (S := sX6_mixVersion) (tgt := 59) dX6_mixVersion_46 (by decide) ?_
      exact gg_pure (gg_lret (S := sX6_mixVersion) rfl dX6_mixVersion_59 (by decide) (by decide))
    · refine gg_aload (S := sX6_mixVersion) 0 51 rfl dX6_mixVersion_49 rfl ?_
      refine gg_grN (S := sX6_mixVersion) cfX5 (by decide) (fun _ _ => rfl) 54 rfl flX6_96 dX6_mixVersion_51 (fun t9 => ?_)
      refine gg_lload (S := sX6_mixVersion) 3 56 rfl dX6_mixVersion_54 rfl ?_
      refine gg_callVl (S := sX6_mixVersion) (S' := sX4_mixInto) (cs := 0) (sl := 0) (As := [vl t7]) (st := []) 59 rfl (fun b10 => lkX4_mixInto b10 t7) mwX4_mixInto rfl mlX6_292 dX6_mixVersion_56 cfX4 ⟨by decide, by decide⟩ 0 0 ⟨rfl, rfl⟩ ⟨by decide, by decide⟩ (Nat.le_of_ble_eq_true rfl) (fun t10 => ?_)
      exact gg_pure (gg_lret (S := sX6_mixVersion) rfl dX6_mixVersion_59 (by decide) (by decide))

set_option maxRecDepth 100000 in
set_option maxHeartbeats 4000000 in
theorem lkX6_patchOrNull (x0 : Nat) (x1 : Int) : LK yX6_patchOrNull sX6_patchOrNull [vr (some x0), vi x1] en_r (X6_patchOrNull x0 x1) := by
  refine lk_go (L := [(0, vr (some x0)), (1, vi x1)]) (by decide +kernel) rfl (fun h => by cases h) (Nat.le_of_ble_eq_true rfl) rfl ?_
  intro K
  unfold X6_patchOrNull
  refine gg_iload_n (S := sX6_patchOrNull) 1 1 rfl dX6_patchOrNull_0 rfl rfl ?_
  refine gg_if_lt (S := sX6_patchOrNull) (tgt := 30) 4 rfl dX6_patchOrNull_1 (by decide) ?_ ?_
  · refine gg_null (S := sX6_patchOrNull) 31 rfl dX6_patchOrNull_30 ?_
    exact gg_pure (gg_aret (S := sX6_patchOrNull) rfl dX6_patchOrNull_31 (by decide) (by decide))
  · refine gg_iload_n (S := sX6_patchOrNull) 1 5 rfl dX6_patchOrNull_4 rfl rfl ?_
    refine gg_aload_n (S := sX6_patchOrNull) 0 6 rfl dX6_patchOrNull_5 rfl rfl ?_
    refine gg_gi (S := sX6_patchOrNull) cfX6 (by decide) (fun _ _ => rfl) 9 rfl flX6_287 dX6_patchOrNull_6 (fun t1 => ?_)
    refine gg_ic_ge (S := sX6_patchOrNull) (tgt := 30) 12 rfl dX6_patchOrNull_9 (by decide) ?_ ?_
    · refine gg_iload_n (S := sX6_patchOrNull) 1 13 rfl dX6_patchOrNull_12 rfl rfl ?_
      refine gg_aload_n (S := sX6_patchOrNull) 0 14 rfl dX6_patchOrNull_13 rfl rfl ?_
      refine gg_gr (S := sX6_patchOrNull) cfX6 (by decide) (fun _ _ => rfl) 17 rfl flX6_29 dX6_patchOrNull_14 (fun t2 => ?_)
      refine gg_alen (S := sX6_patchOrNull) 18 rfl dX6_patchOrNull_17 (fun t3 => ?_)
      refine gg_ic_ge (S := sX6_patchOrNull) (tgt := 30) 21 rfl dX6_patchOrNull_18 (by decide) ?_ ?_
      · refine gg_aload_n (S := sX6_patchOrNull) 0 22 rfl dX6_patchOrNull_21 rfl rfl ?_
        refine gg_gr (S := sX6_patchOrNull) cfX6 (by decide) (fun _ _ => rfl) 25 rfl flX6_29 dX6_patchOrNull_22 (fun t4 => ?_)
        refine gg_iload_n (S := sX6_patchOrNull) 1 26 rfl dX6_patchOrNull_25 rfl rfl ?_
        refine gg_rl3 (S := sX6_patchOrNull) 27 rfl dX6_patchOrNull_26 (fun t5 => ?_)
        refine gg_goto (S := sX6_patchOrNull) (tgt := 31) dX6_patchOrNull_27 (by decide) ?_
        exact gg_pure (gg_aret (S := sX6_patchOrNull) rfl dX6_patchOrNull_31 (by decide) (by decide))
      · refine gg_null (S := sX6_patchOrNull) 31 rfl dX6_patchOrNull_30 ?_
        exact gg_pure (gg_aret (S := sX6_patchOrNull) rfl dX6_patchOrNull_31 (by decide) (by decide))
    · refine gg_null (S := sX6_patchOrNull) 31 rfl dX6_patchOrNull_30 ?_
      exact gg_pure (gg_aret (S := sX6_patchOrNull) rfl dX6_patchOrNull_31 (by decide) (by decide))

set_option maxRecDepth 100000 in
set_option maxHeartbeats 4000000 in
theorem lkX6_digest (x0 : Nat) : LK yX6_digest sX6_digest [vr (some x0)] en_l (X6_digest x0) := by
  refine lk_go (L := [(0, vr (some x0))]) (by decide +kernel) rfl (fun h => by cases h) (Nat.le_of_ble_eq_true rfl) rfl ?_
  intro K
  unfold X6_digest
  refine gg_aload_n (S := sX6_digest) 0 1 rfl dX6_digest_0 rfl rfl ?_
  refine gg_gr (S := sX6_digest) cfX6 (by decide) (fun _ _ => rfl) 4 rfl flX6_14 dX6_digest_1 (fun t1 => ?_)
  refine gg_ldc2 (S := sX6_digest) (n := 271) 7 rfl dX6_digest_4 clX6_290 (by decide) ?_
  refine gg_callVl (S := sX6_digest) (S' := sX4_mixInto) (cs := 0) (sl := 0) (As := [vl 271]) (st := []) 10 rfl (fun b37 => lkX4_mixInto b37 271) mwX4_mixInto rfl mlX6_292 dX6_digest_7 cfX4 ⟨by decide, by decide⟩ 0 0 ⟨rfl, rfl⟩ ⟨by decide, by decide⟩ (Nat.le_of_ble_eq_true rfl) (fun t2 => ?_)
  refine gg_lstore_n (S := sX6_digest) (L' := [(1, vl t2), (0, vr (some x0))]) 11 rfl dX6_digest_10 rfl (by decide) rfl ?_
  refine gg_iconst (S := sX6_digest) 12 rfl dX6_digest_11 ?_
  refine gg_istore_n (S := sX6_digest) (L' := [(3, vi 0), (1, vl t2), (0, vr (some x0))]) 13 rfl dX6_digest_12 rfl (by decide) rfl ?_
  refine gg_sub [2, 1, 0] rfl ?_
  refine gg_loopA (fun (y3, y4) => [(0, vr (some x0)), (1, vl y3), (3, vi y4)]) (fun t8 => [(0, vr (some x0)), (1, vl t8)]) 34 mo_N ?_ ?_ (t2, 0)
  · intro κ13 hr13 he13
    rintro ⟨y3, y4⟩
    dsimp only [X6_digest_L13]
    refine gg_iload_n (S := sX6_digest) 2 14 rfl dX6_digest_13 rfl rfl ?_
    refine gg_aload_n (S := sX6_digest) 0 15 rfl dX6_digest_14 rfl rfl ?_
    refine gg_gi (S := sX6_digest) cfX6 (by decide) (fun _ _ => rfl) 18 rfl flX6_106 dX6_digest_15 (fun t5 => ?_)
    refine gg_ic_ge (S := sX6_digest) (tgt := 34) 21 rfl dX6_digest_18 (by decide) ?_ ?_
    · refine gg_aload_n (S := sX6_digest) 0 22 rfl dX6_digest_21 rfl rfl ?_
      refine gg_lload_n (S := sX6_digest) 1 23 rfl dX6_digest_22 rfl rfl ?_
      refine gg_iload_n (S := sX6_digest) 2 24 rfl dX6_digest_23 rfl rfl ?_
      refine gg_callVl (S := sX6_digest) (S' := sX6_mixVersion) (cs := 0) (sl := 0) (As := [vl y3, vi y4]) (st := []) 27 rfl (fun b6 => lkX6_mixVersion b6 y3 y4) mwX6_mixVersion rfl mlX6_296 dX6_digest_24 cfX6 ⟨by decide, by decide⟩ 0 0 ⟨rfl, rfl⟩ ⟨by decide, by decide⟩ (Nat.le_of_ble_eq_true rfl) (fun t6 => ?_)
      refine gg_lstore_n (S := sX6_digest) (L' := [(1, vl t6), (0, vr (some x0)), (3, vi y4)]) 28 rfl dX6_digest_27 rfl (by decide) rfl ?_
      refine gg_iinc (S := sX6_digest) (L' := [(3, vi (y4 + 1)), (1, vl t6), (0, vr (some x0))]) 2 31 rfl dX6_digest_28 rfl (by decide) rfl ?_
      refine gg_goto (S := sX6_digest) (tgt := 13) dX6_digest_31 (by decide) ?_
      exact gg_pure (gg_sub [2, 1, 0] rfl (hr13 (t6, (y4 + 1))))
    · exact gg_pure (gg_sub [0, 1] rfl (he13 y3))
  · intro t8
    refine gg_iconst (S := sX6_digest) 35 rfl dX6_digest_34 ?_
    refine gg_istore_n (S := sX6_digest) (L' := [(3, vi 0), (0, vr (some x0)), (1, vl t8)]) 36 rfl dX6_digest_35 rfl (by decide) rfl ?_
    refine gg_sub [1, 2, 0] rfl ?_
    refine gg_loopA (fun (y9, y10) => [(0, vr (some x0)), (1, vl y9), (3, vi y10)]) (fun t17 => [(0, vr (some x0)), (1, vl t17)]) 73 mo_N ?_ ?_ (t8, 0)
    · intro κ36 hr36 he36
      rintro ⟨y9, y10⟩
      dsimp only [X6_digest_L36]
      refine gg_iload_n (S := sX6_digest) 2 37 rfl dX6_digest_36 rfl rfl ?_
      refine gg_aload_n (S := sX6_digest) 0 38 rfl dX6_digest_37 rfl rfl ?_
      refine gg_gi (S := sX6_digest) cfX6 (by decide) (fun _ _ => rfl) 41 rfl flX6_287 dX6_digest_38 (fun t11 => ?_)
      refine gg_ic_ge (S := sX6_digest) (tgt := 73) 44 rfl dX6_digest_41 (by decide) ?_ ?_
      · refine gg_aload_n (S := sX6_digest) 0 45 rfl dX6_digest_44 rfl rfl ?_
        refine gg_iload_n (S := sX6_digest) 2 46 rfl dX6_digest_45 rfl rfl ?_
        refine gg_callVr (S := sX6_digest) (S' := sX6_patchOrNull) (cs := 0) (sl := 0) (As := [vi y10]) (st := []) 49 rfl (fun b15 => lkX6_patchOrNull b15 y10) mwX6_patchOrNull rfl mlX6_159 dX6_digest_46 cfX6 ⟨by decide, by decide⟩ 0 0 ⟨rfl, rfl⟩ ⟨by decide, by decide⟩ (Nat.le_of_ble_eq_true rfl) (fun t12 => ?_)
        refine gg_astore (S := sX6_digest) (L' := [(4, vr t12), (0, vr (some x0)), (1, vl y9), (3, vi y10)]) 51 rfl dX6_digest_49 (by decide) rfl ?_
        refine gg_aload (S := sX6_digest) 0 53 rfl dX6_digest_51 rfl ?_
        refine gg_join (fun t15 => [(0, vr (some x0)), (3, vi y10)]) (fun t15 => [vl t15]) 66 0 0 (fun κ53 hJ53 => ?_) ?_
        · refine gg_ifnonnull (S := sX6_digest) (tgt := 60) 56 rfl dX6_digest_53 (by decide) ?_ ?_
          · refine gg_lload_n (S := sX6_digest) 2 57 rfl dX6_digest_56 rfl rfl ?_
            refine gg_goto (S := sX6_digest) (tgt := 66) dX6_digest_57 (by decide) ?_
            exact gg_pure (gg_sub [1, 3] rfl (hJ53 y9))
          · refine gg_lload_n (S := sX6_digest) 2 61 rfl dX6_digest_60 rfl rfl ?_
            refine gg_aload (S := sX6_digest) 0 63 rfl dX6_digest_61 rfl ?_
            refine gg_callSl (S := sX6_digest) (S' := sX6_mixPatch) (cs := 0) (sl := 0) (As := [vl y9, vr t12]) (st := []) 66 rfl (lkX6_mixPatch y9 t12) mwX6_mixPatch rfl mlX6_300 dX6_digest_63 ⟨by decide, by decide⟩ 0 0 ⟨rfl, rfl⟩ ⟨by decide, by decide⟩ (Nat.le_of_ble_eq_true rfl) (fun t13 => ?_)
            exact gg_pure (gg_sub [1, 3] rfl (hJ53 t13))
        · intro t15
          refine gg_lstore_n (S := sX6_digest) (L' := [(1, vl t15), (0, vr (some x0)), (3, vi y10)]) 67 rfl dX6_digest_66 rfl (by decide) rfl ?_
          refine gg_iinc (S := sX6_digest) (L' := [(3, vi (y10 + 1)), (1, vl t15), (0, vr (some x0))]) 2 70 rfl dX6_digest_67 rfl (by decide) rfl ?_
          refine gg_goto (S := sX6_digest) (tgt := 36) dX6_digest_70 (by decide) ?_
          exact gg_pure (gg_sub [2, 1, 0] rfl (hr36 (t15, (y10 + 1))))
      · exact gg_pure (gg_sub [0, 1] rfl (he36 y9))
    · intro t17
      refine gg_iconst (S := sX6_digest) 74 rfl dX6_digest_73 ?_
      refine gg_istore_n (S := sX6_digest) (L' := [(3, vi 0), (0, vr (some x0)), (1, vl t17)]) 75 rfl dX6_digest_74 rfl (by decide) rfl ?_
      refine gg_sub [1, 2, 0] rfl ?_
      refine gg_loopA (fun (y18, y19) => [(0, vr (some x0)), (1, vl y18), (3, vi y19)]) (fun t30 => [(0, vr (some x0)), (1, vl t30)]) 129 mo_N ?_ ?_ (t17, 0)
      · intro κ75 hr75 he75
        rintro ⟨y18, y19⟩
        dsimp only [X6_digest_L75]
        refine gg_iload_n (S := sX6_digest) 2 76 rfl dX6_digest_75 rfl rfl ?_
        refine gg_aload_n (S := sX6_digest) 0 77 rfl dX6_digest_76 rfl rfl ?_
        refine gg_gi (S := sX6_digest) cfX6 (by decide) (fun _ _ => rfl) 80 rfl flX6_106 dX6_digest_77 (fun t20 => ?_)
        refine gg_ic_ge (S := sX6_digest) (tgt := 129) 83 rfl dX6_digest_80 (by decide) ?_ ?_
        · refine gg_iconst (S := sX6_digest) 84 rfl dX6_digest_83 ?_
          refine gg_istore (S := sX6_digest) (L' := [(4, vi 0), (0, vr (some x0)), (1, vl y18), (3, vi y19)]) 86 rfl dX6_digest_84 (by decide) rfl ?_
          refine gg_sub [1, 2, 3, 0] rfl ?_
          refine gg_loopA (fun (y21, y22) => [(0, vr (some x0)), (1, vl y21), (3, vi y19), (4, vi y22)]) (fun t29 => [(0, vr (some x0)), (1, vl t29), (3, vi y19)]) 123 mo_N ?_ ?_ (y18, 0)
          · intro κ86 hr86 he86
            rintro ⟨y21, y22⟩
            dsimp only [X6_digest_L86]
            refine gg_iload (S := sX6_digest) 3 88 rfl dX6_digest_86 rfl ?_
            refine gg_aload_n (S := sX6_digest) 0 89 rfl dX6_digest_88 rfl rfl ?_
            refine gg_gi (S := sX6_digest) cfX6 (by decide) (fun _ _ => rfl) 92 rfl flX6_106 dX6_digest_89 (fun t23 => ?_)
            refine gg_ic_ge (S := sX6_digest) (tgt := 123) 95 rfl dX6_digest_92 (by decide) ?_ ?_
            · refine gg_iload_n (S := sX6_digest) 2 96 rfl dX6_digest_95 rfl rfl ?_
              refine gg_iload (S := sX6_digest) 3 98 rfl dX6_digest_96 rfl ?_
              refine gg_join (fun t28 => [(0, vr (some x0)), (3, vi y19), (4, vi y22)]) (fun t28 => [vl t28]) 116 0 0 (fun κ98 hJ98 => ?_) ?_
              · refine gg_ic_ne (S := sX6_digest) (tgt := 105) 101 rfl dX6_digest_98 (by decide) ?_ ?_
                · refine gg_lload_n (S := sX6_digest) 1 102 rfl dX6_digest_101 rfl rfl ?_
                  refine gg_goto (S := sX6_digest) (tgt := 116) dX6_digest_102 (by decide) ?_
                  exact gg_pure (gg_sub [0, 2, 3] rfl (hJ98 y21))
                · refine gg_lload_n (S := sX6_digest) 1 106 rfl dX6_digest_105 rfl rfl ?_
                  refine gg_aload_n (S := sX6_digest) 0 107 rfl dX6_digest_106 rfl rfl ?_
                  refine gg_iload_n (S := sX6_digest) 2 108 rfl dX6_digest_107 rfl rfl ?_
                  refine gg_iload (S := sX6_digest) 3 110 rfl dX6_digest_108 rfl ?_
                  refine gg_callVi (S := sX6_digest) (S' := sX6_differenceRoom) (cs := 0) (sl := 0) (As := [vi y19, vi y22]) (st := [vl y21]) 113 rfl (fun b26 => lkX6_differenceRoom b26 y19 y22) mwX6_differenceRoom rfl mlX6_304 dX6_digest_110 cfX6 ⟨by decide, by decide⟩ 0 0 ⟨rfl, rfl⟩ ⟨by decide, by decide⟩ (Nat.le_of_ble_eq_true rfl) (fun t24 => ?_)
                  refine gg_callSl (S := sX6_digest) (S' := sX6_mix) (cs := 0) (sl := 0) (As := [vl y21, vi t24]) (st := []) 116 rfl (lkX6_mix y21 t24) mwX6_mix rfl mlX6_307 dX6_digest_113 ⟨by decide, by decide⟩ 0 0 ⟨rfl, rfl⟩ ⟨by decide, by decide⟩ (Nat.le_of_ble_eq_true rfl) (fun t25 => ?_)
                  exact gg_pure (gg_sub [0, 2, 3] rfl (hJ98 t25))
              · intro t28
                refine gg_lstore_n (S := sX6_digest) (L' := [(1, vl t28), (0, vr (some x0)), (3, vi y19), (4, vi y22)]) 117 rfl dX6_digest_116 rfl (by decide) rfl ?_
                refine gg_iinc (S := sX6_digest) (L' := [(4, vi (y22 + 1)), (1, vl t28), (0, vr (some x0)), (3, vi y19)]) 3 120 rfl dX6_digest_117 rfl (by decide) rfl ?_
                refine gg_goto (S := sX6_digest) (tgt := 86) dX6_digest_120 (by decide) ?_
                exact gg_pure (gg_sub [2, 1, 3, 0] rfl (hr86 (t28, (y22 + 1))))
            · exact gg_pure (gg_sub [0, 1, 2] rfl (he86 y21))
          · intro t29
            refine gg_iinc (S := sX6_digest) (L' := [(3, vi (y19 + 1)), (0, vr (some x0)), (1, vl t29)]) 2 126 rfl dX6_digest_123 rfl (by decide) rfl ?_
            refine gg_goto (S := sX6_digest) (tgt := 75) dX6_digest_126 (by decide) ?_
            exact gg_pure (gg_sub [1, 2, 0] rfl (hr75 (t29, (y19 + 1))))
        · exact gg_pure (gg_sub [0, 1] rfl (he75 y18))
      · intro t30
        refine gg_iconst (S := sX6_digest) 130 rfl dX6_digest_129 ?_
        refine gg_istore_n (S := sX6_digest) (L' := [(3, vi 0), (0, vr (some x0)), (1, vl t30)]) 131 rfl dX6_digest_130 rfl (by decide) rfl ?_
        refine gg_sub [1, 2, 0] rfl ?_
        refine gg_loopA (fun (y31, y32) => [(0, vr (some x0)), (1, vl y31), (3, vi y32)]) (fun t37 => [(1, vl t37)]) 152 mo_N ?_ ?_ (t30, 0)
        · intro κ131 hr131 he131
          rintro ⟨y31, y32⟩
          dsimp only [X6_digest_L131]
          refine gg_iload_n (S := sX6_digest) 2 132 rfl dX6_digest_131 rfl rfl ?_
          refine gg_iconst (S := sX6_digest) 133 rfl dX6_digest_132 ?_
          refine gg_ic_gt (S := sX6_digest) (tgt := 152) 136 rfl dX6_digest_133 (by decide) ?_ ?_
          · refine gg_lload_n (S := sX6_digest) 1 137 rfl dX6_digest_136 rfl rfl ?_
            refine gg_aload_n (S := sX6_digest) 0 138 rfl dX6_digest_137 rfl rfl ?_
            refine gg_iload_n (S := sX6_digest) 2 139 rfl dX6_digest_138 rfl rfl ?_
            refine gg_callVi (S := sX6_digest) (S' := sX6_count) (cs := 0) (sl := 0) (As := [vi y32]) (st := [vl y31]) 142 rfl (fun b35 => lkX6_count b35 y32) mwX6_count rfl mlX6_310 dX6_digest_139 cfX6 ⟨by decide, by decide⟩ 0 0 ⟨rfl, rfl⟩ ⟨by decide, by decide⟩ (Nat.le_of_ble_eq_true rfl) (fun t33 => ?_)
            refine gg_callSl (S := sX6_digest) (S' := sX6_mix) (cs := 0) (sl := 0) (As := [vl y31, vi t33]) (st := []) 145 rfl (lkX6_mix y31 t33) mwX6_mix rfl mlX6_307 dX6_digest_142 ⟨by decide, by decide⟩ 0 0 ⟨rfl, rfl⟩ ⟨by decide, by decide⟩ (Nat.le_of_ble_eq_true rfl) (fun t34 => ?_)
            refine gg_lstore_n (S := sX6_digest) (L' := [(1, vl t34), (0, vr (some x0)), (3, vi y32)]) 146 rfl dX6_digest_145 rfl (by decide) rfl ?_
            refine gg_iinc (S := sX6_digest) (L' := [(3, vi (y32 + 1)), (1, vl t34), (0, vr (some x0))]) 2 149 rfl dX6_digest_146 rfl (by decide) rfl ?_
            refine gg_goto (S := sX6_digest) (tgt := 131) dX6_digest_149 (by decide) ?_
            exact gg_pure (gg_sub [2, 1, 0] rfl (hr131 (t34, (y32 + 1))))
          · exact gg_pure (gg_sub [1] rfl (he131 y31))
        · intro t37
          refine gg_lload_n (S := sX6_digest) 0 153 rfl dX6_digest_152 rfl rfl ?_
          exact gg_pure (gg_lret (S := sX6_digest) rfl dX6_digest_153 (by decide) (by decide))

set_option maxRecDepth 100000 in
set_option maxHeartbeats 4000000 in
theorem lkX6_drop (x0 : Nat) (x1 : Int) : LK yX6_drop sX6_drop [vr (some x0), vi x1] en_i (X6_drop x0 x1) := by
  refine lk_go (L := [(0, vr (some x0)), (1, vi x1)]) (by decide +kernel) rfl (fun h => by cases h) (Nat.le_of_ble_eq_true rfl) rfl ?_
  intro K
  unfold X6_drop
  refine gg_iload_n (S := sX6_drop) 1 1 rfl dX6_drop_0 rfl rfl ?_
  refine gg_if_lt (S := sX6_drop) (tgt := 15) 4 rfl dX6_drop_1 (by decide) ?_ ?_
  · refine gg_bipush (S := sX6_drop) 17 rfl dX6_drop_15 (by decide) ?_
    exact gg_pure (gg_iret (S := sX6_drop) rfl dX6_drop_17 (by decide) (by decide))
  · refine gg_iload_n (S := sX6_drop) 1 5 rfl dX6_drop_4 rfl rfl ?_
    refine gg_aload_n (S := sX6_drop) 0 6 rfl dX6_drop_5 rfl rfl ?_
    refine gg_gr (S := sX6_drop) cfX6 (by decide) (fun _ _ => rfl) 9 rfl flX6_14 dX6_drop_6 (fun t1 => ?_)
    refine gg_callVi (S := sX6_drop) (S' := sX4_size) (cs := 0) (sl := 0) (As := []) (st := [vi x1]) 12 rfl (fun b7 => lkX4_size b7) mwX4_size rfl mlX6_71 dX6_drop_9 cfX4 ⟨by decide, by decide⟩ 0 0 ⟨rfl, rfl⟩ ⟨by decide, by decide⟩ (Nat.le_of_ble_eq_true rfl) (fun t2 => ?_)
    refine gg_ic_lt (S := sX6_drop) (tgt := 18) 15 rfl dX6_drop_12 (by decide) ?_ ?_
    · refine gg_aload_n (S := sX6_drop) 0 19 rfl dX6_drop_18 rfl rfl ?_
      refine gg_gr (S := sX6_drop) cfX6 (by decide) (fun _ _ => rfl) 22 rfl flX6_14 dX6_drop_19 (fun t3 => ?_)
      refine gg_iload_n (S := sX6_drop) 1 23 rfl dX6_drop_22 rfl rfl ?_
      refine gg_callVi (S := sX6_drop) (S' := sX4_at) (cs := 0) (sl := 0) (As := [vi x1]) (st := []) 26 rfl (fun b6 => lkX4_at b6 x1) mwX4_at rfl mlX6_82 dX6_drop_23 cfX4 ⟨by decide, by decide⟩ 0 0 ⟨rfl, rfl⟩ ⟨by decide, by decide⟩ (Nat.le_of_ble_eq_true rfl) (fun t4 => ?_)
      refine gg_istore_n (S := sX6_drop) (L' := [(2, vi t4), (0, vr (some x0)), (1, vi x1)]) 27 rfl dX6_drop_26 rfl (by decide) rfl ?_
      refine gg_aload_n (S := sX6_drop) 1 28 rfl dX6_drop_27 rfl rfl ?_
      refine gg_gr (S := sX6_drop) cfX6 (by decide) (fun _ _ => rfl) 31 rfl flX6_14 dX6_drop_28 (fun t5 => ?_)
      refine gg_iload_n (S := sX6_drop) 2 32 rfl dX6_drop_31 rfl rfl ?_
      refine gg_callVv (S := sX6_drop) (S' := sX4_remove) (cs := 0) (sl := 0) (As := [vi x1]) (st := []) 35 rfl (fun b5 => lkX4_remove b5 x1) mwX4_remove rfl mlX6_86 dX6_drop_32 cfX4 ⟨by decide, by decide⟩ 0 0 ⟨rfl, rfl⟩ ⟨by decide, by decide⟩ (Nat.le_of_ble_eq_true rfl) (fun _ => ?_)
      refine gg_iload_n (S := sX6_drop) 0 36 rfl dX6_drop_35 rfl rfl ?_
      exact gg_pure (gg_iret (S := sX6_drop) rfl dX6_drop_36 (by decide) (by decide))
    · refine gg_bipush (S := sX6_drop) 17 rfl dX6_drop_15 (by decide) ?_
      exact gg_pure (gg_iret (S := sX6_drop) rfl dX6_drop_17 (by decide) (by decide))

set_option maxRecDepth 100000 in
set_option maxHeartbeats 4000000 in
theorem lkX6_findStore (x0 : Nat) (x1 : Int) (x2 : Int) : LK yX6_findStore sX6_findStore [vr (some x0), vi x1, vi x2] en_v (X6_findStore x0 x1 x2) := by
  refine lk_go (L := [(0, vr (some x0)), (1, vi x1), (2, vi x2)]) (by decide +kernel) rfl (fun h => by cases h) (Nat.le_of_ble_eq_true rfl) rfl ?_
  intro K
  unfold X6_findStore
  refine gg_aload_n (S := sX6_findStore) 0 1 rfl dX6_findStore_0 rfl rfl ?_
  refine gg_dup (S := sX6_findStore) 2 rfl dX6_findStore_1 rfl ?_
  refine gg_gi (S := sX6_findStore) cfX6 (by decide) (fun _ _ => rfl) 5 rfl flX6_257 dX6_findStore_2 (fun t1 => ?_)
  refine gg_iconst (S := sX6_findStore) 6 rfl dX6_findStore_5 ?_
  refine gg_iadd (S := sX6_findStore) 7 rfl dX6_findStore_6 ?_
  refine gg_si (S := sX6_findStore) cfX6 (by decide) rfl (fun _ _ => rfl) rfl 10 rfl flX6_257 dX6_findStore_7 ?_
  refine gg_aload_n (S := sX6_findStore) 0 11 rfl dX6_findStore_10 rfl rfl ?_
  refine gg_gr (S := sX6_findStore) cfX6 (by decide) (fun _ _ => rfl) 14 rfl flX6_67 dX6_findStore_11 (fun t2 => ?_)
  refine gg_iload_n (S := sX6_findStore) 1 15 rfl dX6_findStore_14 rfl rfl ?_
  refine gg_iload_n (S := sX6_findStore) 2 16 rfl dX6_findStore_15 rfl rfl ?_
  refine gg_callVv (S := sX6_findStore) (S' := sX2_clear) (cs := 0) (sl := 0) (As := [vi x1, vi x2]) (st := []) 19 rfl (fun b18 => lkX2_clear b18 x1 x2) mwX2_clear rfl mlX6_352 dX6_findStore_16 cfX2 ⟨by decide, by decide⟩ 0 0 ⟨rfl, rfl⟩ ⟨by decide, by decide⟩ (Nat.le_of_ble_eq_true rfl) (fun _ => ?_)
  refine gg_iconst (S := sX6_findStore) 20 rfl dX6_findStore_19 ?_
  refine gg_istore_n (S := sX6_findStore) (L' := [(3, vi 0), (0, vr (some x0)), (1, vi x1), (2, vi x2)]) 21 rfl dX6_findStore_20 rfl (by decide) rfl ?_
  refine gg_sub [1, 2, 0] rfl ?_
  refine gg_loopA (fun y3 => [(0, vr (some x0)), (1, vi x1), (3, vi y3)]) (fun _ => [(0, vr (some x0))]) 97 mo_N ?_ ?_ 0
  · intro κ21 hr21 he21
    intro y3
    dsimp only [X6_findStore_L21]
    refine gg_iload_n (S := sX6_findStore) 2 22 rfl dX6_findStore_21 rfl rfl ?_
    refine gg_iload_n (S := sX6_findStore) 1 23 rfl dX6_findStore_22 rfl rfl ?_
    refine gg_ic_ge (S := sX6_findStore) (tgt := 97) 26 rfl dX6_findStore_23 (by decide) ?_ ?_
    · refine gg_aload_n (S := sX6_findStore) 0 27 rfl dX6_findStore_26 rfl rfl ?_
      refine gg_iload_n (S := sX6_findStore) 2 28 rfl dX6_findStore_27 rfl rfl ?_
      refine gg_callVr (S := sX6_findStore) (S' := sX6_versionOrNull) (cs := 0) (sl := 0) (As := [vi y3]) (st := []) 31 rfl (fun b15 => lkX6_versionOrNull b15 y3) mwX6_versionOrNull rfl mlX6_92 dX6_findStore_28 cfX6 ⟨by decide, by decide⟩ 0 0 ⟨rfl, rfl⟩ ⟨by decide, by decide⟩ (Nat.le_of_ble_eq_true rfl) (fun t4 => ?_)
      refine gg_astore (S := sX6_findStore) (L' := [(4, vr t4), (0, vr (some x0)), (1, vi x1), (3, vi y3)]) 33 rfl dX6_findStore_31 (by decide) rfl ?_
      refine gg_aload (S := sX6_findStore) 0 35 rfl dX6_findStore_33 rfl ?_
      refine gg_join (fun _ => [(0, vr (some x0)), (1, vi x1), (3, vi y3)]) (fun _ => []) 59 0 0 (fun κ35 hJ35 => ?_) ?_
      · refine gg_ifnull (S := sX6_findStore) (tgt := 59) 38 rfl dX6_findStore_35 (by decide) ?_ ?_
        · exact gg_pure (gg_sub [1, 2, 3] rfl (hJ35 ()))
        · refine gg_aload_n (S := sX6_findStore) 1 39 rfl dX6_findStore_38 rfl rfl ?_
          refine gg_gr (S := sX6_findStore) cfX6 (by decide) (fun _ _ => rfl) 42 rfl flX6_67 dX6_findStore_39 (fun t5 => ?_)
          refine gg_iload_n (S := sX6_findStore) 3 43 rfl dX6_findStore_42 rfl rfl ?_
          refine gg_aload (S := sX6_findStore) 0 45 rfl dX6_findStore_43 rfl ?_
          refine gg_grN (S := sX6_findStore) cfX5 (by decide) (fun _ _ => rfl) 48 rfl flX6_96 dX6_findStore_45 (fun t6 => ?_)
          refine gg_callVi (S := sX6_findStore) (S' := sX4_room) (cs := 0) (sl := 0) (As := []) (st := [vi y3, vr t5]) 51 rfl (fun b9 => lkX4_room b9) mwX4_room rfl mlX6_127 dX6_findStore_48 cfX4 ⟨by decide, by decide⟩ 0 0 ⟨rfl, rfl⟩ ⟨by decide, by decide⟩ (Nat.le_of_ble_eq_true rfl) (fun t7 => ?_)
          refine gg_aload (S := sX6_findStore) 0 53 rfl dX6_findStore_51 rfl ?_
          refine gg_giN (S := sX6_findStore) cfX5 (by decide) (fun _ _ => rfl) 56 rfl flX6_124 dX6_findStore_53 (fun t8 => ?_)
          refine gg_callVv (S := sX6_findStore) (S' := sX2_setWhole) (cs := 0) (sl := 0) (As := [vi y3, vi t7, vi t8]) (st := []) 59 rfl (fun b8 => lkX2_setWhole b8 y3 t7 t8) mwX2_setWhole rfl mlX6_354 dX6_findStore_56 cfX2 ⟨by decide, by decide⟩ 0 0 ⟨rfl, rfl⟩ ⟨by decide, by decide⟩ (Nat.le_of_ble_eq_true rfl) (fun _ => ?_)
          exact gg_pure (gg_sub [1, 2, 3] rfl (hJ35 ()))
      · intro _
        refine gg_iconst (S := sX6_findStore) 60 rfl dX6_findStore_59 ?_
        refine gg_istore (S := sX6_findStore) (L' := [(5, vi 0), (0, vr (some x0)), (1, vi x1), (3, vi y3)]) 62 rfl dX6_findStore_60 (by decide) rfl ?_
        refine gg_sub [1, 2, 3, 0] rfl ?_
        refine gg_loopA (fun y11 => [(0, vr (some x0)), (1, vi x1), (3, vi y3), (5, vi y11)]) (fun _ => [(0, vr (some x0)), (1, vi x1), (3, vi y3)]) 91 mo_N ?_ ?_ 0
        · intro κ62 hr62 he62
          intro y11
          dsimp only [X6_findStore_L62]
          refine gg_iload (S := sX6_findStore) 3 64 rfl dX6_findStore_62 rfl ?_
          refine gg_iload_n (S := sX6_findStore) 1 65 rfl dX6_findStore_64 rfl rfl ?_
          refine gg_ic_ge (S := sX6_findStore) (tgt := 91) 68 rfl dX6_findStore_65 (by decide) ?_ ?_
          · refine gg_aload_n (S := sX6_findStore) 0 69 rfl dX6_findStore_68 rfl rfl ?_
            refine gg_gr (S := sX6_findStore) cfX6 (by decide) (fun _ _ => rfl) 72 rfl flX6_67 dX6_findStore_69 (fun t12 => ?_)
            refine gg_iload_n (S := sX6_findStore) 2 73 rfl dX6_findStore_72 rfl rfl ?_
            refine gg_iload (S := sX6_findStore) 3 75 rfl dX6_findStore_73 rfl ?_
            refine gg_aload_n (S := sX6_findStore) 0 76 rfl dX6_findStore_75 rfl rfl ?_
            refine gg_iload (S := sX6_findStore) 3 78 rfl dX6_findStore_76 rfl ?_
            refine gg_iload_n (S := sX6_findStore) 2 79 rfl dX6_findStore_78 rfl rfl ?_
            refine gg_callVi (S := sX6_findStore) (S' := sX6_differenceRoom) (cs := 0) (sl := 0) (As := [vi y11, vi y3]) (st := [vi y11, vi y3, vr t12]) 82 rfl (fun b14 => lkX6_differenceRoom b14 y11 y3) mwX6_differenceRoom rfl mlX6_304 dX6_findStore_79 cfX6 ⟨by decide, by decide⟩ 0 0 ⟨rfl, rfl⟩ ⟨by decide, by decide⟩ (Nat.le_of_ble_eq_true rfl) (fun t13 => ?_)
            refine gg_callVv (S := sX6_findStore) (S' := sX2_setPatch) (cs := 0) (sl := 0) (As := [vi y3, vi y11, vi t13]) (st := []) 85 rfl (fun b13 => lkX2_setPatch b13 y3 y11 t13) mwX2_setPatch rfl mlX6_357 dX6_findStore_82 cfX2 ⟨by decide, by decide⟩ 0 0 ⟨rfl, rfl⟩ ⟨by decide, by decide⟩ (Nat.le_of_ble_eq_true rfl) (fun _ => ?_)
            refine gg_iinc (S := sX6_findStore) (L' := [(5, vi (y11 + 1)), (0, vr (some x0)), (1, vi x1), (3, vi y3)]) 3 88 rfl dX6_findStore_85 rfl (by decide) rfl ?_
            refine gg_goto (S := sX6_findStore) (tgt := 62) dX6_findStore_88 (by decide) ?_
            exact gg_pure (gg_sub [1, 2, 3, 0] rfl (hr62 (y11 + 1)))
          · exact gg_pure (gg_sub [0, 1, 2] rfl (he62 ()))
        · intro _
          refine gg_iinc (S := sX6_findStore) (L' := [(3, vi (y3 + 1)), (0, vr (some x0)), (1, vi x1)]) 2 94 rfl dX6_findStore_91 rfl (by decide) rfl ?_
          refine gg_goto (S := sX6_findStore) (tgt := 21) dX6_findStore_94 (by decide) ?_
          exact gg_pure (gg_sub [1, 2, 0] rfl (hr21 (y3 + 1)))
    · exact gg_pure (gg_sub [0] rfl (he21 ()))
  · intro _
    refine gg_aload_n (S := sX6_findStore) 0 98 rfl dX6_findStore_97 rfl rfl ?_
    refine gg_gr (S := sX6_findStore) cfX6 (by decide) (fun _ _ => rfl) 101 rfl flX6_67 dX6_findStore_98 (fun t17 => ?_)
    refine gg_callVv (S := sX6_findStore) (S' := sX2_find) (cs := 0) (sl := 0) (As := []) (st := []) 104 rfl (fun b17 => lkX2_find b17) mwX2_find rfl mlX6_360 dX6_findStore_101 cfX2 ⟨by decide, by decide⟩ 0 0 ⟨rfl, rfl⟩ ⟨by decide, by decide⟩ (Nat.le_of_ble_eq_true rfl) (fun _ => ?_)
    exact gg_pure (gg_vret (S := sX6_findStore) rfl dX6_findStore_104 (by decide) (by decide))

set_option maxRecDepth 100000 in
set_option maxHeartbeats 4000000 in
theorem lkX6_fits (x0 : Nat) (x1 : Int) : LK yX6_fits sX6_fits [vr (some x0), vi x1] en_i (X6_fits x0 x1) := by
  refine lk_go (L := [(0, vr (some x0)), (1, vi x1)]) (by decide +kernel) rfl (fun h => by cases h) (Nat.le_of_ble_eq_true rfl) rfl ?_
  intro K
  unfold X6_fits
  refine gg_aload_n (S := sX6_fits) 0 1 rfl dX6_fits_0 rfl rfl ?_
  refine gg_iload_n (S := sX6_fits) 1 2 rfl dX6_fits_1 rfl rfl ?_
  refine gg_callVr (S := sX6_fits) (S' := sX6_patchOrNull) (cs := 0) (sl := 0) (As := [vi x1]) (st := []) 5 rfl (fun b4 => lkX6_patchOrNull b4 x1) mwX6_patchOrNull rfl mlX6_159 dX6_fits_2 cfX6 ⟨by decide, by decide⟩ 0 0 ⟨rfl, rfl⟩ ⟨by decide, by decide⟩ (Nat.le_of_ble_eq_true rfl) (fun t1 => ?_)
  refine gg_astore_n (S := sX6_fits) (L' := [(2, vr t1), (0, vr (some x0)), (1, vi x1)]) 6 rfl dX6_fits_5 rfl (by decide) rfl ?_
  refine gg_aload_n (S := sX6_fits) 0 7 rfl dX6_fits_6 rfl rfl ?_
  refine gg_ifnonnull (S := sX6_fits) (tgt := 13) 10 rfl dX6_fits_7 (by decide) ?_ ?_
  · refine gg_bipush (S := sX6_fits) 12 rfl dX6_fits_10 (by decide) ?_
    exact gg_pure (gg_iret (S := sX6_fits) rfl dX6_fits_12 (by decide) (by decide))
  · refine gg_aload_n (S := sX6_fits) 0 14 rfl dX6_fits_13 rfl rfl ?_
    refine gg_aload_n (S := sX6_fits) 1 15 rfl dX6_fits_14 rfl rfl ?_
    refine gg_gr (S := sX6_fits) cfX6 (by decide) (fun _ _ => rfl) 18 rfl flX6_14 dX6_fits_15 (fun t2 => ?_)
    refine gg_callVi (S := sX6_fits) (S' := sX3_fitsOn) (cs := 0) (sl := 0) (As := [vr t2]) (st := []) 21 rfl (fun b3 => lkX3_fitsOn b3 t2) mwX3_fitsOn rfl mlX6_204 dX6_fits_18 cfX3 ⟨by decide, by decide⟩ 0 0 ⟨rfl, rfl⟩ ⟨by decide, by decide⟩ (Nat.le_of_ble_eq_true rfl) (fun t3 => ?_)
    refine gg_if_eq (S := sX6_fits) (tgt := 28) 24 rfl dX6_fits_21 (by decide) ?_ ?_
    · refine gg_iconst (S := sX6_fits) 29 rfl dX6_fits_28 ?_
      exact gg_pure (gg_iret (S := sX6_fits) rfl dX6_fits_29 (by decide) (by decide))
    · refine gg_iconst (S := sX6_fits) 25 rfl dX6_fits_24 ?_
      refine gg_goto (S := sX6_fits) (tgt := 29) dX6_fits_25 (by decide) ?_
      exact gg_pure (gg_iret (S := sX6_fits) rfl dX6_fits_29 (by decide) (by decide))

set_option maxRecDepth 100000 in
set_option maxHeartbeats 4000000 in
theorem lkX6_isLine (x0 : Int) : LK yX6_isLine sX6_isLine [vi x0] en_i (X6_isLine x0) := by
  refine lk_go (L := [(0, vi x0)]) (by decide +kernel) rfl (fun h => by cases h) (Nat.le_of_ble_eq_true rfl) rfl ?_
  intro K
  unfold X6_isLine
  refine gg_iload_n (S := sX6_isLine) 0 1 rfl dX6_isLine_0 rfl rfl ?_
  refine gg_if_lt (S := sX6_isLine) (tgt := 14) 4 rfl dX6_isLine_1 (by decide) ?_ ?_
  · refine gg_iconst (S := sX6_isLine) 15 rfl dX6_isLine_14 ?_
    exact gg_pure (gg_zretc (S := sX6_isLine) (by decide) rfl dX6_isLine_15 (by decide) (by decide))
  · refine gg_iload_n (S := sX6_isLine) 0 5 rfl dX6_isLine_4 rfl rfl ?_
    refine gg_bipush (S := sX6_isLine) 7 rfl dX6_isLine_5 (by decide) ?_
    refine gg_ic_gt (S := sX6_isLine) (tgt := 14) 10 rfl dX6_isLine_7 (by decide) ?_ ?_
    · refine gg_iconst (S := sX6_isLine) 11 rfl dX6_isLine_10 ?_
      refine gg_goto (S := sX6_isLine) (tgt := 15) dX6_isLine_11 (by decide) ?_
      exact gg_pure (gg_zretc (S := sX6_isLine) (by decide) rfl dX6_isLine_15 (by decide) (by decide))
    · refine gg_iconst (S := sX6_isLine) 15 rfl dX6_isLine_14 ?_
      exact gg_pure (gg_zretc (S := sX6_isLine) (by decide) rfl dX6_isLine_15 (by decide) (by decide))

set_option maxRecDepth 100000 in
set_option maxHeartbeats 4000000 in
theorem lkX6_isHunk (x0 : Int) (x1 : Int) (x2 : Int) : LK yX6_isHunk sX6_isHunk [vi x0, vi x1, vi x2] en_i (X6_isHunk x0 x1 x2) := by
  refine lk_go (L := [(0, vi x0), (1, vi x1), (2, vi x2)]) (by decide +kernel) rfl (fun h => by cases h) (Nat.le_of_ble_eq_true rfl) rfl ?_
  intro K
  unfold X6_isHunk
  refine gg_iload_n (S := sX6_isHunk) 1 1 rfl dX6_isHunk_0 rfl rfl ?_
  refine gg_iconst (S := sX6_isHunk) 2 rfl dX6_isHunk_1 ?_
  refine gg_join (fun t7 => [(0, vi x0), (1, vi x1), (2, vi x2)]) (fun t7 => [vi t7]) 29 0 0 (fun κ2 hJ2 => ?_) ?_
  · refine gg_ic_eq (S := sX6_isHunk) (tgt := 12) 5 rfl dX6_isHunk_2 (by decide) ?_ ?_
    · refine gg_iload_n (S := sX6_isHunk) 2 13 rfl dX6_isHunk_12 rfl rfl ?_
      refine gg_iconst (S := sX6_isHunk) 14 rfl dX6_isHunk_13 ?_
      refine gg_ic_eq (S := sX6_isHunk) (tgt := 24) 17 rfl dX6_isHunk_14 (by decide) ?_ ?_
      · refine gg_iconst (S := sX6_isHunk) 25 rfl dX6_isHunk_24 ?_
        refine gg_goto (S := sX6_isHunk) (tgt := 29) dX6_isHunk_25 (by decide) ?_
        exact gg_pure (gg_sub [0, 1, 2] rfl (hJ2 1))
      · refine gg_iload_n (S := sX6_isHunk) 2 18 rfl dX6_isHunk_17 rfl rfl ?_
        refine gg_callSi (S := sX6_isHunk) (S' := sX6_isLine) (cs := 0) (sl := 0) (As := [vi x2]) (st := []) 21 rfl (lkX6_isLine x2) mwX6_isLine rfl mlX6_75 dX6_isHunk_18 ⟨by decide, by decide⟩ 0 0 ⟨rfl, rfl⟩ ⟨by decide, by decide⟩ (Nat.le_of_ble_eq_true rfl) (fun t1 => ?_)
        refine gg_if_eq (S := sX6_isHunk) (tgt := 28) 24 rfl dX6_isHunk_21 (by decide) ?_ ?_
        · refine gg_iconst (S := sX6_isHunk) 29 rfl dX6_isHunk_28 ?_
          exact gg_pure (gg_sub [0, 1, 2] rfl (hJ2 0))
        · refine gg_iconst (S := sX6_isHunk) 25 rfl dX6_isHunk_24 ?_
          refine gg_goto (S := sX6_isHunk) (tgt := 29) dX6_isHunk_25 (by decide) ?_
          exact gg_pure (gg_sub [0, 1, 2] rfl (hJ2 1))
    · refine gg_iload_n (S := sX6_isHunk) 1 6 rfl dX6_isHunk_5 rfl rfl ?_
      refine gg_callSi (S := sX6_isHunk) (S' := sX6_isLine) (cs := 0) (sl := 0) (As := [vi x1]) (st := []) 9 rfl (lkX6_isLine x1) mwX6_isLine rfl mlX6_75 dX6_isHunk_6 ⟨by decide, by decide⟩ 0 0 ⟨rfl, rfl⟩ ⟨by decide, by decide⟩ (Nat.le_of_ble_eq_true rfl) (fun t3 => ?_)
      refine gg_if_eq (S := sX6_isHunk) (tgt := 28) 12 rfl dX6_isHunk_9 (by decide) ?_ ?_
      · refine gg_iconst (S := sX6_isHunk) 29 rfl dX6_isHunk_28 ?_
        exact gg_pure (gg_sub [0, 1, 2] rfl (hJ2 0))
      · refine gg_iload_n (S := sX6_isHunk) 2 13 rfl dX6_isHunk_12 rfl rfl ?_
        refine gg_iconst (S := sX6_isHunk) 14 rfl dX6_isHunk_13 ?_
        refine gg_ic_eq (S := sX6_isHunk) (tgt := 24) 17 rfl dX6_isHunk_14 (by decide) ?_ ?_
        · refine gg_iconst (S := sX6_isHunk) 25 rfl dX6_isHunk_24 ?_
          refine gg_goto (S := sX6_isHunk) (tgt := 29) dX6_isHunk_25 (by decide) ?_
          exact gg_pure (gg_sub [0, 1, 2] rfl (hJ2 1))
        · refine gg_iload_n (S := sX6_isHunk) 2 18 rfl dX6_isHunk_17 rfl rfl ?_
          refine gg_callSi (S := sX6_isHunk) (S' := sX6_isLine) (cs := 0) (sl := 0) (As := [vi x2]) (st := []) 21 rfl (lkX6_isLine x2) mwX6_isLine rfl mlX6_75 dX6_isHunk_18 ⟨by decide, by decide⟩ 0 0 ⟨rfl, rfl⟩ ⟨by decide, by decide⟩ (Nat.le_of_ble_eq_true rfl) (fun t4 => ?_)
          refine gg_if_eq (S := sX6_isHunk) (tgt := 28) 24 rfl dX6_isHunk_21 (by decide) ?_ ?_
          · refine gg_iconst (S := sX6_isHunk) 29 rfl dX6_isHunk_28 ?_
            exact gg_pure (gg_sub [0, 1, 2] rfl (hJ2 0))
          · refine gg_iconst (S := sX6_isHunk) 25 rfl dX6_isHunk_24 ?_
            refine gg_goto (S := sX6_isHunk) (tgt := 29) dX6_isHunk_25 (by decide) ?_
            exact gg_pure (gg_sub [0, 1, 2] rfl (hJ2 1))
  · intro t7
    refine gg_istore_n (S := sX6_isHunk) (L' := [(3, vi t7), (0, vi x0), (1, vi x1), (2, vi x2)]) 30 rfl dX6_isHunk_29 rfl (by decide) rfl ?_
    refine gg_iload_n (S := sX6_isHunk) 1 31 rfl dX6_isHunk_30 rfl rfl ?_
    refine gg_if_lt (S := sX6_isHunk) (tgt := 58) 34 rfl dX6_isHunk_31 (by decide) ?_ ?_
    · refine gg_iconst (S := sX6_isHunk) 59 rfl dX6_isHunk_58 ?_
      exact gg_pure (gg_zretc (S := sX6_isHunk) (by decide) rfl dX6_isHunk_59 (by decide) (by decide))
    · refine gg_iload_n (S := sX6_isHunk) 1 35 rfl dX6_isHunk_34 rfl rfl ?_
      refine gg_bipush (S := sX6_isHunk) 37 rfl dX6_isHunk_35 (by decide) ?_
      refine gg_ic_gt (S := sX6_isHunk) (tgt := 58) 40 rfl dX6_isHunk_37 (by decide) ?_ ?_
      · refine gg_iload_n (S := sX6_isHunk) 0 41 rfl dX6_isHunk_40 rfl rfl ?_
        refine gg_if_eq (S := sX6_isHunk) (tgt := 58) 44 rfl dX6_isHunk_41 (by decide) ?_ ?_
        · refine gg_iconst (S := sX6_isHunk) 59 rfl dX6_isHunk_58 ?_
          exact gg_pure (gg_zretc (S := sX6_isHunk) (by decide) rfl dX6_isHunk_59 (by decide) (by decide))
        · refine gg_iload_n (S := sX6_isHunk) 2 45 rfl dX6_isHunk_44 rfl rfl ?_
          refine gg_iconst (S := sX6_isHunk) 46 rfl dX6_isHunk_45 ?_
          refine gg_ic_ne (S := sX6_isHunk) (tgt := 54) 49 rfl dX6_isHunk_46 (by decide) ?_ ?_
          · refine gg_iload_n (S := sX6_isHunk) 3 50 rfl dX6_isHunk_49 rfl rfl ?_
            refine gg_iconst (S := sX6_isHunk) 51 rfl dX6_isHunk_50 ?_
            refine gg_ic_eq (S := sX6_isHunk) (tgt := 58) 54 rfl dX6_isHunk_51 (by decide) ?_ ?_
            · refine gg_iconst (S := sX6_isHunk) 59 rfl dX6_isHunk_58 ?_
              exact gg_pure (gg_zretc (S := sX6_isHunk) (by decide) rfl dX6_isHunk_59 (by decide) (by decide))
            · refine gg_iconst (S := sX6_isHunk) 55 rfl dX6_isHunk_54 ?_
              refine gg_goto (S := sX6_isHunk) (tgt := 59) dX6_isHunk_55 (by decide) ?_
              exact gg_pure (gg_zretc (S := sX6_isHunk) (by decide) rfl dX6_isHunk_59 (by decide) (by decide))
          · refine gg_iconst (S := sX6_isHunk) 55 rfl dX6_isHunk_54 ?_
            refine gg_goto (S := sX6_isHunk) (tgt := 59) dX6_isHunk_55 (by decide) ?_
            exact gg_pure (gg_zretc (S := sX6_isHunk) (by decide) rfl dX6_isHunk_59 (by decide) (by decide))
      · refine gg_iconst (S := sX6_isHunk) 59 rfl dX6_isHunk_58 ?_
        exact gg_pure (gg_zretc (S := sX6_isHunk) (by decide) rfl dX6_isHunk_59 (by decide) (by decide))

set_option maxRecDepth 100000 in
set_option maxHeartbeats 4000000 in
theorem lkX6_isPatchSize (x0 : Int) (x1 : Int) (x2 : Int) : LK yX6_isPatchSize sX6_isPatchSize [vi x0, vi x1, vi x2] en_i (X6_isPatchSize x0 x1 x2) := by
  refine lk_go (L := [(0, vi x0), (1, vi x1), (2, vi x2)]) (by decide +kernel) rfl (fun h => by cases h) (Nat.le_of_ble_eq_true rfl) rfl ?_
  intro K
  unfold X6_isPatchSize
  refine gg_iload_n (S := sX6_isPatchSize) 0 1 rfl dX6_isPatchSize_0 rfl rfl ?_
  refine gg_bipush (S := sX6_isPatchSize) 3 rfl dX6_isPatchSize_1 (by decide) ?_
  refine gg_ic_gt (S := sX6_isPatchSize) (tgt := 22) 6 rfl dX6_isPatchSize_3 (by decide) ?_ ?_
  · refine gg_iload_n (S := sX6_isPatchSize) 1 7 rfl dX6_isPatchSize_6 rfl rfl ?_
    refine gg_bipush (S := sX6_isPatchSize) 9 rfl dX6_isPatchSize_7 (by decide) ?_
    refine gg_ic_gt (S := sX6_isPatchSize) (tgt := 22) 12 rfl dX6_isPatchSize_9 (by decide) ?_ ?_
    · refine gg_iload_n (S := sX6_isPatchSize) 2 13 rfl dX6_isPatchSize_12 rfl rfl ?_
      refine gg_bipush (S := sX6_isPatchSize) 15 rfl dX6_isPatchSize_13 (by decide) ?_
      refine gg_ic_gt (S := sX6_isPatchSize) (tgt := 22) 18 rfl dX6_isPatchSize_15 (by decide) ?_ ?_
      · refine gg_iconst (S := sX6_isPatchSize) 19 rfl dX6_isPatchSize_18 ?_
        refine gg_goto (S := sX6_isPatchSize) (tgt := 23) dX6_isPatchSize_19 (by decide) ?_
        exact gg_pure (gg_zretc (S := sX6_isPatchSize) (by decide) rfl dX6_isPatchSize_23 (by decide) (by decide))
      · refine gg_iconst (S := sX6_isPatchSize) 23 rfl dX6_isPatchSize_22 ?_
        exact gg_pure (gg_zretc (S := sX6_isPatchSize) (by decide) rfl dX6_isPatchSize_23 (by decide) (by decide))
    · refine gg_iconst (S := sX6_isPatchSize) 23 rfl dX6_isPatchSize_22 ?_
      exact gg_pure (gg_zretc (S := sX6_isPatchSize) (by decide) rfl dX6_isPatchSize_23 (by decide) (by decide))
  · refine gg_iconst (S := sX6_isPatchSize) 23 rfl dX6_isPatchSize_22 ?_
    exact gg_pure (gg_zretc (S := sX6_isPatchSize) (by decide) rfl dX6_isPatchSize_23 (by decide) (by decide))

set_option maxRecDepth 100000 in
set_option maxHeartbeats 4000000 in
theorem lkX6_hunk (x0 : Nat) (x1 : Int) (x2 : Int) (x3 : Int) (x4 : Int) : LK yX6_hunk sX6_hunk [vr (some x0), vi x1, vi x2, vi x3, vi x4] en_i (X6_hunk x0 x1 x2 x3 x4) := by
  refine lk_go (L := [(0, vr (some x0)), (1, vi x1), (2, vi x2), (3, vi x3), (4, vi x4)]) (by decide +kernel) rfl (fun h => by cases h) (Nat.le_of_ble_eq_true rfl) rfl ?_
  intro K
  unfold X6_hunk
  refine gg_aload_n (S := sX6_hunk) 0 1 rfl dX6_hunk_0 rfl rfl ?_
  refine gg_iload_n (S := sX6_hunk) 1 2 rfl dX6_hunk_1 rfl rfl ?_
  refine gg_callVr (S := sX6_hunk) (S' := sX6_patchOrNull) (cs := 0) (sl := 0) (As := [vi x1]) (st := []) 5 rfl (fun b20 => lkX6_patchOrNull b20 x1) mwX6_patchOrNull rfl mlX6_159 dX6_hunk_2 cfX6 ⟨by decide, by decide⟩ 0 0 ⟨rfl, rfl⟩ ⟨by decide, by decide⟩ (Nat.le_of_ble_eq_true rfl) (fun t1 => ?_)
  refine gg_astore (S := sX6_hunk) (L' := [(5, vr t1), (0, vr (some x0)), (1, vi x1), (2, vi x2), (3, vi x3), (4, vi x4)]) 7 rfl dX6_hunk_5 (by decide) rfl ?_
  refine gg_aload (S := sX6_hunk) 0 9 rfl dX6_hunk_7 rfl ?_
  refine gg_ifnonnull (S := sX6_hunk) (tgt := 15) 12 rfl dX6_hunk_9 (by decide) ?_ ?_
  · refine gg_bipush (S := sX6_hunk) 14 rfl dX6_hunk_12 (by decide) ?_
    exact gg_pure (gg_iret (S := sX6_hunk) rfl dX6_hunk_14 (by decide) (by decide))
  · refine gg_iload_n (S := sX6_hunk) 3 16 rfl dX6_hunk_15 rfl rfl ?_
    refine gg_iload_n (S := sX6_hunk) 4 17 rfl dX6_hunk_16 rfl rfl ?_
    refine gg_iload (S := sX6_hunk) 5 19 rfl dX6_hunk_17 rfl ?_
    refine gg_callSi (S := sX6_hunk) (S' := sX6_isHunk) (cs := 0) (sl := 0) (As := [vi x2, vi x3, vi x4]) (st := []) 22 rfl (lkX6_isHunk x2 x3 x4) mwX6_isHunk rfl mlX6_163 dX6_hunk_19 ⟨by decide, by decide⟩ 0 0 ⟨rfl, rfl⟩ ⟨by decide, by decide⟩ (Nat.le_of_ble_eq_true rfl) (fun t2 => ?_)
    refine gg_if_eq (S := sX6_hunk) (tgt := 34) 25 rfl dX6_hunk_22 (by decide) ?_ ?_
    · refine gg_bipush (S := sX6_hunk) 36 rfl dX6_hunk_34 (by decide) ?_
      exact gg_pure (gg_iret (S := sX6_hunk) rfl dX6_hunk_36 (by decide) (by decide))
    · refine gg_aload (S := sX6_hunk) 0 27 rfl dX6_hunk_25 rfl ?_
      refine gg_iload_n (S := sX6_hunk) 3 28 rfl dX6_hunk_27 rfl rfl ?_
      refine gg_callVi (S := sX6_hunk) (S' := sX3_mayBeginNext) (cs := 0) (sl := 0) (As := [vi x2]) (st := []) 31 rfl (fun b18 => lkX3_mayBeginNext b18 x2) mwX3_mayBeginNext rfl mlX6_167 dX6_hunk_28 cfX3 ⟨by decide, by decide⟩ 0 0 ⟨rfl, rfl⟩ ⟨by decide, by decide⟩ (Nat.le_of_ble_eq_true rfl) (fun t3 => ?_)
      refine gg_if_ne (S := sX6_hunk) (tgt := 37) 34 rfl dX6_hunk_31 (by decide) ?_ ?_
      · refine gg_bipush (S := sX6_hunk) 36 rfl dX6_hunk_34 (by decide) ?_
        exact gg_pure (gg_iret (S := sX6_hunk) rfl dX6_hunk_36 (by decide) (by decide))
      · refine gg_iload_n (S := sX6_hunk) 4 38 rfl dX6_hunk_37 rfl rfl ?_
        refine gg_iconst (S := sX6_hunk) 39 rfl dX6_hunk_38 ?_
        refine gg_join (fun t4 => [(2, vi x2), (3, vi x3), (4, vi x4), (5, vr t1)]) (fun t4 => [vi t4]) 47 0 0 (fun κ39 hJ39 => ?_) ?_
        · refine gg_ic_ne (S := sX6_hunk) (tgt := 46) 42 rfl dX6_hunk_39 (by decide) ?_ ?_
          · refine gg_iconst (S := sX6_hunk) 43 rfl dX6_hunk_42 ?_
            refine gg_goto (S := sX6_hunk) (tgt := 47) dX6_hunk_43 (by decide) ?_
            exact gg_pure (gg_sub [3, 4, 5, 0] rfl (hJ39 0))
          · refine gg_iconst (S := sX6_hunk) 47 rfl dX6_hunk_46 ?_
            exact gg_pure (gg_sub [3, 4, 5, 0] rfl (hJ39 1))
        · intro t4
          refine gg_istore (S := sX6_hunk) (L' := [(6, vi t4), (2, vi x2), (3, vi x3), (4, vi x4), (5, vr t1)]) 49 rfl dX6_hunk_47 (by decide) rfl ?_
          refine gg_iload (S := sX6_hunk) 3 51 rfl dX6_hunk_49 rfl ?_
          refine gg_iconst (S := sX6_hunk) 52 rfl dX6_hunk_51 ?_
          refine gg_join (fun t5 => [(2, vi x2), (3, vi x3), (4, vi x4), (5, vr t1), (6, vi t4)]) (fun t5 => [vi t5]) 60 0 0 (fun κ52 hJ52 => ?_) ?_
          · refine gg_ic_ne (S := sX6_hunk) (tgt := 59) 55 rfl dX6_hunk_52 (by decide) ?_ ?_
            · refine gg_iconst (S := sX6_hunk) 56 rfl dX6_hunk_55 ?_
              refine gg_goto (S := sX6_hunk) (tgt := 60) dX6_hunk_56 (by decide) ?_
              exact gg_pure (gg_sub [1, 2, 3, 4, 0] rfl (hJ52 0))
            · refine gg_iconst (S := sX6_hunk) 60 rfl dX6_hunk_59 ?_
              exact gg_pure (gg_sub [1, 2, 3, 4, 0] rfl (hJ52 1))
          · intro t5
            refine gg_istore (S := sX6_hunk) (L' := [(7, vi t5), (2, vi x2), (3, vi x3), (4, vi x4), (5, vr t1), (6, vi t4)]) 62 rfl dX6_hunk_60 (by decide) rfl ?_
            refine gg_aload (S := sX6_hunk) 4 64 rfl dX6_hunk_62 rfl ?_
            refine gg_callVi (S := sX6_hunk) (S' := sX3_hunks) (cs := 0) (sl := 0) (As := []) (st := []) 67 rfl (fun b17 => lkX3_hunks b17) mwX3_hunks rfl mlX6_170 dX6_hunk_64 cfX3 ⟨by decide, by decide⟩ 0 0 ⟨rfl, rfl⟩ ⟨by decide, by decide⟩ (Nat.le_of_ble_eq_true rfl) (fun t6 => ?_)
            refine gg_iconst (S := sX6_hunk) 68 rfl dX6_hunk_67 ?_
            refine gg_iadd (S := sX6_hunk) 69 rfl dX6_hunk_68 ?_
            refine gg_aload (S := sX6_hunk) 4 71 rfl dX6_hunk_69 rfl ?_
            refine gg_callVi (S := sX6_hunk) (S' := sX3_allGoing) (cs := 0) (sl := 0) (As := []) (st := [vi (t6 + 1)]) 74 rfl (fun b16 => lkX3_allGoing b16) mwX3_allGoing rfl mlX6_134 dX6_hunk_71 cfX3 ⟨by decide, by decide⟩ 0 0 ⟨rfl, rfl⟩ ⟨by decide, by decide⟩ (Nat.le_of_ble_eq_true rfl) (fun t7 => ?_)
            refine gg_iload (S := sX6_hunk) 5 76 rfl dX6_hunk_74 rfl ?_
            refine gg_iadd (S := sX6_hunk) 77 rfl dX6_hunk_76 ?_
            refine gg_aload (S := sX6_hunk) 4 79 rfl dX6_hunk_77 rfl ?_
            refine gg_callVi (S := sX6_hunk) (S' := sX3_allComing) (cs := 0) (sl := 0) (As := []) (st := [vi (t7 + t4), vi (t6 + 1)]) 82 rfl (fun b15 => lkX3_allComing b15) mwX3_allComing rfl mlX6_173 dX6_hunk_79 cfX3 ⟨by decide, by decide⟩ 0 0 ⟨rfl, rfl⟩ ⟨by decide, by decide⟩ (Nat.le_of_ble_eq_true rfl) (fun t8 => ?_)
            refine gg_iload (S := sX6_hunk) 0 84 rfl dX6_hunk_82 rfl ?_
            refine gg_iadd (S := sX6_hunk) 85 rfl dX6_hunk_84 ?_
            refine gg_callSi (S := sX6_hunk) (S' := sX6_isPatchSize) (cs := 0) (sl := 0) (As := [vi (t6 + 1), vi (t7 + t4), vi (t8 + t5)]) (st := []) 88 rfl (lkX6_isPatchSize (t6 + 1) (t7 + t4) (t8 + t5)) mwX6_isPatchSize rfl mlX6_176 dX6_hunk_85 ⟨by decide, by decide⟩ 0 0 ⟨rfl, rfl⟩ ⟨by decide, by decide⟩ (Nat.le_of_ble_eq_true rfl) (fun t9 => ?_)
            refine gg_if_ne (S := sX6_hunk) (tgt := 94) 91 rfl dX6_hunk_88 (by decide) ?_ ?_
            · refine gg_bipush (S := sX6_hunk) 93 rfl dX6_hunk_91 (by decide) ?_
              exact gg_pure (gg_iret (S := sX6_hunk) rfl dX6_hunk_93 (by decide) (by decide))
            · refine gg_aload (S := sX6_hunk) 4 96 rfl dX6_hunk_94 rfl ?_
              refine gg_iload_n (S := sX6_hunk) 1 97 rfl dX6_hunk_96 rfl rfl ?_
              refine gg_callVv (S := sX6_hunk) (S' := sX3_begin) (cs := 0) (sl := 0) (As := [vi x2]) (st := []) 100 rfl (fun b13 => lkX3_begin b13 x2) mwX3_begin rfl mlX6_179 dX6_hunk_97 cfX3 ⟨by decide, by decide⟩ 0 0 ⟨rfl, rfl⟩ ⟨by decide, by decide⟩ (Nat.le_of_ble_eq_true rfl) (fun _ => ?_)
              refine gg_iload (S := sX6_hunk) 5 102 rfl dX6_hunk_100 rfl ?_
              refine gg_iconst (S := sX6_hunk) 103 rfl dX6_hunk_102 ?_
              refine gg_join (fun _ => [(4, vi x4), (5, vr t1), (7, vi t5)]) (fun _ => []) 112 0 0 (fun κ103 hJ103 => ?_) ?_
              · refine gg_ic_ne (S := sX6_hunk) (tgt := 112) 106 rfl dX6_hunk_103 (by decide) ?_ ?_
                · refine gg_aload (S := sX6_hunk) 4 108 rfl dX6_hunk_106 rfl ?_
                  refine gg_iload_n (S := sX6_hunk) 2 109 rfl dX6_hunk_108 rfl rfl ?_
                  refine gg_callVv (S := sX6_hunk) (S' := sX3_addGoing) (cs := 0) (sl := 0) (As := [vi x3]) (st := []) 112 rfl (fun b9 => lkX3_addGoing b9 x3) mwX3_addGoing rfl mlX6_182 dX6_hunk_109 cfX3 ⟨by decide, by decide⟩ 0 0 ⟨rfl, rfl⟩ ⟨by decide, by decide⟩ (Nat.le_of_ble_eq_true rfl) (fun _ => ?_)
                  exact gg_pure (gg_sub [3, 4, 0] rfl (hJ103 ()))
                · exact gg_pure (gg_sub [3, 4, 0] rfl (hJ103 ()))
              · intro _
                refine gg_iload (S := sX6_hunk) 2 114 rfl dX6_hunk_112 rfl ?_
                refine gg_iconst (S := sX6_hunk) 115 rfl dX6_hunk_114 ?_
                refine gg_join (fun _ => [(5, vr t1)]) (fun _ => []) 125 0 0 (fun κ115 hJ115 => ?_) ?_
                · refine gg_ic_ne (S := sX6_hunk) (tgt := 125) 118 rfl dX6_hunk_115 (by decide) ?_ ?_
                  · refine gg_aload (S := sX6_hunk) 1 120 rfl dX6_hunk_118 rfl ?_
                    refine gg_iload (S := sX6_hunk) 0 122 rfl dX6_hunk_120 rfl ?_
                    refine gg_callVv (S := sX6_hunk) (S' := sX3_addComing) (cs := 0) (sl := 0) (As := [vi x4]) (st := []) 125 rfl (fun b10 => lkX3_addComing b10 x4) mwX3_addComing rfl mlX6_185 dX6_hunk_122 cfX3 ⟨by decide, by decide⟩ 0 0 ⟨rfl, rfl⟩ ⟨by decide, by decide⟩ (Nat.le_of_ble_eq_true rfl) (fun _ => ?_)
                    exact gg_pure (gg_sub [1] rfl (hJ115 ()))
                  · exact gg_pure (gg_sub [1] rfl (hJ115 ()))
                · intro _
                  refine gg_aload (S := sX6_hunk) 0 127 rfl dX6_hunk_125 rfl ?_
                  refine gg_callVi (S := sX6_hunk) (S' := sX3_hunks) (cs := 0) (sl := 0) (As := []) (st := []) 130 rfl (fun b12 => lkX3_hunks b12) mwX3_hunks rfl mlX6_170 dX6_hunk_127 cfX3 ⟨by decide, by decide⟩ 0 0 ⟨rfl, rfl⟩ ⟨by decide, by decide⟩ (Nat.le_of_ble_eq_true rfl) (fun t12 => ?_)
                  exact gg_pure (gg_iret (S := sX6_hunk) rfl dX6_hunk_130 (by decide) (by decide))
