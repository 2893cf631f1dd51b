set_option maxRecDepth 100000 in
set_option maxHeartbeats 4000000 in
theorem lkX7_worst (x0 : Nat) (x1 : Int) (x2 : Int) (x3 : Int) : LK yX7_worst sX7_worst [vr (some x0), vi x1, vi x2, vi x3] en_i (X7_worst x0 x1 x2 x3) := by
  refine lk_go (L := [(0, vr (some x0)), (1, vi x1), (2, vi x2), (3, vi x3)]) (by decide +kernel) rfl (fun h => by cases h) (Nat.le_of_ble_eq_true rfl) rfl ?_
  intro K
  unfold X7_worst
  refine gg_aload_n (S := sX7_worst) 0 1 rfl dX7_worst_0 rfl rfl ?_
  refine gg_iload_n (S := sX7_worst) 1 2 rfl dX7_worst_1 rfl rfl ?_
  refine gg_iload_n (S := sX7_worst) 2 3 rfl dX7_worst_2 rfl rfl ?_
  refine gg_callVi (S := sX7_worst) (S' := sX7_isAsk) (cs := 0) (sl := 0) (As := [vi x1, vi x2]) (st := []) 6 rfl (fun b11 => lkX7_isAsk b11 x1 x2) mwX7_isAsk rfl mlX7_283 dX7_worst_3 cfX7 ⟨by decide, by decide⟩ 0 0 ⟨rfl, rfl⟩ ⟨by decide, by decide⟩ (Nat.le_of_ble_eq_true rfl) (fun t1 => ?_)
  refine gg_if_eq (S := sX7_worst) (tgt := 18) 9 rfl dX7_worst_6 (by decide) ?_ ?_
  · refine gg_bipush (S := sX7_worst) 20 rfl dX7_worst_18 (by decide) ?_
    exact gg_pure (gg_iret (S := sX7_worst) rfl dX7_worst_20 (by decide) (by decide))
  · refine gg_iload_n (S := sX7_worst) 3 10 rfl dX7_worst_9 rfl rfl ?_
    refine gg_iconst (S := sX7_worst) 11 rfl dX7_worst_10 ?_
    refine gg_iconst (S := sX7_worst) 12 rfl dX7_worst_11 ?_
    refine gg_callSi (S := sX7_worst) (S' := sX7_within) (cs := 0) (sl := 0) (As := [vi x3, vi 0, vi 1]) (st := []) 15 rfl (lkX7_within x3 0 1) mwX7_within rfl mlX7_101 dX7_worst_12 ⟨by decide, by decide⟩ 0 0 ⟨rfl, rfl⟩ ⟨by decide, by decide⟩ (Nat.le_of_ble_eq_true rfl) (fun t2 => ?_)
    refine gg_if_ne (S := sX7_worst) (tgt := 21) 18 rfl dX7_worst_15 (by decide) ?_ ?_
    · refine gg_bipush (S := sX7_worst) 20 rfl dX7_worst_18 (by decide) ?_
      exact gg_pure (gg_iret (S := sX7_worst) rfl dX7_worst_20 (by decide) (by decide))
    · refine gg_aload_n (S := sX7_worst) 0 22 rfl dX7_worst_21 rfl rfl ?_
      refine gg_gi (S := sX7_worst) cfX7 (by decide) (fun _ _ => rfl) 25 rfl flX7_286 dX7_worst_22 (fun t3 => ?_)
      refine gg_bipush (S := sX7_worst) 27 rfl dX7_worst_25 (by decide) ?_
      refine gg_ic_ne (S := sX7_worst) (tgt := 33) 30 rfl dX7_worst_27 (by decide) ?_ ?_
      · refine gg_bipush (S := sX7_worst) 32 rfl dX7_worst_30 (by decide) ?_
        exact gg_pure (gg_iret (S := sX7_worst) rfl dX7_worst_32 (by decide) (by decide))
      · refine gg_aload_n (S := sX7_worst) 0 34 rfl dX7_worst_33 rfl rfl ?_
        refine gg_dup (S := sX7_worst) 35 rfl dX7_worst_34 rfl ?_
        refine gg_gi (S := sX7_worst) cfX7 (by decide) (fun _ _ => rfl) 38 rfl flX7_286 dX7_worst_35 (fun t4 => ?_)
        refine gg_iconst (S := sX7_worst) 39 rfl dX7_worst_38 ?_
        refine gg_iadd (S := sX7_worst) 40 rfl dX7_worst_39 ?_
        refine gg_si (S := sX7_worst) cfX7 (by decide) rfl (fun _ _ => rfl) rfl 43 rfl flX7_286 dX7_worst_40 ?_
        refine gg_aload_n (S := sX7_worst) 0 44 rfl dX7_worst_43 rfl rfl ?_
        refine gg_iload_n (S := sX7_worst) 1 45 rfl dX7_worst_44 rfl rfl ?_
        refine gg_iload_n (S := sX7_worst) 2 46 rfl dX7_worst_45 rfl rfl ?_
        refine gg_callVv (S := sX7_worst) (S' := sX7_layStore) (cs := 0) (sl := 0) (As := [vi x1, vi x2]) (st := []) 49 rfl (fun b9 => lkX7_layStore b9 x1 x2) mwX7_layStore rfl mlX7_289 dX7_worst_46 cfX7 ⟨by decide, by decide⟩ 0 0 ⟨rfl, rfl⟩ ⟨by decide, by decide⟩ (Nat.le_of_ble_eq_true rfl) (fun _ => ?_)
        refine gg_aload_n (S := sX7_worst) 0 50 rfl dX7_worst_49 rfl rfl ?_
        refine gg_gi (S := sX7_worst) cfX7 (by decide) (fun _ _ => rfl) 53 rfl flX7_263 dX7_worst_50 (fun t5 => ?_)
        refine gg_if_ne (S := sX7_worst) (tgt := 58) 56 rfl dX7_worst_53 (by decide) ?_ ?_
        · refine gg_iconst (S := sX7_worst) 57 rfl dX7_worst_56 ?_
          exact gg_pure (gg_iret (S := sX7_worst) rfl dX7_worst_57 (by decide) (by decide))
        · refine gg_aload_n (S := sX7_worst) 0 59 rfl dX7_worst_58 rfl rfl ?_
          refine gg_iload_n (S := sX7_worst) 1 60 rfl dX7_worst_59 rfl rfl ?_
          refine gg_iconst (S := sX7_worst) 61 rfl dX7_worst_60 ?_
          refine gg_callVi (S := sX7_worst) (S' := sX7_worstPiece) (cs := 0) (sl := 0) (As := [vi x1, vi (-1)]) (st := []) 64 rfl (fun b8 => lkX7_worstPiece b8 x1 (-1)) mwX7_worstPiece rfl mlX7_295 dX7_worst_61 cfX7 ⟨by decide, by decide⟩ 0 0 ⟨rfl, rfl⟩ ⟨by decide, by decide⟩ (Nat.le_of_ble_eq_true rfl) (fun t6 => ?_)
          refine gg_istore (S := sX7_worst) (L' := [(4, vi t6), (0, vr (some x0)), (1, vi x1), (2, vi x2), (3, vi x3)]) 66 rfl dX7_worst_64 (by decide) rfl ?_
          refine gg_iload_n (S := sX7_worst) 4 67 rfl dX7_worst_66 rfl rfl ?_
          refine gg_if_ne (S := sX7_worst) (tgt := 75) 70 rfl dX7_worst_67 (by decide) ?_ ?_
          · refine gg_iload (S := sX7_worst) 0 72 rfl dX7_worst_70 rfl ?_
            refine gg_goto (S := sX7_worst) (tgt := 82) dX7_worst_72 (by decide) ?_
            exact gg_pure (gg_iret (S := sX7_worst) rfl dX7_worst_82 (by decide) (by decide))
          · refine gg_aload_n (S := sX7_worst) 1 76 rfl dX7_worst_75 rfl rfl ?_
            refine gg_iload (S := sX7_worst) 0 78 rfl dX7_worst_76 rfl ?_
            refine gg_iload_n (S := sX7_worst) 2 79 rfl dX7_worst_78 rfl rfl ?_
            refine gg_callVi (S := sX7_worst) (S' := sX7_lostBy) (cs := 0) (sl := 0) (As := [vi t6, vi x1]) (st := []) 82 rfl (fun b7 => lkX7_lostBy b7 t6 x1) mwX7_lostBy rfl mlX7_292 dX7_worst_79 cfX7 ⟨by decide, by decide⟩ 0 0 ⟨rfl, rfl⟩ ⟨by decide, by decide⟩ (Nat.le_of_ble_eq_true rfl) (fun t7 => ?_)
            exact gg_pure (gg_iret (S := sX7_worst) rfl dX7_worst_82 (by decide) (by decide))
