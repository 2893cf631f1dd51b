section FLOW
variable {ρ : Type} {S : ST} {K : CX} {enc : ρ → Option Value} {cs sl pc : Nat} {L : List (Nat × VV)} {st : List VV} {f : MO ρ}
theorem gg_join {α β : Type} {m : MO α} {k1 : α → MO β} {k : β → MO ρ} (Lj : α → List (Nat × VV)) (stj : α → List VV) (pcj cs' sl' : Nat)
    (hB : ∀ κ : α → MO ρ, (∀ a, GG S K enc cs' sl' pcj (Lj a) (stj a) (κ a)) → GG S K enc cs sl pc L st (mo_b m κ))
    (hJ : ∀ a, GG S K enc cs' sl' pcj (Lj a) (stj a) (mo_b (k1 a) k)) : GG S K enc cs sl pc L st (mo_b (mo_b m k1) k) := by
  rw [mo_assoc]; exact hB _ hJ
theorem gg_loopA {A B β : Type} {F : A → MO (A ⊕ B)} {k1 : B → MO β} {k : β → MO ρ} (Lf : A → List (Nat × VV)) (Le : B → List (Nat × VV)) (pce : Nat) (n : Nat)
    (step : ∀ κ : A ⊕ B → MO ρ, (∀ a, GG S K enc cs sl pc (Lf a) st (κ (.inl a))) → (∀ b, GG S K enc cs sl pce (Le b) st (κ (.inr b))) → ∀ a, GG S K enc cs sl pc (Lf a) st (mo_b (F a) κ))
    (hE : ∀ b, GG S K enc cs sl pce (Le b) st (mo_b (k1 b) k)) (a : A) : GG S K enc cs sl pc (Lf a) st (mo_b (mo_b (mo_lp n F a) k1) k) := by
  rw [mo_assoc]
  exact gg_loop Lf n (fun rec hrec a => step (Sum.elim rec (fun b => mo_b (k1 b) k)) hrec hE a) a
theorem gg_cond {α β : Type} {m : MO Bool} {A B : MO β} {k : β → MO ρ} (LT LF : List (Nat × VV)) (st' : List VV) (pcT pcF cs' sl' : Nat)
    (hB : ∀ κ : Bool → MO ρ, GG S K enc cs' sl' pcT LT st' (κ true) → GG S K enc cs' sl' pcF LF st' (κ false) → GG S K enc cs sl pc L st (mo_b m κ))
    (hT : GG S K enc cs' sl' pcT LT st' (mo_b A k)) (hF : GG S K enc cs' sl' pcF LF st' (mo_b B k)) : GG S K enc cs sl pc L st (mo_b (mo_b m (fun c => cond c A B)) k) := by
  rw [mo_assoc]; exact hB _ hT hF
def vx_args : Nat → List VV → List (Nat × VV)
  | _, [] => []
  | i, v :: r => (i, v) :: vx_args (i + vc v) r
theorem vx_args_eq (av : List VV) : ∀ i, lv_args i (vs av) = vL (vx_args i av) := by
  induction av with
  | nil => intro i; rfl
  | cons v r ih =>
    intro i
    show (i, vv v) :: lv_args (if (vv v).category = 2 then i + 2 else i + 1) (vs r) = (i, vv v) :: vL (vx_args (i + vc v) r)
    rw [vc_eq, ← ih]
    have h : (if vc v = 2 then i + 2 else i + 1) = i + vc v := by
      match v with
      | .inl x => rfl
      | .inr (.inl x) => rfl
      | .inr (.inr x) => rfl
    rw [h]
theorem vx_len (av : List VV) : (lg_sl (vs av)).length = (av.map vc).sum := by
  induction av with
  | nil => rfl
  | cons v r ih =>
    have e : lg_sl (vs (v :: r)) = (if (vv v).category = 2 then [Slot.val (vv v), .second] else [.val (vv v)]) ++ lg_sl (vs r) := by simp [lg_sl, vs]
    rw [e, List.length_append, ih, vc_eq]
    match v with
    | .inl x => simp [vc]
    | .inr (.inl x) => simp [vc]
    | .inr (.inr x) => simp [vc]
theorem lk_go {y : MethodName} {av : List VV} (hy : plainName y.cls = true) (hown : S.2.2.1 = y.cls) (hi : S.2.2.2.1 = true → y.name = "<init>") (hn : (av.map vc).sum ≤ S.2.1) {L : List (Nat × VV)} (hL : vx_args 0 av = L)
    (body : ∀ K : CX, GG S K enc 0 0 0 L [] (mo_b f mo_p)) : LK y S av enc f :=
  lk_of hy hown hi (by rw [vx_len]; exact hn) (by rw [vx_args_eq, hL]) body
theorem tb_1 {w : Cond} (h : w ∈ tables_1_1) : w ∈ lw_tbl := List.mem_append_right _ (List.mem_append_left _ h)
theorem tb_2 {w : Cond} (h : w ∈ tables_1_2) : w ∈ lw_tbl := List.mem_append_right _ (List.mem_append_right _ (List.mem_append_left _ h))
theorem tb_3 {w : Cond} (h : w ∈ tables_1_3) : w ∈ lw_tbl := List.mem_append_right _ (List.mem_append_right _ (List.mem_append_right _ (List.mem_append_left _ h)))
theorem tb_4 {w : Cond} (h : w ∈ tables_1_4) : w ∈ lw_tbl := List.mem_append_right _ (List.mem_append_right _ (List.mem_append_right _ (List.mem_append_right _ (List.mem_append_left _ h))))
theorem tb_5 {w : Cond} (h : w ∈ tables_1_5) : w ∈ lw_tbl := List.mem_append_right _ (List.mem_append_right _ (List.mem_append_right _ (List.mem_append_right _ (List.mem_append_right _ (List.mem_append_left _ h)))))
theorem tb_6 {w : Cond} (h : w ∈ tables_1_6) : w ∈ lw_tbl := List.mem_append_right _ (List.mem_append_right _ (List.mem_append_right _ (List.mem_append_right _ (List.mem_append_right _ (List.mem_append_right _ h)))))
theorem tb_0 {w : Cond} (h : w ∈ k2_sels lw_privs) : w ∈ lw_tbl := List.mem_append_left _ h
end FLOW
