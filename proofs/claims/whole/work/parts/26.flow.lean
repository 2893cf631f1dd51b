section FLOW
variable {ρ : Type} {S : ST} {K : CX} {enc : ρ → Option Value} {cs sl pc : Nat} {L : List (Nat × VV)} {st : List VV} {f : MO ρ}
theorem gg_join {α β : Type} {m : MO α} {k1 : α → MO β} {k : β → MO ρ} (Lj : α → List (Nat × VV)) (stj : α → List VV) (pcj cs' sl' : Nat)
    (hB : ∀ κ : α → MO ρ, (∀ a, GG S K enc cs' sl' pcj (Lj a) (stj a) (κ a)) → GG S K enc cs sl pc L st (mo_b m κ))
    (hJ : ∀ a, GG S K enc cs' sl' pcj (Lj a) (stj a) (mo_b (k1 a) k)) : GG S K enc cs sl pc L st (mo_b (mo_b m k1) k) := by
  rw [mo_assoc]; exact hB _ hJ
theorem gg_loopA {A B β : Type} {F : A → MO (A ⊕ B)} {k1 : B → MO β} {k : β → MO ρ} (Lf : A → List (Nat × VV)) (Le : B → List (Nat × VV)) (pce : Nat) (n : Nat)
    (step : ∀ κ : A ⊕ B → MO ρ, (∀ a, GG S K enc cs sl pc (Lf a) st (κ (.inl a))) → (∀ b, GG S K enc cs sl pce (Le b) st (κ (.inr b))) → ∀ a, GG S K enc cs sl pc (Lf a) st (mo_b (F a) κ))
    (hE : ∀ b, GG S K enc cs sl pce (Le b) st (mo_b (k1 b) k)) (a : A) : GG S K enc cs sl pc (Lf a) st (mo_b (mo_b (mo_lp n F a) k1) k) := by
  rw [mo_assoc]
  exact gg_loop Lf n (fun rec hrec a => step (Sum.elim rec (fun b => mo_b (k1 b) k)) hrec hE a) a
theorem gg_cond {β : Type} {m : MO Bool} {A B : MO β} {k : β → MO ρ} (LT LF : List (Nat × VV)) (st' : List VV) (pcT pcF cs' sl' : Nat)
    (hB : ∀ κ : Bool → MO ρ, GG S K enc cs' sl' pcT LT st' (κ true) → GG S K enc cs' sl' pcF LF st' (κ false) → GG S K enc cs sl pc L st (mo_b m κ))
    (hT : GG S K enc cs' sl' pcT LT st' (mo_b A k)) (hF : GG S K enc cs' sl' pcF LF st' (mo_b B k)) : GG S K enc cs sl pc L st (mo_b (mo_b m (fun c => cond c A B)) k) := by
  rw [mo_assoc]; exact hB _ hT hF
def vx_args : Nat → List VV → List (Nat × VV)
  | _, [] => []
  | i, v :: r => (i, v) :: vx_args (i + vc v) r
theorem vx_args_eq (av : List VV) : ∀ i, lv_args i (vs av) = vL (vx_args i av) := by
  induction av with
  | nil => intro i; rfl
  | cons v r ih =>
    intro i
    show (i, vv v) :: lv_args (if (vv v).category = 2 then i + 2 else i + 1) (vs r) = (i, vv v) :: vL (vx_args (i + vc v) r)
    rw [vc_eq, ← ih]
    have h : (if vc v = 2 then i + 2 else i + 1) = i + vc v := by
      match v with
      | .inl x => rfl
      | .inr (.inl x) => rfl
      | .inr (.inr x) => rfl
    rw [h]
theorem vx_len (av : List VV) : (lg_sl (vs av)).length = (av.map vc).sum := by
  induction av with
  | nil => rfl
  | cons v r ih =>
    have e : lg_sl (vs (v :: r)) = (if (vv v).category = 2 then [Slot.val (vv v), .second] else [.val (vv v)]) ++ lg_sl (vs r) := by simp [lg_sl, vs]
    rw [e, List.length_append, ih, vc_eq]
    match v with
    | .inl x => simp [vc]
    | .inr (.inl x) => simp [vc]
    | .inr (.inr x) => simp [vc]
theorem lk_go {y : MethodName} {av : List VV} (hy : plainName y.cls = true) (hown : S.2.2.1 = y.cls) (hi : S.2.2.2.1 = true → y.name = "<init>") (hn : (av.map vc).sum ≤ S.2.1) {L : List (Nat × VV)} (hL : vx_args 0 av = L)
    (body : ∀ K : CX, GG S K enc 0 0 0 L [] (mo_b f mo_p)) : LK y S av enc f :=
  lk_of hy hown hi (by rw [vx_len]; exact hn) (by rw [vx_args_eq, hL]) body
theorem tb_1 {w : Cond} (h : w ∈ tables_1_1) : w ∈ lw_tbl := List.mem_append_right _ (List.mem_append_left _ h)
theorem tb_2 {w : Cond} (h : w ∈ tables_1_2) : w ∈ lw_tbl := List.mem_append_right _ (List.mem_append_right _ (List.mem_append_left _ h))
theorem tb_3 {w : Cond} (h : w ∈ tables_1_3) : w ∈ lw_tbl := List.mem_append_right _ (List.mem_append_right _ (List.mem_append_right _ (List.mem_append_left _ h)))
theorem tb_4 {w : Cond} (h : w ∈ tables_1_4) : w ∈ lw_tbl := List.mem_append_right _ (List.mem_append_right _ (List.mem_append_right _ (List.mem_append_right _ (List.mem_append_left _ h))))
theorem tb_5 {w : Cond} (h : w ∈ tables_1_5) : w ∈ lw_tbl := List.mem_append_right _ (List.mem_append_right _ (List.mem_append_right _ (List.mem_append_right _ (List.mem_append_right _ (List.mem_append_left _ h)))))
theorem tb_6 {w : Cond} (h : w ∈ tables_1_6) : w ∈ lw_tbl := List.mem_append_right _ (List.mem_append_right _ (List.mem_append_right _ (List.mem_append_right _ (List.mem_append_right _ (List.mem_append_right _ h)))))
theorem tb_0 {w : Cond} (h : w ∈ k2_sels lw_privs) : w ∈ lw_tbl := List.mem_append_left _ h
def op_mx (x y : Int) : MO Int := fun h => if (am_rb x && am_rb y) = true then some (if x < y then y else x, h) else none
def op_mn (x y : Int) : MO Int := fun h => if (am_rb x && am_rb y) = true then some (if y < x then y else x, h) else none
def op_ab (x : Int) : MO Int := fun h => if (am_rb x && am_rb 0) = true then some (if x < 0 then -x else x, h) else none
theorem gg_mmax {x y : Int} {idx : Nat} {α : Type} {k1 : Int → MO α} {kk : α → MO ρ} (pc' : Nat) (hp : pc + 3 = pc') (hlink : Cond.methodLink S.2.2.1 idx Lib.Math.max.name ∈ tb_G) (hstat : Cond.static Lib.Math.max.name ∈ tb_G) (hini : Cond.initialized "java/lang/Math" ∈ tb_G) (hcode : Cond.code Lib.Math.max.name Lib.Math.max.code 2 (some .int) ∈ tb_G) (hd : decode S.1 pc = .ok (.invokestatic idx, 3)) (hf1 : 1 ≤ S.2.2.2.2.2.1) (hst : (st.map vc).sum + 13 ≤ S.2.2.2.2.2.2.1) (hc1 : cs ≤ S.2.2.2.2.2.2.2.1) (hc2 : sl ≤ S.2.2.2.2.2.2.2.2) (g : ∀ z : Int, GG S K enc cs sl pc' L (vi z :: st) (mo_b (k1 z) kk)) : GG S K enc cs sl pc L (vi y :: vi x :: st) (mo_b (mo_b (op_mx x y) k1) kk) := by
  subst hp
  rw [mo_assoc]
  obtain ⟨p, l, e, R, s, m, args, below, meth, c, G, h0, hf, rf⟩ := K
  intro ok h H locs ls r hI hl hf' he
  obtain ⟨v, h1, hv, hf'⟩ := mo_b_inv hf'
  unfold op_mx at hv
  split at hv
  · rename_i hr
    rw [Bool.and_eq_true] at hr
    have hx := am_rb_iff.mp hr.1
    have hy := am_rb_iff.mp hr.2
    cases hv
    have hts := ok.2.2.2.2.1
    have hroom := ok.2.2.2.2.2.2.2.2.2.1
    have h3 : (List.map (fun v => v.category) (vs st)).sum + 13 ≤ R.locals := by rw [hroom, vs_sum]; exact hst
    refine va_mmax ok.1 ok.2.1 (ok.2.2.1.trans hl.1.symm) ok.2.2.2.1 (hts _ hlink) (hts _ hstat) (hts _ hini) (hts _ hcode) (by rw [hroom]; exact hf1) h3 (by rw [hroom]; exact hc1) (by rw [hroom]; exact hc2) hd ?_
    have hg := g _ ok h H locs ls r hI hl hf' he
    have e : (if Int32.ofInt x < Int32.ofInt y then Int32.ofInt y else Int32.ofInt x) = Int32.ofInt (if x < y then y else x) := by
      by_cases hc : x < y
      · rw [if_pos hc, if_pos ((nm_lt hx hy).mpr hc)]
      · rw [if_neg hc, if_neg (fun q => hc ((nm_lt hx hy).mp q))]
    rw [e]; exact hg
  · cases hv
theorem gg_mmin {x y : Int} {idx : Nat} {α : Type} {k1 : Int → MO α} {kk : α → MO ρ} (pc' : Nat) (hp : pc + 3 = pc') (hlink : Cond.methodLink S.2.2.1 idx Lib.Math.min.name ∈ tb_G) (hstat : Cond.static Lib.Math.min.name ∈ tb_G) (hini : Cond.initialized "java/lang/Math" ∈ tb_G) (hcode : Cond.code Lib.Math.min.name Lib.Math.min.code 2 (some .int) ∈ tb_G) (hd : decode S.1 pc = .ok (.invokestatic idx, 3)) (hf1 : 1 ≤ S.2.2.2.2.2.1) (hst : (st.map vc).sum + 13 ≤ S.2.2.2.2.2.2.1) (hc1 : cs ≤ S.2.2.2.2.2.2.2.1) (hc2 : sl ≤ S.2.2.2.2.2.2.2.2) (g : ∀ z : Int, GG S K enc cs sl pc' L (vi z :: st) (mo_b (k1 z) kk)) : GG S K enc cs sl pc L (vi y :: vi x :: st) (mo_b (mo_b (op_mn x y) k1) kk) := by
  subst hp
  rw [mo_assoc]
  obtain ⟨p, l, e, R, s, m, args, below, meth, c, G, h0, hf, rf⟩ := K
  intro ok h H locs ls r hI hl hf' he
  obtain ⟨v, h1, hv, hf'⟩ := mo_b_inv hf'
  unfold op_mn at hv
  split at hv
  · rename_i hr
    rw [Bool.and_eq_true] at hr
    have hx := am_rb_iff.mp hr.1
    have hy := am_rb_iff.mp hr.2
    cases hv
    have hts := ok.2.2.2.2.1
    have hroom := ok.2.2.2.2.2.2.2.2.2.1
    have h3 : (List.map (fun v => v.category) (vs st)).sum + 13 ≤ R.locals := by rw [hroom, vs_sum]; exact hst
    refine va_mmin ok.1 ok.2.1 (ok.2.2.1.trans hl.1.symm) ok.2.2.2.1 (hts _ hlink) (hts _ hstat) (hts _ hini) (hts _ hcode) (by rw [hroom]; exact hf1) h3 (by rw [hroom]; exact hc1) (by rw [hroom]; exact hc2) hd ?_
    have hg := g _ ok h H locs ls r hI hl hf' he
    have e : (if Int32.ofInt x > Int32.ofInt y then Int32.ofInt y else Int32.ofInt x) = Int32.ofInt (if y < x then y else x) := by
      by_cases hc : y < x
      · rw [if_pos hc, if_pos ((nm_lt hy hx).mpr hc)]
      · rw [if_neg hc, if_neg (fun q => hc ((nm_lt hy hx).mp q))]
    have e' : (if Int32.ofInt y < Int32.ofInt x then Int32.ofInt y else Int32.ofInt x) = Int32.ofInt (if y < x then y else x) := e
    first | (rw [e]; exact hg) | (rw [e']; exact hg)
  · cases hv
theorem gg_mabs {x : Int} {idx : Nat} {α : Type} {k1 : Int → MO α} {kk : α → MO ρ} (pc' : Nat) (hp : pc + 3 = pc') (hlink : Cond.methodLink S.2.2.1 idx Lib.Math.abs.name ∈ tb_G) (hstat : Cond.static Lib.Math.abs.name ∈ tb_G) (hini : Cond.initialized "java/lang/Math" ∈ tb_G) (hcode : Cond.code Lib.Math.abs.name Lib.Math.abs.code 1 (some .int) ∈ tb_G) (hd : decode S.1 pc = .ok (.invokestatic idx, 3)) (hf1 : 1 ≤ S.2.2.2.2.2.1) (hst : (st.map vc).sum + 13 ≤ S.2.2.2.2.2.2.1) (hc1 : cs ≤ S.2.2.2.2.2.2.2.1) (hc2 : sl ≤ S.2.2.2.2.2.2.2.2) (g : ∀ z : Int, GG S K enc cs sl pc' L (vi z :: st) (mo_b (k1 z) kk)) : GG S K enc cs sl pc L (vi x :: st) (mo_b (mo_b (op_ab x) k1) kk) := by
  subst hp
  rw [mo_assoc]
  obtain ⟨p, l, e, R, s, m, args, below, meth, c, G, h0, hf, rf⟩ := K
  intro ok h H locs ls r hI hl hf' he
  obtain ⟨v, h1, hv, hf'⟩ := mo_b_inv hf'
  unfold op_ab at hv
  split at hv
  · rename_i hr
    rw [Bool.and_eq_true] at hr
    have hx := am_rb_iff.mp hr.1
    skip
    cases hv
    have hts := ok.2.2.2.2.1
    have hroom := ok.2.2.2.2.2.2.2.2.2.1
    have h3 : (List.map (fun v => v.category) (vs st)).sum + 13 ≤ R.locals := by rw [hroom, vs_sum]; exact hst
    refine va_mabs ok.1 ok.2.1 (ok.2.2.1.trans hl.1.symm) ok.2.2.2.1 (hts _ hlink) (hts _ hstat) (hts _ hini) (hts _ hcode) (by rw [hroom]; exact hf1) h3 (by rw [hroom]; exact hc1) (by rw [hroom]; exact hc2) hd ?_
    have hg := g _ ok h H locs ls r hI hl hf' he
    have e : (if 0 ≤ Int32.ofInt x then Int32.ofInt x else 0 - Int32.ofInt x) = Int32.ofInt (if x < 0 then -x else x) := by
      have h0 : (0 : Int32) = Int32.ofInt 0 := rfl
      have hle : (0 ≤ Int32.ofInt x) ↔ 0 ≤ x := by rw [h0]; exact nm_le nm_0 hx
      by_cases hc : x < 0
      · rw [if_pos hc, if_neg (fun q => by have := hle.mp q; omega), h0, ← Int32.ofInt_sub]
        congr 1; omega
      · rw [if_neg hc, if_pos (hle.mpr (by omega))]
    rw [e]; exact hg
  · cases hv
end FLOW
