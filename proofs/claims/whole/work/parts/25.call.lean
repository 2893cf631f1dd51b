section CALL
/-- what a callee's contract gives back to its caller -/
theorem cx_back {S S' : ST} {p : Program} {l : Launch} {e : Env} {R : Room} {s : State} {m : MethodId} {args : Array Value} {below : List Frame} {meth : Method} {c : Code} {G : GM} {h0 hf : AH} {rf : Option Value} {h h1 : AH} {H : Heap} {locs : List Loc} {cs sl pc : Nat} {ls : Array Slot} {st0 rest : List Value} {a : Array Value} {v0 : Option Value}
    (ok : cx_ok S (p, l, e, R, s, m, args, below, meth, c, G, h0, hf, rf)) (hI : cx_I (p, l, e, R, s, m, args, below, meth, c, G, h0, hf, rf) h H locs)
    (hr : va_Run p l e R s m args below meth c H locs cs sl S'.2.2.2.2.2.2.2.1 S'.2.2.2.2.2.2.2.2 (F0 m pc ls st0) rest (cx_qc G h v0 h1 a) (cx_free h))
    (g : ∀ (H1 : Heap) (locs1 : List Loc), cx_I (p, l, e, R, s, m, args, below, meth, c, G, h0, hf, rf) h1 H1 locs1 → cx_W S (p, l, e, R, s, m, args, below, meth, c, G, h0, hf, rf) H1 locs1 (cs + S'.2.2.2.2.2.2.2.1) (sl + S'.2.2.2.2.2.2.2.2) (pc + 3) ls (v0.toList ++ rest)) :
    cx_W S (p, l, e, R, s, m, args, below, meth, c, G, h0, hf, rf) H locs cs sl pc ls st0 := by
  intro T hT X
  obtain ⟨v, st₀, t, T', L, hh0, X', hL, e1, e2, ⟨hv, hR, hF, hfr⟩, stp⟩ := hr T hT X
  cases hv
  obtain ⟨hz, hk⟩ := hF
  rw [hh0] at hz hk
  have hfree : ∀ q, cx_free h q → cx_free h0 q := by
    intro q hq
    rcases hq with hq | hq
    · exact hI.2.2 q hq
    · have q1 : ah_S h = H.size := hI.1.2.1
      have q2 : s.heap.size ≤ H.size := hI.2.1.1
      have q3 : ah_S h0 = s.heap.size := ok.2.2.2.2.2.2.2.2.2.2
      exact Or.inr (by omega)
  have hcx : cx_I (p, l, e, R, s, m, args, below, meth, c, G, h0, hf, rf) h1 T'.heap (locs ++ L) := by
    refine ⟨by rw [e1]; exact hR, ⟨Nat.le_trans hI.2.1.1 (by rw [e1]; exact hz), fun q q1 q2 => ?_, fun q hq => ?_⟩, fun q hq => hfree q (hfr q hq)⟩
    · rw [e1, hk q (Nat.lt_of_lt_of_le q1 hI.2.1.1) (fun z => q2 (hfree q z))]
      exact hI.2.1.2.1 q q1 q2
    · rcases List.mem_append.mp hq with q1 | q1
      · exact hI.2.1.2.2 q q1
      · exact hfree _ (hL q q1)
  obtain ⟨t2, a1, b1⟩ := g T'.heap (locs ++ L) hcx T' rfl X'
  exact ⟨t2, stp t2 a1, b1⟩
theorem cx_pcb {G : GM} {av : List VV} {h : AH} : FrameBlind (cx_pc G av h) := fun a U g mk q => ⟨q.1, q.2.1, kn_same rfl q.2.2⟩
theorem cx_pcu {S : ST} {p : Program} {l : Launch} {e : Env} {R : Room} {s : State} {m : MethodId} {args : Array Value} {below : List Frame} {meth : Method} {c : Code} {G : GM} {h0 hf : AH} {rf : Option Value} {h : AH} {H : Heap} {locs : List Loc} {av : List VV}
    (ok : cx_ok S (p, l, e, R, s, m, args, below, meth, c, G, h0, hf, rf)) (hI : cx_I (p, l, e, R, s, m, args, below, meth, c, G, h0, hf, rf) h H locs) : ∀ U : State, U.heap = H → s.WarmedH U.vm → cx_pc G av h (vs av).toArray U :=
  fun U hU hW => ⟨rfl, by rw [hU]; exact hI.1, kn_warm hW ok.2.2.2.2.2.1⟩
theorem vs_sum (st : List VV) : ((vs st).map fun v => v.category).sum = (st.map vc).sum := by
  unfold vs
  rw [List.map_map]
  congr 1
  apply List.map_congr_left
  intro v _
  exact vc_eq v
/-- a method's own words: its code, that it can be called -/
def mw_V (y : MethodName) (S : ST) (n : Nat) : Prop := Cond.code y S.1 S.2.1 S.2.2.2.2.1 ∈ tb_G ∧ Cond.initialized y.cls ∈ tb_G ∧ (y.cls ≠ "java/lang/invoke/MethodHandle" ∧ y.cls ≠ "java/lang/invoke/VarHandle" ∧ (parseMethodDescriptor y.desc).map (fun d => d.parameters.length) = some n) ∧ Cond.instanceMethod y ∈ tb_G ∧ Cond.selects y.cls y y ∈ tb_G
def mw_S (y : MethodName) (S : ST) (n : Nat) : Prop := Cond.code y S.1 S.2.1 S.2.2.2.2.1 ∈ tb_G ∧ Cond.initialized y.cls ∈ tb_G ∧ (y.cls ≠ "java/lang/invoke/MethodHandle" ∧ y.cls ≠ "java/lang/invoke/VarHandle" ∧ (parseMethodDescriptor y.desc).map (fun d => d.parameters.length) = some n) ∧ Cond.static y ∈ tb_G
def mw_I (y : MethodName) (S : ST) (n : Nat) : Prop := Cond.code y S.1 S.2.1 none ∈ tb_G ∧ Cond.initialized y.cls ∈ tb_G ∧ (y.cls ≠ "java/lang/invoke/MethodHandle" ∧ y.cls ≠ "java/lang/invoke/VarHandle" ∧ (parseMethodDescriptor y.desc).map (fun d => d.parameters.length) = some n) ∧ Cond.instanceMethod y ∈ tb_G ∧ y.name = "<init>" ∧ S.2.2.2.2.1 = none
variable {ρ : Type} {S : ST} {K : CX} {enc : ρ → Option Value} {cs sl pc : Nat} {L : List (Nat × VV)} {st : List VV} {f : MO ρ}
theorem callB_x {R : Room} {s : State} {args : Array Value} {own : String} {index n : Nat} {y : MethodName} {S' : ST} (ht : ∀ w ∈ tb_G, w.before args s = true) (hcode : Cond.code y S'.1 S'.2.1 S'.2.2.2.2.1 ∈ tb_G) (hini : Cond.initialized y.cls ∈ tb_G) (hl : Cond.methodLink own index y ∈ tb_G)
    (hd : y.cls ≠ "java/lang/invoke/MethodHandle" ∧ y.cls ≠ "java/lang/invoke/VarHandle" ∧ (parseMethodDescriptor y.desc).map (fun d => d.parameters.length) = some n) (hR : S'.2.2.2.2.2.1 + 1 ≤ R.frames ∧ 8 + (S'.2.1 + 11) + S'.2.2.2.2.2.2.1 ≤ R.locals) :
    CallB R s args own index y S'.1 S'.2.1 S'.2.2.2.2.1 (tb_W y S'.1 S'.2.1 S'.2.2.2.2.1) { frames := S'.2.2.2.2.2.1, locals := S'.2.2.2.2.2.2.1, cells := S'.2.2.2.2.2.2.2.1, slots := S'.2.2.2.2.2.2.2.2 } S'.2.2.2.2.2.2.2.1 S'.2.2.2.2.2.2.2.2 n :=
  callB_of n ht (tb_good (fun w h => h) hcode) rfl rfl rfl (ht _ hini) (ht _ hl) hd hR
theorem gg_callVi {y : MethodName} {S' : ST} {n idx : Nat} {x0 : Option Nat} {As : List VV} {fc : Nat → MO Int} {α : Type} {k1 : Int → MO α} {kk : α → MO ρ} (pc' : Nat) (hp : pc + 3 = pc') (hM : ∀ b, LK y S' (vr (some b) :: As) en_i (fc b)) (hw : mw_V y S' n) (hn : As.length = n) (hlink : Cond.methodLink S.2.2.1 idx y ∈ tb_G) (hd : decode S.1 pc = .ok (.invokevirtual idx, 3)) {ci N : Nat} {T : u_T} {ty : Nat → FieldType} (cf : cf_K ci y.cls T N ty) (hroom : S'.2.2.2.2.2.1 + 1 ≤ S.2.2.2.2.2.1 ∧ 8 + (S'.2.1 + 11) + S'.2.2.2.2.2.2.1 ≤ S.2.2.2.2.2.2.1) (cs' sl' : Nat) (hz : cs + S'.2.2.2.2.2.2.2.1 = cs' ∧ sl + S'.2.2.2.2.2.2.2.2 = sl') (hcs : cs' ≤ S.2.2.2.2.2.2.2.1 ∧ sl' ≤ S.2.2.2.2.2.2.2.2) (hst : (st.map vc).sum ≤ 8) (g : ∀ x : Int, GG S K enc cs' sl' pc' L (vi x :: st) (mo_b (k1 x) kk)) : GG S K enc cs sl pc L (As.reverse ++ vr x0 :: st) (mo_b (mo_b (mo_cv ci x0 fc) k1) kk) := by
  subst hp
  obtain ⟨rfl, rfl⟩ := hz
  rw [mo_assoc]
  obtain ⟨p, l, e, R, s, m, args, below, meth, c, G, h0, hf, rf⟩ := K
  intro ok h H locs ls r hI hl hf' he
  obtain ⟨b, rfl, hf2⟩ := mo_on_inv hf'
  obtain ⟨v, h1, hv0, hf3⟩ := mo_b_inv hf2
  try dsimp only at hv0
  split at hv0
  case isFalse => cases hv0
  rename_i hTb
  have hv := hv0
  have hroom' := ok.2.2.2.2.2.2.2.2.2.1
  obtain ⟨hcode, hini, hd3, hinst, hsel⟩ := hw
  have hts := ok.2.2.2.2.1
  obtain ⟨cell, q1, q2, q3, -⟩ := rp_O hI.1 hTb
  have hcl := (ok.2.2.2.2.2.1.1.1 ci _ cf.1).2.1
  have hr := va_runV (e := e) (below := below) (meth := meth) (R := R) (H := H) (locs := locs) (cells := cs) (slots := sl) (As := vs As) (rest := vs st) (b := b) (C := y.cls) (g := F0 m pc ls (vs (As.reverse ++ vr (some b) :: st))) (cc := S.1) (nL := S.2.1) (own := S.2.2.1) (index := idx) (n := n) ⟨ok.1, ok.2.1, ok.2.2.1, ok.2.2.2.1, hts⟩ (hM b l G h v h1 hv)
    ⟨callB_x (R := R) (S' := S') hts hcode hini hlink hd3 (by rw [hroom']; exact hroom), hts _ hinst, hts _ hsel⟩
    ⟨cx_pcb, ⟨cell, q1, by rw [q3]; rfl, by rw [q2]; exact hcl⟩, cx_pcu (av := vr (some b) :: As) ok hI⟩ rfl (by rw [vs, List.length_map]; exact hn) hl.1 (by simp [vs, vr, vv, va_rf]) (by rw [vs_sum]; show 2 * 0 + _ ≤ 8; omega) hd (by rw [hroom']; exact hcs)
  exact cx_back (S' := S') ok hI hr (fun H1 locs1 hcx => g v ok h1 H1 locs1 ls r hcx hl hf3 he)
theorem gg_callSi {y : MethodName} {S' : ST} {n idx : Nat} {As : List VV} {fc : MO Int} {α : Type} {k1 : Int → MO α} {kk : α → MO ρ} (pc' : Nat) (hp : pc + 3 = pc') (hM : LK y S' As en_i fc) (hw : mw_S y S' n) (hn : As.length = n) (hlink : Cond.methodLink S.2.2.1 idx y ∈ tb_G) (hd : decode S.1 pc = .ok (.invokestatic idx, 3)) (hroom : S'.2.2.2.2.2.1 + 1 ≤ S.2.2.2.2.2.1 ∧ 8 + (S'.2.1 + 11) + S'.2.2.2.2.2.2.1 ≤ S.2.2.2.2.2.2.1) (cs' sl' : Nat) (hz : cs + S'.2.2.2.2.2.2.2.1 = cs' ∧ sl + S'.2.2.2.2.2.2.2.2 = sl') (hcs : cs' ≤ S.2.2.2.2.2.2.2.1 ∧ sl' ≤ S.2.2.2.2.2.2.2.2) (hst : (st.map vc).sum ≤ 8) (g : ∀ x : Int, GG S K enc cs' sl' pc' L (vi x :: st) (mo_b (k1 x) kk)) : GG S K enc cs sl pc L (As.reverse ++ st) (mo_b (mo_b fc k1) kk) := by
  subst hp
  obtain ⟨rfl, rfl⟩ := hz
  rw [mo_assoc]
  obtain ⟨p, l, e, R, s, m, args, below, meth, c, G, h0, hf, rf⟩ := K
  intro ok h H locs ls r hI hl hf' he
  obtain ⟨v, h1, hv, hf3⟩ := mo_b_inv hf'
  have hroom' := ok.2.2.2.2.2.2.2.2.2.1
  obtain ⟨hcode, hini, hd3, hstat⟩ := hw
  have hts := ok.2.2.2.2.1
  have hr := va_runS (e := e) (below := below) (meth := meth) (R := R) (H := H) (locs := locs) (cells := cs) (slots := sl) (As := vs As) (rest := vs st) (g := F0 m pc ls (vs (As.reverse ++ st))) (cc := S.1) (nL := S.2.1) (own := S.2.2.1) (index := idx) (n := n) ⟨ok.1, ok.2.1, ok.2.2.1, ok.2.2.2.1, hts⟩ (hM l G h v h1 hv)
    ⟨callB_x (R := R) (S' := S') hts hcode hini hlink hd3 (by rw [hroom']; exact hroom), hts _ hstat⟩
    ⟨cx_pcb, cx_pcu (av := As) ok hI⟩ rfl (by rw [vs, List.length_map]; exact hn) hl.1 (by simp [vs]) (by rw [vs_sum]; show 2 * 0 + _ ≤ 8; omega) hd (by rw [hroom']; exact hcs)
  exact cx_back (S' := S') ok hI hr (fun H1 locs1 hcx => g v ok h1 H1 locs1 ls r hcx hl hf3 he)
theorem gg_callVl {y : MethodName} {S' : ST} {n idx : Nat} {x0 : Option Nat} {As : List VV} {fc : Nat → MO Int} {α : Type} {k1 : Int → MO α} {kk : α → MO ρ} (pc' : Nat) (hp : pc + 3 = pc') (hM : ∀ b, LK y S' (vr (some b) :: As) en_l (fc b)) (hw : mw_V y S' n) (hn : As.length = n) (hlink : Cond.methodLink S.2.2.1 idx y ∈ tb_G) (hd : decode S.1 pc = .ok (.invokevirtual idx, 3)) {ci N : Nat} {T : u_T} {ty : Nat → FieldType} (cf : cf_K ci y.cls T N ty) (hroom : S'.2.2.2.2.2.1 + 1 ≤ S.2.2.2.2.2.1 ∧ 8 + (S'.2.1 + 11) + S'.2.2.2.2.2.2.1 ≤ S.2.2.2.2.2.2.1) (cs' sl' : Nat) (hz : cs + S'.2.2.2.2.2.2.2.1 = cs' ∧ sl + S'.2.2.2.2.2.2.2.2 = sl') (hcs : cs' ≤ S.2.2.2.2.2.2.2.1 ∧ sl' ≤ S.2.2.2.2.2.2.2.2) (hst : (st.map vc).sum ≤ 8) (g : ∀ x : Int, GG S K enc cs' sl' pc' L (vl x :: st) (mo_b (k1 x) kk)) : GG S K enc cs sl pc L (As.reverse ++ vr x0 :: st) (mo_b (mo_b (mo_cv ci x0 fc) k1) kk) := by
  subst hp
  obtain ⟨rfl, rfl⟩ := hz
  rw [mo_assoc]
  obtain ⟨p, l, e, R, s, m, args, below, meth, c, G, h0, hf, rf⟩ := K
  intro ok h H locs ls r hI hl hf' he
  obtain ⟨b, rfl, hf2⟩ := mo_on_inv hf'
  obtain ⟨v, h1, hv0, hf3⟩ := mo_b_inv hf2
  try dsimp only at hv0
  split at hv0
  case isFalse => cases hv0
  rename_i hTb
  have hv := hv0
  have hroom' := ok.2.2.2.2.2.2.2.2.2.1
  obtain ⟨hcode, hini, hd3, hinst, hsel⟩ := hw
  have hts := ok.2.2.2.2.1
  obtain ⟨cell, q1, q2, q3, -⟩ := rp_O hI.1 hTb
  have hcl := (ok.2.2.2.2.2.1.1.1 ci _ cf.1).2.1
  have hr := va_runV (e := e) (below := below) (meth := meth) (R := R) (H := H) (locs := locs) (cells := cs) (slots := sl) (As := vs As) (rest := vs st) (b := b) (C := y.cls) (g := F0 m pc ls (vs (As.reverse ++ vr (some b) :: st))) (cc := S.1) (nL := S.2.1) (own := S.2.2.1) (index := idx) (n := n) ⟨ok.1, ok.2.1, ok.2.2.1, ok.2.2.2.1, hts⟩ (hM b l G h v h1 hv)
    ⟨callB_x (R := R) (S' := S') hts hcode hini hlink hd3 (by rw [hroom']; exact hroom), hts _ hinst, hts _ hsel⟩
    ⟨cx_pcb, ⟨cell, q1, by rw [q3]; rfl, by rw [q2]; exact hcl⟩, cx_pcu (av := vr (some b) :: As) ok hI⟩ rfl (by rw [vs, List.length_map]; exact hn) hl.1 (by simp [vs, vr, vv, va_rf]) (by rw [vs_sum]; show 2 * 0 + _ ≤ 8; omega) hd (by rw [hroom']; exact hcs)
  exact cx_back (S' := S') ok hI hr (fun H1 locs1 hcx => g v ok h1 H1 locs1 ls r hcx hl hf3 he)
theorem gg_callSl {y : MethodName} {S' : ST} {n idx : Nat} {As : List VV} {fc : MO Int} {α : Type} {k1 : Int → MO α} {kk : α → MO ρ} (pc' : Nat) (hp : pc + 3 = pc') (hM : LK y S' As en_l fc) (hw : mw_S y S' n) (hn : As.length = n) (hlink : Cond.methodLink S.2.2.1 idx y ∈ tb_G) (hd : decode S.1 pc = .ok (.invokestatic idx, 3)) (hroom : S'.2.2.2.2.2.1 + 1 ≤ S.2.2.2.2.2.1 ∧ 8 + (S'.2.1 + 11) + S'.2.2.2.2.2.2.1 ≤ S.2.2.2.2.2.2.1) (cs' sl' : Nat) (hz : cs + S'.2.2.2.2.2.2.2.1 = cs' ∧ sl + S'.2.2.2.2.2.2.2.2 = sl') (hcs : cs' ≤ S.2.2.2.2.2.2.2.1 ∧ sl' ≤ S.2.2.2.2.2.2.2.2) (hst : (st.map vc).sum ≤ 8) (g : ∀ x : Int, GG S K enc cs' sl' pc' L (vl x :: st) (mo_b (k1 x) kk)) : GG S K enc cs sl pc L (As.reverse ++ st) (mo_b (mo_b fc k1) kk) := by
  subst hp
  obtain ⟨rfl, rfl⟩ := hz
  rw [mo_assoc]
  obtain ⟨p, l, e, R, s, m, args, below, meth, c, G, h0, hf, rf⟩ := K
  intro ok h H locs ls r hI hl hf' he
  obtain ⟨v, h1, hv, hf3⟩ := mo_b_inv hf'
  have hroom' := ok.2.2.2.2.2.2.2.2.2.1
  obtain ⟨hcode, hini, hd3, hstat⟩ := hw
  have hts := ok.2.2.2.2.1
  have hr := va_runS (e := e) (below := below) (meth := meth) (R := R) (H := H) (locs := locs) (cells := cs) (slots := sl) (As := vs As) (rest := vs st) (g := F0 m pc ls (vs (As.reverse ++ st))) (cc := S.1) (nL := S.2.1) (own := S.2.2.1) (index := idx) (n := n) ⟨ok.1, ok.2.1, ok.2.2.1, ok.2.2.2.1, hts⟩ (hM l G h v h1 hv)
    ⟨callB_x (R := R) (S' := S') hts hcode hini hlink hd3 (by rw [hroom']; exact hroom), hts _ hstat⟩
    ⟨cx_pcb, cx_pcu (av := As) ok hI⟩ rfl (by rw [vs, List.length_map]; exact hn) hl.1 (by simp [vs]) (by rw [vs_sum]; show 2 * 0 + _ ≤ 8; omega) hd (by rw [hroom']; exact hcs)
  exact cx_back (S' := S') ok hI hr (fun H1 locs1 hcx => g v ok h1 H1 locs1 ls r hcx hl hf3 he)
theorem gg_callVr {y : MethodName} {S' : ST} {n idx : Nat} {x0 : Option Nat} {As : List VV} {fc : Nat → MO (Option Nat)} {α : Type} {k1 : Option Nat → MO α} {kk : α → MO ρ} (pc' : Nat) (hp : pc + 3 = pc') (hM : ∀ b, LK y S' (vr (some b) :: As) en_r (fc b)) (hw : mw_V y S' n) (hn : As.length = n) (hlink : Cond.methodLink S.2.2.1 idx y ∈ tb_G) (hd : decode S.1 pc = .ok (.invokevirtual idx, 3)) {ci N : Nat} {T : u_T} {ty : Nat → FieldType} (cf : cf_K ci y.cls T N ty) (hroom : S'.2.2.2.2.2.1 + 1 ≤ S.2.2.2.2.2.1 ∧ 8 + (S'.2.1 + 11) + S'.2.2.2.2.2.2.1 ≤ S.2.2.2.2.2.2.1) (cs' sl' : Nat) (hz : cs + S'.2.2.2.2.2.2.2.1 = cs' ∧ sl + S'.2.2.2.2.2.2.2.2 = sl') (hcs : cs' ≤ S.2.2.2.2.2.2.2.1 ∧ sl' ≤ S.2.2.2.2.2.2.2.2) (hst : (st.map vc).sum ≤ 8) (g : ∀ x : Option Nat, GG S K enc cs' sl' pc' L (vr x :: st) (mo_b (k1 x) kk)) : GG S K enc cs sl pc L (As.reverse ++ vr x0 :: st) (mo_b (mo_b (mo_cv ci x0 fc) k1) kk) := by
  subst hp
  obtain ⟨rfl, rfl⟩ := hz
  rw [mo_assoc]
  obtain ⟨p, l, e, R, s, m, args, below, meth, c, G, h0, hf, rf⟩ := K
  intro ok h H locs ls r hI hl hf' he
  obtain ⟨b, rfl, hf2⟩ := mo_on_inv hf'
  obtain ⟨v, h1, hv0, hf3⟩ := mo_b_inv hf2
  try dsimp only at hv0
  split at hv0
  case isFalse => cases hv0
  rename_i hTb
  have hv := hv0
  have hroom' := ok.2.2.2.2.2.2.2.2.2.1
  obtain ⟨hcode, hini, hd3, hinst, hsel⟩ := hw
  have hts := ok.2.2.2.2.1
  obtain ⟨cell, q1, q2, q3, -⟩ := rp_O hI.1 hTb
  have hcl := (ok.2.2.2.2.2.1.1.1 ci _ cf.1).2.1
  have hr := va_runV (e := e) (below := below) (meth := meth) (R := R) (H := H) (locs := locs) (cells := cs) (slots := sl) (As := vs As) (rest := vs st) (b := b) (C := y.cls) (g := F0 m pc ls (vs (As.reverse ++ vr (some b) :: st))) (cc := S.1) (nL := S.2.1) (own := S.2.2.1) (index := idx) (n := n) ⟨ok.1, ok.2.1, ok.2.2.1, ok.2.2.2.1, hts⟩ (hM b l G h v h1 hv)
    ⟨callB_x (R := R) (S' := S') hts hcode hini hlink hd3 (by rw [hroom']; exact hroom), hts _ hinst, hts _ hsel⟩
    ⟨cx_pcb, ⟨cell, q1, by rw [q3]; rfl, by rw [q2]; exact hcl⟩, cx_pcu (av := vr (some b) :: As) ok hI⟩ rfl (by rw [vs, List.length_map]; exact hn) hl.1 (by simp [vs, vr, vv, va_rf]) (by rw [vs_sum]; show 2 * 0 + _ ≤ 8; omega) hd (by rw [hroom']; exact hcs)
  exact cx_back (S' := S') ok hI hr (fun H1 locs1 hcx => g v ok h1 H1 locs1 ls r hcx hl hf3 he)
theorem gg_callSr {y : MethodName} {S' : ST} {n idx : Nat} {As : List VV} {fc : MO (Option Nat)} {α : Type} {k1 : Option Nat → MO α} {kk : α → MO ρ} (pc' : Nat) (hp : pc + 3 = pc') (hM : LK y S' As en_r fc) (hw : mw_S y S' n) (hn : As.length = n) (hlink : Cond.methodLink S.2.2.1 idx y ∈ tb_G) (hd : decode S.1 pc = .ok (.invokestatic idx, 3)) (hroom : S'.2.2.2.2.2.1 + 1 ≤ S.2.2.2.2.2.1 ∧ 8 + (S'.2.1 + 11) + S'.2.2.2.2.2.2.1 ≤ S.2.2.2.2.2.2.1) (cs' sl' : Nat) (hz : cs + S'.2.2.2.2.2.2.2.1 = cs' ∧ sl + S'.2.2.2.2.2.2.2.2 = sl') (hcs : cs' ≤ S.2.2.2.2.2.2.2.1 ∧ sl' ≤ S.2.2.2.2.2.2.2.2) (hst : (st.map vc).sum ≤ 8) (g : ∀ x : Option Nat, GG S K enc cs' sl' pc' L (vr x :: st) (mo_b (k1 x) kk)) : GG S K enc cs sl pc L (As.reverse ++ st) (mo_b (mo_b fc k1) kk) := by
  subst hp
  obtain ⟨rfl, rfl⟩ := hz
  rw [mo_assoc]
  obtain ⟨p, l, e, R, s, m, args, below, meth, c, G, h0, hf, rf⟩ := K
  intro ok h H locs ls r hI hl hf' he
  obtain ⟨v, h1, hv, hf3⟩ := mo_b_inv hf'
  have hroom' := ok.2.2.2.2.2.2.2.2.2.1
  obtain ⟨hcode, hini, hd3, hstat⟩ := hw
  have hts := ok.2.2.2.2.1
  have hr := va_runS (e := e) (below := below) (meth := meth) (R := R) (H := H) (locs := locs) (cells := cs) (slots := sl) (As := vs As) (rest := vs st) (g := F0 m pc ls (vs (As.reverse ++ st))) (cc := S.1) (nL := S.2.1) (own := S.2.2.1) (index := idx) (n := n) ⟨ok.1, ok.2.1, ok.2.2.1, ok.2.2.2.1, hts⟩ (hM l G h v h1 hv)
    ⟨callB_x (R := R) (S' := S') hts hcode hini hlink hd3 (by rw [hroom']; exact hroom), hts _ hstat⟩
    ⟨cx_pcb, cx_pcu (av := As) ok hI⟩ rfl (by rw [vs, List.length_map]; exact hn) hl.1 (by simp [vs]) (by rw [vs_sum]; show 2 * 0 + _ ≤ 8; omega) hd (by rw [hroom']; exact hcs)
  exact cx_back (S' := S') ok hI hr (fun H1 locs1 hcx => g v ok h1 H1 locs1 ls r hcx hl hf3 he)
theorem gg_callVv {y : MethodName} {S' : ST} {n idx : Nat} {x0 : Option Nat} {As : List VV} {fc : Nat → MO Unit} {α : Type} {k1 : Unit → MO α} {kk : α → MO ρ} (pc' : Nat) (hp : pc + 3 = pc') (hM : ∀ b, LK y S' (vr (some b) :: As) en_v (fc b)) (hw : mw_V y S' n) (hn : As.length = n) (hlink : Cond.methodLink S.2.2.1 idx y ∈ tb_G) (hd : decode S.1 pc = .ok (.invokevirtual idx, 3)) {ci N : Nat} {T : u_T} {ty : Nat → FieldType} (cf : cf_K ci y.cls T N ty) (hroom : S'.2.2.2.2.2.1 + 1 ≤ S.2.2.2.2.2.1 ∧ 8 + (S'.2.1 + 11) + S'.2.2.2.2.2.2.1 ≤ S.2.2.2.2.2.2.1) (cs' sl' : Nat) (hz : cs + S'.2.2.2.2.2.2.2.1 = cs' ∧ sl + S'.2.2.2.2.2.2.2.2 = sl') (hcs : cs' ≤ S.2.2.2.2.2.2.2.1 ∧ sl' ≤ S.2.2.2.2.2.2.2.2) (hst : (st.map vc).sum ≤ 8) (g : ∀ x : Unit, GG S K enc cs' sl' pc' L (st) (mo_b (k1 x) kk)) : GG S K enc cs sl pc L (As.reverse ++ vr x0 :: st) (mo_b (mo_b (mo_cv ci x0 fc) k1) kk) := by
  subst hp
  obtain ⟨rfl, rfl⟩ := hz
  rw [mo_assoc]
  obtain ⟨p, l, e, R, s, m, args, below, meth, c, G, h0, hf, rf⟩ := K
  intro ok h H locs ls r hI hl hf' he
  obtain ⟨b, rfl, hf2⟩ := mo_on_inv hf'
  obtain ⟨v, h1, hv0, hf3⟩ := mo_b_inv hf2
  try dsimp only at hv0
  split at hv0
  case isFalse => cases hv0
  rename_i hTb
  have hv := hv0
  have hroom' := ok.2.2.2.2.2.2.2.2.2.1
  obtain ⟨hcode, hini, hd3, hinst, hsel⟩ := hw
  have hts := ok.2.2.2.2.1
  obtain ⟨cell, q1, q2, q3, -⟩ := rp_O hI.1 hTb
  have hcl := (ok.2.2.2.2.2.1.1.1 ci _ cf.1).2.1
  have hr := va_runV (e := e) (below := below) (meth := meth) (R := R) (H := H) (locs := locs) (cells := cs) (slots := sl) (As := vs As) (rest := vs st) (b := b) (C := y.cls) (g := F0 m pc ls (vs (As.reverse ++ vr (some b) :: st))) (cc := S.1) (nL := S.2.1) (own := S.2.2.1) (index := idx) (n := n) ⟨ok.1, ok.2.1, ok.2.2.1, ok.2.2.2.1, hts⟩ (hM b l G h v h1 hv)
    ⟨callB_x (R := R) (S' := S') hts hcode hini hlink hd3 (by rw [hroom']; exact hroom), hts _ hinst, hts _ hsel⟩
    ⟨cx_pcb, ⟨cell, q1, by rw [q3]; rfl, by rw [q2]; exact hcl⟩, cx_pcu (av := vr (some b) :: As) ok hI⟩ rfl (by rw [vs, List.length_map]; exact hn) hl.1 (by simp [vs, vr, vv, va_rf]) (by rw [vs_sum]; show 2 * 0 + _ ≤ 8; omega) hd (by rw [hroom']; exact hcs)
  exact cx_back (S' := S') ok hI hr (fun H1 locs1 hcx => g v ok h1 H1 locs1 ls r hcx hl hf3 he)
theorem gg_callSv {y : MethodName} {S' : ST} {n idx : Nat} {As : List VV} {fc : MO Unit} {α : Type} {k1 : Unit → MO α} {kk : α → MO ρ} (pc' : Nat) (hp : pc + 3 = pc') (hM : LK y S' As en_v fc) (hw : mw_S y S' n) (hn : As.length = n) (hlink : Cond.methodLink S.2.2.1 idx y ∈ tb_G) (hd : decode S.1 pc = .ok (.invokestatic idx, 3)) (hroom : S'.2.2.2.2.2.1 + 1 ≤ S.2.2.2.2.2.1 ∧ 8 + (S'.2.1 + 11) + S'.2.2.2.2.2.2.1 ≤ S.2.2.2.2.2.2.1) (cs' sl' : Nat) (hz : cs + S'.2.2.2.2.2.2.2.1 = cs' ∧ sl + S'.2.2.2.2.2.2.2.2 = sl') (hcs : cs' ≤ S.2.2.2.2.2.2.2.1 ∧ sl' ≤ S.2.2.2.2.2.2.2.2) (hst : (st.map vc).sum ≤ 8) (g : ∀ x : Unit, GG S K enc cs' sl' pc' L (st) (mo_b (k1 x) kk)) : GG S K enc cs sl pc L (As.reverse ++ st) (mo_b (mo_b fc k1) kk) := by
  subst hp
  obtain ⟨rfl, rfl⟩ := hz
  rw [mo_assoc]
  obtain ⟨p, l, e, R, s, m, args, below, meth, c, G, h0, hf, rf⟩ := K
  intro ok h H locs ls r hI hl hf' he
  obtain ⟨v, h1, hv, hf3⟩ := mo_b_inv hf'
  have hroom' := ok.2.2.2.2.2.2.2.2.2.1
  obtain ⟨hcode, hini, hd3, hstat⟩ := hw
  have hts := ok.2.2.2.2.1
  have hr := va_runS (e := e) (below := below) (meth := meth) (R := R) (H := H) (locs := locs) (cells := cs) (slots := sl) (As := vs As) (rest := vs st) (g := F0 m pc ls (vs (As.reverse ++ st))) (cc := S.1) (nL := S.2.1) (own := S.2.2.1) (index := idx) (n := n) ⟨ok.1, ok.2.1, ok.2.2.1, ok.2.2.2.1, hts⟩ (hM l G h v h1 hv)
    ⟨callB_x (R := R) (S' := S') hts hcode hini hlink hd3 (by rw [hroom']; exact hroom), hts _ hstat⟩
    ⟨cx_pcb, cx_pcu (av := As) ok hI⟩ rfl (by rw [vs, List.length_map]; exact hn) hl.1 (by simp [vs]) (by rw [vs_sum]; show 2 * 0 + _ ≤ 8; omega) hd (by rw [hroom']; exact hcs)
  exact cx_back (S' := S') ok hI hr (fun H1 locs1 hcx => g v ok h1 H1 locs1 ls r hcx hl hf3 he)
theorem gg_callI {y : MethodName} {S' : ST} {n idx : Nat} {x0 : Option Nat} {As : List VV} {fc : Nat → MO Unit} {α : Type} {k1 : Unit → MO α} {kk : α → MO ρ} (pc' : Nat) (hp : pc + 3 = pc') (hM : ∀ b, LK y S' (vr (some b) :: As) en_v (fc b)) (hw : mw_I y S' n) (hn : As.length = n) (hlink : Cond.methodLink S.2.2.1 idx y ∈ tb_G) (hd : decode S.1 pc = .ok (.invokespecial idx, 3)) (hroom : S'.2.2.2.2.2.1 + 1 ≤ S.2.2.2.2.2.1 ∧ 8 + (S'.2.1 + 11) + S'.2.2.2.2.2.2.1 ≤ S.2.2.2.2.2.2.1) (cs' sl' : Nat) (hz : cs + S'.2.2.2.2.2.2.2.1 = cs' ∧ sl + S'.2.2.2.2.2.2.2.2 = sl') (hcs : cs' ≤ S.2.2.2.2.2.2.2.1 ∧ sl' ≤ S.2.2.2.2.2.2.2.2) (hst : (st.map vc).sum ≤ 8) (g : ∀ x : Unit, GG S K enc cs' sl' pc' L (st) (mo_b (k1 x) kk)) : GG S K enc cs sl pc L (As.reverse ++ vr x0 :: st) (mo_b (mo_b (mo_on x0 fc) k1) kk) := by
  subst hp
  obtain ⟨rfl, rfl⟩ := hz
  rw [mo_assoc]
  obtain ⟨p, l, e, R, s, m, args, below, meth, c, G, h0, hf, rf⟩ := K
  intro ok h H locs ls r hI hl hf' he
  obtain ⟨b, rfl, hf2⟩ := mo_on_inv hf'
  obtain ⟨v, h1, hv, hf3⟩ := mo_b_inv hf2
  have hroom' := ok.2.2.2.2.2.2.2.2.2.1
  obtain ⟨hcode, hini, hd3, hinst, hnm, hrt⟩ := hw
  have hts := ok.2.2.2.2.1
  have hMb := hM b l G h v h1 hv
  rw [hrt] at hMb
  have hr := va_runI (e := e) (below := below) (meth := meth) (R := R) (H := H) (locs := locs) (cells := cs) (slots := sl) (As := vs As) (rest := vs st) (b := b) (g := F0 m pc ls (vs (As.reverse ++ vr (some b) :: st))) (cc := S.1) (nL := S.2.1) (own := S.2.2.1) (index := idx) (n := n) (bytes := S'.1) (maxL := S'.2.1) ⟨ok.1, ok.2.1, ok.2.2.1, ok.2.2.2.1, hts⟩ hMb
    ⟨callB_of n hts (tb_good (fun w h => h) hcode) rfl rfl rfl (hts _ hini) (hts _ hlink) hd3 (by rw [hroom']; exact hroom), hnm, hts _ hinst⟩
    ⟨cx_pcb, cx_pcu (av := vr (some b) :: As) ok hI⟩ rfl (by rw [vs, List.length_map]; exact hn) hl.1 (by simp [vs, vr, vv, va_rf]) (by rw [vs_sum]; show 2 * 0 + _ ≤ 8; omega) hd (by rw [hroom']; exact hcs)
  exact cx_back (S' := S') ok hI hr (fun H1 locs1 hcx => g v ok h1 H1 locs1 ls r hcx hl hf3 he)
theorem gg_callIN {y : MethodName} {S' : ST} {n idx : Nat} {x0 : Option Nat} {As : List VV} {fc : Nat → MO Unit} {α : Type} {k1 : Unit → MO α} {kk : α → MO ρ} (pc' : Nat) (hp : pc + 3 = pc') (hM : ∀ b, LK y S' (vr (some b) :: As) en_v (fc b)) (hw : mw_I y S' n) (hn : As.length = n) (hlink : (S.2.2.1, idx, y, "KeptVersions") ∈ kn_nM) (hd : decode S.1 pc = .ok (.invokespecial idx, 3)) (hroom : S'.2.2.2.2.2.1 + 1 ≤ S.2.2.2.2.2.1 ∧ 8 + (S'.2.1 + 11) + S'.2.2.2.2.2.2.1 ≤ S.2.2.2.2.2.2.1) (cs' sl' : Nat) (hz : cs + S'.2.2.2.2.2.2.2.1 = cs' ∧ sl + S'.2.2.2.2.2.2.2.2 = sl') (hcs : cs' ≤ S.2.2.2.2.2.2.2.1 ∧ sl' ≤ S.2.2.2.2.2.2.2.2) (hst : (st.map vc).sum ≤ 8) (g : ∀ x : Unit, GG S K enc cs' sl' pc' L (st) (mo_b (k1 x) kk)) : GG S K enc cs sl pc L (As.reverse ++ vr x0 :: st) (mo_b (mo_b (mo_on x0 fc) k1) kk) := by
  subst hp
  obtain ⟨rfl, rfl⟩ := hz
  rw [mo_assoc]
  obtain ⟨p, l, e, R, s, m, args, below, meth, c, G, h0, hf, rf⟩ := K
  intro ok h H locs ls r hI hl hf' he
  obtain ⟨b, rfl, hf2⟩ := mo_on_inv hf'
  obtain ⟨v, h1, hv, hf3⟩ := mo_b_inv hf2
  have hroom' := ok.2.2.2.2.2.2.2.2.2.1
  obtain ⟨hcode, hini, hd3, hinst, hnm, hrt⟩ := hw
  have hts := ok.2.2.2.2.1
  have hMb := hM b l G h v h1 hv
  rw [hrt] at hMb
  have hr := va_runIN (e := e) (below := below) (meth := meth) (R := R) (H := H) (locs := locs) (cells := cs) (slots := sl) (As := vs As) (rest := vs st) (b := b) (g := F0 m pc ls (vs (As.reverse ++ vr (some b) :: st))) (cc := S.1) (nL := S.2.1) (own := S.2.2.1) (index := idx) (n := n) (bytes := S'.1) (maxL := S'.2.1) ⟨ok.1, ok.2.1, ok.2.2.1, ok.2.2.2.1, hts⟩ hMb
    ⟨va_cnB (host := "KeptVersions") n hts (tb_good (fun w h => h) hcode) rfl rfl rfl (ok.2.2.2.2.2.1.2.2.1 _ hlink) (hts _ hini) hd3 (by rw [hroom']; exact hroom), hnm, hts _ hinst⟩
    ⟨cx_pcb, cx_pcu (av := vr (some b) :: As) ok hI⟩ rfl (by rw [vs, List.length_map]; exact hn) hl.1 (by simp [vs, vr, vv, va_rf]) (by rw [vs_sum]; show 2 * 0 + _ ≤ 8; omega) hd (by rw [hroom']; exact hcs)
  exact cx_back (S' := S') ok hI hr (fun H1 locs1 hcx => g v ok h1 H1 locs1 ls r hcx hl hf3 he)
theorem gg_callSNl {y : MethodName} {S' : ST} {n idx : Nat} {As : List VV} {fc : MO Int} {α : Type} {k1 : Int → MO α} {kk : α → MO ρ} (pc' : Nat) (hp : pc + 3 = pc') (hM : LK y S' As en_l fc) (hw : mw_S y S' n) (hn : As.length = n) (hlink : (S.2.2.1, idx, y, "KeptVersions") ∈ kn_nM) (hd : decode S.1 pc = .ok (.invokestatic idx, 3)) (hroom : S'.2.2.2.2.2.1 + 1 ≤ S.2.2.2.2.2.1 ∧ 8 + (S'.2.1 + 11) + S'.2.2.2.2.2.2.1 ≤ S.2.2.2.2.2.2.1) (cs' sl' : Nat) (hz : cs + S'.2.2.2.2.2.2.2.1 = cs' ∧ sl + S'.2.2.2.2.2.2.2.2 = sl') (hcs : cs' ≤ S.2.2.2.2.2.2.2.1 ∧ sl' ≤ S.2.2.2.2.2.2.2.2) (hst : (st.map vc).sum ≤ 8) (g : ∀ x : Int, GG S K enc cs' sl' pc' L (vl x :: st) (mo_b (k1 x) kk)) : GG S K enc cs sl pc L (As.reverse ++ st) (mo_b (mo_b fc k1) kk) := by
  subst hp
  obtain ⟨rfl, rfl⟩ := hz
  rw [mo_assoc]
  obtain ⟨p, l, e, R, s, m, args, below, meth, c, G, h0, hf, rf⟩ := K
  intro ok h H locs ls r hI hl hf' he
  obtain ⟨v, h1, hv, hf3⟩ := mo_b_inv hf'
  have hroom' := ok.2.2.2.2.2.2.2.2.2.1
  obtain ⟨hcode, hini, hd3, hstat⟩ := hw
  have hts := ok.2.2.2.2.1
  have hr := va_runSN (e := e) (below := below) (meth := meth) (R := R) (H := H) (locs := locs) (cells := cs) (slots := sl) (As := vs As) (rest := vs st) (host := "KeptVersions") (g := F0 m pc ls (vs (As.reverse ++ st))) (cc := S.1) (nL := S.2.1) (own := S.2.2.1) (index := idx) (n := n) ⟨ok.1, ok.2.1, ok.2.2.1, ok.2.2.2.1, hts⟩ (hM l G h v h1 hv)
    ⟨va_cnB (host := "KeptVersions") n hts (tb_good (fun w h => h) hcode) rfl rfl rfl (ok.2.2.2.2.2.1.2.2.1 _ hlink) (hts _ hini) hd3 (by rw [hroom']; exact hroom), hts _ hstat, trivial⟩
    ⟨cx_pcb, cx_pcu (av := As) ok hI⟩ rfl (by rw [vs, List.length_map]; exact hn) hl.1 (by simp [vs]) (by rw [vs_sum]; show 2 * 0 + _ ≤ 8; omega) hd (by rw [hroom']; exact hcs)
  exact cx_back (S' := S') ok hI hr (fun H1 locs1 hcx => g v ok h1 H1 locs1 ls r hcx hl hf3 he)
theorem gg_tsw3 {x : Int} {α : Type} {A0 A1 A2 D : MO α} {kk : α → MO ρ} {o0 o1 o2 dflt : Int} {t0 t1 t2 td len : Nat} (hd : decode S.1 pc = .ok (.tableswitch dflt 0 2 #[o0, o1, o2], len)) (e0 : (pc : Int) + o0 = (t0 : Int)) (e1 : (pc : Int) + o1 = (t1 : Int)) (e2 : (pc : Int) + o2 = (t2 : Int)) (hdf : (pc : Int) + dflt = (td : Int)) (g0 : GG S K enc cs sl t0 L st (mo_b A0 kk)) (g1 : GG S K enc cs sl t1 L st (mo_b A1 kk)) (g2 : GG S K enc cs sl t2 L st (mo_b A2 kk)) (gd : GG S K enc cs sl td L st (mo_b D kk)) : GG S K enc cs sl pc L (vi x :: st) (mo_b (mo_eq x 0 A0 (mo_eq x 1 A1 (mo_eq x 2 A2 D))) kk) := by
  obtain ⟨p, l, e, R, s, m, args, below, meth, c, G, h0, hf, rf⟩ := K
  intro ok h H locs ls r hI hl hf' he
  have hx : am_r x := (mo_eq_inv hf').1
  have hxt : (Int32.ofInt x).toInt = x := nm_t hx
  obtain ⟨-, -, hf'⟩ := mo_eq_inv hf'
  rcases hf' with ⟨rfl, hf'⟩ | ⟨n0, hf'⟩
  · exact lv_tableIn ok.1 ok.2.1 hd (by rw [hxt]; decide) (by rw [hxt]; decide) (off := o0) (by rw [hxt]; rfl) e0 (g0 ok h H locs ls r hI hl hf' he)
  obtain ⟨-, -, hf'⟩ := mo_eq_inv hf'
  rcases hf' with ⟨rfl, hf'⟩ | ⟨n1, hf'⟩
  · exact lv_tableIn ok.1 ok.2.1 hd (by rw [hxt]; decide) (by rw [hxt]; decide) (off := o1) (by rw [hxt]; rfl) e1 (g1 ok h H locs ls r hI hl hf' he)
  obtain ⟨-, -, hf'⟩ := mo_eq_inv hf'
  rcases hf' with ⟨rfl, hf'⟩ | ⟨n2, hf'⟩
  · exact lv_tableIn ok.1 ok.2.1 hd (by rw [hxt]; decide) (by rw [hxt]; decide) (off := o2) (by rw [hxt]; rfl) e2 (g2 ok h H locs ls r hI hl hf' he)
  refine lv_tableOut ok.1 ok.2.1 hd (by rw [hxt]; omega) hdf (gd ok h H locs ls r hI hl hf' he)
theorem gg_tsw4 {x : Int} {α : Type} {A0 A1 A2 A3 D : MO α} {kk : α → MO ρ} {o0 o1 o2 o3 dflt : Int} {t0 t1 t2 t3 td len : Nat} (hd : decode S.1 pc = .ok (.tableswitch dflt 0 3 #[o0, o1, o2, o3], len)) (e0 : (pc : Int) + o0 = (t0 : Int)) (e1 : (pc : Int) + o1 = (t1 : Int)) (e2 : (pc : Int) + o2 = (t2 : Int)) (e3 : (pc : Int) + o3 = (t3 : Int)) (hdf : (pc : Int) + dflt = (td : Int)) (g0 : GG S K enc cs sl t0 L st (mo_b A0 kk)) (g1 : GG S K enc cs sl t1 L st (mo_b A1 kk)) (g2 : GG S K enc cs sl t2 L st (mo_b A2 kk)) (g3 : GG S K enc cs sl t3 L st (mo_b A3 kk)) (gd : GG S K enc cs sl td L st (mo_b D kk)) : GG S K enc cs sl pc L (vi x :: st) (mo_b (mo_eq x 0 A0 (mo_eq x 1 A1 (mo_eq x 2 A2 (mo_eq x 3 A3 D)))) kk) := by
  obtain ⟨p, l, e, R, s, m, args, below, meth, c, G, h0, hf, rf⟩ := K
  intro ok h H locs ls r hI hl hf' he
  have hx : am_r x := (mo_eq_inv hf').1
  have hxt : (Int32.ofInt x).toInt = x := nm_t hx
  obtain ⟨-, -, hf'⟩ := mo_eq_inv hf'
  rcases hf' with ⟨rfl, hf'⟩ | ⟨n0, hf'⟩
  · exact lv_tableIn ok.1 ok.2.1 hd (by rw [hxt]; decide) (by rw [hxt]; decide) (off := o0) (by rw [hxt]; rfl) e0 (g0 ok h H locs ls r hI hl hf' he)
  obtain ⟨-, -, hf'⟩ := mo_eq_inv hf'
  rcases hf' with ⟨rfl, hf'⟩ | ⟨n1, hf'⟩
  · exact lv_tableIn ok.1 ok.2.1 hd (by rw [hxt]; decide) (by rw [hxt]; decide) (off := o1) (by rw [hxt]; rfl) e1 (g1 ok h H locs ls r hI hl hf' he)
  obtain ⟨-, -, hf'⟩ := mo_eq_inv hf'
  rcases hf' with ⟨rfl, hf'⟩ | ⟨n2, hf'⟩
  · exact lv_tableIn ok.1 ok.2.1 hd (by rw [hxt]; decide) (by rw [hxt]; decide) (off := o2) (by rw [hxt]; rfl) e2 (g2 ok h H locs ls r hI hl hf' he)
  obtain ⟨-, -, hf'⟩ := mo_eq_inv hf'
  rcases hf' with ⟨rfl, hf'⟩ | ⟨n3, hf'⟩
  · exact lv_tableIn ok.1 ok.2.1 hd (by rw [hxt]; decide) (by rw [hxt]; decide) (off := o3) (by rw [hxt]; rfl) e3 (g3 ok h H locs ls r hI hl hf' he)
  refine lv_tableOut ok.1 ok.2.1 hd (by rw [hxt]; omega) hdf (gd ok h H locs ls r hI hl hf' he)
theorem gg_tsw5 {x : Int} {α : Type} {A0 A1 A2 A3 A4 D : MO α} {kk : α → MO ρ} {o0 o1 o2 o3 o4 dflt : Int} {t0 t1 t2 t3 t4 td len : Nat} (hd : decode S.1 pc = .ok (.tableswitch dflt 0 4 #[o0, o1, o2, o3, o4], len)) (e0 : (pc : Int) + o0 = (t0 : Int)) (e1 : (pc : Int) + o1 = (t1 : Int)) (e2 : (pc : Int) + o2 = (t2 : Int)) (e3 : (pc : Int) + o3 = (t3 : Int)) (e4 : (pc : Int) + o4 = (t4 : Int)) (hdf : (pc : Int) + dflt = (td : Int)) (g0 : GG S K enc cs sl t0 L st (mo_b A0 kk)) (g1 : GG S K enc cs sl t1 L st (mo_b A1 kk)) (g2 : GG S K enc cs sl t2 L st (mo_b A2 kk)) (g3 : GG S K enc cs sl t3 L st (mo_b A3 kk)) (g4 : GG S K enc cs sl t4 L st (mo_b A4 kk)) (gd : GG S K enc cs sl td L st (mo_b D kk)) : GG S K enc cs sl pc L (vi x :: st) (mo_b (mo_eq x 0 A0 (mo_eq x 1 A1 (mo_eq x 2 A2 (mo_eq x 3 A3 (mo_eq x 4 A4 D))))) kk) := by
  obtain ⟨p, l, e, R, s, m, args, below, meth, c, G, h0, hf, rf⟩ := K
  intro ok h H locs ls r hI hl hf' he
  have hx : am_r x := (mo_eq_inv hf').1
  have hxt : (Int32.ofInt x).toInt = x := nm_t hx
  obtain ⟨-, -, hf'⟩ := mo_eq_inv hf'
  rcases hf' with ⟨rfl, hf'⟩ | ⟨n0, hf'⟩
  · exact lv_tableIn ok.1 ok.2.1 hd (by rw [hxt]; decide) (by rw [hxt]; decide) (off := o0) (by rw [hxt]; rfl) e0 (g0 ok h H locs ls r hI hl hf' he)
  obtain ⟨-, -, hf'⟩ := mo_eq_inv hf'
  rcases hf' with ⟨rfl, hf'⟩ | ⟨n1, hf'⟩
  · exact lv_tableIn ok.1 ok.2.1 hd (by rw [hxt]; decide) (by rw [hxt]; decide) (off := o1) (by rw [hxt]; rfl) e1 (g1 ok h H locs ls r hI hl hf' he)
  obtain ⟨-, -, hf'⟩ := mo_eq_inv hf'
  rcases hf' with ⟨rfl, hf'⟩ | ⟨n2, hf'⟩
  · exact lv_tableIn ok.1 ok.2.1 hd (by rw [hxt]; decide) (by rw [hxt]; decide) (off := o2) (by rw [hxt]; rfl) e2 (g2 ok h H locs ls r hI hl hf' he)
  obtain ⟨-, -, hf'⟩ := mo_eq_inv hf'
  rcases hf' with ⟨rfl, hf'⟩ | ⟨n3, hf'⟩
  · exact lv_tableIn ok.1 ok.2.1 hd (by rw [hxt]; decide) (by rw [hxt]; decide) (off := o3) (by rw [hxt]; rfl) e3 (g3 ok h H locs ls r hI hl hf' he)
  obtain ⟨-, -, hf'⟩ := mo_eq_inv hf'
  rcases hf' with ⟨rfl, hf'⟩ | ⟨n4, hf'⟩
  · exact lv_tableIn ok.1 ok.2.1 hd (by rw [hxt]; decide) (by rw [hxt]; decide) (off := o4) (by rw [hxt]; rfl) e4 (g4 ok h H locs ls r hI hl hf' he)
  refine lv_tableOut ok.1 ok.2.1 hd (by rw [hxt]; omega) hdf (gd ok h H locs ls r hI hl hf' he)
end CALL
