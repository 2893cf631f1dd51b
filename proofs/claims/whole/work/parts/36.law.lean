/-! THE CLAIM OUT OF ONE WALK OF THE LAW'S BODY. Your part is whole_start (and what it stands on); all else here is the same for every law, but numbers. -/
def R_law : String := "KeptVersionsLaw"
def lw_P (b : Addr) (xs : List Int32) (args : Array Value) (s : State) : Prop := args = #[.ref b] ∧ s.IntsAt b xs ∧ xs.length ≤ 2560 ∧ (Jvm.Cond.and given_1 narrow_1).before args s = true
def lw_Q (_ : Array Value) (s : State) (o : Outcome) (t : State) : Prop := o = .returned (some (.int 1)) ∧ Framed s o t [] 600000 7302250
def lw_Z (below : List Frame) (a : Array Value) (s : State) : State → Prop := fun t => ∃ o, t.status = .running ∧ Ended t below o ∧ lw_Q a s o t
/-- the law's own end, with 1 on the stack, nothing written that was there before, its room as the claim has it -/
theorem lw_ret {p : Program} {l : Launch} {e : Env} {s : State} {m : MethodId} {below : List Frame} {meth : Method} {c : Code} {b : Nat} (hx : p.tables.exec = Jvm.exec) (hb : c.code = code) (hr : meth.sig.returnType = ret) (hlocks : meth.locks = false) {pc : Nat} {H : Heap} {ls : Array Slot} (hdg : decode code pc = .ok (.ireturn, 1)) : W p l e room_1 s m #[Value.ref b] below meth c H [] 600000 7302250 (lw_Z below #[Value.ref b] s) (F0 m pc ls [.int 1]) := by
  intro T hT X
  obtain ⟨fs, hret, hrun, hended, hW, hframe⟩ := X.leave (v := some (.int 1)) (hlocks := hlocks) (fun h => by rw [hr] at h; cases h)
  have hmeth' : T.vm.method? m = some meth := X.method'
  refine ⟨T.setFrames fs, ?_, .returned (some (.int 1)), hrun, hended, rfl, ⟨_, rfl⟩, hW, hframe⟩
  jvm_step X.here [X.here.top, hx, hb, hdg, hmeth', hr, ret, narrow_b1]
  (try refine ⟨rfl, ?_⟩); (try refine ⟨rfl, ?_⟩)
  first | (intro acts; rw [hret _ acts rfl rfl rfl]) | rw [hret _ _ rfl rfl rfl]
  exact Steps.refl _
/-- what holds at the law's entry: the machine, the code, the tables' words (any of lw_tbl by 'hts w (by decide +kernel)'), the script of L ints xs at the cell b, what the Statement gives of the start (any of its parts by flat_of_before) -/
def lw_At (p : Program) (s : State) (m : MethodId) (meth : Method) (c : Code) (b L : Nat) (xs : Nat → Int32) : Prop :=
  p.tables.exec = Jvm.exec ∧ c.code = code ∧ meth.sig.returnType = ret ∧ c.maxLocals = 4 ∧ s.vm.findClass R_law = some m.cls ∧ (∀ w ∈ lw_tbl, w.before #[Value.ref b] s = true) ∧ va_X b L xs s s.heap ∧ b < s.heap.size ∧ meth.locks = false ∧ (Jvm.Cond.and given_1 narrow_1).before #[Value.ref b] s = true
def ah_z (h : AH) (n : Nat) : AH := (h.1, h.2.1, h.2.2.1, h.2.2.2.1, h.2.2.2.2.1, h.2.2.2.2.2.1, n)
def ah_e (n : Nat) : AH := (fun _ => 0, fun _ => 0, fun _ _ => 0, fun _ _ => none, fun _ _ => 0, fun _ _ => none, n)
def lw_I (s : State) (G : GM) (h1 h2 : AH) (H : Heap) (locs : List Loc) : Prop := rp_R G h1 H ∧ rp_R G h2 H ∧ (∀ q, ah_T h1 q ≠ 0 → ah_T h2 q = 0) ∧ va_S (fun q => s.heap.size ≤ q) s.heap H locs ∧ (∀ q, ah_T h1 q ≠ 0 → s.heap.size ≤ q) ∧ (∀ q, ah_T h2 q ≠ 0 → s.heap.size ≤ q)
theorem lw_I.symm {s : State} {G : GM} {h1 h2 : AH} {H : Heap} {locs : List Loc} (h : lw_I s G h1 h2 H locs) : lw_I s G h2 h1 H locs :=
  ⟨h.2.1, h.1, fun q hq => Decidable.byContradiction fun z => hq (h.2.2.1 q z), h.2.2.2.1, h.2.2.2.2.2, h.2.2.2.2.1⟩
theorem rp_z {G : GM} {h : AH} {H H1 : Heap} (hR : rp_R G h H) (hz : H.size ≤ H1.size) (ho : ∀ q, ah_T h q ≠ 0 → H1[q]? = H[q]?) : rp_R G (ah_z h H1.size) H1 := by
  refine ⟨fun a => ?_, rfl, fun a ha => Nat.lt_of_lt_of_le (hR.2.2 a ha) hz⟩
  have h0 := hR.1 a
  show rp_at G h a H1
  by_cases hT : ah_T h a = 0
  · unfold rp_at; rw [if_pos hT]; trivial
  · have o := ho a hT
    unfold rp_at at h0 ⊢
    rw [if_neg hT] at h0 ⊢
    split at h0
    · rename_i e1; rw [if_pos e1, o]; exact h0
    · rename_i e1
      rw [if_neg e1]
      split at h0
      · rename_i e2; rw [if_pos e2, o]; exact h0
      · rename_i e2
        rw [if_neg e2]
        split at h0
        · rename_i e3; rw [if_pos e3, o]; exact h0
        · rename_i e3
          rw [if_neg e3]
          exact h0.kept o
def lw_C (p : Program) (s : State) (m : MethodId) (meth : Method) (c : Code) (b L : Nat) (xs : Nat → Int32) (G : GM) : Prop := lw_At p s m meth c b L xs ∧ kn_K G s ∧ L ≤ 2560
section LAWR
variable {p : Program} {l : Launch} {e : Env} {s : State} {m : MethodId} {below : List Frame} {meth : Method} {c : Code} {b L : Nat} {xs : Nat → Int32} {G : GM} {Q : State → Prop} {H : Heap} {locs : List Loc} {cells slots : Nat}
def lw_W (p : Program) (l : Launch) (e : Env) (s : State) (m : MethodId) (below : List Frame) (meth : Method) (c : Code) (b : Nat) (Q : State → Prop) (H : Heap) (locs : List Loc) (cells slots pc : Nat) (Lc : List (Nat × VV)) (st : List VV) : Prop :=
  ∀ ls, lv_has ls 4 (vL Lc) → W p l e room_1 s m #[Value.ref b] below meth c H locs cells slots Q (F0 m pc ls (vs st))
variable {pc : Nat} {Lc : List (Nat × VV)} {st : List VV}
theorem lw_hts (C : lw_C p s m meth c b L xs G) : ∀ w ∈ tb_G, w.before #[Value.ref b] s = true := fun w h => C.1.2.2.2.2.2.1 w (List.mem_filter.mp h).1
theorem lw_after {h1 h1' h2 : AH} {v : Option Value} {a : Array Value} {H : Heap} {locs : List Loc} {S' : ST} {g : JFrame} {rest : List Value} (C : lw_C p s m meth c b L xs G) (hI : lw_I s G h1 h2 H locs)
    {ls : Array Slot} {st0 : List Value} (hr : va_Run p l e room_1 s m #[Value.ref b] below meth c H locs cells slots S'.2.2.2.2.2.2.2.1 S'.2.2.2.2.2.2.2.2 (F0 m pc ls st0) rest (cx_qc G h1 v h1' a) (cx_free h1))
    (kk : ∀ (H' : Heap) (locs' : List Loc), H.size ≤ H'.size → lw_I s G h1' (ah_z h2 H'.size) H' locs' → W p l e room_1 s m #[Value.ref b] below meth c H' locs' (cells + S'.2.2.2.2.2.2.2.1) (slots + S'.2.2.2.2.2.2.2.2) Q (F0 m (pc + 3) ls (v.toList ++ rest))) : W p l e room_1 s m #[Value.ref b] below meth c H locs cells slots Q (F0 m pc ls st0) := by
  intro T hT X
  obtain ⟨v', st₀, t, T', Lo, hh0, X', hLo, e1, e2, ⟨hv, hR, hF, hfr⟩, stp⟩ := hr T hT X
  cases hv
  obtain ⟨hz, hk⟩ := hF
  rw [hh0] at hz hk
  obtain ⟨i1, i2, i3, i4, i5, i6⟩ := hI
  have hs1 : ah_S h1 = H.size := i1.2.1
  have hfree : ∀ q, cx_free h1 q → s.heap.size ≤ q := by
    intro q hq
    rcases hq with hq | hq
    · exact i5 q hq
    · exact Nat.le_trans i4.1 (by omega)
  have hcx : lw_I s G h1' (ah_z h2 T'.heap.size) T'.heap (locs ++ Lo) := by
    refine ⟨by rw [e1]; exact hR, ?_, fun q hq => ?_, ⟨Nat.le_trans i4.1 (by rw [e1]; exact hz), fun q q1 q2 => ?_, fun q hq => ?_⟩, fun q hq => hfree q (hfr q hq), i6⟩
    · refine rp_z i2 (by rw [e1]; exact hz) (fun q hq => ?_)
      rw [e1]
      refine hk q (i2.2.2 q hq) (fun z => ?_)
      rcases z with z | z
      · exact hq (i3 q z)
      · have := i2.2.2 q hq; omega
    · show ah_T h2 q = 0
      rcases hfr q hq with z | z
      · exact i3 q z
      · by_cases hz2 : ah_T h2 q = 0
        · exact hz2
        · have := i2.2.2 q hz2; omega
    · rw [e1, hk q (Nat.lt_of_lt_of_le q1 i4.1) (fun z => q2 (hfree q z))]
      exact i4.2.1 q q1 q2
    · rcases List.mem_append.mp hq with q1 | q1
      · exact i4.2.2 q q1
      · exact hfree _ (hLo q q1)
  obtain ⟨t2, a1, b1⟩ := kk T'.heap (locs ++ Lo) (by rw [e1]; exact hz) hcx T' rfl X'
  exact ⟨t2, stp t2 a1, b1⟩
theorem lw_pcu {h1 h2 : AH} {av : List VV} (C : lw_C p s m meth c b L xs G) (hI : lw_I s G h1 h2 H locs) : ∀ U : State, U.heap = H → s.WarmedH U.vm → cx_pc G av h1 (vs av).toArray U :=
  fun U hU hW => ⟨rfl, by rw [hU]; exact hI.1, kn_warm hW C.2.1⟩
theorem lw_callV {ρ : Type} {f : MO ρ} {enc : ρ → Option Value} {r : ρ} {h1 h1' h2 : AH} {a : Nat} {y : MethodName} {S' : ST} {n idx ci N : Nat} {T : u_T} {ty : Nat → FieldType} {As : List VV} (C : lw_C p s m meth c b L xs G) (hI : lw_I s G h1 h2 H locs) (hf : f h1 = some (r, h1')) (hLK : LK y S' (vr (some a) :: As) enc f) (hw : mw_V y S' n) (hn : As.length = n) (hlink : Cond.methodLink R_law idx y ∈ tb_G) (hd : decode code pc = .ok (.invokevirtual idx, 3)) (cf : cf_K ci y.cls T N ty) (hT : ah_T h1 a = 10 + ci)
    (hroom : S'.2.2.2.2.2.1 + 1 ≤ 2048 ∧ 8 + (S'.2.1 + 11) + S'.2.2.2.2.2.2.1 ≤ 84000) (hcs : cells + S'.2.2.2.2.2.2.2.1 ≤ 600000 ∧ slots + S'.2.2.2.2.2.2.2.2 ≤ 7302250) (hst : (st.map vc).sum ≤ 8)
    (kk : ∀ (H' : Heap) (locs' : List Loc), H.size ≤ H'.size → lw_I s G h1' (ah_z h2 H'.size) H' locs' → ∀ ls, lv_has ls 4 (vL Lc) → W p l e room_1 s m #[Value.ref b] below meth c H' locs' (cells + S'.2.2.2.2.2.2.2.1) (slots + S'.2.2.2.2.2.2.2.2) Q (F0 m (pc + 3) ls ((enc r).toList ++ vs st))) : lw_W p l e s m below meth c b Q H locs cells slots pc Lc (As.reverse ++ vr (some a) :: st) := by
  intro ls hl
  obtain ⟨hcode, hini, hd3, hinst, hsel⟩ := hw
  have hts := lw_hts C
  obtain ⟨cell, q1, q2, q3, -⟩ := rp_O hI.1 hT
  have hcl := (C.2.1.1.1 ci _ cf.1).2.1
  have hr := va_runV (e := e) (below := below) (meth := meth) (R := room_1) (H := H) (locs := locs) (cells := cells) (slots := slots) (As := vs As) (rest := vs st) (b := a) (C := y.cls) (g := F0 m pc ls (vs (As.reverse ++ vr (some a) :: st))) (cc := code) (nL := 4) (own := R_law) (index := idx) (n := n) ⟨C.1.1, C.1.2.1, C.1.2.2.2.1, C.1.2.2.2.2.1, hts⟩ (hLK l G h1 r h1' hf)
    ⟨callB_x (R := room_1) (S' := S') hts hcode hini hlink hd3 hroom, hts _ hinst, hts _ hsel⟩
    ⟨cx_pcb, ⟨cell, q1, by rw [q3]; rfl, by rw [q2]; exact hcl⟩, lw_pcu (av := vr (some a) :: As) C hI⟩ rfl (by rw [vs, List.length_map]; exact hn) hl.1 (by simp [vs, vr, vv, va_rf]) (by rw [vs_sum]; show 2 * 0 + _ ≤ 8; omega) hd hcs
  exact lw_after (S' := S') (g := F0 m pc ls (vs (As.reverse ++ vr (some a) :: st))) C hI hr (fun H' locs' hz' hI' => kk H' locs' hz' hI' ls hl)
theorem lw_callI {f : MO Unit} {h1 h1' h2 : AH} {a : Nat} {y : MethodName} {S' : ST} {idx : Nat} (C : lw_C p s m meth c b L xs G) (hI : lw_I s G h1 h2 H locs) (hf : f h1 = some ((), h1')) (hLK : LK y S' [vr (some a)] en_v f) (hw : mw_I y S' 0) (hlink : Cond.methodLink R_law idx y ∈ tb_G) (hd : decode code pc = .ok (.invokespecial idx, 3))
    (hroom : S'.2.2.2.2.2.1 + 1 ≤ 2048 ∧ 8 + (S'.2.1 + 11) + S'.2.2.2.2.2.2.1 ≤ 84000) (hcs : cells + S'.2.2.2.2.2.2.2.1 ≤ 600000 ∧ slots + S'.2.2.2.2.2.2.2.2 ≤ 7302250) (hst : (st.map vc).sum ≤ 8)
    (kk : ∀ (H' : Heap) (locs' : List Loc), H.size ≤ H'.size → lw_I s G h1' (ah_z h2 H'.size) H' locs' → lw_W p l e s m below meth c b Q H' locs' (cells + S'.2.2.2.2.2.2.2.1) (slots + S'.2.2.2.2.2.2.2.2) (pc + 3) Lc st) : lw_W p l e s m below meth c b Q H locs cells slots pc Lc (vr (some a) :: st) := by
  intro ls hl
  obtain ⟨hcode, hini, hd3, hinst, hnm, hrt⟩ := hw
  have hts := lw_hts C
  have hMb := hLK l G h1 () h1' hf
  rw [hrt] at hMb
  have hr := va_runI (e := e) (below := below) (meth := meth) (R := room_1) (H := H) (locs := locs) (cells := cells) (slots := slots) (As := []) (rest := vs st) (b := a) (g := F0 m pc ls (vs (vr (some a) :: st))) (cc := code) (nL := 4) (own := R_law) (index := idx) (n := 0) (bytes := S'.1) (maxL := S'.2.1) ⟨C.1.1, C.1.2.1, C.1.2.2.2.1, C.1.2.2.2.2.1, hts⟩ hMb
    ⟨callB_of 0 hts (tb_good (fun w h => h) hcode) rfl rfl rfl (hts _ hini) (hts _ hlink) hd3 hroom, hnm, hts _ hinst⟩
    ⟨cx_pcb, lw_pcu (av := [vr (some a)]) C hI⟩ rfl rfl hl.1 (by simp [vs, vr, vv, va_rf]) (by rw [vs_sum]; show 2 * 0 + _ ≤ 8; omega) hd hcs
  exact lw_after (S' := S') (g := F0 m pc ls (vs (vr (some a) :: st))) C hI hr (fun H' locs' hz' hI' => kk H' locs' hz' hI' ls hl)
theorem lw_new {h1 h2 : AH} {ci idx N : Nat} {Cn : String} {T : u_T} {ty : Nat → FieldType} (C : lw_C p s m meth c b L xs G) (hI : lw_I s G h1 h2 H locs) (cf : cf_K ci Cn T N ty) (hcl : Cond.classLink R_law idx Cn ∈ tb_G) (hins : Cond.instantiable Cn N ∈ tb_G) (hini : Cond.initialized Cn ∈ tb_G) (hdv : ∀ k, defaultValue (ty k) = rp_v (ty k) 0 none) (hd : decode code pc = .ok (.new idx, 3)) (hc1 : cells + 1 ≤ 600000) (hc2 : slots + N ≤ 7302250)
    (kk : ∀ H', lw_I s G (ah_nO h1 ci) (ah_z h2 (ah_S h1 + 1)) H' locs → lw_W p l e s m below meth c b Q H' locs (cells + 1) (slots + N) (pc + 3) Lc (vr (some (ah_S h1)) :: st)) : lw_W p l e s m below meth c b Q H locs cells slots pc Lc st := by
  intro ls hl
  obtain ⟨hc, hin, hfd, hnm, hN, hry, hdecl⟩ := cf
  have hts := lw_hts C
  have hKn := C.2.1.1.1 ci _ hc
  obtain ⟨i1, i2, i3, i4, i5, i6⟩ := hI
  have hs : ah_S h1 = H.size := i1.2.1
  refine W.newcK C.1.1 C.1.2.1 C.1.2.2.2.2.1 (hts _ hcl) (hts _ hins) (hts _ hini) rfl hd hc1 hc2 hKn.2.1 rfl fun H1 kC hkC e1 z1 o1 => ?_
  have hz1 : ah_S h1 + 1 = H1.size := by omega
  have hcx : lw_I s G (ah_nO h1 ci) (ah_z h2 (ah_S h1 + 1)) H1 locs := by
    refine ⟨?_, ?_, fun q hq => ?_, ⟨Nat.le_trans i4.1 (by omega), fun q q1 q2 => (o1 q (Nat.lt_of_lt_of_le q1 i4.1)).trans (i4.2.1 q q1 q2), i4.2.2⟩, fun q hq => ?_, i6⟩
    · refine rp_new i1 (10 + ci) rfl rfl (fun b _ => rfl) (fun b hb => fu_n _ _ hb) (fun b hb => fu_n _ _ hb) (fun b _ => rfl) (fun b _ => rfl) z1 o1 ?_
      unfold rp_at
      have hT' : ah_T (ah_nO h1 ci) (ah_S h1) = 10 + ci := by simp [ah_T, ah_nO, fu]
      rw [hT', if_neg (by omega), if_neg (by omega), if_neg (by omega), if_neg (by omega), show 10 + ci - 10 = ci by omega, hN, hs]
      refine (u_born ty hts hin hKn hkC e1 hfd).to (fun j hj => ?_)
      rw [hdv j]
      simp only [rp_V, hry]
      rw [← hs]
      simp [ah_F, ah_P, ah_nO, fu]
    · rw [hz1]
      exact rp_z i2 (by omega) (fun q hq => o1 q (i2.2.2 q hq))
    · show ah_T h2 q = 0
      by_cases hq2 : q = ah_S h1
      · by_cases h0 : ah_T h2 q = 0
        · exact h0
        · have := i2.2.2 q h0; omega
      · have e3 : ah_T (ah_nO h1 ci) q = ah_T h1 q := by simp [ah_T, ah_nO, fu, hq2]
        rw [e3] at hq
        exact i3 q hq
    · by_cases hq2 : q = ah_S h1
      · have := i4.1; omega
      · have e3 : ah_T (ah_nO h1 ci) q = ah_T h1 q := by simp [ah_T, ah_nO, fu, hq2]
        rw [e3] at hq
        exact i5 q hq
  have hg := kk H1 hcx ls hl
  rw [hs] at hg
  exact hg
theorem lw_int (x : Int32) : Value.int x = vv (vi x.toInt) := by simp [vv, vi]
theorem lw_sld {h1 h2 : AH} {i k : Nat} (C : lw_C p s m meth c b L xs G) (hI : lw_I s G h1 h2 H locs) (hk : k < L) (hki : i = k) (hd : decode code pc = .ok (.iaload, 1)) (kk : lw_W p l e s m below meth c b Q H locs cells slots (pc + 1) Lc (vi (xs k).toInt :: st)) : lw_W p l e s m below meth c b Q H locs cells slots pc Lc (vi (i : Int) :: vr (some b) :: st) := by
  intro ls hl
  subst hki
  have hL := C.2.2
  have hin : vp_in (Int32.ofInt (i : Int)) L := nm_in (i := (i : Int)) (n := L) (by omega) (by omega) (by omega)
  have hcl : (Int32.ofInt (i : Int)).toNatClampNeg = i := by rw [nm_nat (by omega) (by omega)]; omega
  refine va_sld C.1.1 C.1.2.1 C.1.2.2.2.2.2.2.1 C.1.2.2.2.2.2.2.2.1 (A := fun q => s.heap.size ≤ q) (by show ¬ s.heap.size ≤ b; have := C.1.2.2.2.2.2.2.2.1; omega) hI.2.2.2.1 hin hd ?_
  rw [hcl, lw_int]
  exact kk ls hl
theorem lw_slen {h1 h2 : AH} (C : lw_C p s m meth c b L xs G) (hI : lw_I s G h1 h2 H locs) (hd : decode code pc = .ok (.arraylength, 1)) (kk : lw_W p l e s m below meth c b Q H locs cells slots (pc + 1) Lc (vi (L : Int) :: st)) : lw_W p l e s m below meth c b Q H locs cells slots pc Lc (vr (some b) :: st) := by
  intro ls hl
  refine va_slen C.1.1 C.1.2.1 C.1.2.2.2.2.2.2.1 C.1.2.2.2.2.2.2.2.1 (A := fun q => s.heap.size ≤ q) (by show ¬ s.heap.size ≤ b; have := C.1.2.2.2.2.2.2.2.1; omega) hI.2.2.2.1 hd ?_
  have e0 : Int32.ofNat L = Int32.ofInt (L : Int) := (Int32.ofInt_eq_ofNat (n := L)).symm
  rw [e0]
  exact kk ls hl
theorem lw_iload {k : Fin 4} {i : Nat} {x : Int} (C : lw_C p s m meth c b L xs G) (j : Nat) (hd : decode code pc = .ok (.iload_n k, 1)) (hk : (k : Nat) = i) (hm : Lc[j]? = some (i, vi x)) (kk : lw_W p l e s m below meth c b Q H locs cells slots (pc + 1) Lc (vi x :: st)) : lw_W p l e s m below meth c b Q H locs cells slots pc Lc st :=
  fun ls hl => lv_iload_n C.1.1 C.1.2.1 hd hk (lv_at hl j (vL_at hm)) (kk ls hl)
theorem lw_aload {k : Fin 4} {i : Nat} {x : Nat} (C : lw_C p s m meth c b L xs G) (j : Nat) (hd : decode code pc = .ok (.aload_n k, 1)) (hk : (k : Nat) = i) (hm : Lc[j]? = some (i, vr (some x))) (kk : lw_W p l e s m below meth c b Q H locs cells slots (pc + 1) Lc (vr (some x) :: st)) : lw_W p l e s m below meth c b Q H locs cells slots pc Lc st :=
  fun ls hl => lv_aload_n C.1.1 C.1.2.1 hd hk (lv_at hl j (vL_at hm)) (kk ls hl)
theorem lw_iconst {n : Int} (C : lw_C p s m meth c b L xs G) (hd : decode code pc = .ok (.iconst n, 1)) (kk : lw_W p l e s m below meth c b Q H locs cells slots (pc + 1) Lc (vi n :: st)) : lw_W p l e s m below meth c b Q H locs cells slots pc Lc st :=
  fun ls hl => lv_iconst C.1.1 C.1.2.1 hd rfl (kk ls hl)
theorem lw_iadd {x y : Int} (C : lw_C p s m meth c b L xs G) (hd : decode code pc = .ok (.iadd, 1)) (kk : lw_W p l e s m below meth c b Q H locs cells slots (pc + 1) Lc (vi (x + y) :: st)) : lw_W p l e s m below meth c b Q H locs cells slots pc Lc (vi y :: vi x :: st) := by
  intro ls hl
  refine lv_iadd C.1.1 C.1.2.1 hd ?_
  rw [← Int32.ofInt_add]
  exact kk ls hl
/-- the k-th word behind the call's number -/
theorem lw_arg {h1 h2 : AH} {i : Nat} {n : Int} {k : Nat} (C : lw_C p s m meth c b L xs G) (hI : lw_I s G h1 h2 H locs) (hn : n = (k : Int)) (hk : i + k < L) (j0 j3 : Nat) (hm0 : Lc[j0]? = some (0, vr (some b))) (hm3 : Lc[j3]? = some (3, vi (i : Int))) (d1 : decode code pc = .ok (.aload_n 0, 1)) (d2 : decode code (pc + 1) = .ok (.iload_n 3, 1)) (d3 : decode code (pc + 1 + 1) = .ok (.iconst n, 1)) (d4 : decode code (pc + 1 + 1 + 1) = .ok (.iadd, 1)) (d5 : decode code (pc + 1 + 1 + 1 + 1) = .ok (.iaload, 1))
    (kk : lw_W p l e s m below meth c b Q H locs cells slots (pc + 1 + 1 + 1 + 1 + 1) Lc (vi (xs (i + k)).toInt :: st)) : lw_W p l e s m below meth c b Q H locs cells slots pc Lc st := by
  refine lw_aload C j0 d1 rfl hm0 ?_
  refine lw_iload C j3 d2 rfl hm3 ?_
  refine lw_iconst C d3 ?_
  refine lw_iadd C d4 ?_
  have e : (i : Int) + n = ((i + k : Nat) : Int) := by rw [hn]; omega
  rw [e]
  exact lw_sld C hI hk rfl d5 kk
end LAWR
/-! what the pure part owes -/
def st_c {ρ : Type} (J : Nat → Nat → AH → AH → Prop) (x m : Nat) (f1 f2 : MO ρ) : Prop := ∀ h1 h2, J x m h1 h2 → ∃ r h1' h2', f1 h1 = some (r, h1') ∧ f2 h2 = some (r, h2') ∧ J x m h1' h2'
def fj_K (J : Nat → Nat → AH → AH → Prop) : Prop :=
  (∀ x m h1 h2, J x m h1 h2 → ah_T h1 x = 16 ∧ ah_T h2 m = 17) ∧
  (∀ x m h1 h2 s1 s2, J x m h1 h2 → ah_S h1 ≤ s1 → ah_S h2 ≤ s2 → J x m (ah_z h1 s1) (ah_z h2 s2)) ∧
  (∀ n, ∃ h1, X6_init n (ah_nO (ah_e n) 6) = some ((), h1) ∧ ∀ n', ah_S h1 ≤ n' → ∃ h2, X7_init n' (ah_nO (ah_e n') 7) = some ((), h2) ∧ J n n' h1 h2) ∧
  (∀ x m (a1 a2 : Int), am_r a1 → am_r a2 → st_c J x m (X6_line x a1 a2) (X7_line m a1 a2)) ∧
  (∀ x m (a1 : Int), am_r a1 → st_c J x m (X6_drop x a1) (X7_drop m a1)) ∧
  (∀ x m (a1 : Int), am_r a1 → st_c J x m (X6_take x a1) (X7_take m a1)) ∧
  (∀ x m (a1 : Int), am_r a1 → st_c J x m (X6_desk x a1) (X7_desk m a1)) ∧
  (∀ x m (a1 a2 : Int), am_r a1 → am_r a2 → st_c J x m (X6_keep x a1 a2) (X7_keep m a1 a2)) ∧
  (∀ x m (a1 a2 : Int), am_r a1 → am_r a2 → st_c J x m (X6_text x a1 a2) (X7_text m a1 a2)) ∧
  (∀ x m (a1 a2 : Int), am_r a1 → am_r a2 → st_c J x m (X6_about x a1 a2) (X7_about m a1 a2)) ∧
  (∀ x m (a1 a2 : Int), am_r a1 → am_r a2 → st_c J x m (X6_asked x a1 a2) (X7_asked m a1 a2)) ∧
  (∀ x m (a1 a2 a3 : Int), am_r a1 → am_r a2 → am_r a3 → st_c J x m (X6_differ x a1 a2 a3) (X7_differ m a1 a2 a3)) ∧
  (∀ x m (a1 a2 a3 : Int), am_r a1 → am_r a2 → am_r a3 → st_c J x m (X6_kept x a1 a2 a3) (X7_kept m a1 a2 a3)) ∧
  (∀ x m (a1 a2 : Int), am_r a1 → am_r a2 → st_c J x m (X6_patch x a1 a2) (X7_patch m a1 a2)) ∧
  (∀ x m , st_c J x m (X6_blank x ) (X7_blank m )) ∧
  (∀ x m (a1 a2 a3 a4 : Int), am_r a1 → am_r a2 → am_r a3 → am_r a4 → st_c J x m (X6_hunk x a1 a2 a3 a4) (X7_hunk m a1 a2 a3 a4)) ∧
  (∀ x m (a1 a2 : Int), am_r a1 → am_r a2 → st_c J x m (X6_of x a1 a2) (X7_of m a1 a2)) ∧
  (∀ x m (a1 a2 a3 : Int), am_r a1 → am_r a2 → am_r a3 → st_c J x m (X6_hunkOf x a1 a2 a3) (X7_hunkOf m a1 a2 a3)) ∧
  (∀ x m (a1 : Int), am_r a1 → st_c J x m (X6_fits x a1) (X7_fits m a1)) ∧
  (∀ x m (a1 : Int), am_r a1 → st_c J x m (X6_lay x a1) (X7_lay m a1)) ∧
  (∀ x m (a1 : Int), am_r a1 → st_c J x m (X6_loose x a1) (X7_loose m a1)) ∧
  (∀ x m (a1 : Int), am_r a1 → st_c J x m (X6_turn x a1) (X7_turn m a1)) ∧
  (∀ x m (a1 a2 : Int), am_r a1 → am_r a2 → st_c J x m (X6_together x a1 a2) (X7_together m a1 a2)) ∧
  (∀ x m (a1 a2 : Int), am_r a1 → am_r a2 → st_c J x m (X6_swap x a1 a2) (X7_swap m a1 a2)) ∧
  (∀ x m (a1 a2 a3 : Int), am_r a1 → am_r a2 → am_r a3 → st_c J x m (X6_clash x a1 a2 a3) (X7_clash m a1 a2 a3)) ∧
  (∀ x m (a1 a2 a3 : Int), am_r a1 → am_r a2 → am_r a3 → st_c J x m (X6_join x a1 a2 a3) (X7_join m a1 a2 a3)) ∧
  (∀ x m (a1 a2 : Int), am_r a1 → am_r a2 → st_c J x m (X6_brought x a1 a2) (X7_brought m a1 a2)) ∧
  (∀ x m (a1 a2 : Int), am_r a1 → am_r a2 → st_c J x m (X6_share x a1 a2) (X7_share m a1 a2)) ∧
  (∀ x m (a1 a2 a3 : Int), am_r a1 → am_r a2 → am_r a3 → st_c J x m (X6_store x a1 a2 a3) (X7_store m a1 a2 a3)) ∧
  (∀ x m (a1 a2 a3 : Int), am_r a1 → am_r a2 → am_r a3 → st_c J x m (X6_worst x a1 a2 a3) (X7_worst m a1 a2 a3)) ∧
  (∀ x m (a1 a2 a3 a4 : Int), am_r a1 → am_r a2 → am_r a3 → am_r a4 → st_c J x m (X6_saved x a1 a2 a3 a4) (X7_saved m a1 a2 a3 a4)) ∧
  (∀ x m (a1 : Int), am_r a1 → st_c J x m (X6_count x a1) (X7_count m a1)) ∧
  (∀ x m , st_c J x m (X6_digest x ) (X7_digest m ))
theorem mlL_13 : Cond.methodLink R_law 13 yX6_line ∈ tb_G := tb_in (tb_1 (List.mem_of_getElem? (i := 188) rfl)) rfl
theorem mlL_17 : Cond.methodLink R_law 17 yX7_line ∈ tb_G := tb_in (tb_5 (List.mem_of_getElem? (i := 40) rfl)) rfl
theorem mlL_18 : Cond.methodLink R_law 18 yX6_drop ∈ tb_G := tb_in (tb_1 (List.mem_of_getElem? (i := 203) rfl)) rfl
theorem mlL_22 : Cond.methodLink R_law 22 yX7_drop ∈ tb_G := tb_in (tb_5 (List.mem_of_getElem? (i := 47) rfl)) rfl
theorem mlL_23 : Cond.methodLink R_law 23 yX6_take ∈ tb_G := tb_in (tb_1 (List.mem_of_getElem? (i := 215) rfl)) rfl
theorem mlL_26 : Cond.methodLink R_law 26 yX7_take ∈ tb_G := tb_in (tb_5 (List.mem_of_getElem? (i := 51) rfl)) rfl
theorem mlL_27 : Cond.methodLink R_law 27 yX6_desk ∈ tb_G := tb_in (tb_2 (List.mem_of_getElem? (i := 3) rfl)) rfl
theorem mlL_30 : Cond.methodLink R_law 30 yX7_desk ∈ tb_G := tb_in (tb_5 (List.mem_of_getElem? (i := 59) rfl)) rfl
theorem mlL_31 : Cond.methodLink R_law 31 yX6_keep ∈ tb_G := tb_in (tb_2 (List.mem_of_getElem? (i := 7) rfl)) rfl
theorem mlL_34 : Cond.methodLink R_law 34 yX7_keep ∈ tb_G := tb_in (tb_5 (List.mem_of_getElem? (i := 63) rfl)) rfl
theorem mlL_35 : Cond.methodLink R_law 35 yX6_text ∈ tb_G := tb_in (tb_2 (List.mem_of_getElem? (i := 152) rfl)) rfl
theorem mlL_38 : Cond.methodLink R_law 38 yX7_text ∈ tb_G := tb_in (tb_5 (List.mem_of_getElem? (i := 67) rfl)) rfl
theorem mlL_39 : Cond.methodLink R_law 39 yX6_about ∈ tb_G := tb_in (tb_2 (List.mem_of_getElem? (i := 156) rfl)) rfl
theorem mlL_42 : Cond.methodLink R_law 42 yX7_about ∈ tb_G := tb_in (tb_5 (List.mem_of_getElem? (i := 71) rfl)) rfl
theorem mlL_43 : Cond.methodLink R_law 43 yX6_asked ∈ tb_G := tb_in (tb_2 (List.mem_of_getElem? (i := 164) rfl)) rfl
theorem mlL_46 : Cond.methodLink R_law 46 yX7_asked ∈ tb_G := tb_in (tb_5 (List.mem_of_getElem? (i := 79) rfl)) rfl
theorem mlL_47 : Cond.methodLink R_law 47 yX6_differ ∈ tb_G := tb_in (tb_2 (List.mem_of_getElem? (i := 168) rfl)) rfl
theorem mlL_51 : Cond.methodLink R_law 51 yX7_differ ∈ tb_G := tb_in (tb_5 (List.mem_of_getElem? (i := 83) rfl)) rfl
theorem mlL_52 : Cond.methodLink R_law 52 yX6_kept ∈ tb_G := tb_in (tb_2 (List.mem_of_getElem? (i := 184) rfl)) rfl
theorem mlL_55 : Cond.methodLink R_law 55 yX7_kept ∈ tb_G := tb_in (tb_5 (List.mem_of_getElem? (i := 111) rfl)) rfl
theorem mlL_56 : Cond.methodLink R_law 56 yX6_patch ∈ tb_G := tb_in (tb_2 (List.mem_of_getElem? (i := 188) rfl)) rfl
theorem mlL_59 : Cond.methodLink R_law 59 yX7_patch ∈ tb_G := tb_in (tb_5 (List.mem_of_getElem? (i := 115) rfl)) rfl
theorem mlL_60 : Cond.methodLink R_law 60 yX6_blank ∈ tb_G := tb_in (tb_2 (List.mem_of_getElem? (i := 203) rfl)) rfl
theorem mlL_64 : Cond.methodLink R_law 64 yX7_blank ∈ tb_G := tb_in (tb_5 (List.mem_of_getElem? (i := 123) rfl)) rfl
theorem mlL_65 : Cond.methodLink R_law 65 yX6_hunk ∈ tb_G := tb_in (tb_2 (List.mem_of_getElem? (i := 207) rfl)) rfl
theorem mlL_69 : Cond.methodLink R_law 69 yX7_hunk ∈ tb_G := tb_in (tb_5 (List.mem_of_getElem? (i := 127) rfl)) rfl
theorem mlL_70 : Cond.methodLink R_law 70 yX6_of ∈ tb_G := tb_in (tb_3 (List.mem_of_getElem? (i := 0) rfl)) rfl
theorem mlL_73 : Cond.methodLink R_law 73 yX7_of ∈ tb_G := tb_in (tb_5 (List.mem_of_getElem? (i := 143) rfl)) rfl
theorem mlL_74 : Cond.methodLink R_law 74 yX6_hunkOf ∈ tb_G := tb_in (tb_3 (List.mem_of_getElem? (i := 4) rfl)) rfl
theorem mlL_77 : Cond.methodLink R_law 77 yX7_hunkOf ∈ tb_G := tb_in (tb_5 (List.mem_of_getElem? (i := 151) rfl)) rfl
theorem mlL_78 : Cond.methodLink R_law 78 yX6_fits ∈ tb_G := tb_in (tb_3 (List.mem_of_getElem? (i := 23) rfl)) rfl
theorem mlL_81 : Cond.methodLink R_law 81 yX7_fits ∈ tb_G := tb_in (tb_5 (List.mem_of_getElem? (i := 167) rfl)) rfl
theorem mlL_82 : Cond.methodLink R_law 82 yX6_lay ∈ tb_G := tb_in (tb_3 (List.mem_of_getElem? (i := 37) rfl)) rfl
theorem mlL_85 : Cond.methodLink R_law 85 yX7_lay ∈ tb_G := tb_in (tb_5 (List.mem_of_getElem? (i := 183) rfl)) rfl
theorem mlL_86 : Cond.methodLink R_law 86 yX6_loose ∈ tb_G := tb_in (tb_3 (List.mem_of_getElem? (i := 53) rfl)) rfl
theorem mlL_89 : Cond.methodLink R_law 89 yX7_loose ∈ tb_G := tb_in (tb_5 (List.mem_of_getElem? (i := 195) rfl)) rfl
theorem mlL_90 : Cond.methodLink R_law 90 yX6_turn ∈ tb_G := tb_in (tb_3 (List.mem_of_getElem? (i := 74) rfl)) rfl
theorem mlL_93 : Cond.methodLink R_law 93 yX7_turn ∈ tb_G := tb_in (tb_5 (List.mem_of_getElem? (i := 199) rfl)) rfl
theorem mlL_94 : Cond.methodLink R_law 94 yX6_together ∈ tb_G := tb_in (tb_3 (List.mem_of_getElem? (i := 93) rfl)) rfl
theorem mlL_97 : Cond.methodLink R_law 97 yX7_together ∈ tb_G := tb_in (tb_5 (List.mem_of_getElem? (i := 203) rfl)) rfl
theorem mlL_98 : Cond.methodLink R_law 98 yX6_swap ∈ tb_G := tb_in (tb_3 (List.mem_of_getElem? (i := 173) rfl)) rfl
theorem mlL_101 : Cond.methodLink R_law 101 yX7_swap ∈ tb_G := tb_in (tb_5 (List.mem_of_getElem? (i := 239) rfl)) rfl
theorem mlL_102 : Cond.methodLink R_law 102 yX6_clash ∈ tb_G := tb_in (tb_3 (List.mem_of_getElem? (i := 194) rfl)) rfl
theorem mlL_105 : Cond.methodLink R_law 105 yX7_clash ∈ tb_G := tb_in (tb_6 (List.mem_of_getElem? (i := 11) rfl)) rfl
theorem mlL_106 : Cond.methodLink R_law 106 yX6_join ∈ tb_G := tb_in (tb_3 (List.mem_of_getElem? (i := 216) rfl)) rfl
theorem mlL_109 : Cond.methodLink R_law 109 yX7_join ∈ tb_G := tb_in (tb_6 (List.mem_of_getElem? (i := 43) rfl)) rfl
theorem mlL_110 : Cond.methodLink R_law 110 yX6_brought ∈ tb_G := tb_in (tb_3 (List.mem_of_getElem? (i := 226) rfl)) rfl
theorem mlL_113 : Cond.methodLink R_law 113 yX7_brought ∈ tb_G := tb_in (tb_6 (List.mem_of_getElem? (i := 47) rfl)) rfl
theorem mlL_114 : Cond.methodLink R_law 114 yX6_share ∈ tb_G := tb_in (tb_3 (List.mem_of_getElem? (i := 230) rfl)) rfl
theorem mlL_117 : Cond.methodLink R_law 117 yX7_share ∈ tb_G := tb_in (tb_6 (List.mem_of_getElem? (i := 59) rfl)) rfl
theorem mlL_118 : Cond.methodLink R_law 118 yX6_store ∈ tb_G := tb_in (tb_3 (List.mem_of_getElem? (i := 234) rfl)) rfl
theorem mlL_121 : Cond.methodLink R_law 121 yX7_store ∈ tb_G := tb_in (tb_6 (List.mem_of_getElem? (i := 63) rfl)) rfl
theorem mlL_122 : Cond.methodLink R_law 122 yX6_worst ∈ tb_G := tb_in (tb_4 (List.mem_of_getElem? (i := 78) rfl)) rfl
theorem mlL_125 : Cond.methodLink R_law 125 yX7_worst ∈ tb_G := tb_in (tb_6 (List.mem_of_getElem? (i := 87) rfl)) rfl
theorem mlL_126 : Cond.methodLink R_law 126 yX6_saved ∈ tb_G := tb_in (tb_4 (List.mem_of_getElem? (i := 95) rfl)) rfl
theorem mlL_129 : Cond.methodLink R_law 129 yX7_saved ∈ tb_G := tb_in (tb_6 (List.mem_of_getElem? (i := 99) rfl)) rfl
theorem mlL_130 : Cond.methodLink R_law 130 yX6_count ∈ tb_G := tb_in (tb_4 (List.mem_of_getElem? (i := 117) rfl)) rfl
theorem mlL_133 : Cond.methodLink R_law 133 yX7_count ∈ tb_G := tb_in (tb_6 (List.mem_of_getElem? (i := 111) rfl)) rfl
theorem mlL_134 : Cond.methodLink R_law 134 yX6_digest ∈ tb_G := tb_in (tb_4 (List.mem_of_getElem? (i := 121) rfl)) rfl
theorem mlL_138 : Cond.methodLink R_law 138 yX7_digest ∈ tb_G := tb_in (tb_6 (List.mem_of_getElem? (i := 119) rfl)) rfl
theorem mlL_9 : Cond.methodLink R_law 9 yX6_init ∈ tb_G := tb_in (tb_1 (List.mem_of_getElem? (i := 12) rfl)) rfl
theorem mlL_12 : Cond.methodLink R_law 12 yX7_init ∈ tb_G := tb_in (tb_4 (List.mem_of_getElem? (i := 146) rfl)) rfl
theorem ckL_7 : Cond.classLink R_law 7 RX6 ∈ tb_G := tb_in (tb_1 (List.mem_of_getElem? (i := 10) rfl)) rfl
theorem ckL_10 : Cond.classLink R_law 10 RX7 ∈ tb_G := tb_in (tb_4 (List.mem_of_getElem? (i := 144) rfl)) rfl
section LAWL
variable {p : Program} {l : Launch} {e : Env} {s : State} {m : MethodId} {below : List Frame} {meth : Method} {c : Code} {b L : Nat} {xs : Nat → Int32} {G : GM} {Q : State → Prop} {H : Heap} {locs : List Loc} {cells slots : Nat}
theorem lw_r32 (x : Int32) : am_r x.toInt := ⟨by have := x.le_toInt; omega, by have := x.toInt_lt; omega⟩
abbrev lw_L (b x md i : Nat) : List (Nat × VV) := [(3, vi (i : Int)), (2, vr (some md)), (1, vr (some x)), (0, vr (some b))]
set_option maxRecDepth 100000 in
set_option maxHeartbeats 4000000 in
theorem lw_case0 {J : Nat → Nat → AH → AH → Prop} (hF : fj_K J) (C : lw_C p s m meth c b L xs G) {x md i : Nat} (hi : i + 5 ≤ L) {h1 h2 : AH} (hJ : J x md h1 h2) (hI : lw_I s G h1 h2 H locs) (hc : cells + 12 ≤ 600000) (hs : slots + 700 ≤ 7302250)
    (kk : ∀ h1 h2 H locs, J x md h1 h2 → lw_I s G h1 h2 H locs → lw_W p l e s m below meth c b Q H locs (cells + 12) (slots + 700) 1149 (lw_L b x md i) []) : lw_W p l e s m below meth c b Q H locs cells slots 168 (lw_L b x md i) [] := by
  obtain ⟨r, h1', h2', e1, e2, hJ'⟩ := hF.2.2.2.1 x md (xs (i + 1)).toInt (xs (i + 2)).toInt (lw_r32 _) (lw_r32 _) h1 h2 hJ
  have hT := hF.1 x md h1 h2 hJ
  refine lw_aload C 2 dL_law_168 rfl rfl ?_
  refine lw_arg (n := 1) (k := 1) C hI rfl (by omega) 3 0 rfl rfl dL_law_169 dL_law_170 dL_law_171 dL_law_172 dL_law_173 ?_
  refine lw_arg (n := 2) (k := 2) C hI rfl (by omega) 3 0 rfl rfl dL_law_174 dL_law_175 dL_law_176 dL_law_177 dL_law_178 ?_
  refine lw_callV (S' := sX6_line) (As := [vi (xs (i + 1)).toInt, vi (xs (i + 2)).toInt]) (st := []) C hI e1 (lkX6_line x _ _) mwX6_line rfl mlL_13 dL_law_179 cfX6 hT.1 (by decide) ⟨Nat.le_trans (Nat.add_le_add_left (by decide) _) hc, Nat.le_trans (Nat.add_le_add_left (by decide) _) hs⟩ (by decide) (fun H' locs' hz' hI' => ?_)
  refine fun ls hl => W.widen (k := cells + 12) (n := slots + 700) (Nat.add_le_add_left (by decide) _) (Nat.add_le_add_left (by decide) _) ?_
  have hg : lw_W p l e s m below meth c b Q H' locs' (cells + 12) (slots + 700) 182 (lw_L b x md i) [vi r] := ?_
  · exact hg ls hl
  clear hl ls
  have hSz : ah_S h2 ≤ H'.size := by have := hI.2.1.2.1; omega
  have hJ2 : J x md h1 (ah_z h2 H'.size) := hF.2.1 x md h1 h2 (ah_S h1) H'.size hJ (Nat.le_refl _) hSz
  obtain ⟨r2, h1a, h2a, e1a, e2a, hJa⟩ := hF.2.2.2.1 x md (xs (i + 1)).toInt (xs (i + 2)).toInt (lw_r32 _) (lw_r32 _) h1 (ah_z h2 H'.size) hJ2
  have e3 := e1.symm.trans e1a
  cases e3
  refine lw_aload C 1 dL_law_182 rfl rfl ?_
  refine lw_arg (n := 1) (k := 1) C hI' rfl (by omega) 3 0 rfl rfl dL_law_183 dL_law_184 dL_law_185 dL_law_186 dL_law_187 ?_
  refine lw_arg (n := 2) (k := 2) C hI' rfl (by omega) 3 0 rfl rfl dL_law_188 dL_law_189 dL_law_190 dL_law_191 dL_law_192 ?_
  refine lw_callV (S' := sX7_line) (As := [vi (xs (i + 1)).toInt, vi (xs (i + 2)).toInt]) (st := [vi r]) C hI'.symm e2a (lkX7_line md _ _) mwX7_line rfl mlL_17 dL_law_193 cfX7 (hF.1 x md h1 _ hJ2).2 (by decide) ⟨hc, hs⟩ (Nat.le_of_ble_eq_true rfl) (fun H2 locs2 hz2 hI2 => ?_)
  have hSz1 : ah_S h1' ≤ H2.size := by have := hI'.1.2.1; omega
  have hJ3 : J x md (ah_z h1' H2.size) h2a := hF.2.1 x md h1' h2a H2.size (ah_S h2a) hJa hSz1 (Nat.le_refl _)
  intro ls hl
  refine lv_icmp_eq (tgt := 1149) C.1.1 C.1.2.1 dL_law_196 (by decide) (fun _ => ?_) (fun hne => absurd rfl hne)
  exact kk _ _ H2 locs2 hJ3 hI2.symm ls hl
set_option maxRecDepth 100000 in
set_option maxHeartbeats 4000000 in
theorem lw_case1 {J : Nat → Nat → AH → AH → Prop} (hF : fj_K J) (C : lw_C p s m meth c b L xs G) {x md i : Nat} (hi : i + 5 ≤ L) {h1 h2 : AH} (hJ : J x md h1 h2) (hI : lw_I s G h1 h2 H locs) (hc : cells + 12 ≤ 600000) (hs : slots + 700 ≤ 7302250)
    (kk : ∀ h1 h2 H locs, J x md h1 h2 → lw_I s G h1 h2 H locs → lw_W p l e s m below meth c b Q H locs (cells + 12) (slots + 700) 1149 (lw_L b x md i) []) : lw_W p l e s m below meth c b Q H locs cells slots 201 (lw_L b x md i) [] := by
  obtain ⟨r, h1', h2', e1, e2, hJ'⟩ := hF.2.2.2.2.1 x md (xs (i + 1)).toInt (lw_r32 _) h1 h2 hJ
  have hT := hF.1 x md h1 h2 hJ
  refine lw_aload C 2 dL_law_201 rfl rfl ?_
  refine lw_arg (n := 1) (k := 1) C hI rfl (by omega) 3 0 rfl rfl dL_law_202 dL_law_203 dL_law_204 dL_law_205 dL_law_206 ?_
  refine lw_callV (S' := sX6_drop) (As := [vi (xs (i + 1)).toInt]) (st := []) C hI e1 (lkX6_drop x _) mwX6_drop rfl mlL_18 dL_law_207 cfX6 hT.1 (by decide) ⟨Nat.le_trans (Nat.add_le_add_left (by decide) _) hc, Nat.le_trans (Nat.add_le_add_left (by decide) _) hs⟩ (by decide) (fun H' locs' hz' hI' => ?_)
  refine fun ls hl => W.widen (k := cells + 12) (n := slots + 700) (Nat.add_le_add_left (by decide) _) (Nat.add_le_add_left (by decide) _) ?_
  have hg : lw_W p l e s m below meth c b Q H' locs' (cells + 12) (slots + 700) 210 (lw_L b x md i) [vi r] := ?_
  · exact hg ls hl
  clear hl ls
  have hSz : ah_S h2 ≤ H'.size := by have := hI.2.1.2.1; omega
  have hJ2 : J x md h1 (ah_z h2 H'.size) := hF.2.1 x md h1 h2 (ah_S h1) H'.size hJ (Nat.le_refl _) hSz
  obtain ⟨r2, h1a, h2a, e1a, e2a, hJa⟩ := hF.2.2.2.2.1 x md (xs (i + 1)).toInt (lw_r32 _) h1 (ah_z h2 H'.size) hJ2
  have e3 := e1.symm.trans e1a
  cases e3
  refine lw_aload C 1 dL_law_210 rfl rfl ?_
  refine lw_arg (n := 1) (k := 1) C hI' rfl (by omega) 3 0 rfl rfl dL_law_211 dL_law_212 dL_law_213 dL_law_214 dL_law_215 ?_
  refine lw_callV (S' := sX7_drop) (As := [vi (xs (i + 1)).toInt]) (st := [vi r]) C hI'.symm e2a (lkX7_drop md _) mwX7_drop rfl mlL_22 dL_law_216 cfX7 (hF.1 x md h1 _ hJ2).2 (by decide) ⟨hc, hs⟩ (Nat.le_of_ble_eq_true rfl) (fun H2 locs2 hz2 hI2 => ?_)
  have hSz1 : ah_S h1' ≤ H2.size := by have := hI'.1.2.1; omega
  have hJ3 : J x md (ah_z h1' H2.size) h2a := hF.2.1 x md h1' h2a H2.size (ah_S h2a) hJa hSz1 (Nat.le_refl _)
  intro ls hl
  refine lv_icmp_eq (tgt := 1149) C.1.1 C.1.2.1 dL_law_219 (by decide) (fun _ => ?_) (fun hne => absurd rfl hne)
  exact kk _ _ H2 locs2 hJ3 hI2.symm ls hl
set_option maxRecDepth 100000 in
set_option maxHeartbeats 4000000 in
theorem lw_case2 {J : Nat → Nat → AH → AH → Prop} (hF : fj_K J) (C : lw_C p s m meth c b L xs G) {x md i : Nat} (hi : i + 5 ≤ L) {h1 h2 : AH} (hJ : J x md h1 h2) (hI : lw_I s G h1 h2 H locs) (hc : cells + 12 ≤ 600000) (hs : slots + 700 ≤ 7302250)
    (kk : ∀ h1 h2 H locs, J x md h1 h2 → lw_I s G h1 h2 H locs → lw_W p l e s m below meth c b Q H locs (cells + 12) (slots + 700) 1149 (lw_L b x md i) []) : lw_W p l e s m below meth c b Q H locs cells slots 224 (lw_L b x md i) [] := by
  obtain ⟨r, h1', h2', e1, e2, hJ'⟩ := hF.2.2.2.2.2.1 x md (xs (i + 1)).toInt (lw_r32 _) h1 h2 hJ
  have hT := hF.1 x md h1 h2 hJ
  refine lw_aload C 2 dL_law_224 rfl rfl ?_
  refine lw_arg (n := 1) (k := 1) C hI rfl (by omega) 3 0 rfl rfl dL_law_225 dL_law_226 dL_law_227 dL_law_228 dL_law_229 ?_
  refine lw_callV (S' := sX6_take) (As := [vi (xs (i + 1)).toInt]) (st := []) C hI e1 (lkX6_take x _) mwX6_take rfl mlL_23 dL_law_230 cfX6 hT.1 (by decide) ⟨Nat.le_trans (Nat.add_le_add_left (by decide) _) hc, Nat.le_trans (Nat.add_le_add_left (by decide) _) hs⟩ (by decide) (fun H' locs' hz' hI' => ?_)
  refine fun ls hl => W.widen (k := cells + 12) (n := slots + 700) (Nat.add_le_add_left (by decide) _) (Nat.add_le_add_left (by decide) _) ?_
  have hg : lw_W p l e s m below meth c b Q H' locs' (cells + 12) (slots + 700) 233 (lw_L b x md i) [vi r] := ?_
  · exact hg ls hl
  clear hl ls
  have hSz : ah_S h2 ≤ H'.size := by have := hI.2.1.2.1; omega
  have hJ2 : J x md h1 (ah_z h2 H'.size) := hF.2.1 x md h1 h2 (ah_S h1) H'.size hJ (Nat.le_refl _) hSz
  obtain ⟨r2, h1a, h2a, e1a, e2a, hJa⟩ := hF.2.2.2.2.2.1 x md (xs (i + 1)).toInt (lw_r32 _) h1 (ah_z h2 H'.size) hJ2
  have e3 := e1.symm.trans e1a
  cases e3
  refine lw_aload C 1 dL_law_233 rfl rfl ?_
  refine lw_arg (n := 1) (k := 1) C hI' rfl (by omega) 3 0 rfl rfl dL_law_234 dL_law_235 dL_law_236 dL_law_237 dL_law_238 ?_
  refine lw_callV (S' := sX7_take) (As := [vi (xs (i + 1)).toInt]) (st := [vi r]) C hI'.symm e2a (lkX7_take md _) mwX7_take rfl mlL_26 dL_law_239 cfX7 (hF.1 x md h1 _ hJ2).2 (by decide) ⟨hc, hs⟩ (Nat.le_of_ble_eq_true rfl) (fun H2 locs2 hz2 hI2 => ?_)
  have hSz1 : ah_S h1' ≤ H2.size := by have := hI'.1.2.1; omega
  have hJ3 : J x md (ah_z h1' H2.size) h2a := hF.2.1 x md h1' h2a H2.size (ah_S h2a) hJa hSz1 (Nat.le_refl _)
  intro ls hl
  refine lv_icmp_eq (tgt := 1149) C.1.1 C.1.2.1 dL_law_242 (by decide) (fun _ => ?_) (fun hne => absurd rfl hne)
  exact kk _ _ H2 locs2 hJ3 hI2.symm ls hl
set_option maxRecDepth 100000 in
set_option maxHeartbeats 4000000 in
theorem lw_case3 {J : Nat → Nat → AH → AH → Prop} (hF : fj_K J) (C : lw_C p s m meth c b L xs G) {x md i : Nat} (hi : i + 5 ≤ L) {h1 h2 : AH} (hJ : J x md h1 h2) (hI : lw_I s G h1 h2 H locs) (hc : cells + 12 ≤ 600000) (hs : slots + 700 ≤ 7302250)
    (kk : ∀ h1 h2 H locs, J x md h1 h2 → lw_I s G h1 h2 H locs → lw_W p l e s m below meth c b Q H locs (cells + 12) (slots + 700) 1149 (lw_L b x md i) []) : lw_W p l e s m below meth c b Q H locs cells slots 247 (lw_L b x md i) [] := by
  obtain ⟨r, h1', h2', e1, e2, hJ'⟩ := hF.2.2.2.2.2.2.1 x md (xs (i + 1)).toInt (lw_r32 _) h1 h2 hJ
  have hT := hF.1 x md h1 h2 hJ
  refine lw_aload C 2 dL_law_247 rfl rfl ?_
  refine lw_arg (n := 1) (k := 1) C hI rfl (by omega) 3 0 rfl rfl dL_law_248 dL_law_249 dL_law_250 dL_law_251 dL_law_252 ?_
  refine lw_callV (S' := sX6_desk) (As := [vi (xs (i + 1)).toInt]) (st := []) C hI e1 (lkX6_desk x _) mwX6_desk rfl mlL_27 dL_law_253 cfX6 hT.1 (by decide) ⟨Nat.le_trans (Nat.add_le_add_left (by decide) _) hc, Nat.le_trans (Nat.add_le_add_left (by decide) _) hs⟩ (by decide) (fun H' locs' hz' hI' => ?_)
  refine fun ls hl => W.widen (k := cells + 12) (n := slots + 700) (Nat.add_le_add_left (by decide) _) (Nat.add_le_add_left (by decide) _) ?_
  have hg : lw_W p l e s m below meth c b Q H' locs' (cells + 12) (slots + 700) 256 (lw_L b x md i) [vi r] := ?_
  · exact hg ls hl
  clear hl ls
  have hSz : ah_S h2 ≤ H'.size := by have := hI.2.1.2.1; omega
  have hJ2 : J x md h1 (ah_z h2 H'.size) := hF.2.1 x md h1 h2 (ah_S h1) H'.size hJ (Nat.le_refl _) hSz
  obtain ⟨r2, h1a, h2a, e1a, e2a, hJa⟩ := hF.2.2.2.2.2.2.1 x md (xs (i + 1)).toInt (lw_r32 _) h1 (ah_z h2 H'.size) hJ2
  have e3 := e1.symm.trans e1a
  cases e3
  refine lw_aload C 1 dL_law_256 rfl rfl ?_
  refine lw_arg (n := 1) (k := 1) C hI' rfl (by omega) 3 0 rfl rfl dL_law_257 dL_law_258 dL_law_259 dL_law_260 dL_law_261 ?_
  refine lw_callV (S' := sX7_desk) (As := [vi (xs (i + 1)).toInt]) (st := [vi r]) C hI'.symm e2a (lkX7_desk md _) mwX7_desk rfl mlL_30 dL_law_262 cfX7 (hF.1 x md h1 _ hJ2).2 (by decide) ⟨hc, hs⟩ (Nat.le_of_ble_eq_true rfl) (fun H2 locs2 hz2 hI2 => ?_)
  have hSz1 : ah_S h1' ≤ H2.size := by have := hI'.1.2.1; omega
  have hJ3 : J x md (ah_z h1' H2.size) h2a := hF.2.1 x md h1' h2a H2.size (ah_S h2a) hJa hSz1 (Nat.le_refl _)
  intro ls hl
  refine lv_icmp_eq (tgt := 1149) C.1.1 C.1.2.1 dL_law_265 (by decide) (fun _ => ?_) (fun hne => absurd rfl hne)
  exact kk _ _ H2 locs2 hJ3 hI2.symm ls hl
set_option maxRecDepth 100000 in
set_option maxHeartbeats 4000000 in
theorem lw_case4 {J : Nat → Nat → AH → AH → Prop} (hF : fj_K J) (C : lw_C p s m meth c b L xs G) {x md i : Nat} (hi : i + 5 ≤ L) {h1 h2 : AH} (hJ : J x md h1 h2) (hI : lw_I s G h1 h2 H locs) (hc : cells + 12 ≤ 600000) (hs : slots + 700 ≤ 7302250)
    (kk : ∀ h1 h2 H locs, J x md h1 h2 → lw_I s G h1 h2 H locs → lw_W p l e s m below meth c b Q H locs (cells + 12) (slots + 700) 1149 (lw_L b x md i) []) : lw_W p l e s m below meth c b Q H locs cells slots 270 (lw_L b x md i) [] := by
  obtain ⟨r, h1', h2', e1, e2, hJ'⟩ := hF.2.2.2.2.2.2.2.1 x md (xs (i + 1)).toInt (xs (i + 2)).toInt (lw_r32 _) (lw_r32 _) h1 h2 hJ
  have hT := hF.1 x md h1 h2 hJ
  refine lw_aload C 2 dL_law_270 rfl rfl ?_
  refine lw_arg (n := 1) (k := 1) C hI rfl (by omega) 3 0 rfl rfl dL_law_271 dL_law_272 dL_law_273 dL_law_274 dL_law_275 ?_
  refine lw_arg (n := 2) (k := 2) C hI rfl (by omega) 3 0 rfl rfl dL_law_276 dL_law_277 dL_law_278 dL_law_279 dL_law_280 ?_
  refine lw_callV (S' := sX6_keep) (As := [vi (xs (i + 1)).toInt, vi (xs (i + 2)).toInt]) (st := []) C hI e1 (lkX6_keep x _ _) mwX6_keep rfl mlL_31 dL_law_281 cfX6 hT.1 (by decide) ⟨Nat.le_trans (Nat.add_le_add_left (by decide) _) hc, Nat.le_trans (Nat.add_le_add_left (by decide) _) hs⟩ (by decide) (fun H' locs' hz' hI' => ?_)
  refine fun ls hl => W.widen (k := cells + 12) (n := slots + 700) (Nat.add_le_add_left (by decide) _) (Nat.add_le_add_left (by decide) _) ?_
  have hg : lw_W p l e s m below meth c b Q H' locs' (cells + 12) (slots + 700) 284 (lw_L b x md i) [vi r] := ?_
  · exact hg ls hl
  clear hl ls
  have hSz : ah_S h2 ≤ H'.size := by have := hI.2.1.2.1; omega
  have hJ2 : J x md h1 (ah_z h2 H'.size) := hF.2.1 x md h1 h2 (ah_S h1) H'.size hJ (Nat.le_refl _) hSz
  obtain ⟨r2, h1a, h2a, e1a, e2a, hJa⟩ := hF.2.2.2.2.2.2.2.1 x md (xs (i + 1)).toInt (xs (i + 2)).toInt (lw_r32 _) (lw_r32 _) h1 (ah_z h2 H'.size) hJ2
  have e3 := e1.symm.trans e1a
  cases e3
  refine lw_aload C 1 dL_law_284 rfl rfl ?_
  refine lw_arg (n := 1) (k := 1) C hI' rfl (by omega) 3 0 rfl rfl dL_law_285 dL_law_286 dL_law_287 dL_law_288 dL_law_289 ?_
  refine lw_arg (n := 2) (k := 2) C hI' rfl (by omega) 3 0 rfl rfl dL_law_290 dL_law_291 dL_law_292 dL_law_293 dL_law_294 ?_
  refine lw_callV (S' := sX7_keep) (As := [vi (xs (i + 1)).toInt, vi (xs (i + 2)).toInt]) (st := [vi r]) C hI'.symm e2a (lkX7_keep md _ _) mwX7_keep rfl mlL_34 dL_law_295 cfX7 (hF.1 x md h1 _ hJ2).2 (by decide) ⟨hc, hs⟩ (Nat.le_of_ble_eq_true rfl) (fun H2 locs2 hz2 hI2 => ?_)
  have hSz1 : ah_S h1' ≤ H2.size := by have := hI'.1.2.1; omega
  have hJ3 : J x md (ah_z h1' H2.size) h2a := hF.2.1 x md h1' h2a H2.size (ah_S h2a) hJa hSz1 (Nat.le_refl _)
  intro ls hl
  refine lv_icmp_eq (tgt := 1149) C.1.1 C.1.2.1 dL_law_298 (by decide) (fun _ => ?_) (fun hne => absurd rfl hne)
  exact kk _ _ H2 locs2 hJ3 hI2.symm ls hl
set_option maxRecDepth 100000 in
set_option maxHeartbeats 4000000 in
theorem lw_case5 {J : Nat → Nat → AH → AH → Prop} (hF : fj_K J) (C : lw_C p s m meth c b L xs G) {x md i : Nat} (hi : i + 5 ≤ L) {h1 h2 : AH} (hJ : J x md h1 h2) (hI : lw_I s G h1 h2 H locs) (hc : cells + 12 ≤ 600000) (hs : slots + 700 ≤ 7302250)
    (kk : ∀ h1 h2 H locs, J x md h1 h2 → lw_I s G h1 h2 H locs → lw_W p l e s m below meth c b Q H locs (cells + 12) (slots + 700) 1149 (lw_L b x md i) []) : lw_W p l e s m below meth c b Q H locs cells slots 303 (lw_L b x md i) [] := by
  obtain ⟨r, h1', h2', e1, e2, hJ'⟩ := hF.2.2.2.2.2.2.2.2.1 x md (xs (i + 1)).toInt (xs (i + 2)).toInt (lw_r32 _) (lw_r32 _) h1 h2 hJ
  have hT := hF.1 x md h1 h2 hJ
  refine lw_aload C 2 dL_law_303 rfl rfl ?_
  refine lw_arg (n := 1) (k := 1) C hI rfl (by omega) 3 0 rfl rfl dL_law_304 dL_law_305 dL_law_306 dL_law_307 dL_law_308 ?_
  refine lw_arg (n := 2) (k := 2) C hI rfl (by omega) 3 0 rfl rfl dL_law_309 dL_law_310 dL_law_311 dL_law_312 dL_law_313 ?_
  refine lw_callV (S' := sX6_text) (As := [vi (xs (i + 1)).toInt, vi (xs (i + 2)).toInt]) (st := []) C hI e1 (lkX6_text x _ _) mwX6_text rfl mlL_35 dL_law_314 cfX6 hT.1 (by decide) ⟨Nat.le_trans (Nat.add_le_add_left (by decide) _) hc, Nat.le_trans (Nat.add_le_add_left (by decide) _) hs⟩ (by decide) (fun H' locs' hz' hI' => ?_)
  refine fun ls hl => W.widen (k := cells + 12) (n := slots + 700) (Nat.add_le_add_left (by decide) _) (Nat.add_le_add_left (by decide) _) ?_
  have hg : lw_W p l e s m below meth c b Q H' locs' (cells + 12) (slots + 700) 317 (lw_L b x md i) [vi r] := ?_
  · exact hg ls hl
  clear hl ls
  have hSz : ah_S h2 ≤ H'.size := by have := hI.2.1.2.1; omega
  have hJ2 : J x md h1 (ah_z h2 H'.size) := hF.2.1 x md h1 h2 (ah_S h1) H'.size hJ (Nat.le_refl _) hSz
  obtain ⟨r2, h1a, h2a, e1a, e2a, hJa⟩ := hF.2.2.2.2.2.2.2.2.1 x md (xs (i + 1)).toInt (xs (i + 2)).toInt (lw_r32 _) (lw_r32 _) h1 (ah_z h2 H'.size) hJ2
  have e3 := e1.symm.trans e1a
  cases e3
  refine lw_aload C 1 dL_law_317 rfl rfl ?_
  refine lw_arg (n := 1) (k := 1) C hI' rfl (by omega) 3 0 rfl rfl dL_law_318 dL_law_319 dL_law_320 dL_law_321 dL_law_322 ?_
  refine lw_arg (n := 2) (k := 2) C hI' rfl (by omega) 3 0 rfl rfl dL_law_323 dL_law_324 dL_law_325 dL_law_326 dL_law_327 ?_
  refine lw_callV (S' := sX7_text) (As := [vi (xs (i + 1)).toInt, vi (xs (i + 2)).toInt]) (st := [vi r]) C hI'.symm e2a (lkX7_text md _ _) mwX7_text rfl mlL_38 dL_law_328 cfX7 (hF.1 x md h1 _ hJ2).2 (by decide) ⟨hc, hs⟩ (Nat.le_of_ble_eq_true rfl) (fun H2 locs2 hz2 hI2 => ?_)
  have hSz1 : ah_S h1' ≤ H2.size := by have := hI'.1.2.1; omega
  have hJ3 : J x md (ah_z h1' H2.size) h2a := hF.2.1 x md h1' h2a H2.size (ah_S h2a) hJa hSz1 (Nat.le_refl _)
  intro ls hl
  refine lv_icmp_eq (tgt := 1149) C.1.1 C.1.2.1 dL_law_331 (by decide) (fun _ => ?_) (fun hne => absurd rfl hne)
  exact kk _ _ H2 locs2 hJ3 hI2.symm ls hl
set_option maxRecDepth 100000 in
set_option maxHeartbeats 4000000 in
theorem lw_case6 {J : Nat → Nat → AH → AH → Prop} (hF : fj_K J) (C : lw_C p s m meth c b L xs G) {x md i : Nat} (hi : i + 5 ≤ L) {h1 h2 : AH} (hJ : J x md h1 h2) (hI : lw_I s G h1 h2 H locs) (hc : cells + 12 ≤ 600000) (hs : slots + 700 ≤ 7302250)
    (kk : ∀ h1 h2 H locs, J x md h1 h2 → lw_I s G h1 h2 H locs → lw_W p l e s m below meth c b Q H locs (cells + 12) (slots + 700) 1149 (lw_L b x md i) []) : lw_W p l e s m below meth c b Q H locs cells slots 336 (lw_L b x md i) [] := by
  obtain ⟨r, h1', h2', e1, e2, hJ'⟩ := hF.2.2.2.2.2.2.2.2.2.1 x md (xs (i + 1)).toInt (xs (i + 2)).toInt (lw_r32 _) (lw_r32 _) h1 h2 hJ
  have hT := hF.1 x md h1 h2 hJ
  refine lw_aload C 2 dL_law_336 rfl rfl ?_
  refine lw_arg (n := 1) (k := 1) C hI rfl (by omega) 3 0 rfl rfl dL_law_337 dL_law_338 dL_law_339 dL_law_340 dL_law_341 ?_
  refine lw_arg (n := 2) (k := 2) C hI rfl (by omega) 3 0 rfl rfl dL_law_342 dL_law_343 dL_law_344 dL_law_345 dL_law_346 ?_
  refine lw_callV (S' := sX6_about) (As := [vi (xs (i + 1)).toInt, vi (xs (i + 2)).toInt]) (st := []) C hI e1 (lkX6_about x _ _) mwX6_about rfl mlL_39 dL_law_347 cfX6 hT.1 (by decide) ⟨Nat.le_trans (Nat.add_le_add_left (by decide) _) hc, Nat.le_trans (Nat.add_le_add_left (by decide) _) hs⟩ (by decide) (fun H' locs' hz' hI' => ?_)
  refine fun ls hl => W.widen (k := cells + 12) (n := slots + 700) (Nat.add_le_add_left (by decide) _) (Nat.add_le_add_left (by decide) _) ?_
  have hg : lw_W p l e s m below meth c b Q H' locs' (cells + 12) (slots + 700) 350 (lw_L b x md i) [vi r] := ?_
  · exact hg ls hl
  clear hl ls
  have hSz : ah_S h2 ≤ H'.size := by have := hI.2.1.2.1; omega
  have hJ2 : J x md h1 (ah_z h2 H'.size) := hF.2.1 x md h1 h2 (ah_S h1) H'.size hJ (Nat.le_refl _) hSz
  obtain ⟨r2, h1a, h2a, e1a, e2a, hJa⟩ := hF.2.2.2.2.2.2.2.2.2.1 x md (xs (i + 1)).toInt (xs (i + 2)).toInt (lw_r32 _) (lw_r32 _) h1 (ah_z h2 H'.size) hJ2
  have e3 := e1.symm.trans e1a
  cases e3
  refine lw_aload C 1 dL_law_350 rfl rfl ?_
  refine lw_arg (n := 1) (k := 1) C hI' rfl (by omega) 3 0 rfl rfl dL_law_351 dL_law_352 dL_law_353 dL_law_354 dL_law_355 ?_
  refine lw_arg (n := 2) (k := 2) C hI' rfl (by omega) 3 0 rfl rfl dL_law_356 dL_law_357 dL_law_358 dL_law_359 dL_law_360 ?_
  refine lw_callV (S' := sX7_about) (As := [vi (xs (i + 1)).toInt, vi (xs (i + 2)).toInt]) (st := [vi r]) C hI'.symm e2a (lkX7_about md _ _) mwX7_about rfl mlL_42 dL_law_361 cfX7 (hF.1 x md h1 _ hJ2).2 (by decide) ⟨hc, hs⟩ (Nat.le_of_ble_eq_true rfl) (fun H2 locs2 hz2 hI2 => ?_)
  have hSz1 : ah_S h1' ≤ H2.size := by have := hI'.1.2.1; omega
  have hJ3 : J x md (ah_z h1' H2.size) h2a := hF.2.1 x md h1' h2a H2.size (ah_S h2a) hJa hSz1 (Nat.le_refl _)
  intro ls hl
  refine lv_icmp_eq (tgt := 1149) C.1.1 C.1.2.1 dL_law_364 (by decide) (fun _ => ?_) (fun hne => absurd rfl hne)
  exact kk _ _ H2 locs2 hJ3 hI2.symm ls hl
set_option maxRecDepth 100000 in
set_option maxHeartbeats 4000000 in
theorem lw_case7 {J : Nat → Nat → AH → AH → Prop} (hF : fj_K J) (C : lw_C p s m meth c b L xs G) {x md i : Nat} (hi : i + 5 ≤ L) {h1 h2 : AH} (hJ : J x md h1 h2) (hI : lw_I s G h1 h2 H locs) (hc : cells + 12 ≤ 600000) (hs : slots + 700 ≤ 7302250)
    (kk : ∀ h1 h2 H locs, J x md h1 h2 → lw_I s G h1 h2 H locs → lw_W p l e s m below meth c b Q H locs (cells + 12) (slots + 700) 1149 (lw_L b x md i) []) : lw_W p l e s m below meth c b Q H locs cells slots 369 (lw_L b x md i) [] := by
  obtain ⟨r, h1', h2', e1, e2, hJ'⟩ := hF.2.2.2.2.2.2.2.2.2.2.1 x md (xs (i + 1)).toInt (xs (i + 2)).toInt (lw_r32 _) (lw_r32 _) h1 h2 hJ
  have hT := hF.1 x md h1 h2 hJ
  refine lw_aload C 2 dL_law_369 rfl rfl ?_
  refine lw_arg (n := 1) (k := 1) C hI rfl (by omega) 3 0 rfl rfl dL_law_370 dL_law_371 dL_law_372 dL_law_373 dL_law_374 ?_
  refine lw_arg (n := 2) (k := 2) C hI rfl (by omega) 3 0 rfl rfl dL_law_375 dL_law_376 dL_law_377 dL_law_378 dL_law_379 ?_
  refine lw_callV (S' := sX6_asked) (As := [vi (xs (i + 1)).toInt, vi (xs (i + 2)).toInt]) (st := []) C hI e1 (lkX6_asked x _ _) mwX6_asked rfl mlL_43 dL_law_380 cfX6 hT.1 (by decide) ⟨Nat.le_trans (Nat.add_le_add_left (by decide) _) hc, Nat.le_trans (Nat.add_le_add_left (by decide) _) hs⟩ (by decide) (fun H' locs' hz' hI' => ?_)
  refine fun ls hl => W.widen (k := cells + 12) (n := slots + 700) (Nat.add_le_add_left (by decide) _) (Nat.add_le_add_left (by decide) _) ?_
  have hg : lw_W p l e s m below meth c b Q H' locs' (cells + 12) (slots + 700) 383 (lw_L b x md i) [vi r] := ?_
  · exact hg ls hl
  clear hl ls
  have hSz : ah_S h2 ≤ H'.size := by have := hI.2.1.2.1; omega
  have hJ2 : J x md h1 (ah_z h2 H'.size) := hF.2.1 x md h1 h2 (ah_S h1) H'.size hJ (Nat.le_refl _) hSz
  obtain ⟨r2, h1a, h2a, e1a, e2a, hJa⟩ := hF.2.2.2.2.2.2.2.2.2.2.1 x md (xs (i + 1)).toInt (xs (i + 2)).toInt (lw_r32 _) (lw_r32 _) h1 (ah_z h2 H'.size) hJ2
  have e3 := e1.symm.trans e1a
  cases e3
  refine lw_aload C 1 dL_law_383 rfl rfl ?_
  refine lw_arg (n := 1) (k := 1) C hI' rfl (by omega) 3 0 rfl rfl dL_law_384 dL_law_385 dL_law_386 dL_law_387 dL_law_388 ?_
  refine lw_arg (n := 2) (k := 2) C hI' rfl (by omega) 3 0 rfl rfl dL_law_389 dL_law_390 dL_law_391 dL_law_392 dL_law_393 ?_
  refine lw_callV (S' := sX7_asked) (As := [vi (xs (i + 1)).toInt, vi (xs (i + 2)).toInt]) (st := [vi r]) C hI'.symm e2a (lkX7_asked md _ _) mwX7_asked rfl mlL_46 dL_law_394 cfX7 (hF.1 x md h1 _ hJ2).2 (by decide) ⟨hc, hs⟩ (Nat.le_of_ble_eq_true rfl) (fun H2 locs2 hz2 hI2 => ?_)
  have hSz1 : ah_S h1' ≤ H2.size := by have := hI'.1.2.1; omega
  have hJ3 : J x md (ah_z h1' H2.size) h2a := hF.2.1 x md h1' h2a H2.size (ah_S h2a) hJa hSz1 (Nat.le_refl _)
  intro ls hl
  refine lv_icmp_eq (tgt := 1149) C.1.1 C.1.2.1 dL_law_397 (by decide) (fun _ => ?_) (fun hne => absurd rfl hne)
  exact kk _ _ H2 locs2 hJ3 hI2.symm ls hl
set_option maxRecDepth 100000 in
set_option maxHeartbeats 4000000 in
theorem lw_case8 {J : Nat → Nat → AH → AH → Prop} (hF : fj_K J) (C : lw_C p s m meth c b L xs G) {x md i : Nat} (hi : i + 5 ≤ L) {h1 h2 : AH} (hJ : J x md h1 h2) (hI : lw_I s G h1 h2 H locs) (hc : cells + 12 ≤ 600000) (hs : slots + 700 ≤ 7302250)
    (kk : ∀ h1 h2 H locs, J x md h1 h2 → lw_I s G h1 h2 H locs → lw_W p l e s m below meth c b Q H locs (cells + 12) (slots + 700) 1149 (lw_L b x md i) []) : lw_W p l e s m below meth c b Q H locs cells slots 402 (lw_L b x md i) [] := by
  obtain ⟨r, h1', h2', e1, e2, hJ'⟩ := hF.2.2.2.2.2.2.2.2.2.2.2.1 x md (xs (i + 1)).toInt (xs (i + 2)).toInt (xs (i + 3)).toInt (lw_r32 _) (lw_r32 _) (lw_r32 _) h1 h2 hJ
  have hT := hF.1 x md h1 h2 hJ
  refine lw_aload C 2 dL_law_402 rfl rfl ?_
  refine lw_arg (n := 1) (k := 1) C hI rfl (by omega) 3 0 rfl rfl dL_law_403 dL_law_404 dL_law_405 dL_law_406 dL_law_407 ?_
  refine lw_arg (n := 2) (k := 2) C hI rfl (by omega) 3 0 rfl rfl dL_law_408 dL_law_409 dL_law_410 dL_law_411 dL_law_412 ?_
  refine lw_arg (n := 3) (k := 3) C hI rfl (by omega) 3 0 rfl rfl dL_law_413 dL_law_414 dL_law_415 dL_law_416 dL_law_417 ?_
  refine lw_callV (S' := sX6_differ) (As := [vi (xs (i + 1)).toInt, vi (xs (i + 2)).toInt, vi (xs (i + 3)).toInt]) (st := []) C hI e1 (lkX6_differ x _ _ _) mwX6_differ rfl mlL_47 dL_law_418 cfX6 hT.1 (by decide) ⟨Nat.le_trans (Nat.add_le_add_left (by decide) _) hc, Nat.le_trans (Nat.add_le_add_left (by decide) _) hs⟩ (by decide) (fun H' locs' hz' hI' => ?_)
  refine fun ls hl => W.widen (k := cells + 12) (n := slots + 700) (Nat.add_le_add_left (by decide) _) (Nat.add_le_add_left (by decide) _) ?_
  have hg : lw_W p l e s m below meth c b Q H' locs' (cells + 12) (slots + 700) 421 (lw_L b x md i) [vi r] := ?_
  · exact hg ls hl
  clear hl ls
  have hSz : ah_S h2 ≤ H'.size := by have := hI.2.1.2.1; omega
  have hJ2 : J x md h1 (ah_z h2 H'.size) := hF.2.1 x md h1 h2 (ah_S h1) H'.size hJ (Nat.le_refl _) hSz
  obtain ⟨r2, h1a, h2a, e1a, e2a, hJa⟩ := hF.2.2.2.2.2.2.2.2.2.2.2.1 x md (xs (i + 1)).toInt (xs (i + 2)).toInt (xs (i + 3)).toInt (lw_r32 _) (lw_r32 _) (lw_r32 _) h1 (ah_z h2 H'.size) hJ2
  have e3 := e1.symm.trans e1a
  cases e3
  refine lw_aload C 1 dL_law_421 rfl rfl ?_
  refine lw_arg (n := 1) (k := 1) C hI' rfl (by omega) 3 0 rfl rfl dL_law_422 dL_law_423 dL_law_424 dL_law_425 dL_law_426 ?_
  refine lw_arg (n := 2) (k := 2) C hI' rfl (by omega) 3 0 rfl rfl dL_law_427 dL_law_428 dL_law_429 dL_law_430 dL_law_431 ?_
  refine lw_arg (n := 3) (k := 3) C hI' rfl (by omega) 3 0 rfl rfl dL_law_432 dL_law_433 dL_law_434 dL_law_435 dL_law_436 ?_
  refine lw_callV (S' := sX7_differ) (As := [vi (xs (i + 1)).toInt, vi (xs (i + 2)).toInt, vi (xs (i + 3)).toInt]) (st := [vi r]) C hI'.symm e2a (lkX7_differ md _ _ _) mwX7_differ rfl mlL_51 dL_law_437 cfX7 (hF.1 x md h1 _ hJ2).2 (by decide) ⟨hc, hs⟩ (Nat.le_of_ble_eq_true rfl) (fun H2 locs2 hz2 hI2 => ?_)
  have hSz1 : ah_S h1' ≤ H2.size := by have := hI'.1.2.1; omega
  have hJ3 : J x md (ah_z h1' H2.size) h2a := hF.2.1 x md h1' h2a H2.size (ah_S h2a) hJa hSz1 (Nat.le_refl _)
  intro ls hl
  refine lv_icmp_eq (tgt := 1149) C.1.1 C.1.2.1 dL_law_440 (by decide) (fun _ => ?_) (fun hne => absurd rfl hne)
  exact kk _ _ H2 locs2 hJ3 hI2.symm ls hl
set_option maxRecDepth 100000 in
set_option maxHeartbeats 4000000 in
theorem lw_case9 {J : Nat → Nat → AH → AH → Prop} (hF : fj_K J) (C : lw_C p s m meth c b L xs G) {x md i : Nat} (hi : i + 5 ≤ L) {h1 h2 : AH} (hJ : J x md h1 h2) (hI : lw_I s G h1 h2 H locs) (hc : cells + 12 ≤ 600000) (hs : slots + 700 ≤ 7302250)
    (kk : ∀ h1 h2 H locs, J x md h1 h2 → lw_I s G h1 h2 H locs → lw_W p l e s m below meth c b Q H locs (cells + 12) (slots + 700) 1149 (lw_L b x md i) []) : lw_W p l e s m below meth c b Q H locs cells slots 445 (lw_L b x md i) [] := by
  obtain ⟨r, h1', h2', e1, e2, hJ'⟩ := hF.2.2.2.2.2.2.2.2.2.2.2.2.1 x md (xs (i + 1)).toInt (xs (i + 2)).toInt (xs (i + 3)).toInt (lw_r32 _) (lw_r32 _) (lw_r32 _) h1 h2 hJ
  have hT := hF.1 x md h1 h2 hJ
  refine lw_aload C 2 dL_law_445 rfl rfl ?_
  refine lw_arg (n := 1) (k := 1) C hI rfl (by omega) 3 0 rfl rfl dL_law_446 dL_law_447 dL_law_448 dL_law_449 dL_law_450 ?_
  refine lw_arg (n := 2) (k := 2) C hI rfl (by omega) 3 0 rfl rfl dL_law_451 dL_law_452 dL_law_453 dL_law_454 dL_law_455 ?_
  refine lw_arg (n := 3) (k := 3) C hI rfl (by omega) 3 0 rfl rfl dL_law_456 dL_law_457 dL_law_458 dL_law_459 dL_law_460 ?_
  refine lw_callV (S' := sX6_kept) (As := [vi (xs (i + 1)).toInt, vi (xs (i + 2)).toInt, vi (xs (i + 3)).toInt]) (st := []) C hI e1 (lkX6_kept x _ _ _) mwX6_kept rfl mlL_52 dL_law_461 cfX6 hT.1 (by decide) ⟨Nat.le_trans (Nat.add_le_add_left (by decide) _) hc, Nat.le_trans (Nat.add_le_add_left (by decide) _) hs⟩ (by decide) (fun H' locs' hz' hI' => ?_)
  refine fun ls hl => W.widen (k := cells + 12) (n := slots + 700) (Nat.add_le_add_left (by decide) _) (Nat.add_le_add_left (by decide) _) ?_
  have hg : lw_W p l e s m below meth c b Q H' locs' (cells + 12) (slots + 700) 464 (lw_L b x md i) [vi r] := ?_
  · exact hg ls hl
  clear hl ls
  have hSz : ah_S h2 ≤ H'.size := by have := hI.2.1.2.1; omega
  have hJ2 : J x md h1 (ah_z h2 H'.size) := hF.2.1 x md h1 h2 (ah_S h1) H'.size hJ (Nat.le_refl _) hSz
  obtain ⟨r2, h1a, h2a, e1a, e2a, hJa⟩ := hF.2.2.2.2.2.2.2.2.2.2.2.2.1 x md (xs (i + 1)).toInt (xs (i + 2)).toInt (xs (i + 3)).toInt (lw_r32 _) (lw_r32 _) (lw_r32 _) h1 (ah_z h2 H'.size) hJ2
  have e3 := e1.symm.trans e1a
  cases e3
  refine lw_aload C 1 dL_law_464 rfl rfl ?_
  refine lw_arg (n := 1) (k := 1) C hI' rfl (by omega) 3 0 rfl rfl dL_law_465 dL_law_466 dL_law_467 dL_law_468 dL_law_469 ?_
  refine lw_arg (n := 2) (k := 2) C hI' rfl (by omega) 3 0 rfl rfl dL_law_470 dL_law_471 dL_law_472 dL_law_473 dL_law_474 ?_
  refine lw_arg (n := 3) (k := 3) C hI' rfl (by omega) 3 0 rfl rfl dL_law_475 dL_law_476 dL_law_477 dL_law_478 dL_law_479 ?_
  refine lw_callV (S' := sX7_kept) (As := [vi (xs (i + 1)).toInt, vi (xs (i + 2)).toInt, vi (xs (i + 3)).toInt]) (st := [vi r]) C hI'.symm e2a (lkX7_kept md _ _ _) mwX7_kept rfl mlL_55 dL_law_480 cfX7 (hF.1 x md h1 _ hJ2).2 (by decide) ⟨hc, hs⟩ (Nat.le_of_ble_eq_true rfl) (fun H2 locs2 hz2 hI2 => ?_)
  have hSz1 : ah_S h1' ≤ H2.size := by have := hI'.1.2.1; omega
  have hJ3 : J x md (ah_z h1' H2.size) h2a := hF.2.1 x md h1' h2a H2.size (ah_S h2a) hJa hSz1 (Nat.le_refl _)
  intro ls hl
  refine lv_icmp_eq (tgt := 1149) C.1.1 C.1.2.1 dL_law_483 (by decide) (fun _ => ?_) (fun hne => absurd rfl hne)
  exact kk _ _ H2 locs2 hJ3 hI2.symm ls hl
set_option maxRecDepth 100000 in
set_option maxHeartbeats 4000000 in
theorem lw_case10 {J : Nat → Nat → AH → AH → Prop} (hF : fj_K J) (C : lw_C p s m meth c b L xs G) {x md i : Nat} (hi : i + 5 ≤ L) {h1 h2 : AH} (hJ : J x md h1 h2) (hI : lw_I s G h1 h2 H locs) (hc : cells + 12 ≤ 600000) (hs : slots + 700 ≤ 7302250)
    (kk : ∀ h1 h2 H locs, J x md h1 h2 → lw_I s G h1 h2 H locs → lw_W p l e s m below meth c b Q H locs (cells + 12) (slots + 700) 1149 (lw_L b x md i) []) : lw_W p l e s m below meth c b Q H locs cells slots 488 (lw_L b x md i) [] := by
  obtain ⟨r, h1', h2', e1, e2, hJ'⟩ := hF.2.2.2.2.2.2.2.2.2.2.2.2.2.1 x md (xs (i + 1)).toInt (xs (i + 2)).toInt (lw_r32 _) (lw_r32 _) h1 h2 hJ
  have hT := hF.1 x md h1 h2 hJ
  refine lw_aload C 2 dL_law_488 rfl rfl ?_
  refine lw_arg (n := 1) (k := 1) C hI rfl (by omega) 3 0 rfl rfl dL_law_489 dL_law_490 dL_law_491 dL_law_492 dL_law_493 ?_
  refine lw_arg (n := 2) (k := 2) C hI rfl (by omega) 3 0 rfl rfl dL_law_494 dL_law_495 dL_law_496 dL_law_497 dL_law_498 ?_
  refine lw_callV (S' := sX6_patch) (As := [vi (xs (i + 1)).toInt, vi (xs (i + 2)).toInt]) (st := []) C hI e1 (lkX6_patch x _ _) mwX6_patch rfl mlL_56 dL_law_499 cfX6 hT.1 (by decide) ⟨Nat.le_trans (Nat.add_le_add_left (by decide) _) hc, Nat.le_trans (Nat.add_le_add_left (by decide) _) hs⟩ (by decide) (fun H' locs' hz' hI' => ?_)
  refine fun ls hl => W.widen (k := cells + 12) (n := slots + 700) (Nat.add_le_add_left (by decide) _) (Nat.add_le_add_left (by decide) _) ?_
  have hg : lw_W p l e s m below meth c b Q H' locs' (cells + 12) (slots + 700) 502 (lw_L b x md i) [vi r] := ?_
  · exact hg ls hl
  clear hl ls
  have hSz : ah_S h2 ≤ H'.size := by have := hI.2.1.2.1; omega
  have hJ2 : J x md h1 (ah_z h2 H'.size) := hF.2.1 x md h1 h2 (ah_S h1) H'.size hJ (Nat.le_refl _) hSz
  obtain ⟨r2, h1a, h2a, e1a, e2a, hJa⟩ := hF.2.2.2.2.2.2.2.2.2.2.2.2.2.1 x md (xs (i + 1)).toInt (xs (i + 2)).toInt (lw_r32 _) (lw_r32 _) h1 (ah_z h2 H'.size) hJ2
  have e3 := e1.symm.trans e1a
  cases e3
  refine lw_aload C 1 dL_law_502 rfl rfl ?_
  refine lw_arg (n := 1) (k := 1) C hI' rfl (by omega) 3 0 rfl rfl dL_law_503 dL_law_504 dL_law_505 dL_law_506 dL_law_507 ?_
  refine lw_arg (n := 2) (k := 2) C hI' rfl (by omega) 3 0 rfl rfl dL_law_508 dL_law_509 dL_law_510 dL_law_511 dL_law_512 ?_
  refine lw_callV (S' := sX7_patch) (As := [vi (xs (i + 1)).toInt, vi (xs (i + 2)).toInt]) (st := [vi r]) C hI'.symm e2a (lkX7_patch md _ _) mwX7_patch rfl mlL_59 dL_law_513 cfX7 (hF.1 x md h1 _ hJ2).2 (by decide) ⟨hc, hs⟩ (Nat.le_of_ble_eq_true rfl) (fun H2 locs2 hz2 hI2 => ?_)
  have hSz1 : ah_S h1' ≤ H2.size := by have := hI'.1.2.1; omega
  have hJ3 : J x md (ah_z h1' H2.size) h2a := hF.2.1 x md h1' h2a H2.size (ah_S h2a) hJa hSz1 (Nat.le_refl _)
  intro ls hl
  refine lv_icmp_eq (tgt := 1149) C.1.1 C.1.2.1 dL_law_516 (by decide) (fun _ => ?_) (fun hne => absurd rfl hne)
  exact kk _ _ H2 locs2 hJ3 hI2.symm ls hl
set_option maxRecDepth 100000 in
set_option maxHeartbeats 4000000 in
theorem lw_case11 {J : Nat → Nat → AH → AH → Prop} (hF : fj_K J) (C : lw_C p s m meth c b L xs G) {x md i : Nat} (hi : i + 5 ≤ L) {h1 h2 : AH} (hJ : J x md h1 h2) (hI : lw_I s G h1 h2 H locs) (hc : cells + 12 ≤ 600000) (hs : slots + 700 ≤ 7302250)
    (kk : ∀ h1 h2 H locs, J x md h1 h2 → lw_I s G h1 h2 H locs → lw_W p l e s m below meth c b Q H locs (cells + 12) (slots + 700) 1149 (lw_L b x md i) []) : lw_W p l e s m below meth c b Q H locs cells slots 521 (lw_L b x md i) [] := by
  obtain ⟨r, h1', h2', e1, e2, hJ'⟩ := hF.2.2.2.2.2.2.2.2.2.2.2.2.2.2.1 x md h1 h2 hJ
  have hT := hF.1 x md h1 h2 hJ
  refine lw_aload C 2 dL_law_521 rfl rfl ?_
  refine lw_callV (S' := sX6_blank) (As := []) (st := []) C hI e1 (lkX6_blank x ) mwX6_blank rfl mlL_60 dL_law_522 cfX6 hT.1 (by decide) ⟨Nat.le_trans (Nat.add_le_add_left (by decide) _) hc, Nat.le_trans (Nat.add_le_add_left (by decide) _) hs⟩ (by decide) (fun H' locs' hz' hI' => ?_)
  refine fun ls hl => W.widen (k := cells + 12) (n := slots + 700) (Nat.add_le_add_left (by decide) _) (Nat.add_le_add_left (by decide) _) ?_
  have hg : lw_W p l e s m below meth c b Q H' locs' (cells + 12) (slots + 700) 525 (lw_L b x md i) [vi r] := ?_
  · exact hg ls hl
  clear hl ls
  have hSz : ah_S h2 ≤ H'.size := by have := hI.2.1.2.1; omega
  have hJ2 : J x md h1 (ah_z h2 H'.size) := hF.2.1 x md h1 h2 (ah_S h1) H'.size hJ (Nat.le_refl _) hSz
  obtain ⟨r2, h1a, h2a, e1a, e2a, hJa⟩ := hF.2.2.2.2.2.2.2.2.2.2.2.2.2.2.1 x md h1 (ah_z h2 H'.size) hJ2
  have e3 := e1.symm.trans e1a
  cases e3
  refine lw_aload C 1 dL_law_525 rfl rfl ?_
  refine lw_callV (S' := sX7_blank) (As := []) (st := [vi r]) C hI'.symm e2a (lkX7_blank md ) mwX7_blank rfl mlL_64 dL_law_526 cfX7 (hF.1 x md h1 _ hJ2).2 (by decide) ⟨hc, hs⟩ (Nat.le_of_ble_eq_true rfl) (fun H2 locs2 hz2 hI2 => ?_)
  have hSz1 : ah_S h1' ≤ H2.size := by have := hI'.1.2.1; omega
  have hJ3 : J x md (ah_z h1' H2.size) h2a := hF.2.1 x md h1' h2a H2.size (ah_S h2a) hJa hSz1 (Nat.le_refl _)
  intro ls hl
  refine lv_icmp_eq (tgt := 1149) C.1.1 C.1.2.1 dL_law_529 (by decide) (fun _ => ?_) (fun hne => absurd rfl hne)
  exact kk _ _ H2 locs2 hJ3 hI2.symm ls hl
set_option maxRecDepth 100000 in
set_option maxHeartbeats 4000000 in
theorem lw_case12 {J : Nat → Nat → AH → AH → Prop} (hF : fj_K J) (C : lw_C p s m meth c b L xs G) {x md i : Nat} (hi : i + 5 ≤ L) {h1 h2 : AH} (hJ : J x md h1 h2) (hI : lw_I s G h1 h2 H locs) (hc : cells + 12 ≤ 600000) (hs : slots + 700 ≤ 7302250)
    (kk : ∀ h1 h2 H locs, J x md h1 h2 → lw_I s G h1 h2 H locs → lw_W p l e s m below meth c b Q H locs (cells + 12) (slots + 700) 1149 (lw_L b x md i) []) : lw_W p l e s m below meth c b Q H locs cells slots 534 (lw_L b x md i) [] := by
  obtain ⟨r, h1', h2', e1, e2, hJ'⟩ := hF.2.2.2.2.2.2.2.2.2.2.2.2.2.2.2.1 x md (xs (i + 1)).toInt (xs (i + 2)).toInt (xs (i + 3)).toInt (xs (i + 4)).toInt (lw_r32 _) (lw_r32 _) (lw_r32 _) (lw_r32 _) h1 h2 hJ
  have hT := hF.1 x md h1 h2 hJ
  refine lw_aload C 2 dL_law_534 rfl rfl ?_
  refine lw_arg (n := 1) (k := 1) C hI rfl (by omega) 3 0 rfl rfl dL_law_535 dL_law_536 dL_law_537 dL_law_538 dL_law_539 ?_
  refine lw_arg (n := 2) (k := 2) C hI rfl (by omega) 3 0 rfl rfl dL_law_540 dL_law_541 dL_law_542 dL_law_543 dL_law_544 ?_
  refine lw_arg (n := 3) (k := 3) C hI rfl (by omega) 3 0 rfl rfl dL_law_545 dL_law_546 dL_law_547 dL_law_548 dL_law_549 ?_
  refine lw_arg (n := 4) (k := 4) C hI rfl (by omega) 3 0 rfl rfl dL_law_550 dL_law_551 dL_law_552 dL_law_553 dL_law_554 ?_
  refine lw_callV (S' := sX6_hunk) (As := [vi (xs (i + 1)).toInt, vi (xs (i + 2)).toInt, vi (xs (i + 3)).toInt, vi (xs (i + 4)).toInt]) (st := []) C hI e1 (lkX6_hunk x _ _ _ _) mwX6_hunk rfl mlL_65 dL_law_555 cfX6 hT.1 (by decide) ⟨Nat.le_trans (Nat.add_le_add_left (by decide) _) hc, Nat.le_trans (Nat.add_le_add_left (by decide) _) hs⟩ (by decide) (fun H' locs' hz' hI' => ?_)
  refine fun ls hl => W.widen (k := cells + 12) (n := slots + 700) (Nat.add_le_add_left (by decide) _) (Nat.add_le_add_left (by decide) _) ?_
  have hg : lw_W p l e s m below meth c b Q H' locs' (cells + 12) (slots + 700) 558 (lw_L b x md i) [vi r] := ?_
  · exact hg ls hl
  clear hl ls
  have hSz : ah_S h2 ≤ H'.size := by have := hI.2.1.2.1; omega
  have hJ2 : J x md h1 (ah_z h2 H'.size) := hF.2.1 x md h1 h2 (ah_S h1) H'.size hJ (Nat.le_refl _) hSz
  obtain ⟨r2, h1a, h2a, e1a, e2a, hJa⟩ := hF.2.2.2.2.2.2.2.2.2.2.2.2.2.2.2.1 x md (xs (i + 1)).toInt (xs (i + 2)).toInt (xs (i + 3)).toInt (xs (i + 4)).toInt (lw_r32 _) (lw_r32 _) (lw_r32 _) (lw_r32 _) h1 (ah_z h2 H'.size) hJ2
  have e3 := e1.symm.trans e1a
  cases e3
  refine lw_aload C 1 dL_law_558 rfl rfl ?_
  refine lw_arg (n := 1) (k := 1) C hI' rfl (by omega) 3 0 rfl rfl dL_law_559 dL_law_560 dL_law_561 dL_law_562 dL_law_563 ?_
  refine lw_arg (n := 2) (k := 2) C hI' rfl (by omega) 3 0 rfl rfl dL_law_564 dL_law_565 dL_law_566 dL_law_567 dL_law_568 ?_
  refine lw_arg (n := 3) (k := 3) C hI' rfl (by omega) 3 0 rfl rfl dL_law_569 dL_law_570 dL_law_571 dL_law_572 dL_law_573 ?_
  refine lw_arg (n := 4) (k := 4) C hI' rfl (by omega) 3 0 rfl rfl dL_law_574 dL_law_575 dL_law_576 dL_law_577 dL_law_578 ?_
  refine lw_callV (S' := sX7_hunk) (As := [vi (xs (i + 1)).toInt, vi (xs (i + 2)).toInt, vi (xs (i + 3)).toInt, vi (xs (i + 4)).toInt]) (st := [vi r]) C hI'.symm e2a (lkX7_hunk md _ _ _ _) mwX7_hunk rfl mlL_69 dL_law_579 cfX7 (hF.1 x md h1 _ hJ2).2 (by decide) ⟨hc, hs⟩ (Nat.le_of_ble_eq_true rfl) (fun H2 locs2 hz2 hI2 => ?_)
  have hSz1 : ah_S h1' ≤ H2.size := by have := hI'.1.2.1; omega
  have hJ3 : J x md (ah_z h1' H2.size) h2a := hF.2.1 x md h1' h2a H2.size (ah_S h2a) hJa hSz1 (Nat.le_refl _)
  intro ls hl
  refine lv_icmp_eq (tgt := 1149) C.1.1 C.1.2.1 dL_law_582 (by decide) (fun _ => ?_) (fun hne => absurd rfl hne)
  exact kk _ _ H2 locs2 hJ3 hI2.symm ls hl
set_option maxRecDepth 100000 in
set_option maxHeartbeats 4000000 in
theorem lw_case13 {J : Nat → Nat → AH → AH → Prop} (hF : fj_K J) (C : lw_C p s m meth c b L xs G) {x md i : Nat} (hi : i + 5 ≤ L) {h1 h2 : AH} (hJ : J x md h1 h2) (hI : lw_I s G h1 h2 H locs) (hc : cells + 12 ≤ 600000) (hs : slots + 700 ≤ 7302250)
    (kk : ∀ h1 h2 H locs, J x md h1 h2 → lw_I s G h1 h2 H locs → lw_W p l e s m below meth c b Q H locs (cells + 12) (slots + 700) 1149 (lw_L b x md i) []) : lw_W p l e s m below meth c b Q H locs cells slots 587 (lw_L b x md i) [] := by
  obtain ⟨r, h1', h2', e1, e2, hJ'⟩ := hF.2.2.2.2.2.2.2.2.2.2.2.2.2.2.2.2.1 x md (xs (i + 1)).toInt (xs (i + 2)).toInt (lw_r32 _) (lw_r32 _) h1 h2 hJ
  have hT := hF.1 x md h1 h2 hJ
  refine lw_aload C 2 dL_law_587 rfl rfl ?_
  refine lw_arg (n := 1) (k := 1) C hI rfl (by omega) 3 0 rfl rfl dL_law_588 dL_law_589 dL_law_590 dL_law_591 dL_law_592 ?_
  refine lw_arg (n := 2) (k := 2) C hI rfl (by omega) 3 0 rfl rfl dL_law_593 dL_law_594 dL_law_595 dL_law_596 dL_law_597 ?_
  refine lw_callV (S' := sX6_of) (As := [vi (xs (i + 1)).toInt, vi (xs (i + 2)).toInt]) (st := []) C hI e1 (lkX6_of x _ _) mwX6_of rfl mlL_70 dL_law_598 cfX6 hT.1 (by decide) ⟨Nat.le_trans (Nat.add_le_add_left (by decide) _) hc, Nat.le_trans (Nat.add_le_add_left (by decide) _) hs⟩ (by decide) (fun H' locs' hz' hI' => ?_)
  refine fun ls hl => W.widen (k := cells + 12) (n := slots + 700) (Nat.add_le_add_left (by decide) _) (Nat.add_le_add_left (by decide) _) ?_
  have hg : lw_W p l e s m below meth c b Q H' locs' (cells + 12) (slots + 700) 601 (lw_L b x md i) [vi r] := ?_
  · exact hg ls hl
  clear hl ls
  have hSz : ah_S h2 ≤ H'.size := by have := hI.2.1.2.1; omega
  have hJ2 : J x md h1 (ah_z h2 H'.size) := hF.2.1 x md h1 h2 (ah_S h1) H'.size hJ (Nat.le_refl _) hSz
  obtain ⟨r2, h1a, h2a, e1a, e2a, hJa⟩ := hF.2.2.2.2.2.2.2.2.2.2.2.2.2.2.2.2.1 x md (xs (i + 1)).toInt (xs (i + 2)).toInt (lw_r32 _) (lw_r32 _) h1 (ah_z h2 H'.size) hJ2
  have e3 := e1.symm.trans e1a
  cases e3
  refine lw_aload C 1 dL_law_601 rfl rfl ?_
  refine lw_arg (n := 1) (k := 1) C hI' rfl (by omega) 3 0 rfl rfl dL_law_602 dL_law_603 dL_law_604 dL_law_605 dL_law_606 ?_
  refine lw_arg (n := 2) (k := 2) C hI' rfl (by omega) 3 0 rfl rfl dL_law_607 dL_law_608 dL_law_609 dL_law_610 dL_law_611 ?_
  refine lw_callV (S' := sX7_of) (As := [vi (xs (i + 1)).toInt, vi (xs (i + 2)).toInt]) (st := [vi r]) C hI'.symm e2a (lkX7_of md _ _) mwX7_of rfl mlL_73 dL_law_612 cfX7 (hF.1 x md h1 _ hJ2).2 (by decide) ⟨hc, hs⟩ (Nat.le_of_ble_eq_true rfl) (fun H2 locs2 hz2 hI2 => ?_)
  have hSz1 : ah_S h1' ≤ H2.size := by have := hI'.1.2.1; omega
  have hJ3 : J x md (ah_z h1' H2.size) h2a := hF.2.1 x md h1' h2a H2.size (ah_S h2a) hJa hSz1 (Nat.le_refl _)
  intro ls hl
  refine lv_icmp_eq (tgt := 1149) C.1.1 C.1.2.1 dL_law_615 (by decide) (fun _ => ?_) (fun hne => absurd rfl hne)
  exact kk _ _ H2 locs2 hJ3 hI2.symm ls hl
set_option maxRecDepth 100000 in
set_option maxHeartbeats 4000000 in
theorem lw_case14 {J : Nat → Nat → AH → AH → Prop} (hF : fj_K J) (C : lw_C p s m meth c b L xs G) {x md i : Nat} (hi : i + 5 ≤ L) {h1 h2 : AH} (hJ : J x md h1 h2) (hI : lw_I s G h1 h2 H locs) (hc : cells + 12 ≤ 600000) (hs : slots + 700 ≤ 7302250)
    (kk : ∀ h1 h2 H locs, J x md h1 h2 → lw_I s G h1 h2 H locs → lw_W p l e s m below meth c b Q H locs (cells + 12) (slots + 700) 1149 (lw_L b x md i) []) : lw_W p l e s m below meth c b Q H locs cells slots 620 (lw_L b x md i) [] := by
  obtain ⟨r, h1', h2', e1, e2, hJ'⟩ := hF.2.2.2.2.2.2.2.2.2.2.2.2.2.2.2.2.2.1 x md (xs (i + 1)).toInt (xs (i + 2)).toInt (xs (i + 3)).toInt (lw_r32 _) (lw_r32 _) (lw_r32 _) h1 h2 hJ
  have hT := hF.1 x md h1 h2 hJ
  refine lw_aload C 2 dL_law_620 rfl rfl ?_
  refine lw_arg (n := 1) (k := 1) C hI rfl (by omega) 3 0 rfl rfl dL_law_621 dL_law_622 dL_law_623 dL_law_624 dL_law_625 ?_
  refine lw_arg (n := 2) (k := 2) C hI rfl (by omega) 3 0 rfl rfl dL_law_626 dL_law_627 dL_law_628 dL_law_629 dL_law_630 ?_
  refine lw_arg (n := 3) (k := 3) C hI rfl (by omega) 3 0 rfl rfl dL_law_631 dL_law_632 dL_law_633 dL_law_634 dL_law_635 ?_
  refine lw_callV (S' := sX6_hunkOf) (As := [vi (xs (i + 1)).toInt, vi (xs (i + 2)).toInt, vi (xs (i + 3)).toInt]) (st := []) C hI e1 (lkX6_hunkOf x _ _ _) mwX6_hunkOf rfl mlL_74 dL_law_636 cfX6 hT.1 (by decide) ⟨Nat.le_trans (Nat.add_le_add_left (by decide) _) hc, Nat.le_trans (Nat.add_le_add_left (by decide) _) hs⟩ (by decide) (fun H' locs' hz' hI' => ?_)
  refine fun ls hl => W.widen (k := cells + 12) (n := slots + 700) (Nat.add_le_add_left (by decide) _) (Nat.add_le_add_left (by decide) _) ?_
  have hg : lw_W p l e s m below meth c b Q H' locs' (cells + 12) (slots + 700) 639 (lw_L b x md i) [vi r] := ?_
  · exact hg ls hl
  clear hl ls
  have hSz : ah_S h2 ≤ H'.size := by have := hI.2.1.2.1; omega
  have hJ2 : J x md h1 (ah_z h2 H'.size) := hF.2.1 x md h1 h2 (ah_S h1) H'.size hJ (Nat.le_refl _) hSz
  obtain ⟨r2, h1a, h2a, e1a, e2a, hJa⟩ := hF.2.2.2.2.2.2.2.2.2.2.2.2.2.2.2.2.2.1 x md (xs (i + 1)).toInt (xs (i + 2)).toInt (xs (i + 3)).toInt (lw_r32 _) (lw_r32 _) (lw_r32 _) h1 (ah_z h2 H'.size) hJ2
  have e3 := e1.symm.trans e1a
  cases e3
  refine lw_aload C 1 dL_law_639 rfl rfl ?_
  refine lw_arg (n := 1) (k := 1) C hI' rfl (by omega) 3 0 rfl rfl dL_law_640 dL_law_641 dL_law_642 dL_law_643 dL_law_644 ?_
  refine lw_arg (n := 2) (k := 2) C hI' rfl (by omega) 3 0 rfl rfl dL_law_645 dL_law_646 dL_law_647 dL_law_648 dL_law_649 ?_
  refine lw_arg (n := 3) (k := 3) C hI' rfl (by omega) 3 0 rfl rfl dL_law_650 dL_law_651 dL_law_652 dL_law_653 dL_law_654 ?_
  refine lw_callV (S' := sX7_hunkOf) (As := [vi (xs (i + 1)).toInt, vi (xs (i + 2)).toInt, vi (xs (i + 3)).toInt]) (st := [vi r]) C hI'.symm e2a (lkX7_hunkOf md _ _ _) mwX7_hunkOf rfl mlL_77 dL_law_655 cfX7 (hF.1 x md h1 _ hJ2).2 (by decide) ⟨hc, hs⟩ (Nat.le_of_ble_eq_true rfl) (fun H2 locs2 hz2 hI2 => ?_)
  have hSz1 : ah_S h1' ≤ H2.size := by have := hI'.1.2.1; omega
  have hJ3 : J x md (ah_z h1' H2.size) h2a := hF.2.1 x md h1' h2a H2.size (ah_S h2a) hJa hSz1 (Nat.le_refl _)
  intro ls hl
  refine lv_icmp_eq (tgt := 1149) C.1.1 C.1.2.1 dL_law_658 (by decide) (fun _ => ?_) (fun hne => absurd rfl hne)
  exact kk _ _ H2 locs2 hJ3 hI2.symm ls hl
set_option maxRecDepth 100000 in
set_option maxHeartbeats 4000000 in
theorem lw_case15 {J : Nat → Nat → AH → AH → Prop} (hF : fj_K J) (C : lw_C p s m meth c b L xs G) {x md i : Nat} (hi : i + 5 ≤ L) {h1 h2 : AH} (hJ : J x md h1 h2) (hI : lw_I s G h1 h2 H locs) (hc : cells + 12 ≤ 600000) (hs : slots + 700 ≤ 7302250)
    (kk : ∀ h1 h2 H locs, J x md h1 h2 → lw_I s G h1 h2 H locs → lw_W p l e s m below meth c b Q H locs (cells + 12) (slots + 700) 1149 (lw_L b x md i) []) : lw_W p l e s m below meth c b Q H locs cells slots 663 (lw_L b x md i) [] := by
  obtain ⟨r, h1', h2', e1, e2, hJ'⟩ := hF.2.2.2.2.2.2.2.2.2.2.2.2.2.2.2.2.2.2.1 x md (xs (i + 1)).toInt (lw_r32 _) h1 h2 hJ
  have hT := hF.1 x md h1 h2 hJ
  refine lw_aload C 2 dL_law_663 rfl rfl ?_
  refine lw_arg (n := 1) (k := 1) C hI rfl (by omega) 3 0 rfl rfl dL_law_664 dL_law_665 dL_law_666 dL_law_667 dL_law_668 ?_
  refine lw_callV (S' := sX6_fits) (As := [vi (xs (i + 1)).toInt]) (st := []) C hI e1 (lkX6_fits x _) mwX6_fits rfl mlL_78 dL_law_669 cfX6 hT.1 (by decide) ⟨Nat.le_trans (Nat.add_le_add_left (by decide) _) hc, Nat.le_trans (Nat.add_le_add_left (by decide) _) hs⟩ (by decide) (fun H' locs' hz' hI' => ?_)
  refine fun ls hl => W.widen (k := cells + 12) (n := slots + 700) (Nat.add_le_add_left (by decide) _) (Nat.add_le_add_left (by decide) _) ?_
  have hg : lw_W p l e s m below meth c b Q H' locs' (cells + 12) (slots + 700) 672 (lw_L b x md i) [vi r] := ?_
  · exact hg ls hl
  clear hl ls
  have hSz : ah_S h2 ≤ H'.size := by have := hI.2.1.2.1; omega
  have hJ2 : J x md h1 (ah_z h2 H'.size) := hF.2.1 x md h1 h2 (ah_S h1) H'.size hJ (Nat.le_refl _) hSz
  obtain ⟨r2, h1a, h2a, e1a, e2a, hJa⟩ := hF.2.2.2.2.2.2.2.2.2.2.2.2.2.2.2.2.2.2.1 x md (xs (i + 1)).toInt (lw_r32 _) h1 (ah_z h2 H'.size) hJ2
  have e3 := e1.symm.trans e1a
  cases e3
  refine lw_aload C 1 dL_law_672 rfl rfl ?_
  refine lw_arg (n := 1) (k := 1) C hI' rfl (by omega) 3 0 rfl rfl dL_law_673 dL_law_674 dL_law_675 dL_law_676 dL_law_677 ?_
  refine lw_callV (S' := sX7_fits) (As := [vi (xs (i + 1)).toInt]) (st := [vi r]) C hI'.symm e2a (lkX7_fits md _) mwX7_fits rfl mlL_81 dL_law_678 cfX7 (hF.1 x md h1 _ hJ2).2 (by decide) ⟨hc, hs⟩ (Nat.le_of_ble_eq_true rfl) (fun H2 locs2 hz2 hI2 => ?_)
  have hSz1 : ah_S h1' ≤ H2.size := by have := hI'.1.2.1; omega
  have hJ3 : J x md (ah_z h1' H2.size) h2a := hF.2.1 x md h1' h2a H2.size (ah_S h2a) hJa hSz1 (Nat.le_refl _)
  intro ls hl
  refine lv_icmp_eq (tgt := 1149) C.1.1 C.1.2.1 dL_law_681 (by decide) (fun _ => ?_) (fun hne => absurd rfl hne)
  exact kk _ _ H2 locs2 hJ3 hI2.symm ls hl
set_option maxRecDepth 100000 in
set_option maxHeartbeats 4000000 in
theorem lw_case16 {J : Nat → Nat → AH → AH → Prop} (hF : fj_K J) (C : lw_C p s m meth c b L xs G) {x md i : Nat} (hi : i + 5 ≤ L) {h1 h2 : AH} (hJ : J x md h1 h2) (hI : lw_I s G h1 h2 H locs) (hc : cells + 12 ≤ 600000) (hs : slots + 700 ≤ 7302250)
    (kk : ∀ h1 h2 H locs, J x md h1 h2 → lw_I s G h1 h2 H locs → lw_W p l e s m below meth c b Q H locs (cells + 12) (slots + 700) 1149 (lw_L b x md i) []) : lw_W p l e s m below meth c b Q H locs cells slots 686 (lw_L b x md i) [] := by
  obtain ⟨r, h1', h2', e1, e2, hJ'⟩ := hF.2.2.2.2.2.2.2.2.2.2.2.2.2.2.2.2.2.2.2.1 x md (xs (i + 1)).toInt (lw_r32 _) h1 h2 hJ
  have hT := hF.1 x md h1 h2 hJ
  refine lw_aload C 2 dL_law_686 rfl rfl ?_
  refine lw_arg (n := 1) (k := 1) C hI rfl (by omega) 3 0 rfl rfl dL_law_687 dL_law_688 dL_law_689 dL_law_690 dL_law_691 ?_
  refine lw_callV (S' := sX6_lay) (As := [vi (xs (i + 1)).toInt]) (st := []) C hI e1 (lkX6_lay x _) mwX6_lay rfl mlL_82 dL_law_692 cfX6 hT.1 (by decide) ⟨Nat.le_trans (Nat.add_le_add_left (by decide) _) hc, Nat.le_trans (Nat.add_le_add_left (by decide) _) hs⟩ (by decide) (fun H' locs' hz' hI' => ?_)
  refine fun ls hl => W.widen (k := cells + 12) (n := slots + 700) (Nat.add_le_add_left (by decide) _) (Nat.add_le_add_left (by decide) _) ?_
  have hg : lw_W p l e s m below meth c b Q H' locs' (cells + 12) (slots + 700) 695 (lw_L b x md i) [vi r] := ?_
  · exact hg ls hl
  clear hl ls
  have hSz : ah_S h2 ≤ H'.size := by have := hI.2.1.2.1; omega
  have hJ2 : J x md h1 (ah_z h2 H'.size) := hF.2.1 x md h1 h2 (ah_S h1) H'.size hJ (Nat.le_refl _) hSz
  obtain ⟨r2, h1a, h2a, e1a, e2a, hJa⟩ := hF.2.2.2.2.2.2.2.2.2.2.2.2.2.2.2.2.2.2.2.1 x md (xs (i + 1)).toInt (lw_r32 _) h1 (ah_z h2 H'.size) hJ2
  have e3 := e1.symm.trans e1a
  cases e3
  refine lw_aload C 1 dL_law_695 rfl rfl ?_
  refine lw_arg (n := 1) (k := 1) C hI' rfl (by omega) 3 0 rfl rfl dL_law_696 dL_law_697 dL_law_698 dL_law_699 dL_law_700 ?_
  refine lw_callV (S' := sX7_lay) (As := [vi (xs (i + 1)).toInt]) (st := [vi r]) C hI'.symm e2a (lkX7_lay md _) mwX7_lay rfl mlL_85 dL_law_701 cfX7 (hF.1 x md h1 _ hJ2).2 (by decide) ⟨hc, hs⟩ (Nat.le_of_ble_eq_true rfl) (fun H2 locs2 hz2 hI2 => ?_)
  have hSz1 : ah_S h1' ≤ H2.size := by have := hI'.1.2.1; omega
  have hJ3 : J x md (ah_z h1' H2.size) h2a := hF.2.1 x md h1' h2a H2.size (ah_S h2a) hJa hSz1 (Nat.le_refl _)
  intro ls hl
  refine lv_icmp_eq (tgt := 1149) C.1.1 C.1.2.1 dL_law_704 (by decide) (fun _ => ?_) (fun hne => absurd rfl hne)
  exact kk _ _ H2 locs2 hJ3 hI2.symm ls hl
set_option maxRecDepth 100000 in
set_option maxHeartbeats 4000000 in
theorem lw_case17 {J : Nat → Nat → AH → AH → Prop} (hF : fj_K J) (C : lw_C p s m meth c b L xs G) {x md i : Nat} (hi : i + 5 ≤ L) {h1 h2 : AH} (hJ : J x md h1 h2) (hI : lw_I s G h1 h2 H locs) (hc : cells + 12 ≤ 600000) (hs : slots + 700 ≤ 7302250)
    (kk : ∀ h1 h2 H locs, J x md h1 h2 → lw_I s G h1 h2 H locs → lw_W p l e s m below meth c b Q H locs (cells + 12) (slots + 700) 1149 (lw_L b x md i) []) : lw_W p l e s m below meth c b Q H locs cells slots 709 (lw_L b x md i) [] := by
  obtain ⟨r, h1', h2', e1, e2, hJ'⟩ := hF.2.2.2.2.2.2.2.2.2.2.2.2.2.2.2.2.2.2.2.2.1 x md (xs (i + 1)).toInt (lw_r32 _) h1 h2 hJ
  have hT := hF.1 x md h1 h2 hJ
  refine lw_aload C 2 dL_law_709 rfl rfl ?_
  refine lw_arg (n := 1) (k := 1) C hI rfl (by omega) 3 0 rfl rfl dL_law_710 dL_law_711 dL_law_712 dL_law_713 dL_law_714 ?_
  refine lw_callV (S' := sX6_loose) (As := [vi (xs (i + 1)).toInt]) (st := []) C hI e1 (lkX6_loose x _) mwX6_loose rfl mlL_86 dL_law_715 cfX6 hT.1 (by decide) ⟨Nat.le_trans (Nat.add_le_add_left (by decide) _) hc, Nat.le_trans (Nat.add_le_add_left (by decide) _) hs⟩ (by decide) (fun H' locs' hz' hI' => ?_)
  refine fun ls hl => W.widen (k := cells + 12) (n := slots + 700) (Nat.add_le_add_left (by decide) _) (Nat.add_le_add_left (by decide) _) ?_
  have hg : lw_W p l e s m below meth c b Q H' locs' (cells + 12) (slots + 700) 718 (lw_L b x md i) [vi r] := ?_
  · exact hg ls hl
  clear hl ls
  have hSz : ah_S h2 ≤ H'.size := by have := hI.2.1.2.1; omega
  have hJ2 : J x md h1 (ah_z h2 H'.size) := hF.2.1 x md h1 h2 (ah_S h1) H'.size hJ (Nat.le_refl _) hSz
  obtain ⟨r2, h1a, h2a, e1a, e2a, hJa⟩ := hF.2.2.2.2.2.2.2.2.2.2.2.2.2.2.2.2.2.2.2.2.1 x md (xs (i + 1)).toInt (lw_r32 _) h1 (ah_z h2 H'.size) hJ2
  have e3 := e1.symm.trans e1a
  cases e3
  refine lw_aload C 1 dL_law_718 rfl rfl ?_
  refine lw_arg (n := 1) (k := 1) C hI' rfl (by omega) 3 0 rfl rfl dL_law_719 dL_law_720 dL_law_721 dL_law_722 dL_law_723 ?_
  refine lw_callV (S' := sX7_loose) (As := [vi (xs (i + 1)).toInt]) (st := [vi r]) C hI'.symm e2a (lkX7_loose md _) mwX7_loose rfl mlL_89 dL_law_724 cfX7 (hF.1 x md h1 _ hJ2).2 (by decide) ⟨hc, hs⟩ (Nat.le_of_ble_eq_true rfl) (fun H2 locs2 hz2 hI2 => ?_)
  have hSz1 : ah_S h1' ≤ H2.size := by have := hI'.1.2.1; omega
  have hJ3 : J x md (ah_z h1' H2.size) h2a := hF.2.1 x md h1' h2a H2.size (ah_S h2a) hJa hSz1 (Nat.le_refl _)
  intro ls hl
  refine lv_icmp_eq (tgt := 1149) C.1.1 C.1.2.1 dL_law_727 (by decide) (fun _ => ?_) (fun hne => absurd rfl hne)
  exact kk _ _ H2 locs2 hJ3 hI2.symm ls hl
set_option maxRecDepth 100000 in
set_option maxHeartbeats 4000000 in
theorem lw_case18 {J : Nat → Nat → AH → AH → Prop} (hF : fj_K J) (C : lw_C p s m meth c b L xs G) {x md i : Nat} (hi : i + 5 ≤ L) {h1 h2 : AH} (hJ : J x md h1 h2) (hI : lw_I s G h1 h2 H locs) (hc : cells + 12 ≤ 600000) (hs : slots + 700 ≤ 7302250)
    (kk : ∀ h1 h2 H locs, J x md h1 h2 → lw_I s G h1 h2 H locs → lw_W p l e s m below meth c b Q H locs (cells + 12) (slots + 700) 1149 (lw_L b x md i) []) : lw_W p l e s m below meth c b Q H locs cells slots 732 (lw_L b x md i) [] := by
  obtain ⟨r, h1', h2', e1, e2, hJ'⟩ := hF.2.2.2.2.2.2.2.2.2.2.2.2.2.2.2.2.2.2.2.2.2.1 x md (xs (i + 1)).toInt (lw_r32 _) h1 h2 hJ
  have hT := hF.1 x md h1 h2 hJ
  refine lw_aload C 2 dL_law_732 rfl rfl ?_
  refine lw_arg (n := 1) (k := 1) C hI rfl (by omega) 3 0 rfl rfl dL_law_733 dL_law_734 dL_law_735 dL_law_736 dL_law_737 ?_
  refine lw_callV (S' := sX6_turn) (As := [vi (xs (i + 1)).toInt]) (st := []) C hI e1 (lkX6_turn x _) mwX6_turn rfl mlL_90 dL_law_738 cfX6 hT.1 (by decide) ⟨Nat.le_trans (Nat.add_le_add_left (by decide) _) hc, Nat.le_trans (Nat.add_le_add_left (by decide) _) hs⟩ (by decide) (fun H' locs' hz' hI' => ?_)
  refine fun ls hl => W.widen (k := cells + 12) (n := slots + 700) (Nat.add_le_add_left (by decide) _) (Nat.add_le_add_left (by decide) _) ?_
  have hg : lw_W p l e s m below meth c b Q H' locs' (cells + 12) (slots + 700) 741 (lw_L b x md i) [vi r] := ?_
  · exact hg ls hl
  clear hl ls
  have hSz : ah_S h2 ≤ H'.size := by have := hI.2.1.2.1; omega
  have hJ2 : J x md h1 (ah_z h2 H'.size) := hF.2.1 x md h1 h2 (ah_S h1) H'.size hJ (Nat.le_refl _) hSz
  obtain ⟨r2, h1a, h2a, e1a, e2a, hJa⟩ := hF.2.2.2.2.2.2.2.2.2.2.2.2.2.2.2.2.2.2.2.2.2.1 x md (xs (i + 1)).toInt (lw_r32 _) h1 (ah_z h2 H'.size) hJ2
  have e3 := e1.symm.trans e1a
  cases e3
  refine lw_aload C 1 dL_law_741 rfl rfl ?_
  refine lw_arg (n := 1) (k := 1) C hI' rfl (by omega) 3 0 rfl rfl dL_law_742 dL_law_743 dL_law_744 dL_law_745 dL_law_746 ?_
  refine lw_callV (S' := sX7_turn) (As := [vi (xs (i + 1)).toInt]) (st := [vi r]) C hI'.symm e2a (lkX7_turn md _) mwX7_turn rfl mlL_93 dL_law_747 cfX7 (hF.1 x md h1 _ hJ2).2 (by decide) ⟨hc, hs⟩ (Nat.le_of_ble_eq_true rfl) (fun H2 locs2 hz2 hI2 => ?_)
  have hSz1 : ah_S h1' ≤ H2.size := by have := hI'.1.2.1; omega
  have hJ3 : J x md (ah_z h1' H2.size) h2a := hF.2.1 x md h1' h2a H2.size (ah_S h2a) hJa hSz1 (Nat.le_refl _)
  intro ls hl
  refine lv_icmp_eq (tgt := 1149) C.1.1 C.1.2.1 dL_law_750 (by decide) (fun _ => ?_) (fun hne => absurd rfl hne)
  exact kk _ _ H2 locs2 hJ3 hI2.symm ls hl
set_option maxRecDepth 100000 in
set_option maxHeartbeats 4000000 in
theorem lw_case19 {J : Nat → Nat → AH → AH → Prop} (hF : fj_K J) (C : lw_C p s m meth c b L xs G) {x md i : Nat} (hi : i + 5 ≤ L) {h1 h2 : AH} (hJ : J x md h1 h2) (hI : lw_I s G h1 h2 H locs) (hc : cells + 12 ≤ 600000) (hs : slots + 700 ≤ 7302250)
    (kk : ∀ h1 h2 H locs, J x md h1 h2 → lw_I s G h1 h2 H locs → lw_W p l e s m below meth c b Q H locs (cells + 12) (slots + 700) 1149 (lw_L b x md i) []) : lw_W p l e s m below meth c b Q H locs cells slots 755 (lw_L b x md i) [] := by
  obtain ⟨r, h1', h2', e1, e2, hJ'⟩ := hF.2.2.2.2.2.2.2.2.2.2.2.2.2.2.2.2.2.2.2.2.2.2.1 x md (xs (i + 1)).toInt (xs (i + 2)).toInt (lw_r32 _) (lw_r32 _) h1 h2 hJ
  have hT := hF.1 x md h1 h2 hJ
  refine lw_aload C 2 dL_law_755 rfl rfl ?_
  refine lw_arg (n := 1) (k := 1) C hI rfl (by omega) 3 0 rfl rfl dL_law_756 dL_law_757 dL_law_758 dL_law_759 dL_law_760 ?_
  refine lw_arg (n := 2) (k := 2) C hI rfl (by omega) 3 0 rfl rfl dL_law_761 dL_law_762 dL_law_763 dL_law_764 dL_law_765 ?_
  refine lw_callV (S' := sX6_together) (As := [vi (xs (i + 1)).toInt, vi (xs (i + 2)).toInt]) (st := []) C hI e1 (lkX6_together x _ _) mwX6_together rfl mlL_94 dL_law_766 cfX6 hT.1 (by decide) ⟨Nat.le_trans (Nat.add_le_add_left (by decide) _) hc, Nat.le_trans (Nat.add_le_add_left (by decide) _) hs⟩ (by decide) (fun H' locs' hz' hI' => ?_)
  refine fun ls hl => W.widen (k := cells + 12) (n := slots + 700) (Nat.add_le_add_left (by decide) _) (Nat.add_le_add_left (by decide) _) ?_
  have hg : lw_W p l e s m below meth c b Q H' locs' (cells + 12) (slots + 700) 769 (lw_L b x md i) [vi r] := ?_
  · exact hg ls hl
  clear hl ls
  have hSz : ah_S h2 ≤ H'.size := by have := hI.2.1.2.1; omega
  have hJ2 : J x md h1 (ah_z h2 H'.size) := hF.2.1 x md h1 h2 (ah_S h1) H'.size hJ (Nat.le_refl _) hSz
  obtain ⟨r2, h1a, h2a, e1a, e2a, hJa⟩ := hF.2.2.2.2.2.2.2.2.2.2.2.2.2.2.2.2.2.2.2.2.2.2.1 x md (xs (i + 1)).toInt (xs (i + 2)).toInt (lw_r32 _) (lw_r32 _) h1 (ah_z h2 H'.size) hJ2
  have e3 := e1.symm.trans e1a
  cases e3
  refine lw_aload C 1 dL_law_769 rfl rfl ?_
  refine lw_arg (n := 1) (k := 1) C hI' rfl (by omega) 3 0 rfl rfl dL_law_770 dL_law_771 dL_law_772 dL_law_773 dL_law_774 ?_
  refine lw_arg (n := 2) (k := 2) C hI' rfl (by omega) 3 0 rfl rfl dL_law_775 dL_law_776 dL_law_777 dL_law_778 dL_law_779 ?_
  refine lw_callV (S' := sX7_together) (As := [vi (xs (i + 1)).toInt, vi (xs (i + 2)).toInt]) (st := [vi r]) C hI'.symm e2a (lkX7_together md _ _) mwX7_together rfl mlL_97 dL_law_780 cfX7 (hF.1 x md h1 _ hJ2).2 (by decide) ⟨hc, hs⟩ (Nat.le_of_ble_eq_true rfl) (fun H2 locs2 hz2 hI2 => ?_)
  have hSz1 : ah_S h1' ≤ H2.size := by have := hI'.1.2.1; omega
  have hJ3 : J x md (ah_z h1' H2.size) h2a := hF.2.1 x md h1' h2a H2.size (ah_S h2a) hJa hSz1 (Nat.le_refl _)
  intro ls hl
  refine lv_icmp_eq (tgt := 1149) C.1.1 C.1.2.1 dL_law_783 (by decide) (fun _ => ?_) (fun hne => absurd rfl hne)
  exact kk _ _ H2 locs2 hJ3 hI2.symm ls hl
set_option maxRecDepth 100000 in
set_option maxHeartbeats 4000000 in
theorem lw_case20 {J : Nat → Nat → AH → AH → Prop} (hF : fj_K J) (C : lw_C p s m meth c b L xs G) {x md i : Nat} (hi : i + 5 ≤ L) {h1 h2 : AH} (hJ : J x md h1 h2) (hI : lw_I s G h1 h2 H locs) (hc : cells + 12 ≤ 600000) (hs : slots + 700 ≤ 7302250)
    (kk : ∀ h1 h2 H locs, J x md h1 h2 → lw_I s G h1 h2 H locs → lw_W p l e s m below meth c b Q H locs (cells + 12) (slots + 700) 1149 (lw_L b x md i) []) : lw_W p l e s m below meth c b Q H locs cells slots 788 (lw_L b x md i) [] := by
  obtain ⟨r, h1', h2', e1, e2, hJ'⟩ := hF.2.2.2.2.2.2.2.2.2.2.2.2.2.2.2.2.2.2.2.2.2.2.2.1 x md (xs (i + 1)).toInt (xs (i + 2)).toInt (lw_r32 _) (lw_r32 _) h1 h2 hJ
  have hT := hF.1 x md h1 h2 hJ
  refine lw_aload C 2 dL_law_788 rfl rfl ?_
  refine lw_arg (n := 1) (k := 1) C hI rfl (by omega) 3 0 rfl rfl dL_law_789 dL_law_790 dL_law_791 dL_law_792 dL_law_793 ?_
  refine lw_arg (n := 2) (k := 2) C hI rfl (by omega) 3 0 rfl rfl dL_law_794 dL_law_795 dL_law_796 dL_law_797 dL_law_798 ?_
  refine lw_callV (S' := sX6_swap) (As := [vi (xs (i + 1)).toInt, vi (xs (i + 2)).toInt]) (st := []) C hI e1 (lkX6_swap x _ _) mwX6_swap rfl mlL_98 dL_law_799 cfX6 hT.1 (by decide) ⟨Nat.le_trans (Nat.add_le_add_left (by decide) _) hc, Nat.le_trans (Nat.add_le_add_left (by decide) _) hs⟩ (by decide) (fun H' locs' hz' hI' => ?_)
  refine fun ls hl => W.widen (k := cells + 12) (n := slots + 700) (Nat.add_le_add_left (by decide) _) (Nat.add_le_add_left (by decide) _) ?_
  have hg : lw_W p l e s m below meth c b Q H' locs' (cells + 12) (slots + 700) 802 (lw_L b x md i) [vi r] := ?_
  · exact hg ls hl
  clear hl ls
  have hSz : ah_S h2 ≤ H'.size := by have := hI.2.1.2.1; omega
  have hJ2 : J x md h1 (ah_z h2 H'.size) := hF.2.1 x md h1 h2 (ah_S h1) H'.size hJ (Nat.le_refl _) hSz
  obtain ⟨r2, h1a, h2a, e1a, e2a, hJa⟩ := hF.2.2.2.2.2.2.2.2.2.2.2.2.2.2.2.2.2.2.2.2.2.2.2.1 x md (xs (i + 1)).toInt (xs (i + 2)).toInt (lw_r32 _) (lw_r32 _) h1 (ah_z h2 H'.size) hJ2
  have e3 := e1.symm.trans e1a
  cases e3
  refine lw_aload C 1 dL_law_802 rfl rfl ?_
  refine lw_arg (n := 1) (k := 1) C hI' rfl (by omega) 3 0 rfl rfl dL_law_803 dL_law_804 dL_law_805 dL_law_806 dL_law_807 ?_
  refine lw_arg (n := 2) (k := 2) C hI' rfl (by omega) 3 0 rfl rfl dL_law_808 dL_law_809 dL_law_810 dL_law_811 dL_law_812 ?_
  refine lw_callV (S' := sX7_swap) (As := [vi (xs (i + 1)).toInt, vi (xs (i + 2)).toInt]) (st := [vi r]) C hI'.symm e2a (lkX7_swap md _ _) mwX7_swap rfl mlL_101 dL_law_813 cfX7 (hF.1 x md h1 _ hJ2).2 (by decide) ⟨hc, hs⟩ (Nat.le_of_ble_eq_true rfl) (fun H2 locs2 hz2 hI2 => ?_)
  have hSz1 : ah_S h1' ≤ H2.size := by have := hI'.1.2.1; omega
  have hJ3 : J x md (ah_z h1' H2.size) h2a := hF.2.1 x md h1' h2a H2.size (ah_S h2a) hJa hSz1 (Nat.le_refl _)
  intro ls hl
  refine lv_icmp_eq (tgt := 1149) C.1.1 C.1.2.1 dL_law_816 (by decide) (fun _ => ?_) (fun hne => absurd rfl hne)
  exact kk _ _ H2 locs2 hJ3 hI2.symm ls hl
set_option maxRecDepth 100000 in
set_option maxHeartbeats 4000000 in
theorem lw_case21 {J : Nat → Nat → AH → AH → Prop} (hF : fj_K J) (C : lw_C p s m meth c b L xs G) {x md i : Nat} (hi : i + 5 ≤ L) {h1 h2 : AH} (hJ : J x md h1 h2) (hI : lw_I s G h1 h2 H locs) (hc : cells + 12 ≤ 600000) (hs : slots + 700 ≤ 7302250)
    (kk : ∀ h1 h2 H locs, J x md h1 h2 → lw_I s G h1 h2 H locs → lw_W p l e s m below meth c b Q H locs (cells + 12) (slots + 700) 1149 (lw_L b x md i) []) : lw_W p l e s m below meth c b Q H locs cells slots 821 (lw_L b x md i) [] := by
  obtain ⟨r, h1', h2', e1, e2, hJ'⟩ := hF.2.2.2.2.2.2.2.2.2.2.2.2.2.2.2.2.2.2.2.2.2.2.2.2.1 x md (xs (i + 1)).toInt (xs (i + 2)).toInt (xs (i + 3)).toInt (lw_r32 _) (lw_r32 _) (lw_r32 _) h1 h2 hJ
  have hT := hF.1 x md h1 h2 hJ
  refine lw_aload C 2 dL_law_821 rfl rfl ?_
  refine lw_arg (n := 1) (k := 1) C hI rfl (by omega) 3 0 rfl rfl dL_law_822 dL_law_823 dL_law_824 dL_law_825 dL_law_826 ?_
  refine lw_arg (n := 2) (k := 2) C hI rfl (by omega) 3 0 rfl rfl dL_law_827 dL_law_828 dL_law_829 dL_law_830 dL_law_831 ?_
  refine lw_arg (n := 3) (k := 3) C hI rfl (by omega) 3 0 rfl rfl dL_law_832 dL_law_833 dL_law_834 dL_law_835 dL_law_836 ?_
  refine lw_callV (S' := sX6_clash) (As := [vi (xs (i + 1)).toInt, vi (xs (i + 2)).toInt, vi (xs (i + 3)).toInt]) (st := []) C hI e1 (lkX6_clash x _ _ _) mwX6_clash rfl mlL_102 dL_law_837 cfX6 hT.1 (by decide) ⟨Nat.le_trans (Nat.add_le_add_left (by decide) _) hc, Nat.le_trans (Nat.add_le_add_left (by decide) _) hs⟩ (by decide) (fun H' locs' hz' hI' => ?_)
  refine fun ls hl => W.widen (k := cells + 12) (n := slots + 700) (Nat.add_le_add_left (by decide) _) (Nat.add_le_add_left (by decide) _) ?_
  have hg : lw_W p l e s m below meth c b Q H' locs' (cells + 12) (slots + 700) 840 (lw_L b x md i) [vi r] := ?_
  · exact hg ls hl
  clear hl ls
  have hSz : ah_S h2 ≤ H'.size := by have := hI.2.1.2.1; omega
  have hJ2 : J x md h1 (ah_z h2 H'.size) := hF.2.1 x md h1 h2 (ah_S h1) H'.size hJ (Nat.le_refl _) hSz
  obtain ⟨r2, h1a, h2a, e1a, e2a, hJa⟩ := hF.2.2.2.2.2.2.2.2.2.2.2.2.2.2.2.2.2.2.2.2.2.2.2.2.1 x md (xs (i + 1)).toInt (xs (i + 2)).toInt (xs (i + 3)).toInt (lw_r32 _) (lw_r32 _) (lw_r32 _) h1 (ah_z h2 H'.size) hJ2
  have e3 := e1.symm.trans e1a
  cases e3
  refine lw_aload C 1 dL_law_840 rfl rfl ?_
  refine lw_arg (n := 1) (k := 1) C hI' rfl (by omega) 3 0 rfl rfl dL_law_841 dL_law_842 dL_law_843 dL_law_844 dL_law_845 ?_
  refine lw_arg (n := 2) (k := 2) C hI' rfl (by omega) 3 0 rfl rfl dL_law_846 dL_law_847 dL_law_848 dL_law_849 dL_law_850 ?_
  refine lw_arg (n := 3) (k := 3) C hI' rfl (by omega) 3 0 rfl rfl dL_law_851 dL_law_852 dL_law_853 dL_law_854 dL_law_855 ?_
  refine lw_callV (S' := sX7_clash) (As := [vi (xs (i + 1)).toInt, vi (xs (i + 2)).toInt, vi (xs (i + 3)).toInt]) (st := [vi r]) C hI'.symm e2a (lkX7_clash md _ _ _) mwX7_clash rfl mlL_105 dL_law_856 cfX7 (hF.1 x md h1 _ hJ2).2 (by decide) ⟨hc, hs⟩ (Nat.le_of_ble_eq_true rfl) (fun H2 locs2 hz2 hI2 => ?_)
  have hSz1 : ah_S h1' ≤ H2.size := by have := hI'.1.2.1; omega
  have hJ3 : J x md (ah_z h1' H2.size) h2a := hF.2.1 x md h1' h2a H2.size (ah_S h2a) hJa hSz1 (Nat.le_refl _)
  intro ls hl
  refine lv_icmp_eq (tgt := 1149) C.1.1 C.1.2.1 dL_law_859 (by decide) (fun _ => ?_) (fun hne => absurd rfl hne)
  exact kk _ _ H2 locs2 hJ3 hI2.symm ls hl
set_option maxRecDepth 100000 in
set_option maxHeartbeats 4000000 in
theorem lw_case22 {J : Nat → Nat → AH → AH → Prop} (hF : fj_K J) (C : lw_C p s m meth c b L xs G) {x md i : Nat} (hi : i + 5 ≤ L) {h1 h2 : AH} (hJ : J x md h1 h2) (hI : lw_I s G h1 h2 H locs) (hc : cells + 12 ≤ 600000) (hs : slots + 700 ≤ 7302250)
    (kk : ∀ h1 h2 H locs, J x md h1 h2 → lw_I s G h1 h2 H locs → lw_W p l e s m below meth c b Q H locs (cells + 12) (slots + 700) 1149 (lw_L b x md i) []) : lw_W p l e s m below meth c b Q H locs cells slots 864 (lw_L b x md i) [] := by
  obtain ⟨r, h1', h2', e1, e2, hJ'⟩ := hF.2.2.2.2.2.2.2.2.2.2.2.2.2.2.2.2.2.2.2.2.2.2.2.2.2.1 x md (xs (i + 1)).toInt (xs (i + 2)).toInt (xs (i + 3)).toInt (lw_r32 _) (lw_r32 _) (lw_r32 _) h1 h2 hJ
  have hT := hF.1 x md h1 h2 hJ
  refine lw_aload C 2 dL_law_864 rfl rfl ?_
  refine lw_arg (n := 1) (k := 1) C hI rfl (by omega) 3 0 rfl rfl dL_law_865 dL_law_866 dL_law_867 dL_law_868 dL_law_869 ?_
  refine lw_arg (n := 2) (k := 2) C hI rfl (by omega) 3 0 rfl rfl dL_law_870 dL_law_871 dL_law_872 dL_law_873 dL_law_874 ?_
  refine lw_arg (n := 3) (k := 3) C hI rfl (by omega) 3 0 rfl rfl dL_law_875 dL_law_876 dL_law_877 dL_law_878 dL_law_879 ?_
  refine lw_callV (S' := sX6_join) (As := [vi (xs (i + 1)).toInt, vi (xs (i + 2)).toInt, vi (xs (i + 3)).toInt]) (st := []) C hI e1 (lkX6_join x _ _ _) mwX6_join rfl mlL_106 dL_law_880 cfX6 hT.1 (by decide) ⟨Nat.le_trans (Nat.add_le_add_left (by decide) _) hc, Nat.le_trans (Nat.add_le_add_left (by decide) _) hs⟩ (by decide) (fun H' locs' hz' hI' => ?_)
  refine fun ls hl => W.widen (k := cells + 12) (n := slots + 700) (Nat.add_le_add_left (by decide) _) (Nat.add_le_add_left (by decide) _) ?_
  have hg : lw_W p l e s m below meth c b Q H' locs' (cells + 12) (slots + 700) 883 (lw_L b x md i) [vi r] := ?_
  · exact hg ls hl
  clear hl ls
  have hSz : ah_S h2 ≤ H'.size := by have := hI.2.1.2.1; omega
  have hJ2 : J x md h1 (ah_z h2 H'.size) := hF.2.1 x md h1 h2 (ah_S h1) H'.size hJ (Nat.le_refl _) hSz
  obtain ⟨r2, h1a, h2a, e1a, e2a, hJa⟩ := hF.2.2.2.2.2.2.2.2.2.2.2.2.2.2.2.2.2.2.2.2.2.2.2.2.2.1 x md (xs (i + 1)).toInt (xs (i + 2)).toInt (xs (i + 3)).toInt (lw_r32 _) (lw_r32 _) (lw_r32 _) h1 (ah_z h2 H'.size) hJ2
  have e3 := e1.symm.trans e1a
  cases e3
  refine lw_aload C 1 dL_law_883 rfl rfl ?_
  refine lw_arg (n := 1) (k := 1) C hI' rfl (by omega) 3 0 rfl rfl dL_law_884 dL_law_885 dL_law_886 dL_law_887 dL_law_888 ?_
  refine lw_arg (n := 2) (k := 2) C hI' rfl (by omega) 3 0 rfl rfl dL_law_889 dL_law_890 dL_law_891 dL_law_892 dL_law_893 ?_
  refine lw_arg (n := 3) (k := 3) C hI' rfl (by omega) 3 0 rfl rfl dL_law_894 dL_law_895 dL_law_896 dL_law_897 dL_law_898 ?_
  refine lw_callV (S' := sX7_join) (As := [vi (xs (i + 1)).toInt, vi (xs (i + 2)).toInt, vi (xs (i + 3)).toInt]) (st := [vi r]) C hI'.symm e2a (lkX7_join md _ _ _) mwX7_join rfl mlL_109 dL_law_899 cfX7 (hF.1 x md h1 _ hJ2).2 (by decide) ⟨hc, hs⟩ (Nat.le_of_ble_eq_true rfl) (fun H2 locs2 hz2 hI2 => ?_)
  have hSz1 : ah_S h1' ≤ H2.size := by have := hI'.1.2.1; omega
  have hJ3 : J x md (ah_z h1' H2.size) h2a := hF.2.1 x md h1' h2a H2.size (ah_S h2a) hJa hSz1 (Nat.le_refl _)
  intro ls hl
  refine lv_icmp_eq (tgt := 1149) C.1.1 C.1.2.1 dL_law_902 (by decide) (fun _ => ?_) (fun hne => absurd rfl hne)
  exact kk _ _ H2 locs2 hJ3 hI2.symm ls hl
set_option maxRecDepth 100000 in
set_option maxHeartbeats 4000000 in
theorem lw_case23 {J : Nat → Nat → AH → AH → Prop} (hF : fj_K J) (C : lw_C p s m meth c b L xs G) {x md i : Nat} (hi : i + 5 ≤ L) {h1 h2 : AH} (hJ : J x md h1 h2) (hI : lw_I s G h1 h2 H locs) (hc : cells + 12 ≤ 600000) (hs : slots + 700 ≤ 7302250)
    (kk : ∀ h1 h2 H locs, J x md h1 h2 → lw_I s G h1 h2 H locs → lw_W p l e s m below meth c b Q H locs (cells + 12) (slots + 700) 1149 (lw_L b x md i) []) : lw_W p l e s m below meth c b Q H locs cells slots 907 (lw_L b x md i) [] := by
  obtain ⟨r, h1', h2', e1, e2, hJ'⟩ := hF.2.2.2.2.2.2.2.2.2.2.2.2.2.2.2.2.2.2.2.2.2.2.2.2.2.2.1 x md (xs (i + 1)).toInt (xs (i + 2)).toInt (lw_r32 _) (lw_r32 _) h1 h2 hJ
  have hT := hF.1 x md h1 h2 hJ
  refine lw_aload C 2 dL_law_907 rfl rfl ?_
  refine lw_arg (n := 1) (k := 1) C hI rfl (by omega) 3 0 rfl rfl dL_law_908 dL_law_909 dL_law_910 dL_law_911 dL_law_912 ?_
  refine lw_arg (n := 2) (k := 2) C hI rfl (by omega) 3 0 rfl rfl dL_law_913 dL_law_914 dL_law_915 dL_law_916 dL_law_917 ?_
  refine lw_callV (S' := sX6_brought) (As := [vi (xs (i + 1)).toInt, vi (xs (i + 2)).toInt]) (st := []) C hI e1 (lkX6_brought x _ _) mwX6_brought rfl mlL_110 dL_law_918 cfX6 hT.1 (by decide) ⟨Nat.le_trans (Nat.add_le_add_left (by decide) _) hc, Nat.le_trans (Nat.add_le_add_left (by decide) _) hs⟩ (by decide) (fun H' locs' hz' hI' => ?_)
  refine fun ls hl => W.widen (k := cells + 12) (n := slots + 700) (Nat.add_le_add_left (by decide) _) (Nat.add_le_add_left (by decide) _) ?_
  have hg : lw_W p l e s m below meth c b Q H' locs' (cells + 12) (slots + 700) 921 (lw_L b x md i) [vi r] := ?_
  · exact hg ls hl
  clear hl ls
  have hSz : ah_S h2 ≤ H'.size := by have := hI.2.1.2.1; omega
  have hJ2 : J x md h1 (ah_z h2 H'.size) := hF.2.1 x md h1 h2 (ah_S h1) H'.size hJ (Nat.le_refl _) hSz
  obtain ⟨r2, h1a, h2a, e1a, e2a, hJa⟩ := hF.2.2.2.2.2.2.2.2.2.2.2.2.2.2.2.2.2.2.2.2.2.2.2.2.2.2.1 x md (xs (i + 1)).toInt (xs (i + 2)).toInt (lw_r32 _) (lw_r32 _) h1 (ah_z h2 H'.size) hJ2
  have e3 := e1.symm.trans e1a
  cases e3
  refine lw_aload C 1 dL_law_921 rfl rfl ?_
  refine lw_arg (n := 1) (k := 1) C hI' rfl (by omega) 3 0 rfl rfl dL_law_922 dL_law_923 dL_law_924 dL_law_925 dL_law_926 ?_
  refine lw_arg (n := 2) (k := 2) C hI' rfl (by omega) 3 0 rfl rfl dL_law_927 dL_law_928 dL_law_929 dL_law_930 dL_law_931 ?_
  refine lw_callV (S' := sX7_brought) (As := [vi (xs (i + 1)).toInt, vi (xs (i + 2)).toInt]) (st := [vi r]) C hI'.symm e2a (lkX7_brought md _ _) mwX7_brought rfl mlL_113 dL_law_932 cfX7 (hF.1 x md h1 _ hJ2).2 (by decide) ⟨hc, hs⟩ (Nat.le_of_ble_eq_true rfl) (fun H2 locs2 hz2 hI2 => ?_)
  have hSz1 : ah_S h1' ≤ H2.size := by have := hI'.1.2.1; omega
  have hJ3 : J x md (ah_z h1' H2.size) h2a := hF.2.1 x md h1' h2a H2.size (ah_S h2a) hJa hSz1 (Nat.le_refl _)
  intro ls hl
  refine lv_icmp_eq (tgt := 1149) C.1.1 C.1.2.1 dL_law_935 (by decide) (fun _ => ?_) (fun hne => absurd rfl hne)
  exact kk _ _ H2 locs2 hJ3 hI2.symm ls hl
set_option maxRecDepth 100000 in
set_option maxHeartbeats 4000000 in
theorem lw_case24 {J : Nat → Nat → AH → AH → Prop} (hF : fj_K J) (C : lw_C p s m meth c b L xs G) {x md i : Nat} (hi : i + 5 ≤ L) {h1 h2 : AH} (hJ : J x md h1 h2) (hI : lw_I s G h1 h2 H locs) (hc : cells + 12 ≤ 600000) (hs : slots + 700 ≤ 7302250)
    (kk : ∀ h1 h2 H locs, J x md h1 h2 → lw_I s G h1 h2 H locs → lw_W p l e s m below meth c b Q H locs (cells + 12) (slots + 700) 1149 (lw_L b x md i) []) : lw_W p l e s m below meth c b Q H locs cells slots 940 (lw_L b x md i) [] := by
  obtain ⟨r, h1', h2', e1, e2, hJ'⟩ := hF.2.2.2.2.2.2.2.2.2.2.2.2.2.2.2.2.2.2.2.2.2.2.2.2.2.2.2.1 x md (xs (i + 1)).toInt (xs (i + 2)).toInt (lw_r32 _) (lw_r32 _) h1 h2 hJ
  have hT := hF.1 x md h1 h2 hJ
  refine lw_aload C 2 dL_law_940 rfl rfl ?_
  refine lw_arg (n := 1) (k := 1) C hI rfl (by omega) 3 0 rfl rfl dL_law_941 dL_law_942 dL_law_943 dL_law_944 dL_law_945 ?_
  refine lw_arg (n := 2) (k := 2) C hI rfl (by omega) 3 0 rfl rfl dL_law_946 dL_law_947 dL_law_948 dL_law_949 dL_law_950 ?_
  refine lw_callV (S' := sX6_share) (As := [vi (xs (i + 1)).toInt, vi (xs (i + 2)).toInt]) (st := []) C hI e1 (lkX6_share x _ _) mwX6_share rfl mlL_114 dL_law_951 cfX6 hT.1 (by decide) ⟨Nat.le_trans (Nat.add_le_add_left (by decide) _) hc, Nat.le_trans (Nat.add_le_add_left (by decide) _) hs⟩ (by decide) (fun H' locs' hz' hI' => ?_)
  refine fun ls hl => W.widen (k := cells + 12) (n := slots + 700) (Nat.add_le_add_left (by decide) _) (Nat.add_le_add_left (by decide) _) ?_
  have hg : lw_W p l e s m below meth c b Q H' locs' (cells + 12) (slots + 700) 954 (lw_L b x md i) [vi r] := ?_
  · exact hg ls hl
  clear hl ls
  have hSz : ah_S h2 ≤ H'.size := by have := hI.2.1.2.1; omega
  have hJ2 : J x md h1 (ah_z h2 H'.size) := hF.2.1 x md h1 h2 (ah_S h1) H'.size hJ (Nat.le_refl _) hSz
  obtain ⟨r2, h1a, h2a, e1a, e2a, hJa⟩ := hF.2.2.2.2.2.2.2.2.2.2.2.2.2.2.2.2.2.2.2.2.2.2.2.2.2.2.2.1 x md (xs (i + 1)).toInt (xs (i + 2)).toInt (lw_r32 _) (lw_r32 _) h1 (ah_z h2 H'.size) hJ2
  have e3 := e1.symm.trans e1a
  cases e3
  refine lw_aload C 1 dL_law_954 rfl rfl ?_
  refine lw_arg (n := 1) (k := 1) C hI' rfl (by omega) 3 0 rfl rfl dL_law_955 dL_law_956 dL_law_957 dL_law_958 dL_law_959 ?_
  refine lw_arg (n := 2) (k := 2) C hI' rfl (by omega) 3 0 rfl rfl dL_law_960 dL_law_961 dL_law_962 dL_law_963 dL_law_964 ?_
  refine lw_callV (S' := sX7_share) (As := [vi (xs (i + 1)).toInt, vi (xs (i + 2)).toInt]) (st := [vi r]) C hI'.symm e2a (lkX7_share md _ _) mwX7_share rfl mlL_117 dL_law_965 cfX7 (hF.1 x md h1 _ hJ2).2 (by decide) ⟨hc, hs⟩ (Nat.le_of_ble_eq_true rfl) (fun H2 locs2 hz2 hI2 => ?_)
  have hSz1 : ah_S h1' ≤ H2.size := by have := hI'.1.2.1; omega
  have hJ3 : J x md (ah_z h1' H2.size) h2a := hF.2.1 x md h1' h2a H2.size (ah_S h2a) hJa hSz1 (Nat.le_refl _)
  intro ls hl
  refine lv_icmp_eq (tgt := 1149) C.1.1 C.1.2.1 dL_law_968 (by decide) (fun _ => ?_) (fun hne => absurd rfl hne)
  exact kk _ _ H2 locs2 hJ3 hI2.symm ls hl
set_option maxRecDepth 100000 in
set_option maxHeartbeats 4000000 in
theorem lw_case25 {J : Nat → Nat → AH → AH → Prop} (hF : fj_K J) (C : lw_C p s m meth c b L xs G) {x md i : Nat} (hi : i + 5 ≤ L) {h1 h2 : AH} (hJ : J x md h1 h2) (hI : lw_I s G h1 h2 H locs) (hc : cells + 12 ≤ 600000) (hs : slots + 700 ≤ 7302250)
    (kk : ∀ h1 h2 H locs, J x md h1 h2 → lw_I s G h1 h2 H locs → lw_W p l e s m below meth c b Q H locs (cells + 12) (slots + 700) 1149 (lw_L b x md i) []) : lw_W p l e s m below meth c b Q H locs cells slots 973 (lw_L b x md i) [] := by
  obtain ⟨r, h1', h2', e1, e2, hJ'⟩ := hF.2.2.2.2.2.2.2.2.2.2.2.2.2.2.2.2.2.2.2.2.2.2.2.2.2.2.2.2.1 x md (xs (i + 1)).toInt (xs (i + 2)).toInt (xs (i + 3)).toInt (lw_r32 _) (lw_r32 _) (lw_r32 _) h1 h2 hJ
  have hT := hF.1 x md h1 h2 hJ
  refine lw_aload C 2 dL_law_973 rfl rfl ?_
  refine lw_arg (n := 1) (k := 1) C hI rfl (by omega) 3 0 rfl rfl dL_law_974 dL_law_975 dL_law_976 dL_law_977 dL_law_978 ?_
  refine lw_arg (n := 2) (k := 2) C hI rfl (by omega) 3 0 rfl rfl dL_law_979 dL_law_980 dL_law_981 dL_law_982 dL_law_983 ?_
  refine lw_arg (n := 3) (k := 3) C hI rfl (by omega) 3 0 rfl rfl dL_law_984 dL_law_985 dL_law_986 dL_law_987 dL_law_988 ?_
  refine lw_callV (S' := sX6_store) (As := [vi (xs (i + 1)).toInt, vi (xs (i + 2)).toInt, vi (xs (i + 3)).toInt]) (st := []) C hI e1 (lkX6_store x _ _ _) mwX6_store rfl mlL_118 dL_law_989 cfX6 hT.1 (by decide) ⟨Nat.le_trans (Nat.add_le_add_left (by decide) _) hc, Nat.le_trans (Nat.add_le_add_left (by decide) _) hs⟩ (by decide) (fun H' locs' hz' hI' => ?_)
  refine fun ls hl => W.widen (k := cells + 12) (n := slots + 700) (Nat.add_le_add_left (by decide) _) (Nat.add_le_add_left (by decide) _) ?_
  have hg : lw_W p l e s m below meth c b Q H' locs' (cells + 12) (slots + 700) 992 (lw_L b x md i) [vi r] := ?_
  · exact hg ls hl
  clear hl ls
  have hSz : ah_S h2 ≤ H'.size := by have := hI.2.1.2.1; omega
  have hJ2 : J x md h1 (ah_z h2 H'.size) := hF.2.1 x md h1 h2 (ah_S h1) H'.size hJ (Nat.le_refl _) hSz
  obtain ⟨r2, h1a, h2a, e1a, e2a, hJa⟩ := hF.2.2.2.2.2.2.2.2.2.2.2.2.2.2.2.2.2.2.2.2.2.2.2.2.2.2.2.2.1 x md (xs (i + 1)).toInt (xs (i + 2)).toInt (xs (i + 3)).toInt (lw_r32 _) (lw_r32 _) (lw_r32 _) h1 (ah_z h2 H'.size) hJ2
  have e3 := e1.symm.trans e1a
  cases e3
  refine lw_aload C 1 dL_law_992 rfl rfl ?_
  refine lw_arg (n := 1) (k := 1) C hI' rfl (by omega) 3 0 rfl rfl dL_law_993 dL_law_994 dL_law_995 dL_law_996 dL_law_997 ?_
  refine lw_arg (n := 2) (k := 2) C hI' rfl (by omega) 3 0 rfl rfl dL_law_998 dL_law_999 dL_law_1000 dL_law_1001 dL_law_1002 ?_
  refine lw_arg (n := 3) (k := 3) C hI' rfl (by omega) 3 0 rfl rfl dL_law_1003 dL_law_1004 dL_law_1005 dL_law_1006 dL_law_1007 ?_
  refine lw_callV (S' := sX7_store) (As := [vi (xs (i + 1)).toInt, vi (xs (i + 2)).toInt, vi (xs (i + 3)).toInt]) (st := [vi r]) C hI'.symm e2a (lkX7_store md _ _ _) mwX7_store rfl mlL_121 dL_law_1008 cfX7 (hF.1 x md h1 _ hJ2).2 (by decide) ⟨hc, hs⟩ (Nat.le_of_ble_eq_true rfl) (fun H2 locs2 hz2 hI2 => ?_)
  have hSz1 : ah_S h1' ≤ H2.size := by have := hI'.1.2.1; omega
  have hJ3 : J x md (ah_z h1' H2.size) h2a := hF.2.1 x md h1' h2a H2.size (ah_S h2a) hJa hSz1 (Nat.le_refl _)
  intro ls hl
  refine lv_icmp_eq (tgt := 1149) C.1.1 C.1.2.1 dL_law_1011 (by decide) (fun _ => ?_) (fun hne => absurd rfl hne)
  exact kk _ _ H2 locs2 hJ3 hI2.symm ls hl
set_option maxRecDepth 100000 in
set_option maxHeartbeats 4000000 in
theorem lw_case26 {J : Nat → Nat → AH → AH → Prop} (hF : fj_K J) (C : lw_C p s m meth c b L xs G) {x md i : Nat} (hi : i + 5 ≤ L) {h1 h2 : AH} (hJ : J x md h1 h2) (hI : lw_I s G h1 h2 H locs) (hc : cells + 12 ≤ 600000) (hs : slots + 700 ≤ 7302250)
    (kk : ∀ h1 h2 H locs, J x md h1 h2 → lw_I s G h1 h2 H locs → lw_W p l e s m below meth c b Q H locs (cells + 12) (slots + 700) 1149 (lw_L b x md i) []) : lw_W p l e s m below meth c b Q H locs cells slots 1016 (lw_L b x md i) [] := by
  obtain ⟨r, h1', h2', e1, e2, hJ'⟩ := hF.2.2.2.2.2.2.2.2.2.2.2.2.2.2.2.2.2.2.2.2.2.2.2.2.2.2.2.2.2.1 x md (xs (i + 1)).toInt (xs (i + 2)).toInt (xs (i + 3)).toInt (lw_r32 _) (lw_r32 _) (lw_r32 _) h1 h2 hJ
  have hT := hF.1 x md h1 h2 hJ
  refine lw_aload C 2 dL_law_1016 rfl rfl ?_
  refine lw_arg (n := 1) (k := 1) C hI rfl (by omega) 3 0 rfl rfl dL_law_1017 dL_law_1018 dL_law_1019 dL_law_1020 dL_law_1021 ?_
  refine lw_arg (n := 2) (k := 2) C hI rfl (by omega) 3 0 rfl rfl dL_law_1022 dL_law_1023 dL_law_1024 dL_law_1025 dL_law_1026 ?_
  refine lw_arg (n := 3) (k := 3) C hI rfl (by omega) 3 0 rfl rfl dL_law_1027 dL_law_1028 dL_law_1029 dL_law_1030 dL_law_1031 ?_
  refine lw_callV (S' := sX6_worst) (As := [vi (xs (i + 1)).toInt, vi (xs (i + 2)).toInt, vi (xs (i + 3)).toInt]) (st := []) C hI e1 (lkX6_worst x _ _ _) mwX6_worst rfl mlL_122 dL_law_1032 cfX6 hT.1 (by decide) ⟨Nat.le_trans (Nat.add_le_add_left (by decide) _) hc, Nat.le_trans (Nat.add_le_add_left (by decide) _) hs⟩ (by decide) (fun H' locs' hz' hI' => ?_)
  refine fun ls hl => W.widen (k := cells + 12) (n := slots + 700) (Nat.add_le_add_left (by decide) _) (Nat.add_le_add_left (by decide) _) ?_
  have hg : lw_W p l e s m below meth c b Q H' locs' (cells + 12) (slots + 700) 1035 (lw_L b x md i) [vi r] := ?_
  · exact hg ls hl
  clear hl ls
  have hSz : ah_S h2 ≤ H'.size := by have := hI.2.1.2.1; omega
  have hJ2 : J x md h1 (ah_z h2 H'.size) := hF.2.1 x md h1 h2 (ah_S h1) H'.size hJ (Nat.le_refl _) hSz
  obtain ⟨r2, h1a, h2a, e1a, e2a, hJa⟩ := hF.2.2.2.2.2.2.2.2.2.2.2.2.2.2.2.2.2.2.2.2.2.2.2.2.2.2.2.2.2.1 x md (xs (i + 1)).toInt (xs (i + 2)).toInt (xs (i + 3)).toInt (lw_r32 _) (lw_r32 _) (lw_r32 _) h1 (ah_z h2 H'.size) hJ2
  have e3 := e1.symm.trans e1a
  cases e3
  refine lw_aload C 1 dL_law_1035 rfl rfl ?_
  refine lw_arg (n := 1) (k := 1) C hI' rfl (by omega) 3 0 rfl rfl dL_law_1036 dL_law_1037 dL_law_1038 dL_law_1039 dL_law_1040 ?_
  refine lw_arg (n := 2) (k := 2) C hI' rfl (by omega) 3 0 rfl rfl dL_law_1041 dL_law_1042 dL_law_1043 dL_law_1044 dL_law_1045 ?_
  refine lw_arg (n := 3) (k := 3) C hI' rfl (by omega) 3 0 rfl rfl dL_law_1046 dL_law_1047 dL_law_1048 dL_law_1049 dL_law_1050 ?_
  refine lw_callV (S' := sX7_worst) (As := [vi (xs (i + 1)).toInt, vi (xs (i + 2)).toInt, vi (xs (i + 3)).toInt]) (st := [vi r]) C hI'.symm e2a (lkX7_worst md _ _ _) mwX7_worst rfl mlL_125 dL_law_1051 cfX7 (hF.1 x md h1 _ hJ2).2 (by decide) ⟨hc, hs⟩ (Nat.le_of_ble_eq_true rfl) (fun H2 locs2 hz2 hI2 => ?_)
  have hSz1 : ah_S h1' ≤ H2.size := by have := hI'.1.2.1; omega
  have hJ3 : J x md (ah_z h1' H2.size) h2a := hF.2.1 x md h1' h2a H2.size (ah_S h2a) hJa hSz1 (Nat.le_refl _)
  intro ls hl
  refine lv_icmp_eq (tgt := 1149) C.1.1 C.1.2.1 dL_law_1054 (by decide) (fun _ => ?_) (fun hne => absurd rfl hne)
  exact kk _ _ H2 locs2 hJ3 hI2.symm ls hl
set_option maxRecDepth 100000 in
set_option maxHeartbeats 4000000 in
theorem lw_case27 {J : Nat → Nat → AH → AH → Prop} (hF : fj_K J) (C : lw_C p s m meth c b L xs G) {x md i : Nat} (hi : i + 5 ≤ L) {h1 h2 : AH} (hJ : J x md h1 h2) (hI : lw_I s G h1 h2 H locs) (hc : cells + 12 ≤ 600000) (hs : slots + 700 ≤ 7302250)
    (kk : ∀ h1 h2 H locs, J x md h1 h2 → lw_I s G h1 h2 H locs → lw_W p l e s m below meth c b Q H locs (cells + 12) (slots + 700) 1149 (lw_L b x md i) []) : lw_W p l e s m below meth c b Q H locs cells slots 1059 (lw_L b x md i) [] := by
  obtain ⟨r, h1', h2', e1, e2, hJ'⟩ := hF.2.2.2.2.2.2.2.2.2.2.2.2.2.2.2.2.2.2.2.2.2.2.2.2.2.2.2.2.2.2.1 x md (xs (i + 1)).toInt (xs (i + 2)).toInt (xs (i + 3)).toInt (xs (i + 4)).toInt (lw_r32 _) (lw_r32 _) (lw_r32 _) (lw_r32 _) h1 h2 hJ
  have hT := hF.1 x md h1 h2 hJ
  refine lw_aload C 2 dL_law_1059 rfl rfl ?_
  refine lw_arg (n := 1) (k := 1) C hI rfl (by omega) 3 0 rfl rfl dL_law_1060 dL_law_1061 dL_law_1062 dL_law_1063 dL_law_1064 ?_
  refine lw_arg (n := 2) (k := 2) C hI rfl (by omega) 3 0 rfl rfl dL_law_1065 dL_law_1066 dL_law_1067 dL_law_1068 dL_law_1069 ?_
  refine lw_arg (n := 3) (k := 3) C hI rfl (by omega) 3 0 rfl rfl dL_law_1070 dL_law_1071 dL_law_1072 dL_law_1073 dL_law_1074 ?_
  refine lw_arg (n := 4) (k := 4) C hI rfl (by omega) 3 0 rfl rfl dL_law_1075 dL_law_1076 dL_law_1077 dL_law_1078 dL_law_1079 ?_
  refine lw_callV (S' := sX6_saved) (As := [vi (xs (i + 1)).toInt, vi (xs (i + 2)).toInt, vi (xs (i + 3)).toInt, vi (xs (i + 4)).toInt]) (st := []) C hI e1 (lkX6_saved x _ _ _ _) mwX6_saved rfl mlL_126 dL_law_1080 cfX6 hT.1 (by decide) ⟨Nat.le_trans (Nat.add_le_add_left (by decide) _) hc, Nat.le_trans (Nat.add_le_add_left (by decide) _) hs⟩ (by decide) (fun H' locs' hz' hI' => ?_)
  refine fun ls hl => W.widen (k := cells + 12) (n := slots + 700) (Nat.add_le_add_left (by decide) _) (Nat.add_le_add_left (by decide) _) ?_
  have hg : lw_W p l e s m below meth c b Q H' locs' (cells + 12) (slots + 700) 1083 (lw_L b x md i) [vi r] := ?_
  · exact hg ls hl
  clear hl ls
  have hSz : ah_S h2 ≤ H'.size := by have := hI.2.1.2.1; omega
  have hJ2 : J x md h1 (ah_z h2 H'.size) := hF.2.1 x md h1 h2 (ah_S h1) H'.size hJ (Nat.le_refl _) hSz
  obtain ⟨r2, h1a, h2a, e1a, e2a, hJa⟩ := hF.2.2.2.2.2.2.2.2.2.2.2.2.2.2.2.2.2.2.2.2.2.2.2.2.2.2.2.2.2.2.1 x md (xs (i + 1)).toInt (xs (i + 2)).toInt (xs (i + 3)).toInt (xs (i + 4)).toInt (lw_r32 _) (lw_r32 _) (lw_r32 _) (lw_r32 _) h1 (ah_z h2 H'.size) hJ2
  have e3 := e1.symm.trans e1a
  cases e3
  refine lw_aload C 1 dL_law_1083 rfl rfl ?_
  refine lw_arg (n := 1) (k := 1) C hI' rfl (by omega) 3 0 rfl rfl dL_law_1084 dL_law_1085 dL_law_1086 dL_law_1087 dL_law_1088 ?_
  refine lw_arg (n := 2) (k := 2) C hI' rfl (by omega) 3 0 rfl rfl dL_law_1089 dL_law_1090 dL_law_1091 dL_law_1092 dL_law_1093 ?_
  refine lw_arg (n := 3) (k := 3) C hI' rfl (by omega) 3 0 rfl rfl dL_law_1094 dL_law_1095 dL_law_1096 dL_law_1097 dL_law_1098 ?_
  refine lw_arg (n := 4) (k := 4) C hI' rfl (by omega) 3 0 rfl rfl dL_law_1099 dL_law_1100 dL_law_1101 dL_law_1102 dL_law_1103 ?_
  refine lw_callV (S' := sX7_saved) (As := [vi (xs (i + 1)).toInt, vi (xs (i + 2)).toInt, vi (xs (i + 3)).toInt, vi (xs (i + 4)).toInt]) (st := [vi r]) C hI'.symm e2a (lkX7_saved md _ _ _ _) mwX7_saved rfl mlL_129 dL_law_1104 cfX7 (hF.1 x md h1 _ hJ2).2 (by decide) ⟨hc, hs⟩ (Nat.le_of_ble_eq_true rfl) (fun H2 locs2 hz2 hI2 => ?_)
  have hSz1 : ah_S h1' ≤ H2.size := by have := hI'.1.2.1; omega
  have hJ3 : J x md (ah_z h1' H2.size) h2a := hF.2.1 x md h1' h2a H2.size (ah_S h2a) hJa hSz1 (Nat.le_refl _)
  intro ls hl
  refine lv_icmp_eq (tgt := 1149) C.1.1 C.1.2.1 dL_law_1107 (by decide) (fun _ => ?_) (fun hne => absurd rfl hne)
  exact kk _ _ H2 locs2 hJ3 hI2.symm ls hl
set_option maxRecDepth 100000 in
set_option maxHeartbeats 4000000 in
theorem lw_case28 {J : Nat → Nat → AH → AH → Prop} (hF : fj_K J) (C : lw_C p s m meth c b L xs G) {x md i : Nat} (hi : i + 5 ≤ L) {h1 h2 : AH} (hJ : J x md h1 h2) (hI : lw_I s G h1 h2 H locs) (hc : cells + 12 ≤ 600000) (hs : slots + 700 ≤ 7302250)
    (kk : ∀ h1 h2 H locs, J x md h1 h2 → lw_I s G h1 h2 H locs → lw_W p l e s m below meth c b Q H locs (cells + 12) (slots + 700) 1149 (lw_L b x md i) []) : lw_W p l e s m below meth c b Q H locs cells slots 1112 (lw_L b x md i) [] := by
  obtain ⟨r, h1', h2', e1, e2, hJ'⟩ := hF.2.2.2.2.2.2.2.2.2.2.2.2.2.2.2.2.2.2.2.2.2.2.2.2.2.2.2.2.2.2.2.1 x md (xs (i + 1)).toInt (lw_r32 _) h1 h2 hJ
  have hT := hF.1 x md h1 h2 hJ
  refine lw_aload C 2 dL_law_1112 rfl rfl ?_
  refine lw_arg (n := 1) (k := 1) C hI rfl (by omega) 3 0 rfl rfl dL_law_1113 dL_law_1114 dL_law_1115 dL_law_1116 dL_law_1117 ?_
  refine lw_callV (S' := sX6_count) (As := [vi (xs (i + 1)).toInt]) (st := []) C hI e1 (lkX6_count x _) mwX6_count rfl mlL_130 dL_law_1118 cfX6 hT.1 (by decide) ⟨Nat.le_trans (Nat.add_le_add_left (by decide) _) hc, Nat.le_trans (Nat.add_le_add_left (by decide) _) hs⟩ (by decide) (fun H' locs' hz' hI' => ?_)
  refine fun ls hl => W.widen (k := cells + 12) (n := slots + 700) (Nat.add_le_add_left (by decide) _) (Nat.add_le_add_left (by decide) _) ?_
  have hg : lw_W p l e s m below meth c b Q H' locs' (cells + 12) (slots + 700) 1121 (lw_L b x md i) [vi r] := ?_
  · exact hg ls hl
  clear hl ls
  have hSz : ah_S h2 ≤ H'.size := by have := hI.2.1.2.1; omega
  have hJ2 : J x md h1 (ah_z h2 H'.size) := hF.2.1 x md h1 h2 (ah_S h1) H'.size hJ (Nat.le_refl _) hSz
  obtain ⟨r2, h1a, h2a, e1a, e2a, hJa⟩ := hF.2.2.2.2.2.2.2.2.2.2.2.2.2.2.2.2.2.2.2.2.2.2.2.2.2.2.2.2.2.2.2.1 x md (xs (i + 1)).toInt (lw_r32 _) h1 (ah_z h2 H'.size) hJ2
  have e3 := e1.symm.trans e1a
  cases e3
  refine lw_aload C 1 dL_law_1121 rfl rfl ?_
  refine lw_arg (n := 1) (k := 1) C hI' rfl (by omega) 3 0 rfl rfl dL_law_1122 dL_law_1123 dL_law_1124 dL_law_1125 dL_law_1126 ?_
  refine lw_callV (S' := sX7_count) (As := [vi (xs (i + 1)).toInt]) (st := [vi r]) C hI'.symm e2a (lkX7_count md _) mwX7_count rfl mlL_133 dL_law_1127 cfX7 (hF.1 x md h1 _ hJ2).2 (by decide) ⟨hc, hs⟩ (Nat.le_of_ble_eq_true rfl) (fun H2 locs2 hz2 hI2 => ?_)
  have hSz1 : ah_S h1' ≤ H2.size := by have := hI'.1.2.1; omega
  have hJ3 : J x md (ah_z h1' H2.size) h2a := hF.2.1 x md h1' h2a H2.size (ah_S h2a) hJa hSz1 (Nat.le_refl _)
  intro ls hl
  refine lv_icmp_eq (tgt := 1149) C.1.1 C.1.2.1 dL_law_1130 (by decide) (fun _ => ?_) (fun hne => absurd rfl hne)
  exact kk _ _ H2 locs2 hJ3 hI2.symm ls hl
set_option maxRecDepth 100000 in
set_option maxHeartbeats 4000000 in
theorem lw_case29 {J : Nat → Nat → AH → AH → Prop} (hF : fj_K J) (C : lw_C p s m meth c b L xs G) {x md i : Nat} (hi : i + 5 ≤ L) {h1 h2 : AH} (hJ : J x md h1 h2) (hI : lw_I s G h1 h2 H locs) (hc : cells + 12 ≤ 600000) (hs : slots + 700 ≤ 7302250)
    (kk : ∀ h1 h2 H locs, J x md h1 h2 → lw_I s G h1 h2 H locs → lw_W p l e s m below meth c b Q H locs (cells + 12) (slots + 700) 1149 (lw_L b x md i) []) : lw_W p l e s m below meth c b Q H locs cells slots 1135 (lw_L b x md i) [] := by
  obtain ⟨r, h1', h2', e1, e2, hJ'⟩ := hF.2.2.2.2.2.2.2.2.2.2.2.2.2.2.2.2.2.2.2.2.2.2.2.2.2.2.2.2.2.2.2.2 x md h1 h2 hJ
  have hT := hF.1 x md h1 h2 hJ
  refine lw_aload C 2 dL_law_1135 rfl rfl ?_
  refine lw_callV (S' := sX6_digest) (As := []) (st := []) C hI e1 (lkX6_digest x ) mwX6_digest rfl mlL_134 dL_law_1136 cfX6 hT.1 (by decide) ⟨Nat.le_trans (Nat.add_le_add_left (by decide) _) hc, Nat.le_trans (Nat.add_le_add_left (by decide) _) hs⟩ (by decide) (fun H' locs' hz' hI' => ?_)
  refine fun ls hl => W.widen (k := cells + 12) (n := slots + 700) (Nat.add_le_add_left (by decide) _) (Nat.add_le_add_left (by decide) _) ?_
  have hg : lw_W p l e s m below meth c b Q H' locs' (cells + 12) (slots + 700) 1139 (lw_L b x md i) [vl r] := ?_
  · exact hg ls hl
  clear hl ls
  have hSz : ah_S h2 ≤ H'.size := by have := hI.2.1.2.1; omega
  have hJ2 : J x md h1 (ah_z h2 H'.size) := hF.2.1 x md h1 h2 (ah_S h1) H'.size hJ (Nat.le_refl _) hSz
  obtain ⟨r2, h1a, h2a, e1a, e2a, hJa⟩ := hF.2.2.2.2.2.2.2.2.2.2.2.2.2.2.2.2.2.2.2.2.2.2.2.2.2.2.2.2.2.2.2.2 x md h1 (ah_z h2 H'.size) hJ2
  have e3 := e1.symm.trans e1a
  cases e3
  refine lw_aload C 1 dL_law_1139 rfl rfl ?_
  refine lw_callV (S' := sX7_digest) (As := []) (st := [vl r]) C hI'.symm e2a (lkX7_digest md ) mwX7_digest rfl mlL_138 dL_law_1140 cfX7 (hF.1 x md h1 _ hJ2).2 (by decide) ⟨hc, hs⟩ (Nat.le_of_ble_eq_true rfl) (fun H2 locs2 hz2 hI2 => ?_)
  have hSz1 : ah_S h1' ≤ H2.size := by have := hI'.1.2.1; omega
  have hJ3 : J x md (ah_z h1' H2.size) h2a := hF.2.1 x md h1' h2a H2.size (ah_S h2a) hJa hSz1 (Nat.le_refl _)
  intro ls hl
  refine W.lcmp C.1.1 C.1.2.1 dL_law_1143 ?_
  have e0 : lg_cmp (Int64.ofInt r) (Int64.ofInt r) = 0 := by unfold lg_cmp; rw [if_neg (by exact Int64.lt_irrefl), if_pos rfl]
  rw [e0]
  refine lv_if_eq (tgt := 1149) C.1.1 C.1.2.1 dL_law_1144 (by decide) (fun _ => ?_) (fun hne => absurd rfl hne)
  exact kk _ _ H2 locs2 hJ3 hI2.symm ls hl
theorem lw_exit (C : lw_C p s m meth c b L xs G) {h1 h2 : AH} (hI : lw_I s G h1 h2 H locs) (hlk : meth.locks = false) (hc : cells ≤ 600000) (hs : slots ≤ 7302250) {Lc : List (Nat × VV)} : lw_W p l e s m below meth c b (lw_Z below #[Value.ref b] s) H locs cells slots 1155 Lc [] := by
  refine lw_iconst C dL_law_1155 ?_
  intro ls hl
  refine va_forget (fun q hq => hI.2.2.2.1.2.2 q hq) ?_
  refine W.widen (k := 600000) (n := 7302250) hc hs ?_
  exact lw_ret C.1.1 C.1.2.1 C.1.2.2.1 hlk dL_law_1156
set_option maxRecDepth 100000 in
set_option maxHeartbeats 4000000 in
theorem lw_loop {J : Nat → Nat → AH → AH → Prop} (hF : fj_K J) (C : lw_C p s m meth c b L xs G) (hlk : meth.locks = false) (x md : Nat) (n : Nat) : ∀ (i j : Nat), L < i + 5 * n → i = 5 * j → i ≤ L → ∀ (h1 h2 : AH) (H : Heap) (locs : List Loc), J x md h1 h2 → lw_I s G h1 h2 H locs → lw_W p l e s m below meth c b (lw_Z below #[Value.ref b] s) H locs (100 + 12 * j) (5000 + 700 * j) 18 (lw_L b x md i) [] := by
  induction n with
  | zero => intro i j hn hij hiL; omega
  | succ n ih =>
    intro i j hn hij hiL h1 h2 H locs hJ hI
    have hL := C.2.2
    refine lw_iload C 0 dL_law_18 rfl rfl ?_
    refine lw_aload C 3 dL_law_19 rfl rfl ?_
    refine lw_slen C hI dL_law_20 ?_
    refine lw_iconst C dL_law_21 ?_
    intro ls hl
    refine lv_isub C.1.1 C.1.2.1 dL_law_22 ?_
    have e5 : Int32.ofInt (L : Int) - Int32.ofInt 5 = Int32.ofInt ((L : Int) - 5) := (Int32.ofInt_sub ..).symm
    rw [e5]
    have rI : am_r (i : Int) := ⟨by omega, by omega⟩
    have rL : am_r ((L : Int) - 5) := ⟨by omega, by omega⟩
    have hle := nm_le rI rL
    refine lv_icmp_gt (tgt := 1155) C.1.1 C.1.2.1 dL_law_23 (by decide) (fun hc => ?_) (fun hc => ?_)
    · exact lw_exit C hI hlk (by omega) (by omega) ls hl
    · have hb : i + 5 ≤ L := by
        rcases Nat.lt_or_ge L (i + 5) with q | q
        · exfalso
          have hn2 : ¬ (i : Int) ≤ (L : Int) - 5 := by omega
          have h3 : ¬ Int32.ofInt (i : Int) ≤ Int32.ofInt ((L : Int) - 5) := fun z => hn2 (hle.mp z)
          first | exact h3 hc | exact h3 (Int32.not_lt.mp hc)
        · exact q
      have hend : ∀ (h1 h2 : AH) (H : Heap) (locs : List Loc), J x md h1 h2 → lw_I s G h1 h2 H locs → lw_W p l e s m below meth c b (lw_Z below #[Value.ref b] s) H locs (100 + 12 * j + 12) (5000 + 700 * j + 700) 1149 (lw_L b x md i) [] := by
        intro h1 h2 H locs hJ hI ls hl
        refine lv_iinc (v := Int32.ofInt ((i + 5 : Nat) : Int)) (lv' := vL (lw_L b x md (i + 5))) C.1.1 C.1.2.1 dL_law_1149 hl (k := 0) rfl ?_ (by decide) rfl (fun ls hl => ?_)
        · rw [← Int32.ofInt_add]; congr 1
        · refine lv_goto (tgt := 18) C.1.1 C.1.2.1 dL_law_1152 (by decide) ?_
          have hg := ih (i + 5) (j + 1) (by omega) (by omega) (by omega) h1 h2 H locs hJ hI ls hl
          rw [show 100 + 12 * (j + 1) = 100 + 12 * j + 12 by omega, show 5000 + 700 * (j + 1) = 5000 + 700 * j + 700 by omega] at hg
          exact hg
      have hgo : lw_W p l e s m below meth c b (lw_Z below #[Value.ref b] s) H locs (100 + 12 * j) (5000 + 700 * j) 26 (lw_L b x md i) [] := ?_
      · exact hgo ls hl
      clear hc hl ls
      refine lw_aload C 3 dL_law_26 rfl rfl ?_
      refine lw_iload C 0 dL_law_27 rfl rfl ?_
      refine lw_sld (k := i) C hI (by omega) rfl dL_law_28 ?_
      intro ls hl
      show W p l e room_1 s m #[Value.ref b] below meth c H locs _ _ _ (F0 m 29 ls [vv (vi (xs i).toInt)])
      rw [← lw_int]
      refine lv_bipush (v := 31) C.1.1 C.1.2.1 dL_law_29 (by decide) ?_
      refine lv_iand C.1.1 C.1.2.1 dL_law_31 ?_
      obtain ⟨k, hk, e⟩ := pk_andE (xs i) (m := 31) 5 (by decide)
      have h2p : (2 : Nat) ^ 5 = 32 := by decide
      rw [h2p] at hk
      rw [e]
      rcases (show k = 0 ∨ k = 1 ∨ k = 2 ∨ k = 3 ∨ k = 4 ∨ k = 5 ∨ k = 6 ∨ k = 7 ∨ k = 8 ∨ k = 9 ∨ k = 10 ∨ k = 11 ∨ k = 12 ∨ k = 13 ∨ k = 14 ∨ k = 15 ∨ k = 16 ∨ k = 17 ∨ k = 18 ∨ k = 19 ∨ k = 20 ∨ k = 21 ∨ k = 22 ∨ k = 23 ∨ k = 24 ∨ k = 25 ∨ k = 26 ∨ k = 27 ∨ k = 28 ∨ k = 29 ∨ k = 30 ∨ k = 31 by omega) with rfl | rfl | rfl | rfl | rfl | rfl | rfl | rfl | rfl | rfl | rfl | rfl | rfl | rfl | rfl | rfl | rfl | rfl | rfl | rfl | rfl | rfl | rfl | rfl | rfl | rfl | rfl | rfl | rfl | rfl | rfl | rfl
      · exact lv_tableIn C.1.1 C.1.2.1 dL_law_32 (by decide) (by decide) (off := 136) (by decide) (tgt := 168) (by decide) (lw_case0 hF C hb hJ hI (by omega) (by omega) hend ls hl)
      · exact lv_tableIn C.1.1 C.1.2.1 dL_law_32 (by decide) (by decide) (off := 169) (by decide) (tgt := 201) (by decide) (lw_case1 hF C hb hJ hI (by omega) (by omega) hend ls hl)
      · exact lv_tableIn C.1.1 C.1.2.1 dL_law_32 (by decide) (by decide) (off := 192) (by decide) (tgt := 224) (by decide) (lw_case2 hF C hb hJ hI (by omega) (by omega) hend ls hl)
      · exact lv_tableIn C.1.1 C.1.2.1 dL_law_32 (by decide) (by decide) (off := 215) (by decide) (tgt := 247) (by decide) (lw_case3 hF C hb hJ hI (by omega) (by omega) hend ls hl)
      · exact lv_tableIn C.1.1 C.1.2.1 dL_law_32 (by decide) (by decide) (off := 238) (by decide) (tgt := 270) (by decide) (lw_case4 hF C hb hJ hI (by omega) (by omega) hend ls hl)
      · exact lv_tableIn C.1.1 C.1.2.1 dL_law_32 (by decide) (by decide) (off := 271) (by decide) (tgt := 303) (by decide) (lw_case5 hF C hb hJ hI (by omega) (by omega) hend ls hl)
      · exact lv_tableIn C.1.1 C.1.2.1 dL_law_32 (by decide) (by decide) (off := 304) (by decide) (tgt := 336) (by decide) (lw_case6 hF C hb hJ hI (by omega) (by omega) hend ls hl)
      · exact lv_tableIn C.1.1 C.1.2.1 dL_law_32 (by decide) (by decide) (off := 337) (by decide) (tgt := 369) (by decide) (lw_case7 hF C hb hJ hI (by omega) (by omega) hend ls hl)
      · exact lv_tableIn C.1.1 C.1.2.1 dL_law_32 (by decide) (by decide) (off := 370) (by decide) (tgt := 402) (by decide) (lw_case8 hF C hb hJ hI (by omega) (by omega) hend ls hl)
      · exact lv_tableIn C.1.1 C.1.2.1 dL_law_32 (by decide) (by decide) (off := 413) (by decide) (tgt := 445) (by decide) (lw_case9 hF C hb hJ hI (by omega) (by omega) hend ls hl)
      · exact lv_tableIn C.1.1 C.1.2.1 dL_law_32 (by decide) (by decide) (off := 456) (by decide) (tgt := 488) (by decide) (lw_case10 hF C hb hJ hI (by omega) (by omega) hend ls hl)
      · exact lv_tableIn C.1.1 C.1.2.1 dL_law_32 (by decide) (by decide) (off := 489) (by decide) (tgt := 521) (by decide) (lw_case11 hF C hb hJ hI (by omega) (by omega) hend ls hl)
      · exact lv_tableIn C.1.1 C.1.2.1 dL_law_32 (by decide) (by decide) (off := 502) (by decide) (tgt := 534) (by decide) (lw_case12 hF C hb hJ hI (by omega) (by omega) hend ls hl)
      · exact lv_tableIn C.1.1 C.1.2.1 dL_law_32 (by decide) (by decide) (off := 555) (by decide) (tgt := 587) (by decide) (lw_case13 hF C hb hJ hI (by omega) (by omega) hend ls hl)
      · exact lv_tableIn C.1.1 C.1.2.1 dL_law_32 (by decide) (by decide) (off := 588) (by decide) (tgt := 620) (by decide) (lw_case14 hF C hb hJ hI (by omega) (by omega) hend ls hl)
      · exact lv_tableIn C.1.1 C.1.2.1 dL_law_32 (by decide) (by decide) (off := 631) (by decide) (tgt := 663) (by decide) (lw_case15 hF C hb hJ hI (by omega) (by omega) hend ls hl)
      · exact lv_tableIn C.1.1 C.1.2.1 dL_law_32 (by decide) (by decide) (off := 654) (by decide) (tgt := 686) (by decide) (lw_case16 hF C hb hJ hI (by omega) (by omega) hend ls hl)
      · exact lv_tableIn C.1.1 C.1.2.1 dL_law_32 (by decide) (by decide) (off := 677) (by decide) (tgt := 709) (by decide) (lw_case17 hF C hb hJ hI (by omega) (by omega) hend ls hl)
      · exact lv_tableIn C.1.1 C.1.2.1 dL_law_32 (by decide) (by decide) (off := 700) (by decide) (tgt := 732) (by decide) (lw_case18 hF C hb hJ hI (by omega) (by omega) hend ls hl)
      · exact lv_tableIn C.1.1 C.1.2.1 dL_law_32 (by decide) (by decide) (off := 723) (by decide) (tgt := 755) (by decide) (lw_case19 hF C hb hJ hI (by omega) (by omega) hend ls hl)
      · exact lv_tableIn C.1.1 C.1.2.1 dL_law_32 (by decide) (by decide) (off := 756) (by decide) (tgt := 788) (by decide) (lw_case20 hF C hb hJ hI (by omega) (by omega) hend ls hl)
      · exact lv_tableIn C.1.1 C.1.2.1 dL_law_32 (by decide) (by decide) (off := 789) (by decide) (tgt := 821) (by decide) (lw_case21 hF C hb hJ hI (by omega) (by omega) hend ls hl)
      · exact lv_tableIn C.1.1 C.1.2.1 dL_law_32 (by decide) (by decide) (off := 832) (by decide) (tgt := 864) (by decide) (lw_case22 hF C hb hJ hI (by omega) (by omega) hend ls hl)
      · exact lv_tableIn C.1.1 C.1.2.1 dL_law_32 (by decide) (by decide) (off := 875) (by decide) (tgt := 907) (by decide) (lw_case23 hF C hb hJ hI (by omega) (by omega) hend ls hl)
      · exact lv_tableIn C.1.1 C.1.2.1 dL_law_32 (by decide) (by decide) (off := 908) (by decide) (tgt := 940) (by decide) (lw_case24 hF C hb hJ hI (by omega) (by omega) hend ls hl)
      · exact lv_tableIn C.1.1 C.1.2.1 dL_law_32 (by decide) (by decide) (off := 941) (by decide) (tgt := 973) (by decide) (lw_case25 hF C hb hJ hI (by omega) (by omega) hend ls hl)
      · exact lv_tableIn C.1.1 C.1.2.1 dL_law_32 (by decide) (by decide) (off := 984) (by decide) (tgt := 1016) (by decide) (lw_case26 hF C hb hJ hI (by omega) (by omega) hend ls hl)
      · exact lv_tableIn C.1.1 C.1.2.1 dL_law_32 (by decide) (by decide) (off := 1027) (by decide) (tgt := 1059) (by decide) (lw_case27 hF C hb hJ hI (by omega) (by omega) hend ls hl)
      · exact lv_tableIn C.1.1 C.1.2.1 dL_law_32 (by decide) (by decide) (off := 1080) (by decide) (tgt := 1112) (by decide) (lw_case28 hF C hb hJ hI (by omega) (by omega) hend ls hl)
      · exact lv_tableIn C.1.1 C.1.2.1 dL_law_32 (by decide) (by decide) (off := 1103) (by decide) (tgt := 1135) (by decide) (lw_case29 hF C hb hJ hI (by omega) (by omega) hend ls hl)
      · exact lv_tableOut C.1.1 C.1.2.1 dL_law_32 (by decide) (tgt := 1149) (by decide) (W.widen (by omega) (by omega) (hend h1 h2 H locs hJ hI ls hl))
      · exact lv_tableOut C.1.1 C.1.2.1 dL_law_32 (by decide) (tgt := 1149) (by decide) (W.widen (by omega) (by omega) (hend h1 h2 H locs hJ hI ls hl))
end LAWL
set_option maxRecDepth 100000 in
set_option maxHeartbeats 4000000 in
/-- the law from its entry, out of what the pure part owes -/
theorem whole_go {p : Program} {e : Env} {s : State} {m : MethodId} {below : List Frame} {meth : Method} {c : Code} (l : Launch) {b L : Nat} {xs : Nat → Int32} {J : Nat → Nat → AH → AH → Prop} (hF : fj_K J) (hL : L ≤ 2560) (C0 : lw_At p s m meth c b L xs) : W p l e room_1 s m #[Value.ref b] below meth c s.heap [] 0 0 (lw_Z below #[Value.ref b] s) (entryFrame m ([Value.ref b] : List Value).toArray 4) := by
  obtain ⟨hx, hb, hr, hml, hown, hts, hX, hbl, hlocks, hgv⟩ := id C0
  have hin : ∀ (ci : Nat) (Cn : String) (T : u_T) (N : Nat) (ty : Nat → FieldType), cf_K ci Cn T N ty → ∀ w ∈ u_ws Cn T N, w ∈ lw_tbl := fun _ _ _ _ _ h w hw => (List.mem_filter.mp (h.2.1 w hw)).1
  obtain ⟨c0, iS0, hKn0⟩ := u_known (C := RX0) (T := TX0) (N := 6) (n := 6) hts (hin _ _ _ _ _ cfX0) (hts _ (List.mem_filter.mp inX0).1)
  obtain ⟨c1, iS1, hKn1⟩ := u_known (C := RX1) (T := TX1) (N := 2) (n := 2) hts (hin _ _ _ _ _ cfX1) (hts _ (List.mem_filter.mp inX1).1)
  obtain ⟨c2, iS2, hKn2⟩ := u_known (C := RX2) (T := TX2) (N := 12) (n := 12) hts (hin _ _ _ _ _ cfX2) (hts _ (List.mem_filter.mp inX2).1)
  obtain ⟨c3, iS3, hKn3⟩ := u_known (C := RX3) (T := TX3) (N := 6) (n := 6) hts (hin _ _ _ _ _ cfX3) (hts _ (List.mem_filter.mp inX3).1)
  obtain ⟨c4, iS4, hKn4⟩ := u_known (C := RX4) (T := TX4) (N := 2) (n := 2) hts (hin _ _ _ _ _ cfX4) (hts _ (List.mem_filter.mp inX4).1)
  obtain ⟨c5, iS5, hKn5⟩ := u_known (C := RX5) (T := TX5) (N := 5) (n := 5) hts (hin _ _ _ _ _ cfX5) (hts _ (List.mem_filter.mp inX5).1)
  obtain ⟨c6, iS6, hKn6⟩ := u_known (C := RX6) (T := TX6) (N := 14) (n := 14) hts (hin _ _ _ _ _ cfX6) (hts _ (List.mem_filter.mp inX6).1)
  obtain ⟨c7, iS7, hKn7⟩ := u_known (C := RX7) (T := TX7) (N := 43) (n := 43) hts (hin _ _ _ _ _ cfX7) (hts _ (List.mem_filter.mp inX7).1)
  obtain ⟨dC, dI, hKc⟩ : ∃ (dC : Nat → ClassId) (dI : Nat → Nat → Nat), ∀ (k : Nat) (q : vw_C), vwCl[k]? = some q → u_Kn s q.1 q.2.1 q.2.2 (dC k) (dI k) := by
    refine ⟨fun k => if k = 0 then c0 else if k = 1 then c1 else if k = 2 then c2 else if k = 3 then c3 else if k = 4 then c4 else if k = 5 then c5 else if k = 6 then c6 else c7, fun k => if k = 0 then iS0 else if k = 1 then iS1 else if k = 2 then iS2 else if k = 3 then iS3 else if k = 4 then iS4 else if k = 5 then iS5 else if k = 6 then iS6 else iS7, ?_⟩
    intro k q hq
    match k, hq with
    | 0, hq => cases hq; exact hKn0
    | 1, hq => cases hq; exact hKn1
    | 2, hq => cases hq; exact hKn2
    | 3, hq => cases hq; exact hKn3
    | 4, hq => cases hq; exact hKn4
    | 5, hq => cases hq; exact hKn5
    | 6, hq => cases hq; exact hKn6
    | 7, hq => cases hq; exact hKn7
    | k + 8, hq => simp [vwCl] at hq
  have hao5 : va_AO RX5 s := va_AO.of (hts _ (tb_1 (List.mem_of_getElem? (i := 36) rfl)))
  have hao3 : va_AO RX3 s := va_AO.of (hts _ (tb_1 (List.mem_of_getElem? (i := 38) rfl)))
  obtain ⟨cI, hcI⟩ : ∃ cI, ArrOfT s cI .int ∧ va_RA s cI .int := by
    have h := hts _ (List.mem_filter.mp ac_I).1
    obtain ⟨cA, kA, comp, f1, f2, f3⟩ := Cond.arrayClass_spec h
    exact ⟨cA, fun n z => ⟨fun k h => (by cases h), kA, f2, comp, f3⟩, f1⟩
  have hov : ∀ Cn, va_AO Cn s → ∃ cA, ArrOfT s cA (.object Cn) ∧ va_RA s cA (.object Cn) := by
    intro Cn h
    obtain ⟨comp, cA, k, h1, h2, h3, h4, h5⟩ := Cond.arrayOver_spec h
    exact ⟨cA, fun N z => ⟨(fun k h => by cases h), k, h3, comp, h4⟩, k, comp, h3, h4, h1, h5⟩
  obtain ⟨cV, hcV⟩ := hov _ hao5
  obtain ⟨cP, hcP⟩ := hov _ hao3
  have hK : kn_K ((dC, dI), cI, cV, cP) s := by
    refine ⟨⟨hKc, fun k q hq => ?_⟩, ?_, ?_, hao5, hao3⟩
    · match k, hq with
      | 0, hq => cases hq; exact hcI
      | 1, hq => cases hq; exact hcV
      | 2, hq => cases hq; exact hcP
      | k + 3, hq => simp [kn_tys] at hq
    · intro q hq
      simp only [kn_nF, List.mem_cons, List.not_mem_nil, or_false] at hq
      rcases hq with rfl | rfl | rfl | rfl
      · exact va_Nw.of rfl (hts _ (tb_2 (List.mem_of_getElem? (i := 25) rfl)))
      · exact va_Nw.of rfl (hts _ (tb_2 (List.mem_of_getElem? (i := 27) rfl)))
      · exact va_Nw.of rfl (hts _ (tb_2 (List.mem_of_getElem? (i := 30) rfl)))
      · exact va_Nw.of rfl (hts _ (tb_2 (List.mem_of_getElem? (i := 23) rfl)))
    · intro q hq
      simp only [kn_nM, List.mem_cons, List.not_mem_nil, or_false] at hq
      rcases hq with rfl | rfl | rfl | rfl
      · exact va_Nw.of rfl (hts _ (tb_1 (List.mem_of_getElem? (i := 41) rfl)))
      · exact va_Nw.of rfl (hts _ (tb_1 (List.mem_of_getElem? (i := 79) rfl)))
      · exact va_Nw.of rfl (hts _ (tb_1 (List.mem_of_getElem? (i := 104) rfl)))
      · exact va_Nw.of rfl (hts _ (tb_4 (List.mem_of_getElem? (i := 130) rfl)))
  have C : lw_C p s m meth c b L xs ((dC, dI), cI, cV, cP) := ⟨C0, hK, hL⟩
  have hS : va_S (fun q : Nat => s.heap.size ≤ q) s.heap s.heap [] := va_S.rf
  have hI0 : lw_I s ((dC, dI), cI, cV, cP) (ah_e s.heap.size) (ah_e s.heap.size) s.heap [] := by
    refine ⟨⟨fun a => ?_, rfl, fun a h => absurd rfl h⟩, ⟨fun a => ?_, rfl, fun a h => absurd rfl h⟩, fun q h => absurd rfl h, hS, fun q h => absurd rfl h, fun q h => absurd rfl h⟩
    · unfold rp_at; rw [if_pos (show ah_T (ah_e _) a = 0 from rfl)]; trivial
    · unfold rp_at; rw [if_pos (show ah_T (ah_e _) a = 0 from rfl)]; trivial
  have hl := lv_entry ([.ref b]) (n := 4) (Nat.le_of_ble_eq_true rfl)
  rw [lg_entry_eq]
  generalize (lg_sl ([.ref b]) ++ List.replicate (4 - (lg_sl ([.ref b])).length) Slot.unset).toArray = ls at hl ⊢
  have hl : lv_has ls 4 (vL [(0, vr (some b))]) := hl
  revert ls
  have goal : lw_W p l e s m below meth c b (lw_Z below #[Value.ref b] s) s.heap [] 0 0 0 [(0, vr (some b))] [] := ?_
  · exact fun ls _ hl => goal ls hl
  obtain ⟨hk1, ek, hk2⟩ := hF.2.2.1 s.heap.size
  refine lw_new C hI0 cfX6 ckL_7 inX6 iiX6 dvX6 dL_law_0 (by decide) (by decide) (fun H1 hI1 => ?_)
  refine fun ls hl => lv_dup C.1.1 C.1.2.1 dL_law_3 rfl ?_
  have goal : lw_W p l e s m below meth c b (lw_Z below #[Value.ref b] s) H1 [] (0 + 1) (0 + 14) 4 [(0, vr (some b))] [vr (some s.heap.size), vr (some s.heap.size)] := ?_
  · exact goal ls hl
  clear hl ls
  refine lw_callI (S' := sX6_init) C hI1 ek (lkX6_init _) mwX6_init mlL_9 dL_law_4 (by decide) (by decide) (Nat.le_of_ble_eq_true rfl) (fun H2 locs2 hz2 hI2 => ?_)
  refine fun ls hl => lv_astore_n (lv' := vL [(1, vr (some s.heap.size)), (0, vr (some b))]) C.1.1 C.1.2.1 dL_law_7 rfl hl (by decide) rfl (fun ls hl => ?_)
  have goal : lw_W p l e s m below meth c b (lw_Z below #[Value.ref b] s) H2 locs2 (0 + 1 + sX6_init.2.2.2.2.2.2.2.1) (0 + 14 + sX6_init.2.2.2.2.2.2.2.2) 8 [(1, vr (some s.heap.size)), (0, vr (some b))] [] := ?_
  · exact goal ls hl
  clear hl ls
  have hs2 : ah_S hk1 = H2.size := hI2.1.2.1
  obtain ⟨hm1, em, hJ⟩ := hk2 H2.size (by omega)
  have hI2' : lw_I s ((dC, dI), cI, cV, cP) (ah_e H2.size) hk1 H2 locs2 := hI2.symm
  refine lw_new C hI2' cfX7 ckL_10 inX7 iiX7 dvX7 dL_law_8 (by decide) (by decide) (fun H3 hI3 => ?_)
  refine fun ls hl => lv_dup C.1.1 C.1.2.1 dL_law_11 rfl ?_
  have goal : lw_W p l e s m below meth c b (lw_Z below #[Value.ref b] s) H3 locs2 (0 + 1 + sX6_init.2.2.2.2.2.2.2.1 + 1) (0 + 14 + sX6_init.2.2.2.2.2.2.2.2 + 43) 12 [(1, vr (some s.heap.size)), (0, vr (some b))] [vr (some H2.size), vr (some H2.size)] := ?_
  · exact goal ls hl
  clear hl ls
  refine lw_callI (S' := sX7_init) C hI3 em (lkX7_init _) mwX7_init mlL_12 dL_law_12 (by decide) (by decide) (Nat.le_of_ble_eq_true rfl) (fun H4 locs4 hz4 hI4 => ?_)
  have hz3 : ah_S (ah_nO (ah_e H2.size) 7) = H3.size := hI3.1.2.1
  have hJ4 : J s.heap.size H2.size (ah_z (ah_z hk1 (H2.size + 1)) H4.size) hm1 := hF.2.1 _ _ hk1 hm1 H4.size (ah_S hm1) hJ (by have : ah_S (ah_nO (ah_e H2.size) 7) = H2.size + 1 := rfl; omega) (Nat.le_refl _)
  refine fun ls hl => lv_astore_n (lv' := vL [(2, vr (some H2.size)), (1, vr (some s.heap.size)), (0, vr (some b))]) C.1.1 C.1.2.1 dL_law_15 rfl hl (by decide) rfl (fun ls hl => ?_)
  refine lv_iconst (v := 0) C.1.1 C.1.2.1 dL_law_16 (by decide) ?_
  refine lv_istore_n (lv' := vL (lw_L b s.heap.size H2.size 0)) C.1.1 C.1.2.1 dL_law_17 rfl hl (by decide) rfl (fun ls hl => ?_)
  have hg := lw_loop (l := l) (e := e) (below := below) hF C hlocks s.heap.size H2.size (L + 1) 0 0 (by omega) (by omega) (by omega) _ hm1 H4 locs4 hJ4 hI4.symm ls hl
  exact W.widen (by decide) (by decide) hg
