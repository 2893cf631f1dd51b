/-! the picture: how a machine's heap holds an abstract one -/
def tb_G : List Cond := lw_tbl.filter goodWord
def tb_W (y : MethodName) (cc : ByteArray) (nL : Nat) (ret : Option FieldType) : List Cond := .code y cc nL ret :: tb_G
theorem tb_in {w : Cond} (h : w ∈ lw_tbl) (g : goodWord w = true) : w ∈ tb_G := List.mem_filter.mpr ⟨h, g⟩
theorem tb_good {y : MethodName} {cc : ByteArray} {nL : Nat} {ret : Option FieldType} {big : List Cond} (hb : ∀ w ∈ tb_G, w ∈ big) (hc : Cond.code y cc nL ret ∈ tb_G) : GoodIn big (tb_W y cc nL ret) := by
  have h1 : ∀ w ∈ tb_G, w ∈ big ∧ ((w.onTables && w.keeps) = true ∨ ∃ ty, w = .arrayClass ty) := fun w hw => ⟨hb w hw, good_of_word (List.mem_filter.mp hw).2⟩
  intro w hw
  rcases List.mem_cons.mp hw with rfl | hw
  · exact h1 _ hc
  · exact h1 _ hw
abbrev GM : Type := va_G × ClassId × ClassId × ClassId
def kn_tys (G : GM) : List (ClassId × FieldType) := [(G.2.1, .int), (G.2.2.1, .object RX5), (G.2.2.2, .object RX3)]
def kn_nF : List (String × Nat × String × String × String × String) := [("KeptVersions", 118, "KeptVersions$Version", "firstParent", "I", "KeptVersions"), ("KeptVersions", 121, "KeptVersions$Version", "secondParent", "I", "KeptVersions"), ("KeptVersions", 124, "KeptVersions$Version", "askedFor", "I", "KeptVersions"), ("KeptVersions", 96, "KeptVersions$Version", "row", "LKeptVersions$Row;", "KeptVersions")]
def kn_nM : List (String × Nat × MethodName × String) := [("KeptVersions", 39, yX1_init, "KeptVersions"), ("KeptVersions", 59, yX0_init, "KeptVersions"), ("KeptVersions", 66, yX2_init, "KeptVersions"), ("KeptVersions$Row", 47, yX6_mix, "KeptVersions")]
def kn_K (G : GM) (U : State) : Prop := va_K G.1 vwCl (kn_tys G) U ∧ (∀ q ∈ kn_nF, va_Nw (.fieldLinkNest q.1 q.2.1 q.2.2.1 q.2.2.2.1 q.2.2.2.2.1 q.2.2.2.2.2) U) ∧ (∀ q ∈ kn_nM, va_Nw (.methodLinkNest q.1 q.2.1 q.2.2.1 q.2.2.2) U) ∧ va_AO RX5 U ∧ va_AO RX3 U
theorem kn_warm {G : GM} {s U : State} (hW : s.WarmedH U.vm) (h : kn_K G s) : kn_K G U :=
  ⟨va_K.moved hW.alike h.1, fun q hq => va_Nw.warmF hW (h.2.1 q hq), fun q hq => va_Nw.warmM hW (h.2.2.1 q hq), va_AO.moved hW.alike h.2.2.2.1, va_AO.moved hW.alike h.2.2.2.2⟩
theorem kn_same {G : GM} {s U : State} (hv : s.vm = U.vm) (h : kn_K G s) : kn_K G U :=
  ⟨va_K.moved (by rw [hv]; exact Vm.Alike.refl _) h.1, fun q hq => va_Nw.same rfl hv (h.2.1 q hq), fun q hq => va_Nw.same rfl hv (h.2.2.1 q hq), va_AO.moved (by rw [hv]; exact Vm.Alike.refl _) h.2.2.2.1, va_AO.moved (by rw [hv]; exact Vm.Alike.refl _) h.2.2.2.2⟩
def rp_n (ci : Nat) : Nat := match ci with
  | 0 => 6
  | 1 => 2
  | 2 => 12
  | 3 => 6
  | 4 => 2
  | 5 => 5
  | 6 => 14
  | _ => 43
def rp_ty (ci : Nat) : Nat → FieldType := match ci with
  | 0 => tyX0
  | 1 => tyX1
  | 2 => tyX2
  | 3 => tyX3
  | 4 => tyX4
  | 5 => tyX5
  | 6 => tyX6
  | _ => tyX7
def rp_v (ty : FieldType) (x : Int) (p : Option Nat) : Value := match ty with
  | .int => .int (Int32.ofInt x)
  | .boolean => .int (Int32.ofInt x)
  | .long => .long (Int64.ofInt x)
  | _ => va_rf p
def rp_V (h : AH) (a ci : Nat) : Nat → Value := fun k => rp_v (rp_ty ci k) (ah_F h a k) (ah_P h a k)
def rp_at (G : GM) (h : AH) (a : Nat) (H : Heap) : Prop :=
  if ah_T h a = 0 then True
  else if ah_T h a = 1 then H[a]? = some (arrV G.2.1 (ah_N h a) (fun j => .int (Int32.ofInt (ah_I h a j))))
  else if ah_T h a = 2 then H[a]? = some (arrV G.2.2.1 (ah_N h a) (fun j => va_rf (ah_R h a j)))
  else if ah_T h a = 3 then H[a]? = some (arrV G.2.2.2 (ah_N h a) (fun j => va_rf (ah_R h a j)))
  else t_OB a (G.1.1 (ah_T h a - 10)) (rp_n (ah_T h a - 10)) (G.1.2 (ah_T h a - 10)) H (rp_V h a (ah_T h a - 10))
def rp_R (G : GM) (h : AH) (H : Heap) : Prop := (∀ a, rp_at G h a H) ∧ ah_S h = H.size ∧ ∀ a, ah_T h a ≠ 0 → a < H.size
theorem rp_1 {G : GM} {h : AH} {H : Heap} (hR : rp_R G h H) {a : Nat} (ht : ah_T h a = 1) : H[a]? = some (arrV G.2.1 (ah_N h a) (fun j => .int (Int32.ofInt (ah_I h a j)))) := by
  have := hR.1 a; simpa [rp_at, ht] using this
theorem rp_2 {G : GM} {h : AH} {H : Heap} (hR : rp_R G h H) {a : Nat} (ht : ah_T h a = 2) : H[a]? = some (arrV G.2.2.1 (ah_N h a) (fun j => va_rf (ah_R h a j))) := by
  have := hR.1 a; simpa [rp_at, ht] using this
theorem rp_3 {G : GM} {h : AH} {H : Heap} (hR : rp_R G h H) {a : Nat} (ht : ah_T h a = 3) : H[a]? = some (arrV G.2.2.2 (ah_N h a) (fun j => va_rf (ah_R h a j))) := by
  have := hR.1 a; simpa [rp_at, ht] using this
theorem rp_O {G : GM} {h : AH} {H : Heap} (hR : rp_R G h H) {a ci : Nat} (ht : ah_T h a = 10 + ci) : t_OB a (G.1.1 ci) (rp_n ci) (G.1.2 ci) H (rp_V h a ci) := by
  have := hR.1 a
  rw [rp_at, ht, if_neg (by omega), if_neg (by omega), if_neg (by omega), if_neg (by omega), show 10 + ci - 10 = ci by omega] at this
  exact this
/-- one cell is changed, the abstract heap there alone -/
theorem rp_set {G : GM} {h h' : AH} {H H1 : Heap} (hR : rp_R G h H) {a : Nat} (hT : ah_T h' = ah_T h) (hN : ah_N h' = ah_N h) (hS : ah_S h' = ah_S h)
    (hF : ∀ b, b ≠ a → ah_F h' b = ah_F h b) (hP : ∀ b, b ≠ a → ah_P h' b = ah_P h b) (hI : ∀ b, b ≠ a → ah_I h' b = ah_I h b) (hRr : ∀ b, b ≠ a → ah_R h' b = ah_R h b)
    (z : H1.size = H.size) (oq : ∀ q : Nat, q ≠ a → H1[q]? = H[q]?) (ha : rp_at G h' a H1) : rp_R G h' H1 := by
  refine ⟨fun b => ?_, by rw [hS, hR.2.1, z], fun b hb => by rw [z]; exact hR.2.2 b (by rw [← hT]; exact hb)⟩
  by_cases hb : b = a
  · subst hb; exact ha
  · have h0 := hR.1 b
    unfold rp_at at h0 ⊢
    rw [hT, hN, hI b hb, hRr b hb]
    split at h0
    · simp [*]
    · split at h0
      · simp only [*, if_true, if_false]; rw [oq b hb]; simpa [*] using h0
      · split at h0
        · simp only [*, if_true, if_false]; rw [oq b hb]; simpa [*] using h0
        · split at h0
          · simp only [*, if_true, if_false]; rw [oq b hb]; simpa [*] using h0
          · simp only [*, if_false]
            have hV : rp_V h' b (ah_T h b - 10) = rp_V h b (ah_T h b - 10) := by
              funext k; simp only [rp_V, hF b hb, hP b hb]
            rw [hV]
            exact h0.kept (oq b hb)
/-- a cell is made -/
theorem rp_new {G : GM} {h h' : AH} {H H1 : Heap} (hR : rp_R G h H) (t : Nat) (hT : ah_T h' = fu (ah_T h) (ah_S h) t) (hS : ah_S h' = ah_S h + 1)
    (hN : ∀ b, b ≠ ah_S h → ah_N h' b = ah_N h b) (hF : ∀ b, b ≠ ah_S h → ah_F h' b = ah_F h b) (hP : ∀ b, b ≠ ah_S h → ah_P h' b = ah_P h b) (hI : ∀ b, b ≠ ah_S h → ah_I h' b = ah_I h b) (hRr : ∀ b, b ≠ ah_S h → ah_R h' b = ah_R h b)
    (z : H1.size = H.size + 1) (oq : ∀ q : Nat, q < H.size → H1[q]? = H[q]?) (ha : rp_at G h' (ah_S h) H1) : rp_R G h' H1 := by
  have hs := hR.2.1
  refine ⟨fun b => ?_, by rw [hS, hs, z], fun b hb => ?_⟩
  · by_cases hb : b = ah_S h
    · subst hb; exact ha
    · have h0 := hR.1 b
      have hTb : ah_T h' b = ah_T h b := by rw [hT, fu_n _ _ hb]
      unfold rp_at at h0 ⊢
      rw [hTb, hN b hb, hI b hb, hRr b hb]
      by_cases h0T : ah_T h b = 0
      · simp [h0T]
      · have hlt := hR.2.2 b h0T
        split at h0
        · exact absurd ‹ah_T h b = 0› h0T
        · split at h0
          · rename_i e0 e1
            rw [if_neg e0, if_pos e1, oq b hlt]; exact h0
          · split at h0
            · rename_i e0 e1 e2
              rw [if_neg e0, if_neg e1, if_pos e2, oq b hlt]; exact h0
            · split at h0
              · rename_i e0 e1 e2 e3
                rw [if_neg e0, if_neg e1, if_neg e2, if_pos e3, oq b hlt]; exact h0
              · rename_i e0 e1 e2 e3
                rw [if_neg e0, if_neg e1, if_neg e2, if_neg e3]
                have hV : rp_V h' b (ah_T h b - 10) = rp_V h b (ah_T h b - 10) := by
                  funext k; simp only [rp_V, hF b hb, hP b hb]
                rw [hV]
                exact h0.kept (oq b hlt)
  · by_cases hb2 : b = ah_S h
    · subst hb2; omega
    · rw [hT, fu_n _ _ hb2] at hb
      have := hR.2.2 b hb
      omega
/-! values of locals and of the stack: an int, a long, a reference -/
abbrev VV : Type := Int ⊕ Int ⊕ Option Nat
def vv (v : VV) : Value := match v with
  | .inl x => .int (Int32.ofInt x)
  | .inr (.inl x) => .long (Int64.ofInt x)
  | .inr (.inr r) => va_rf r
def vi (x : Int) : VV := .inl x
def vl (x : Int) : VV := .inr (.inl x)
def vr (r : Option Nat) : VV := .inr (.inr r)
def vc (v : VV) : Nat := match v with
  | .inr (.inl _) => 2
  | _ => 1
theorem vc_eq (v : VV) : (vv v).category = vc v := by
  match v with
  | .inl x => rfl
  | .inr (.inl x) => rfl
  | .inr (.inr none) => rfl
  | .inr (.inr (some a)) => rfl
def vm (q : Nat × VV) : Nat × Value := (q.1, vv q.2)
def vs (L : List VV) : List Value := L.map vv
def vL (L : List (Nat × VV)) : List (Nat × Value) := L.map vm
/-! a method's own numbers: code, locals, class, constructor?, answer's type, frames, local words, cells, slots -/
abbrev ST : Type := ByteArray × Nat × String × Bool × Option FieldType × Nat × Nat × Nat × Nat
abbrev CX : Type := Program × Launch × Env × Room × State × MethodId × Array Value × List Frame × Method × Code × GM × AH × AH × Option Value
def cx_free (h0 : AH) (q : Nat) : Prop := ah_T h0 q ≠ 0 ∨ ah_S h0 ≤ q
def cx_qc (G : GM) (h0 : AH) (rf : Option Value) (hf : AH) : Array Value → State → Outcome → State → Prop := fun _ st o t => o = .returned rf ∧ rp_R G hf t.heap ∧ va_F (cx_free h0) st t ∧ (∀ q, ah_T hf q ≠ 0 → cx_free h0 q)
def cx_pc (G : GM) (av : List VV) (h : AH) : Array Value → State → Prop := fun v U => v = (vs av).toArray ∧ rp_R G h U.heap ∧ kn_K G U
def cx_ok (S : ST) (K : CX) : Prop := match K with
  | (p, l, e, R, s, m, args, below, meth, c, G, h0, hf, rf) => p.tables.exec = Jvm.exec ∧ c.code = S.1 ∧ c.maxLocals = S.2.1 ∧ s.vm.findClass S.2.2.1 = some m.cls ∧ (∀ w ∈ tb_G, w.before args s = true) ∧ kn_K G s ∧ meth.sig.returnType = S.2.2.2.2.1 ∧ meth.locks = false ∧ (S.2.2.2.1 = true → meth.name = "<init>") ∧ R = { frames := S.2.2.2.2.2.1, locals := S.2.2.2.2.2.2.1, cells := S.2.2.2.2.2.2.2.1, slots := S.2.2.2.2.2.2.2.2 } ∧ ah_S h0 = s.heap.size
def cx_I (K : CX) (h : AH) (H : Heap) (locs : List Loc) : Prop := match K with
  | (p, l, e, R, s, m, args, below, meth, c, G, h0, hf, rf) => rp_R G h H ∧ va_S (cx_free h0) s.heap H locs ∧ (∀ q, ah_T h q ≠ 0 → cx_free h0 q)
def cx_W (S : ST) (K : CX) (H : Heap) (locs : List Loc) (cs sl pc : Nat) (ls : Array Slot) (st : List Value) : Prop := match K with
  | (p, l, e, R, s, m, args, below, meth, c, G, h0, hf, rf) => W p l e R s m args below meth c H locs cs sl (MQ below (cx_qc G h0 rf hf) args s S.2.2.2.2.2.2.2.1 S.2.2.2.2.2.2.2.2 (cx_free h0)) (F0 m pc ls st)
def cx_hf (K : CX) : AH := K.2.2.2.2.2.2.2.2.2.2.2.2.1
def cx_rf (K : CX) : Option Value := K.2.2.2.2.2.2.2.2.2.2.2.2.2
def GG {ρ : Type} (S : ST) (K : CX) (enc : ρ → Option Value) (cs sl pc : Nat) (L : List (Nat × VV)) (st : List VV) (f : MO ρ) : Prop :=
  cx_ok S K → ∀ (h : AH) (H : Heap) (locs : List Loc) (ls : Array Slot) (r : ρ), cx_I K h H locs → lv_has ls S.2.1 (vL L) → f h = some (r, cx_hf K) → enc r = cx_rf K → cx_W S K H locs cs sl pc ls (vs st)
/-- a method's contract, out of a program over the abstract heap -/
def LK {ρ : Type} (y : MethodName) (S : ST) (av : List VV) (enc : ρ → Option Value) (f : MO ρ) : Prop :=
  ∀ (l : Launch) (G : GM) (h : AH) (r : ρ) (h' : AH), f h = some (r, h') → Met l y (tb_W y S.1 S.2.1 S.2.2.2.2.1) { frames := S.2.2.2.2.2.1, locals := S.2.2.2.2.2.2.1, cells := S.2.2.2.2.2.2.2.1, slots := S.2.2.2.2.2.2.2.2 } (cx_pc G av h) (cx_qc G h (enc r) h') S.2.2.2.2.2.2.2.1 S.2.2.2.2.2.2.2.2 (cx_free h)
def en_i (x : Int) : Option Value := some (.int (Int32.ofInt x))
def en_l (x : Int) : Option Value := some (.long (Int64.ofInt x))
def en_r (x : Option Nat) : Option Value := some (va_rf x)
def en_v (_ : Unit) : Option Value := none
theorem lk_of {ρ : Type} {y : MethodName} {S : ST} {av : List VV} {enc : ρ → Option Value} {f : MO ρ} (hy : plainName y.cls = true) (hown : S.2.2.1 = y.cls) (hi : S.2.2.2.1 = true → y.name = "<init>") (hn : (lg_sl (vs av)).length ≤ S.2.1) {L : List (Nat × VV)} (hL : lv_args 0 (vs av) = vL L)
    (body : ∀ K : CX, GG S K enc 0 0 0 L [] (mo_b f mo_p)) : LK y S av enc f := by
  intro l G h r h' hf
  refine Met.ofW (cc := S.1) (maxL := S.2.1) (ret := S.2.2.2.2.1) hy rfl ?_
  intro p e s m args below meth c s₁ B hml hv
  obtain ⟨rfl, hR, hK⟩ := hv
  have hts := atoms_spec (ws := tb_W y S.1 S.2.1 S.2.2.2.2.1) B.pre
  have hown' : s.vm.findClass y.cls = some m.cls := findClass_of_methodNamed B.named
  have hin : meth.name = y.name := (name_of_methodNamed B.named B.method).1
  have hl := lv_entry (vs av) (n := S.2.1) hn
  rw [hL] at hl
  rw [lg_entry_eq]
  generalize (lg_sl (vs av) ++ List.replicate (S.2.1 - (lg_sl (vs av)).length) Slot.unset).toArray = ls at hl ⊢
  have hb := body (p, l, e, (headSpec (tb_W y S.1 S.2.1 S.2.2.2.2.1) { frames := S.2.2.2.2.2.1, locals := S.2.2.2.2.2.2.1, cells := S.2.2.2.2.2.2.2.1, slots := S.2.2.2.2.2.2.2.2 }).room, s, m, (vs av).toArray, below, meth, c, G, h, h', enc r)
    ⟨B.exec, B.bytes, hml, by rw [hown]; exact hown', fun w hw => hts w (List.mem_cons_of_mem _ hw), hK, B.returns, B.notSynchronized, fun q => by rw [hin]; exact hi q, rfl, hR.2.1⟩
    h s.heap [] ls r ⟨hR, va_S.rf, fun q hq => Or.inl hq⟩ hl (by rw [mo_bp]; exact hf) rfl
  exact hb
