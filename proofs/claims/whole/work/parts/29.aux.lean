theorem gg_objI {ρ : Type} {S : ST} {K : CX} {enc : ρ → Option Value} {cs sl pc : Nat} {L : List (Nat × VV)} {st : List VV} {f : MO ρ} {a idx : Nat} (pc' : Nat) (hp : pc + 3 = pc') (hlink : Cond.methodLink S.2.2.1 idx Lib.objectInit ∈ tb_G) (hinst : Cond.instanceMethod Lib.objectInit ∈ tb_G) (hcode : Cond.code Lib.objectInit ⟨#[0xb1]⟩ 1 none ∈ tb_G) (hd : decode S.1 pc = .ok (.invokespecial idx, 3)) (hf1 : 1 ≤ S.2.2.2.2.2.1) (hst : (st.map vc).sum + 12 ≤ S.2.2.2.2.2.2.1) (g : GG S K enc cs sl pc' L st f) : GG S K enc cs sl pc L (vr (some a) :: st) f := by
  have h := gg_objInit (ρ := ρ) (K := K) (enc := enc) (cs := cs) (sl := sl) (L := L) (x0 := some a) (k0 := f) (kk := mo_p) pc' hp hlink hinst hcode hd hf1 hst (by rw [mo_bp]; exact g)
  rw [mo_bp] at h
  exact h
