/-! laid by program: J -/
def f_J6_bitCount_0f7a4 (x0 : Int32) (gi : Gi) (gl : Gl) (Q : Int32 → Gi → Gl → Prop) : Prop :=
∀ z1 : Int32, z1 = x0 - ((ju x0 (1 : Int32)) &&& (1431655765 : Int32)) →
∀ z2 : Int32, z2 = (z1 &&& (858993459 : Int32)) + ((ju z1 (2 : Int32)) &&& (858993459 : Int32)) →
∀ z3 : Int32, z3 = (z2 + (ju z2 (4 : Int32))) &&& (252645135 : Int32) →
∀ z4 : Int32, z4 = z3 + (ju z3 (8 : Int32)) →
∀ z5 : Int32, z5 = z4 + (ju z4 (16 : Int32)) →
Q (z5 &&& (63 : Int32)) gi gl
set_option maxRecDepth 100000 in
theorem v_J6_bitCount_0f7a4 {x0 : Int32} {gi : Gi} {gl : Gl} {Q : Int32 → Gi → Gl → Prop}  (h : f_J6_bitCount_0f7a4 x0 gi gl Q) : p_J6_bitCount_0f7a4 x0 gi gl Q := by
  unfold f_J6_bitCount_0f7a4 at h
  show PAt mJ6_bitCount_0f7a4 NN NN κF 0 [some (.int x0)] [] gi gl _
  refine px_iload_n dJ6_bitCount_0f7a4_0 rfl rfl ?_
  refine px_iload_n dJ6_bitCount_0f7a4_1 rfl rfl ?_
  refine px_iconst (v := (1 : Int32)) dJ6_bitCount_0f7a4_2 (by decide) ?_
  refine px_iushr dJ6_bitCount_0f7a4_3 ?_
  refine px_ldcw (v := (1431655765 : Int32)) dJ6_bitCount_0f7a4_4 w_822 ?_
  refine px_iand dJ6_bitCount_0f7a4_7 ?_
  refine px_isub dJ6_bitCount_0f7a4_8 ?_
  obtain ⟨z1, hz1⟩ : ∃ y : Int32, y = x0 - ((ju x0 (1 : Int32)) &&& (1431655765 : Int32)) := ⟨_, rfl⟩
  have h := h z1 hz1
  refine px_namei hz1 ?_
  refine px_istore_n (ls2 := [some (.int z1)]) (i := 0) rfl dJ6_bitCount_0f7a4_9 (by decide) rfl ?_
  refine px_iload_n dJ6_bitCount_0f7a4_10 rfl rfl ?_
  refine px_ldcw (v := (858993459 : Int32)) dJ6_bitCount_0f7a4_11 w_823 ?_
  refine px_iand dJ6_bitCount_0f7a4_14 ?_
  refine px_iload_n dJ6_bitCount_0f7a4_15 rfl rfl ?_
  refine px_iconst (v := (2 : Int32)) dJ6_bitCount_0f7a4_16 (by decide) ?_
  refine px_iushr dJ6_bitCount_0f7a4_17 ?_
  refine px_ldcw (v := (858993459 : Int32)) dJ6_bitCount_0f7a4_18 w_823 ?_
  refine px_iand dJ6_bitCount_0f7a4_21 ?_
  refine px_iadd dJ6_bitCount_0f7a4_22 ?_
  obtain ⟨z2, hz2⟩ : ∃ y : Int32, y = (z1 &&& (858993459 : Int32)) + ((ju z1 (2 : Int32)) &&& (858993459 : Int32)) := ⟨_, rfl⟩
  have h := h z2 hz2
  refine px_namei hz2 ?_
  refine px_istore_n (ls2 := [some (.int z2)]) (i := 0) rfl dJ6_bitCount_0f7a4_23 (by decide) rfl ?_
  refine px_iload_n dJ6_bitCount_0f7a4_24 rfl rfl ?_
  refine px_iload_n dJ6_bitCount_0f7a4_25 rfl rfl ?_
  refine px_iconst (v := (4 : Int32)) dJ6_bitCount_0f7a4_26 (by decide) ?_
  refine px_iushr dJ6_bitCount_0f7a4_27 ?_
  refine px_iadd dJ6_bitCount_0f7a4_28 ?_
  refine px_ldcw (v := (252645135 : Int32)) dJ6_bitCount_0f7a4_29 w_824 ?_
  refine px_iand dJ6_bitCount_0f7a4_32 ?_
  obtain ⟨z3, hz3⟩ : ∃ y : Int32, y = (z2 + (ju z2 (4 : Int32))) &&& (252645135 : Int32) := ⟨_, rfl⟩
  have h := h z3 hz3
  refine px_namei hz3 ?_
  refine px_istore_n (ls2 := [some (.int z3)]) (i := 0) rfl dJ6_bitCount_0f7a4_33 (by decide) rfl ?_
  refine px_iload_n dJ6_bitCount_0f7a4_34 rfl rfl ?_
  refine px_iload_n dJ6_bitCount_0f7a4_35 rfl rfl ?_
  refine px_bipush (v := (8 : Int32)) dJ6_bitCount_0f7a4_36 (by decide) ?_
  refine px_iushr dJ6_bitCount_0f7a4_38 ?_
  refine px_iadd dJ6_bitCount_0f7a4_39 ?_
  obtain ⟨z4, hz4⟩ : ∃ y : Int32, y = z3 + (ju z3 (8 : Int32)) := ⟨_, rfl⟩
  have h := h z4 hz4
  refine px_namei hz4 ?_
  refine px_istore_n (ls2 := [some (.int z4)]) (i := 0) rfl dJ6_bitCount_0f7a4_40 (by decide) rfl ?_
  refine px_iload_n dJ6_bitCount_0f7a4_41 rfl rfl ?_
  refine px_iload_n dJ6_bitCount_0f7a4_42 rfl rfl ?_
  refine px_bipush (v := (16 : Int32)) dJ6_bitCount_0f7a4_43 (by decide) ?_
  refine px_iushr dJ6_bitCount_0f7a4_45 ?_
  refine px_iadd dJ6_bitCount_0f7a4_46 ?_
  obtain ⟨z5, hz5⟩ : ∃ y : Int32, y = z4 + (ju z4 (16 : Int32)) := ⟨_, rfl⟩
  have h := h z5 hz5
  refine px_namei hz5 ?_
  refine px_istore_n (ls2 := [some (.int z5)]) (i := 0) rfl dJ6_bitCount_0f7a4_47 (by decide) rfl ?_
  refine px_iload_n dJ6_bitCount_0f7a4_48 rfl rfl ?_
  refine px_bipush (v := (63 : Int32)) dJ6_bitCount_0f7a4_49 (by decide) ?_
  refine px_iand dJ6_bitCount_0f7a4_51 ?_
  exact px_ireturn dJ6_bitCount_0f7a4_52 rfl ⟨.int, rfl, rfl, rfl⟩ ⟨rfl, _, rfl, h⟩
abbrev p_J7_fill_53178_5 (p : Nat) (x1 : Int32) (x2 : Int32) (x3 : Int32) (gi : Gi) (gl : Gl) (Q : Gi → Gl → Prop) : Prop := PAt mJ7_fill_53178 NN NN κF 5 [some (.ref p), some (.int x1), some (.int x2), some (.int x3)] [] gi gl (RvQ Q)
def f_J7_fill_53178 (p : Nat) (x1 : Int32) (gi : Gi) (gl : Gl) (Q : Gi → Gl → Prop) : Prop :=
∀ z1 : Int32, z1 = Int32.ofNat (sN p) →
p_J7_fill_53178_5 p x1 (0 : Int32) z1 gi gl Q
def f_J7_fill_53178_5 (p : Nat) (x1 : Int32) (x2 : Int32) (x3 : Int32) (gi : Gi) (gl : Gl) (Q : Gi → Gl → Prop) : Prop :=
if x3 ≤ x2 then
(Q gi gl)
else
(vp_in x2 (sN p) ∧
∀ gi1 : Gi, gi1 = uI gi p (upd (gi p) x2.toNatClampNeg x1) →
p_J7_fill_53178_5 p x1 (x2 + (1 : Int32)) x3 gi1 gl Q)
set_option maxRecDepth 100000 in
theorem v_J7_fill_53178 {p : Nat} {x1 : Int32} {gi : Gi} {gl : Gl} {Q : Gi → Gl → Prop} (hpN : p < NN) (hpK : sK p = 100) (h : f_J7_fill_53178 p x1 gi gl Q) : p_J7_fill_53178 p x1 gi gl Q := by
  unfold f_J7_fill_53178 at h
  show PAt mJ7_fill_53178 NN NN κF 0 [some (.ref p), some (.int x1), none, none] [] gi gl _
  refine px_iconst (v := (0 : Int32)) dJ7_fill_53178_0 (by decide) ?_
  refine px_istore_n (ls2 := [some (.ref p), some (.int x1), some (.int (0 : Int32)), none]) (i := 2) rfl dJ7_fill_53178_1 (by decide) rfl ?_
  refine px_aload_n dJ7_fill_53178_2 rfl rfl ?_
  refine px_alen (n := (sN p)) (t0 := 0) (v := Int32.ofNat (sN p)) dJ7_fill_53178_3 hpN hpK rfl (by decide) (fun _ => rfl) rfl ?_
  obtain ⟨z1, hz1⟩ : ∃ y : Int32, y = Int32.ofNat (sN p) := ⟨_, rfl⟩
  have h := h z1 hz1
  refine px_namei hz1 ?_
  refine px_istore_n (ls2 := [some (.ref p), some (.int x1), some (.int (0 : Int32)), some (.int z1)]) (i := 3) rfl dJ7_fill_53178_4 (by decide) rfl ?_
  exact PAt.forget h (lsub_at ⟨rfl, ⟨rfl, ⟨rfl, ⟨rfl, trivial⟩⟩⟩⟩)
set_option maxRecDepth 100000 in
theorem v_J7_fill_53178_5 {p : Nat} {x1 : Int32} {x2 : Int32} {x3 : Int32} {gi : Gi} {gl : Gl} {Q : Gi → Gl → Prop} (hpN : p < NN) (hpK : sK p = 100) (h : f_J7_fill_53178_5 p x1 x2 x3 gi gl Q) : p_J7_fill_53178_5 p x1 x2 x3 gi gl Q := by
  unfold f_J7_fill_53178_5 at h
  show PAt mJ7_fill_53178 NN NN κF 5 [some (.ref p), some (.int x1), some (.int x2), some (.int x3)] [] gi gl _
  refine px_iload_n dJ7_fill_53178_5 rfl rfl ?_
  refine px_iload_n dJ7_fill_53178_6 rfl rfl ?_
  refine px_icmp_ge (tgt := 20) dJ7_fill_53178_7 (by decide) ?_
  by_cases hc : x3 ≤ x2
  · rw [if_pos hc] at h ⊢
    exact px_return dJ7_fill_53178_20 rfl rfl ⟨rfl, rfl, h⟩
  · rw [if_neg hc] at h ⊢
    refine px_aload_n dJ7_fill_53178_10 rfl rfl ?_
    refine px_iload_n dJ7_fill_53178_11 rfl rfl ?_
    refine px_iload_n dJ7_fill_53178_12 rfl rfl ?_
    obtain ⟨hi, h⟩ := h
    refine px_iastore (n := (sN p)) dJ7_fill_53178_13 hpN hpK rfl hi ?_
    obtain ⟨gi1, hgi1⟩ : ∃ y : Gi, y = uI gi p (upd (gi p) x2.toNatClampNeg x1) := ⟨_, rfl⟩
    have h := h gi1 hgi1
    refine px_namegi hgi1 ?_
    refine px_iinc (v := x2 + (1 : Int32)) (ls2 := [some (.ref p), some (.int x1), some (.int (x2 + (1 : Int32))), some (.int x3)]) dJ7_fill_53178_14 rfl rfl (by decide) rfl ?_
    refine px_goto (tgt := 5) dJ7_fill_53178_17 (by decide) ?_
    exact PAt.forget h (lsub_at ⟨rfl, ⟨rfl, ⟨rfl, ⟨rfl, trivial⟩⟩⟩⟩)
