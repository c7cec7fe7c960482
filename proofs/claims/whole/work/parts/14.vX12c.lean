/-! laid by program: X12 -/
abbrev p_X12_lacksOn_38 (x2 : Int32) (x3 : Int32) (s0 : Int32) (gi : Gi) (gl : Gl) (Q : Int32 → Gi → Gl → Prop) : Prop := PAt mX12_lacksOn NN NN κF 38 [some (.ref 329), none, some (.int x2), some (.int x3), none] [.int s0] gi gl (RiQ Q)
def f_X12_lacksOn (x1 : Int32) (x2 : Int32) (gi : Gi) (gl : Gl) (Q : Int32 → Gi → Gl → Prop) : Prop :=
∀ z1 : Int32, z1 = ((12 : Int32) * (gi 329 0)) + x1 →
if ¬ x1 = (gi 329 50) then
(vp_in z1 24 ∧
vp_in z1 24 ∧
p_X12_lacksOn_38 x2 z1 ((gi 340 z1.toNatClampNeg) + (gi 341 z1.toNatClampNeg)) gi gl Q)
else
(p_X12_lacksOn_38 x2 z1 (gi 329 51) gi gl Q)
def f_X12_lacksOn_38 (x2 : Int32) (x3 : Int32) (s0 : Int32) (gi : Gi) (gl : Gl) (Q : Int32 → Gi → Gl → Prop) : Prop :=
if x2 < s0 then
(Q (1 : Int32) gi gl)
else
(vp_in x3 24 ∧
if (gi 342 x3.toNatClampNeg) < 0 then
(Q (0 : Int32) gi gl)
else
(vp_in x3 24 ∧
vp_in x3 24 ∧
if x2 ≤ (((gi 342 x3.toNatClampNeg) + (gi 329 49)) - (gi 343 x3.toNatClampNeg)) then
(Q (0 : Int32) gi gl)
else
(Q (1 : Int32) gi gl)))
set_option maxRecDepth 100000 in
theorem v_X12_lacksOn {x1 : Int32} {x2 : Int32} {gi : Gi} {gl : Gl} {Q : Int32 → Gi → Gl → Prop}  (h : f_X12_lacksOn x1 x2 gi gl Q) : p_X12_lacksOn x1 x2 gi gl Q := by
  unfold f_X12_lacksOn at h
  show PAt mX12_lacksOn NN NN κF 0 [some (.ref 329), some (.int x1), some (.int x2), none, none] [] gi gl _
  refine px_bipush (v := (12 : Int32)) dX12_lacksOn_0 (by decide) ?_
  refine px_aload_n dX12_lacksOn_2 rfl rfl ?_
  refine gf_X12_312 rfl dX12_lacksOn_3 zl_329 zk_329 ?_
  refine px_imul dX12_lacksOn_6 ?_
  refine px_iload_n dX12_lacksOn_7 rfl rfl ?_
  refine px_iadd dX12_lacksOn_8 ?_
  obtain ⟨z1, hz1⟩ : ∃ y : Int32, y = ((12 : Int32) * (gi 329 0)) + x1 := ⟨_, rfl⟩
  have h := h z1 hz1
  refine px_namei hz1 ?_
  refine px_istore_n (ls2 := [some (.ref 329), some (.int x1), some (.int x2), some (.int z1), none]) (i := 3) rfl dX12_lacksOn_9 (by decide) rfl ?_
  refine px_iload_n dX12_lacksOn_10 rfl rfl ?_
  refine px_aload_n dX12_lacksOn_11 rfl rfl ?_
  refine gf_X12_118 rfl dX12_lacksOn_12 zl_329 zk_329 ?_
  refine px_icmp_ne (tgt := 25) dX12_lacksOn_15 (by decide) ?_
  by_cases hc : ¬ x1 = (gi 329 50)
  · rw [if_pos hc] at h ⊢
    refine px_aload_n dX12_lacksOn_25 rfl rfl ?_
    refine gf_X12_41 rfl dX12_lacksOn_26 zl_329 zk_329 rfl zr_329_12 zl_340 ?_
    refine px_iload_n dX12_lacksOn_29 rfl rfl ?_
    obtain ⟨hi, h⟩ := h
    refine px_iaload (n := 24) dX12_lacksOn_30 zl_340 zk_340 zs_340 hi ?_
    refine px_aload_n dX12_lacksOn_31 rfl rfl ?_
    refine gf_X12_44 rfl dX12_lacksOn_32 zl_329 zk_329 rfl zr_329_13 zl_341 ?_
    refine px_iload_n dX12_lacksOn_35 rfl rfl ?_
    obtain ⟨hi, h⟩ := h
    refine px_iaload (n := 24) dX12_lacksOn_36 zl_341 zk_341 zs_341 hi ?_
    refine px_iadd dX12_lacksOn_37 ?_
    exact PAt.forget h (lsub_at ⟨rfl, ⟨rfl, ⟨rfl, trivial⟩⟩⟩)
  · rw [if_neg hc] at h ⊢
    refine px_aload_n dX12_lacksOn_18 rfl rfl ?_
    refine gf_X12_374 rfl dX12_lacksOn_19 zl_329 zk_329 ?_
    refine px_goto (tgt := 38) dX12_lacksOn_22 (by decide) ?_
    exact PAt.forget h (lsub_at ⟨rfl, ⟨rfl, ⟨rfl, trivial⟩⟩⟩)
set_option maxRecDepth 100000 in
theorem v_X12_lacksOn_38 {x2 : Int32} {x3 : Int32} {s0 : Int32} {gi : Gi} {gl : Gl} {Q : Int32 → Gi → Gl → Prop}  (h : f_X12_lacksOn_38 x2 x3 s0 gi gl Q) : p_X12_lacksOn_38 x2 x3 s0 gi gl Q := by
  unfold f_X12_lacksOn_38 at h
  show PAt mX12_lacksOn NN NN κF 38 [some (.ref 329), none, some (.int x2), some (.int x3), none] [.int s0] gi gl _
  refine px_istore (ls2 := [some (.ref 329), none, some (.int x2), some (.int x3), some (.int s0)]) dX12_lacksOn_38 (by decide) rfl ?_
  refine px_iload_n dX12_lacksOn_40 rfl rfl ?_
  refine px_iload dX12_lacksOn_41 rfl ?_
  refine px_icmp_lt (tgt := 77) dX12_lacksOn_43 (by decide) ?_
  by_cases hc : x2 < s0
  · rw [if_pos hc] at h ⊢
    refine px_iconst (v := (1 : Int32)) dX12_lacksOn_77 (by decide) ?_
    refine px_goto (tgt := 82) dX12_lacksOn_78 (by decide) ?_
    exact px_ireturn dX12_lacksOn_82 rfl ⟨.boolean, rfl, rfl, by decide⟩ ⟨rfl, _, rfl, h⟩
  · rw [if_neg hc] at h ⊢
    refine px_aload_n dX12_lacksOn_46 rfl rfl ?_
    refine gf_X12_47 rfl dX12_lacksOn_47 zl_329 zk_329 rfl zr_329_14 zl_342 ?_
    refine px_iload_n dX12_lacksOn_50 rfl rfl ?_
    obtain ⟨hi, h⟩ := h
    refine px_iaload (n := 24) dX12_lacksOn_51 zl_342 zk_342 zs_342 hi ?_
    refine px_if_lt (tgt := 81) dX12_lacksOn_52 (by decide) ?_
    by_cases hc : (gi 342 x3.toNatClampNeg) < 0
    · rw [if_pos hc] at h ⊢
      refine px_iconst (v := (0 : Int32)) dX12_lacksOn_81 (by decide) ?_
      exact px_ireturn dX12_lacksOn_82 rfl ⟨.boolean, rfl, rfl, by decide⟩ ⟨rfl, _, rfl, h⟩
    · rw [if_neg hc] at h ⊢
      refine px_iload_n dX12_lacksOn_55 rfl rfl ?_
      refine px_aload_n dX12_lacksOn_56 rfl rfl ?_
      refine gf_X12_47 rfl dX12_lacksOn_57 zl_329 zk_329 rfl zr_329_14 zl_342 ?_
      refine px_iload_n dX12_lacksOn_60 rfl rfl ?_
      obtain ⟨hi, h⟩ := h
      refine px_iaload (n := 24) dX12_lacksOn_61 zl_342 zk_342 zs_342 hi ?_
      refine px_aload_n dX12_lacksOn_62 rfl rfl ?_
      refine gf_X12_377 rfl dX12_lacksOn_63 zl_329 zk_329 ?_
      refine px_iadd dX12_lacksOn_66 ?_
      refine px_aload_n dX12_lacksOn_67 rfl rfl ?_
      refine gf_X12_50 rfl dX12_lacksOn_68 zl_329 zk_329 rfl zr_329_15 zl_343 ?_
      refine px_iload_n dX12_lacksOn_71 rfl rfl ?_
      obtain ⟨hi, h⟩ := h
      refine px_iaload (n := 24) dX12_lacksOn_72 zl_343 zk_343 zs_343 hi ?_
      refine px_isub dX12_lacksOn_73 ?_
      refine px_icmp_le (tgt := 81) dX12_lacksOn_74 (by decide) ?_
      by_cases hc : x2 ≤ (((gi 342 x3.toNatClampNeg) + (gi 329 49)) - (gi 343 x3.toNatClampNeg))
      · rw [if_pos hc] at h ⊢
        refine px_iconst (v := (0 : Int32)) dX12_lacksOn_81 (by decide) ?_
        exact px_ireturn dX12_lacksOn_82 rfl ⟨.boolean, rfl, rfl, by decide⟩ ⟨rfl, _, rfl, h⟩
      · rw [if_neg hc] at h ⊢
        refine px_iconst (v := (1 : Int32)) dX12_lacksOn_77 (by decide) ?_
        refine px_goto (tgt := 82) dX12_lacksOn_78 (by decide) ?_
        exact px_ireturn dX12_lacksOn_82 rfl ⟨.boolean, rfl, rfl, by decide⟩ ⟨rfl, _, rfl, h⟩
def f_X12_inLeaf (x1 : Int32) (x2 : Int32) (gi : Gi) (gl : Gl) (Q : Int32 → Gi → Gl → Prop) : Prop :=
∀ z1 : Int32, z1 = ((6 : Int32) * (gi 329 0)) + x1 →
∀ z2 : Int32, z2 = jr x2 (360 : Int32) →
vp_in z1 12 ∧
vp_in z1 12 ∧
if (gi 345 z1.toNatClampNeg) ≤ (gi 344 z1.toNatClampNeg) then
(vp_in z1 12 ∧
if (gi 344 z1.toNatClampNeg) ≤ z2 then
(Q (1 : Int32) gi gl)
else
(vp_in z1 12 ∧
if (gi 345 z1.toNatClampNeg) ≤ z2 then
(Q (0 : Int32) gi gl)
else
(Q (1 : Int32) gi gl)))
else
(vp_in z1 12 ∧
if z2 < (gi 344 z1.toNatClampNeg) then
(Q (0 : Int32) gi gl)
else
(vp_in z1 12 ∧
if (gi 345 z1.toNatClampNeg) ≤ z2 then
(Q (0 : Int32) gi gl)
else
(Q (1 : Int32) gi gl)))
set_option maxRecDepth 100000 in
theorem v_X12_inLeaf {x1 : Int32} {x2 : Int32} {gi : Gi} {gl : Gl} {Q : Int32 → Gi → Gl → Prop}  (h : f_X12_inLeaf x1 x2 gi gl Q) : p_X12_inLeaf x1 x2 gi gl Q := by
  unfold f_X12_inLeaf at h
  show PAt mX12_inLeaf NN NN κF 0 [some (.ref 329), some (.int x1), some (.int x2), none, none] [] gi gl _
  refine px_bipush (v := (6 : Int32)) dX12_inLeaf_0 (by decide) ?_
  refine px_aload_n dX12_inLeaf_2 rfl rfl ?_
  refine gf_X12_312 rfl dX12_inLeaf_3 zl_329 zk_329 ?_
  refine px_imul dX12_inLeaf_6 ?_
  refine px_iload_n dX12_inLeaf_7 rfl rfl ?_
  refine px_iadd dX12_inLeaf_8 ?_
  obtain ⟨z1, hz1⟩ : ∃ y : Int32, y = ((6 : Int32) * (gi 329 0)) + x1 := ⟨_, rfl⟩
  have h := h z1 hz1
  refine px_namei hz1 ?_
  refine px_istore_n (ls2 := [some (.ref 329), some (.int x1), some (.int x2), some (.int z1), none]) (i := 3) rfl dX12_inLeaf_9 (by decide) rfl ?_
  refine px_iload_n dX12_inLeaf_10 rfl rfl ?_
  refine px_sipush (v := (360 : Int32)) dX12_inLeaf_11 (by decide) ?_
  refine px_irem dX12_inLeaf_14 (by decide) ?_
  obtain ⟨z2, hz2⟩ : ∃ y : Int32, y = jr x2 (360 : Int32) := ⟨_, rfl⟩
  have h := h z2 hz2
  refine px_namei hz2 ?_
  refine px_istore (ls2 := [some (.ref 329), some (.int x1), some (.int x2), some (.int z1), some (.int z2)]) dX12_inLeaf_15 (by decide) rfl ?_
  refine px_aload_n dX12_inLeaf_17 rfl rfl ?_
  refine gf_X12_53 rfl dX12_inLeaf_18 zl_329 zk_329 rfl zr_329_16 zl_344 ?_
  refine px_iload_n dX12_inLeaf_21 rfl rfl ?_
  obtain ⟨hi, h⟩ := h
  refine px_iaload (n := 12) dX12_inLeaf_22 zl_344 zk_344 zs_344 hi ?_
  refine px_aload_n dX12_inLeaf_23 rfl rfl ?_
  refine gf_X12_56 rfl dX12_inLeaf_24 zl_329 zk_329 rfl zr_329_17 zl_345 ?_
  refine px_iload_n dX12_inLeaf_27 rfl rfl ?_
  obtain ⟨hi, h⟩ := h
  refine px_iaload (n := 12) dX12_inLeaf_28 zl_345 zk_345 zs_345 hi ?_
  refine px_icmp_ge (tgt := 62) dX12_inLeaf_29 (by decide) ?_
  by_cases hc : (gi 345 z1.toNatClampNeg) ≤ (gi 344 z1.toNatClampNeg)
  · rw [if_pos hc] at h ⊢
    refine px_iload dX12_inLeaf_62 rfl ?_
    refine px_aload_n dX12_inLeaf_64 rfl rfl ?_
    refine gf_X12_53 rfl dX12_inLeaf_65 zl_329 zk_329 rfl zr_329_16 zl_344 ?_
    refine px_iload_n dX12_inLeaf_68 rfl rfl ?_
    obtain ⟨hi, h⟩ := h
    refine px_iaload (n := 12) dX12_inLeaf_69 zl_344 zk_344 zs_344 hi ?_
    refine px_icmp_ge (tgt := 84) dX12_inLeaf_70 (by decide) ?_
    by_cases hc : (gi 344 z1.toNatClampNeg) ≤ z2
    · rw [if_pos hc] at h ⊢
      refine px_iconst (v := (1 : Int32)) dX12_inLeaf_84 (by decide) ?_
      refine px_goto (tgt := 89) dX12_inLeaf_85 (by decide) ?_
      exact px_ireturn dX12_inLeaf_89 rfl ⟨.boolean, rfl, rfl, by decide⟩ ⟨rfl, _, rfl, h⟩
    · rw [if_neg hc] at h ⊢
      refine px_iload dX12_inLeaf_73 rfl ?_
      refine px_aload_n dX12_inLeaf_75 rfl rfl ?_
      refine gf_X12_56 rfl dX12_inLeaf_76 zl_329 zk_329 rfl zr_329_17 zl_345 ?_
      refine px_iload_n dX12_inLeaf_79 rfl rfl ?_
      obtain ⟨hi, h⟩ := h
      refine px_iaload (n := 12) dX12_inLeaf_80 zl_345 zk_345 zs_345 hi ?_
      refine px_icmp_ge (tgt := 88) dX12_inLeaf_81 (by decide) ?_
      by_cases hc : (gi 345 z1.toNatClampNeg) ≤ z2
      · rw [if_pos hc] at h ⊢
        refine px_iconst (v := (0 : Int32)) dX12_inLeaf_88 (by decide) ?_
        exact px_ireturn dX12_inLeaf_89 rfl ⟨.boolean, rfl, rfl, by decide⟩ ⟨rfl, _, rfl, h⟩
      · rw [if_neg hc] at h ⊢
        refine px_iconst (v := (1 : Int32)) dX12_inLeaf_84 (by decide) ?_
        refine px_goto (tgt := 89) dX12_inLeaf_85 (by decide) ?_
        exact px_ireturn dX12_inLeaf_89 rfl ⟨.boolean, rfl, rfl, by decide⟩ ⟨rfl, _, rfl, h⟩
  · rw [if_neg hc] at h ⊢
    refine px_iload dX12_inLeaf_32 rfl ?_
    refine px_aload_n dX12_inLeaf_34 rfl rfl ?_
    refine gf_X12_53 rfl dX12_inLeaf_35 zl_329 zk_329 rfl zr_329_16 zl_344 ?_
    refine px_iload_n dX12_inLeaf_38 rfl rfl ?_
    obtain ⟨hi, h⟩ := h
    refine px_iaload (n := 12) dX12_inLeaf_39 zl_344 zk_344 zs_344 hi ?_
    refine px_icmp_lt (tgt := 58) dX12_inLeaf_40 (by decide) ?_
    by_cases hc : z2 < (gi 344 z1.toNatClampNeg)
    · rw [if_pos hc] at h ⊢
      refine px_iconst (v := (0 : Int32)) dX12_inLeaf_58 (by decide) ?_
      refine px_goto (tgt := 89) dX12_inLeaf_59 (by decide) ?_
      exact px_ireturn dX12_inLeaf_89 rfl ⟨.boolean, rfl, rfl, by decide⟩ ⟨rfl, _, rfl, h⟩
    · rw [if_neg hc] at h ⊢
      refine px_iload dX12_inLeaf_43 rfl ?_
      refine px_aload_n dX12_inLeaf_45 rfl rfl ?_
      refine gf_X12_56 rfl dX12_inLeaf_46 zl_329 zk_329 rfl zr_329_17 zl_345 ?_
      refine px_iload_n dX12_inLeaf_49 rfl rfl ?_
      obtain ⟨hi, h⟩ := h
      refine px_iaload (n := 12) dX12_inLeaf_50 zl_345 zk_345 zs_345 hi ?_
      refine px_icmp_ge (tgt := 58) dX12_inLeaf_51 (by decide) ?_
      by_cases hc : (gi 345 z1.toNatClampNeg) ≤ z2
      · rw [if_pos hc] at h ⊢
        refine px_iconst (v := (0 : Int32)) dX12_inLeaf_58 (by decide) ?_
        refine px_goto (tgt := 89) dX12_inLeaf_59 (by decide) ?_
        exact px_ireturn dX12_inLeaf_89 rfl ⟨.boolean, rfl, rfl, by decide⟩ ⟨rfl, _, rfl, h⟩
      · rw [if_neg hc] at h ⊢
        refine px_iconst (v := (1 : Int32)) dX12_inLeaf_54 (by decide) ?_
        refine px_goto (tgt := 89) dX12_inLeaf_55 (by decide) ?_
        exact px_ireturn dX12_inLeaf_89 rfl ⟨.boolean, rfl, rfl, by decide⟩ ⟨rfl, _, rfl, h⟩
def f_X12_letsDay (x1 : Int32) (x2 : Int32) (gi : Gi) (gl : Gl) (Q : Int32 → Gi → Gl → Prop) : Prop :=
vp_in x1 480 ∧
if (gi 357 x1.toNatClampNeg) = (0 : Int32) then
(vp_in x1 480 ∧
p_X12_standsOn (gi 358 x1.toNatClampNeg) x2 gi gl (fun (r3 : Int32) (gi1 : Gi) (gl2 : Gl) =>
(r3 = 0 ∨ r3 = 1) ∧
Q r3 gi1 gl2))
else (
if (gi 357 x1.toNatClampNeg) = (1 : Int32) then
(vp_in x1 480 ∧
p_X12_lacksOn (gi 358 x1.toNatClampNeg) x2 gi gl (fun (r6 : Int32) (gi4 : Gi) (gl5 : Gl) =>
(r6 = 0 ∨ r6 = 1) ∧
Q r6 gi4 gl5))
else (
if (gi 357 x1.toNatClampNeg) = (2 : Int32) then
(vp_in x1 480 ∧
p_X12_inLeaf (gi 358 x1.toNatClampNeg) x2 gi gl (fun (r9 : Int32) (gi7 : Gi) (gl8 : Gl) =>
(r9 = 0 ∨ r9 = 1) ∧
Q r9 gi7 gl8))
else (
if (gi 357 x1.toNatClampNeg) = (3 : Int32) then
(vp_in x1 480 ∧
p_X12_inLeaf (gi 358 x1.toNatClampNeg) x2 gi gl (fun (r12 : Int32) (gi10 : Gi) (gl11 : Gl) =>
if ¬ r12 = 0 then
(Q (0 : Int32) gi10 gl11)
else
(Q (1 : Int32) gi10 gl11)))
else (
if (gi 357 x1.toNatClampNeg) = (4 : Int32) then
(Q (1 : Int32) gi gl)
else (
if (gi 357 x1.toNatClampNeg) = (5 : Int32) then
(Q (1 : Int32) gi gl)
else (
if (gi 357 x1.toNatClampNeg) = (6 : Int32) then
(vp_in x1 480 ∧
if ¬ (jr x2 (7 : Int32)) = (gi 358 x1.toNatClampNeg) then
(Q (0 : Int32) gi gl)
else
(Q (1 : Int32) gi gl))
else (
if (gi 357 x1.toNatClampNeg) = (7 : Int32) then
(vp_in x1 480 ∧
if ¬ (x2 / (360 : Int32)) = (gi 358 x1.toNatClampNeg) then
(Q (0 : Int32) gi gl)
else
(Q (1 : Int32) gi gl))
else (
Q (1 : Int32) gi gl))))))))
set_option maxRecDepth 100000 in
theorem v_X12_letsDay {x1 : Int32} {x2 : Int32} {gi : Gi} {gl : Gl} {Q : Int32 → Gi → Gl → Prop}  (h : f_X12_letsDay x1 x2 gi gl Q) : p_X12_letsDay x1 x2 gi gl Q := by
  unfold f_X12_letsDay at h
  show PAt mX12_letsDay NN NN κF 0 [some (.ref 329), some (.int x1), some (.int x2)] [] gi gl _
  refine px_aload_n dX12_letsDay_0 rfl rfl ?_
  refine gf_X12_92 rfl dX12_letsDay_1 zl_329 zk_329 rfl zr_329_29 zl_357 ?_
  refine px_iload_n dX12_letsDay_4 rfl rfl ?_
  obtain ⟨hi, h⟩ := h
  refine px_iaload (n := 480) dX12_letsDay_5 zl_357 zk_357 zs_357 hi ?_
  by_cases hc0 : (gi 357 x1.toNatClampNeg) = (0 : Int32)
  · rw [if_pos hc0] at h
    refine px_tblIn (tgt := 52) (off := 46) dX12_letsDay_6 (by rw [hc0]; decide) (by rw [hc0]; decide) (by rw [hc0]; decide) (by decide) ?_
    refine px_aload_n dX12_letsDay_52 rfl rfl ?_
    refine px_aload_n dX12_letsDay_53 rfl rfl ?_
    refine gf_X12_95 rfl dX12_letsDay_54 zl_329 zk_329 rfl zr_329_30 zl_358 ?_
    refine px_iload_n dX12_letsDay_57 rfl rfl ?_
    obtain ⟨hi, h⟩ := h
    refine px_iaload (n := 480) dX12_letsDay_58 zl_358 zk_358 zs_358 hi ?_
    refine px_iload_n dX12_letsDay_59 rfl rfl ?_
    refine px_callV_I (As := [.int (gi 358 x1.toNatClampNeg), .int x2]) (st := []) dX12_letsDay_60 lk_X12_380.1 lk_X12_380.2 (b := 329) zl_329 zk_329 (by decide) rfl (by decide) rfl (Nat.le_of_ble_eq_true rfl) rfl rfl (Nat.le_of_ble_eq_true rfl) ⟨Nat.le_refl _, Nat.le_refl _, Nat.le_refl _⟩ ?_
    refine PAt.mono h (fun v κ gi1 gl2 hq => ?_)
    obtain ⟨rfl, r3, rfl, h⟩ := hq
    obtain ⟨hz, h⟩ := h
    exact px_ireturn dX12_letsDay_63 rfl ⟨.boolean, rfl, rfl, nar01 hz⟩ ⟨rfl, _, rfl, h⟩
  · rw [if_neg hc0] at h
    by_cases hc1 : (gi 357 x1.toNatClampNeg) = (1 : Int32)
    · rw [if_pos hc1] at h
      refine px_tblIn (tgt := 64) (off := 58) dX12_letsDay_6 (by rw [hc1]; decide) (by rw [hc1]; decide) (by rw [hc1]; decide) (by decide) ?_
      refine px_aload_n dX12_letsDay_64 rfl rfl ?_
      refine px_aload_n dX12_letsDay_65 rfl rfl ?_
      refine gf_X12_95 rfl dX12_letsDay_66 zl_329 zk_329 rfl zr_329_30 zl_358 ?_
      refine px_iload_n dX12_letsDay_69 rfl rfl ?_
      obtain ⟨hi, h⟩ := h
      refine px_iaload (n := 480) dX12_letsDay_70 zl_358 zk_358 zs_358 hi ?_
      refine px_iload_n dX12_letsDay_71 rfl rfl ?_
      refine px_callV_I (As := [.int (gi 358 x1.toNatClampNeg), .int x2]) (st := []) dX12_letsDay_72 lk_X12_383.1 lk_X12_383.2 (b := 329) zl_329 zk_329 (by decide) rfl (by decide) rfl (Nat.le_of_ble_eq_true rfl) rfl rfl (Nat.le_of_ble_eq_true rfl) ⟨Nat.le_refl _, Nat.le_refl _, Nat.le_refl _⟩ ?_
      refine PAt.mono h (fun v κ gi4 gl5 hq => ?_)
      obtain ⟨rfl, r6, rfl, h⟩ := hq
      obtain ⟨hz, h⟩ := h
      exact px_ireturn dX12_letsDay_75 rfl ⟨.boolean, rfl, rfl, nar01 hz⟩ ⟨rfl, _, rfl, h⟩
    · rw [if_neg hc1] at h
      by_cases hc2 : (gi 357 x1.toNatClampNeg) = (2 : Int32)
      · rw [if_pos hc2] at h
        refine px_tblIn (tgt := 76) (off := 70) dX12_letsDay_6 (by rw [hc2]; decide) (by rw [hc2]; decide) (by rw [hc2]; decide) (by decide) ?_
        refine px_aload_n dX12_letsDay_76 rfl rfl ?_
        refine px_aload_n dX12_letsDay_77 rfl rfl ?_
        refine gf_X12_95 rfl dX12_letsDay_78 zl_329 zk_329 rfl zr_329_30 zl_358 ?_
        refine px_iload_n dX12_letsDay_81 rfl rfl ?_
        obtain ⟨hi, h⟩ := h
        refine px_iaload (n := 480) dX12_letsDay_82 zl_358 zk_358 zs_358 hi ?_
        refine px_iload_n dX12_letsDay_83 rfl rfl ?_
        refine px_callV_I (As := [.int (gi 358 x1.toNatClampNeg), .int x2]) (st := []) dX12_letsDay_84 lk_X12_386.1 lk_X12_386.2 (b := 329) zl_329 zk_329 (by decide) rfl (by decide) rfl (Nat.le_of_ble_eq_true rfl) rfl rfl (Nat.le_of_ble_eq_true rfl) ⟨Nat.le_refl _, Nat.le_refl _, Nat.le_refl _⟩ ?_
        refine PAt.mono h (fun v κ gi7 gl8 hq => ?_)
        obtain ⟨rfl, r9, rfl, h⟩ := hq
        obtain ⟨hz, h⟩ := h
        exact px_ireturn dX12_letsDay_87 rfl ⟨.boolean, rfl, rfl, nar01 hz⟩ ⟨rfl, _, rfl, h⟩
      · rw [if_neg hc2] at h
        by_cases hc3 : (gi 357 x1.toNatClampNeg) = (3 : Int32)
        · rw [if_pos hc3] at h
          refine px_tblIn (tgt := 88) (off := 82) dX12_letsDay_6 (by rw [hc3]; decide) (by rw [hc3]; decide) (by rw [hc3]; decide) (by decide) ?_
          refine px_aload_n dX12_letsDay_88 rfl rfl ?_
          refine px_aload_n dX12_letsDay_89 rfl rfl ?_
          refine gf_X12_95 rfl dX12_letsDay_90 zl_329 zk_329 rfl zr_329_30 zl_358 ?_
          refine px_iload_n dX12_letsDay_93 rfl rfl ?_
          obtain ⟨hi, h⟩ := h
          refine px_iaload (n := 480) dX12_letsDay_94 zl_358 zk_358 zs_358 hi ?_
          refine px_iload_n dX12_letsDay_95 rfl rfl ?_
          refine px_callV_I (As := [.int (gi 358 x1.toNatClampNeg), .int x2]) (st := []) dX12_letsDay_96 lk_X12_386.1 lk_X12_386.2 (b := 329) zl_329 zk_329 (by decide) rfl (by decide) rfl (Nat.le_of_ble_eq_true rfl) rfl rfl (Nat.le_of_ble_eq_true rfl) ⟨Nat.le_refl _, Nat.le_refl _, Nat.le_refl _⟩ ?_
          refine PAt.mono h (fun v κ gi10 gl11 hq => ?_)
          obtain ⟨rfl, r12, rfl, h⟩ := hq
          refine px_if_ne (tgt := 106) dX12_letsDay_99 (by decide) ?_
          by_cases hc : ¬ r12 = 0
          · rw [if_pos hc] at h ⊢
            refine px_iconst (v := (0 : Int32)) dX12_letsDay_106 (by decide) ?_
            exact px_ireturn dX12_letsDay_107 rfl ⟨.boolean, rfl, rfl, by decide⟩ ⟨rfl, _, rfl, h⟩
          · rw [if_neg hc] at h ⊢
            refine px_iconst (v := (1 : Int32)) dX12_letsDay_102 (by decide) ?_
            refine px_goto (tgt := 107) dX12_letsDay_103 (by decide) ?_
            exact px_ireturn dX12_letsDay_107 rfl ⟨.boolean, rfl, rfl, by decide⟩ ⟨rfl, _, rfl, h⟩
        · rw [if_neg hc3] at h
          by_cases hc4 : (gi 357 x1.toNatClampNeg) = (4 : Int32)
          · rw [if_pos hc4] at h
            refine px_tblIn (tgt := 147) (off := 141) dX12_letsDay_6 (by rw [hc4]; decide) (by rw [hc4]; decide) (by rw [hc4]; decide) (by decide) ?_
            refine px_iconst (v := (1 : Int32)) dX12_letsDay_147 (by decide) ?_
            exact px_ireturn dX12_letsDay_148 rfl ⟨.boolean, rfl, rfl, by decide⟩ ⟨rfl, _, rfl, h⟩
          · rw [if_neg hc4] at h
            by_cases hc5 : (gi 357 x1.toNatClampNeg) = (5 : Int32)
            · rw [if_pos hc5] at h
              refine px_tblIn (tgt := 147) (off := 141) dX12_letsDay_6 (by rw [hc5]; decide) (by rw [hc5]; decide) (by rw [hc5]; decide) (by decide) ?_
              refine px_iconst (v := (1 : Int32)) dX12_letsDay_147 (by decide) ?_
              exact px_ireturn dX12_letsDay_148 rfl ⟨.boolean, rfl, rfl, by decide⟩ ⟨rfl, _, rfl, h⟩
            · rw [if_neg hc5] at h
              by_cases hc6 : (gi 357 x1.toNatClampNeg) = (6 : Int32)
              · rw [if_pos hc6] at h
                refine px_tblIn (tgt := 108) (off := 102) dX12_letsDay_6 (by rw [hc6]; decide) (by rw [hc6]; decide) (by rw [hc6]; decide) (by decide) ?_
                refine px_iload_n dX12_letsDay_108 rfl rfl ?_
                refine px_bipush (v := (7 : Int32)) dX12_letsDay_109 (by decide) ?_
                refine px_irem dX12_letsDay_111 (by decide) ?_
                refine px_aload_n dX12_letsDay_112 rfl rfl ?_
                refine gf_X12_95 rfl dX12_letsDay_113 zl_329 zk_329 rfl zr_329_30 zl_358 ?_
                refine px_iload_n dX12_letsDay_116 rfl rfl ?_
                obtain ⟨hi, h⟩ := h
                refine px_iaload (n := 480) dX12_letsDay_117 zl_358 zk_358 zs_358 hi ?_
                refine px_icmp_ne (tgt := 125) dX12_letsDay_118 (by decide) ?_
                by_cases hc : ¬ (jr x2 (7 : Int32)) = (gi 358 x1.toNatClampNeg)
                · rw [if_pos hc] at h ⊢
                  refine px_iconst (v := (0 : Int32)) dX12_letsDay_125 (by decide) ?_
                  exact px_ireturn dX12_letsDay_126 rfl ⟨.boolean, rfl, rfl, by decide⟩ ⟨rfl, _, rfl, h⟩
                · rw [if_neg hc] at h ⊢
                  refine px_iconst (v := (1 : Int32)) dX12_letsDay_121 (by decide) ?_
                  refine px_goto (tgt := 126) dX12_letsDay_122 (by decide) ?_
                  exact px_ireturn dX12_letsDay_126 rfl ⟨.boolean, rfl, rfl, by decide⟩ ⟨rfl, _, rfl, h⟩
              · rw [if_neg hc6] at h
                by_cases hc7 : (gi 357 x1.toNatClampNeg) = (7 : Int32)
                · rw [if_pos hc7] at h
                  refine px_tblIn (tgt := 127) (off := 121) dX12_letsDay_6 (by rw [hc7]; decide) (by rw [hc7]; decide) (by rw [hc7]; decide) (by decide) ?_
                  refine px_iload_n dX12_letsDay_127 rfl rfl ?_
                  refine px_sipush (v := (360 : Int32)) dX12_letsDay_128 (by decide) ?_
                  refine px_idiv dX12_letsDay_131 (by decide) ?_
                  refine px_aload_n dX12_letsDay_132 rfl rfl ?_
                  refine gf_X12_95 rfl dX12_letsDay_133 zl_329 zk_329 rfl zr_329_30 zl_358 ?_
                  refine px_iload_n dX12_letsDay_136 rfl rfl ?_
                  obtain ⟨hi, h⟩ := h
                  refine px_iaload (n := 480) dX12_letsDay_137 zl_358 zk_358 zs_358 hi ?_
                  refine px_icmp_ne (tgt := 145) dX12_letsDay_138 (by decide) ?_
                  by_cases hc : ¬ (x2 / (360 : Int32)) = (gi 358 x1.toNatClampNeg)
                  · rw [if_pos hc] at h ⊢
                    refine px_iconst (v := (0 : Int32)) dX12_letsDay_145 (by decide) ?_
                    exact px_ireturn dX12_letsDay_146 rfl ⟨.boolean, rfl, rfl, by decide⟩ ⟨rfl, _, rfl, h⟩
                  · rw [if_neg hc] at h ⊢
                    refine px_iconst (v := (1 : Int32)) dX12_letsDay_141 (by decide) ?_
                    refine px_goto (tgt := 146) dX12_letsDay_142 (by decide) ?_
                    exact px_ireturn dX12_letsDay_146 rfl ⟨.boolean, rfl, rfl, by decide⟩ ⟨rfl, _, rfl, h⟩
                · rw [if_neg hc7] at h
                  refine px_tblOut (tgt := 147) dX12_letsDay_6 (tbl_out8 hc0 hc1 hc2 hc3 hc4 hc5 hc6 hc7) (by decide) ?_
                  refine px_iconst (v := (1 : Int32)) dX12_letsDay_147 (by decide) ?_
                  exact px_ireturn dX12_letsDay_148 rfl ⟨.boolean, rfl, rfl, by decide⟩ ⟨rfl, _, rfl, h⟩
def f_X12_letsMinute (x1 : Int32) (x2 : Int32) (x3 : Int32) (gi : Gi) (gl : Gl) (Q : Int32 → Gi → Gl → Prop) : Prop :=
vp_in x1 480 ∧
if ¬ (gi 357 x1.toNatClampNeg) = (5 : Int32) then
(vp_in x1 480 ∧
if ¬ (gi 357 x1.toNatClampNeg) = (4 : Int32) then
(Q (1 : Int32) gi gl)
else
(p_X12_hasRows x2 gi gl (fun (r3 : Int32) (gi1 : Gi) (gl2 : Gl) =>
if ¬ r3 = 0 then
(p_X12_isLit x2 x3 gi1 gl2 (fun (r6 : Int32) (gi4 : Gi) (gl5 : Gl) =>
if r6 = 0 then
(Q (0 : Int32) gi4 gl5)
else
(p_X12_isNear x1 gi4 gl5 (fun (r9 : Int32) (gi7 : Gi) (gl8 : Gl) =>
if r9 = 0 then
(Q (0 : Int32) gi7 gl8)
else
(Q (1 : Int32) gi7 gl8)))))
else
(Q (1 : Int32) gi1 gl2))))
else
(vp_in x1 480 ∧
∀ z10 : Int32, z10 = ((4 : Int32) * (gi 329 0)) + (gi 358 x1.toNatClampNeg) →
vp_in x1 480 ∧
vp_in z10 8 ∧
vp_in x1 480 ∧
vp_in z10 8 ∧
p_X12_within x3 ((gi 359 x1.toNatClampNeg) - (gi 350 z10.toNatClampNeg)) ((gi 359 x1.toNatClampNeg) + (gi 349 z10.toNatClampNeg)) gi gl (fun (r13 : Int32) (gi11 : Gi) (gl12 : Gl) =>
(r13 = 0 ∨ r13 = 1) ∧
Q r13 gi11 gl12))
set_option maxRecDepth 100000 in
theorem v_X12_letsMinute {x1 : Int32} {x2 : Int32} {x3 : Int32} {gi : Gi} {gl : Gl} {Q : Int32 → Gi → Gl → Prop}  (h : f_X12_letsMinute x1 x2 x3 gi gl Q) : p_X12_letsMinute x1 x2 x3 gi gl Q := by
  unfold f_X12_letsMinute at h
  show PAt mX12_letsMinute NN NN κF 0 [some (.ref 329), some (.int x1), some (.int x2), some (.int x3), none] [] gi gl _
  refine px_aload_n dX12_letsMinute_0 rfl rfl ?_
  refine gf_X12_92 rfl dX12_letsMinute_1 zl_329 zk_329 rfl zr_329_29 zl_357 ?_
  refine px_iload_n dX12_letsMinute_4 rfl rfl ?_
  obtain ⟨hi, h⟩ := h
  refine px_iaload (n := 480) dX12_letsMinute_5 zl_357 zk_357 zs_357 hi ?_
  refine px_iconst (v := (5 : Int32)) dX12_letsMinute_6 (by decide) ?_
  refine px_icmp_ne (tgt := 58) dX12_letsMinute_7 (by decide) ?_
  by_cases hc : ¬ (gi 357 x1.toNatClampNeg) = (5 : Int32)
  · rw [if_pos hc] at h ⊢
    refine px_aload_n dX12_letsMinute_58 rfl rfl ?_
    refine gf_X12_92 rfl dX12_letsMinute_59 zl_329 zk_329 rfl zr_329_29 zl_357 ?_
    refine px_iload_n dX12_letsMinute_62 rfl rfl ?_
    obtain ⟨hi, h⟩ := h
    refine px_iaload (n := 480) dX12_letsMinute_63 zl_357 zk_357 zs_357 hi ?_
    refine px_iconst (v := (4 : Int32)) dX12_letsMinute_64 (by decide) ?_
    refine px_icmp_ne (tgt := 76) dX12_letsMinute_65 (by decide) ?_
    by_cases hc : ¬ (gi 357 x1.toNatClampNeg) = (4 : Int32)
    · rw [if_pos hc] at h ⊢
      refine px_iconst (v := (1 : Int32)) dX12_letsMinute_76 (by decide) ?_
      exact px_ireturn dX12_letsMinute_77 rfl ⟨.boolean, rfl, rfl, by decide⟩ ⟨rfl, _, rfl, h⟩
    · rw [if_neg hc] at h ⊢
      refine px_aload_n dX12_letsMinute_68 rfl rfl ?_
      refine px_iload_n dX12_letsMinute_69 rfl rfl ?_
      refine px_callV_I (As := [.int x2]) (st := []) dX12_letsMinute_70 lk_X12_389.1 lk_X12_389.2 (b := 329) zl_329 zk_329 (by decide) rfl (by decide) rfl (Nat.le_of_ble_eq_true rfl) rfl rfl (Nat.le_of_ble_eq_true rfl) ⟨Nat.le_refl _, Nat.le_refl _, Nat.le_refl _⟩ ?_
      refine PAt.mono h (fun v κ gi1 gl2 hq => ?_)
      obtain ⟨rfl, r3, rfl, h⟩ := hq
      refine px_if_ne (tgt := 78) dX12_letsMinute_73 (by decide) ?_
      by_cases hc : ¬ r3 = 0
      · rw [if_pos hc] at h ⊢
        refine px_aload_n dX12_letsMinute_78 rfl rfl ?_
        refine px_iload_n dX12_letsMinute_79 rfl rfl ?_
        refine px_iload_n dX12_letsMinute_80 rfl rfl ?_
        refine px_callV_I (As := [.int x2, .int x3]) (st := []) dX12_letsMinute_81 lk_X12_364.1 lk_X12_364.2 (b := 329) zl_329 zk_329 (by decide) rfl (by decide) rfl (Nat.le_of_ble_eq_true rfl) rfl rfl (Nat.le_of_ble_eq_true rfl) ⟨Nat.le_refl _, Nat.le_refl _, Nat.le_refl _⟩ ?_
        refine PAt.mono h (fun v κ gi4 gl5 hq => ?_)
        obtain ⟨rfl, r6, rfl, h⟩ := hq
        refine px_if_eq (tgt := 99) dX12_letsMinute_84 (by decide) ?_
        by_cases hc : r6 = 0
        · rw [if_pos hc] at h ⊢
          refine px_iconst (v := (0 : Int32)) dX12_letsMinute_99 (by decide) ?_
          exact px_ireturn dX12_letsMinute_100 rfl ⟨.boolean, rfl, rfl, by decide⟩ ⟨rfl, _, rfl, h⟩
        · rw [if_neg hc] at h ⊢
          refine px_aload_n dX12_letsMinute_87 rfl rfl ?_
          refine px_iload_n dX12_letsMinute_88 rfl rfl ?_
          refine px_callV_I (As := [.int x1]) (st := []) dX12_letsMinute_89 lk_X12_392.1 lk_X12_392.2 (b := 329) zl_329 zk_329 (by decide) rfl (by decide) rfl (Nat.le_of_ble_eq_true rfl) rfl rfl (Nat.le_of_ble_eq_true rfl) ⟨Nat.le_refl _, Nat.le_refl _, Nat.le_refl _⟩ ?_
          refine PAt.mono h (fun v κ gi7 gl8 hq => ?_)
          obtain ⟨rfl, r9, rfl, h⟩ := hq
          refine px_if_eq (tgt := 99) dX12_letsMinute_92 (by decide) ?_
          by_cases hc : r9 = 0
          · rw [if_pos hc] at h ⊢
            refine px_iconst (v := (0 : Int32)) dX12_letsMinute_99 (by decide) ?_
            exact px_ireturn dX12_letsMinute_100 rfl ⟨.boolean, rfl, rfl, by decide⟩ ⟨rfl, _, rfl, h⟩
          · rw [if_neg hc] at h ⊢
            refine px_iconst (v := (1 : Int32)) dX12_letsMinute_95 (by decide) ?_
            refine px_goto (tgt := 100) dX12_letsMinute_96 (by decide) ?_
            exact px_ireturn dX12_letsMinute_100 rfl ⟨.boolean, rfl, rfl, by decide⟩ ⟨rfl, _, rfl, h⟩
      · rw [if_neg hc] at h ⊢
        refine px_iconst (v := (1 : Int32)) dX12_letsMinute_76 (by decide) ?_
        exact px_ireturn dX12_letsMinute_77 rfl ⟨.boolean, rfl, rfl, by decide⟩ ⟨rfl, _, rfl, h⟩
  · rw [if_neg hc] at h ⊢
    refine px_iconst (v := (4 : Int32)) dX12_letsMinute_10 (by decide) ?_
    refine px_aload_n dX12_letsMinute_11 rfl rfl ?_
    refine gf_X12_312 rfl dX12_letsMinute_12 zl_329 zk_329 ?_
    refine px_imul dX12_letsMinute_15 ?_
    refine px_aload_n dX12_letsMinute_16 rfl rfl ?_
    refine gf_X12_95 rfl dX12_letsMinute_17 zl_329 zk_329 rfl zr_329_30 zl_358 ?_
    refine px_iload_n dX12_letsMinute_20 rfl rfl ?_
    obtain ⟨hi, h⟩ := h
    refine px_iaload (n := 480) dX12_letsMinute_21 zl_358 zk_358 zs_358 hi ?_
    refine px_iadd dX12_letsMinute_22 ?_
    obtain ⟨z10, hz10⟩ : ∃ y : Int32, y = ((4 : Int32) * (gi 329 0)) + (gi 358 x1.toNatClampNeg) := ⟨_, rfl⟩
    have h := h z10 hz10
    refine px_namei hz10 ?_
    refine px_istore (ls2 := [some (.ref 329), some (.int x1), some (.int x2), some (.int x3), some (.int z10)]) dX12_letsMinute_23 (by decide) rfl ?_
    refine px_iload_n dX12_letsMinute_25 rfl rfl ?_
    refine px_aload_n dX12_letsMinute_26 rfl rfl ?_
    refine gf_X12_98 rfl dX12_letsMinute_27 zl_329 zk_329 rfl zr_329_31 zl_359 ?_
    refine px_iload_n dX12_letsMinute_30 rfl rfl ?_
    obtain ⟨hi, h⟩ := h
    refine px_iaload (n := 480) dX12_letsMinute_31 zl_359 zk_359 zs_359 hi ?_
    refine px_aload_n dX12_letsMinute_32 rfl rfl ?_
    refine gf_X12_71 rfl dX12_letsMinute_33 zl_329 zk_329 rfl zr_329_22 zl_350 ?_
    refine px_iload dX12_letsMinute_36 rfl ?_
    obtain ⟨hi, h⟩ := h
    refine px_iaload (n := 8) dX12_letsMinute_38 zl_350 zk_350 zs_350 hi ?_
    refine px_isub dX12_letsMinute_39 ?_
    refine px_aload_n dX12_letsMinute_40 rfl rfl ?_
    refine gf_X12_98 rfl dX12_letsMinute_41 zl_329 zk_329 rfl zr_329_31 zl_359 ?_
    refine px_iload_n dX12_letsMinute_44 rfl rfl ?_
    obtain ⟨hi, h⟩ := h
    refine px_iaload (n := 480) dX12_letsMinute_45 zl_359 zk_359 zs_359 hi ?_
    refine px_aload_n dX12_letsMinute_46 rfl rfl ?_
    refine gf_X12_68 rfl dX12_letsMinute_47 zl_329 zk_329 rfl zr_329_21 zl_349 ?_
    refine px_iload dX12_letsMinute_50 rfl ?_
    obtain ⟨hi, h⟩ := h
    refine px_iaload (n := 8) dX12_letsMinute_52 zl_349 zk_349 zs_349 hi ?_
    refine px_iadd dX12_letsMinute_53 ?_
    refine px_callS_I (As := [.int x3, .int ((gi 359 x1.toNatClampNeg) - (gi 350 z10.toNatClampNeg)), .int ((gi 359 x1.toNatClampNeg) + (gi 349 z10.toNatClampNeg))]) (st := []) dX12_letsMinute_54 lk_X12_189.1 lk_X12_189.2 (by decide) rfl (Nat.le_of_ble_eq_true rfl) rfl rfl (Nat.le_of_ble_eq_true rfl) ⟨Nat.le_refl _, Nat.le_refl _, Nat.le_refl _⟩ ?_
    refine PAt.mono h (fun v κ gi11 gl12 hq => ?_)
    obtain ⟨rfl, r13, rfl, h⟩ := hq
    obtain ⟨hz, h⟩ := h
    exact px_ireturn dX12_letsMinute_57 rfl ⟨.boolean, rfl, rfl, nar01 hz⟩ ⟨rfl, _, rfl, h⟩
def f_X12_lets (x1 : Int32) (x2 : Int32) (x3 : Int32) (x4 : Int32) (gi : Gi) (gl : Gl) (Q : Int32 → Gi → Gl → Prop) : Prop :=
p_X12_isSign x1 x2 gi gl (fun (r3 : Int32) (gi1 : Gi) (gl2 : Gl) =>
if r3 = 0 then
(Q ((-1) : Int32) gi1 gl2)
else
(p_X12_within x3 (0 : Int32) (3599 : Int32) gi1 gl2 (fun (r6 : Int32) (gi4 : Gi) (gl5 : Gl) =>
if r6 = 0 then
(Q ((-1) : Int32) gi4 gl5)
else
(p_X12_within x4 (0 : Int32) (719 : Int32) gi4 gl5 (fun (r9 : Int32) (gi7 : Gi) (gl8 : Gl) =>
if ¬ r9 = 0 then
(∀ z10 : Int32, z10 = ((12 : Int32) * x1) + x2 →
p_X12_letsDay z10 x3 gi7 gl8 (fun (r13 : Int32) (gi11 : Gi) (gl12 : Gl) =>
if r13 = 0 then
(Q (0 : Int32) gi11 gl12)
else
(p_X12_letsMinute z10 ((jr x3 (360 : Int32)) / (30 : Int32)) x4 gi11 gl12 (fun (r16 : Int32) (gi14 : Gi) (gl15 : Gl) =>
if r16 = 0 then
(Q (0 : Int32) gi14 gl15)
else
(Q (1 : Int32) gi14 gl15)))))
else
(Q ((-1) : Int32) gi7 gl8))))))
set_option maxRecDepth 100000 in
theorem v_X12_lets {x1 : Int32} {x2 : Int32} {x3 : Int32} {x4 : Int32} {gi : Gi} {gl : Gl} {Q : Int32 → Gi → Gl → Prop}  (h : f_X12_lets x1 x2 x3 x4 gi gl Q) : p_X12_lets x1 x2 x3 x4 gi gl Q := by
  unfold f_X12_lets at h
  show PAt mX12_lets NN NN κF 0 [some (.ref 329), some (.int x1), some (.int x2), some (.int x3), some (.int x4), none] [] gi gl _
  refine px_aload_n dX12_lets_0 rfl rfl ?_
  refine px_iload_n dX12_lets_1 rfl rfl ?_
  refine px_iload_n dX12_lets_2 rfl rfl ?_
  refine px_callV_I (As := [.int x1, .int x2]) (st := []) dX12_lets_3 lk_X12_351.1 lk_X12_351.2 (b := 329) zl_329 zk_329 (by decide) rfl (by decide) rfl (Nat.le_of_ble_eq_true rfl) rfl rfl (Nat.le_of_ble_eq_true rfl) ⟨Nat.le_refl _, Nat.le_refl _, Nat.le_refl _⟩ ?_
  refine PAt.mono h (fun v κ gi1 gl2 hq => ?_)
  obtain ⟨rfl, r3, rfl, h⟩ := hq
  refine px_if_eq (tgt := 32) dX12_lets_6 (by decide) ?_
  by_cases hc : r3 = 0
  · rw [if_pos hc] at h ⊢
    refine px_iconst (v := ((-1) : Int32)) dX12_lets_32 (by decide) ?_
    exact px_ireturn dX12_lets_33 rfl ⟨.int, rfl, rfl, rfl⟩ ⟨rfl, _, rfl, h⟩
  · rw [if_neg hc] at h ⊢
    refine px_iload_n dX12_lets_9 rfl rfl ?_
    refine px_iconst (v := (0 : Int32)) dX12_lets_10 (by decide) ?_
    refine px_sipush (v := (3599 : Int32)) dX12_lets_11 (by decide) ?_
    refine px_callS_I (As := [.int x3, .int (0 : Int32), .int (3599 : Int32)]) (st := []) dX12_lets_14 lk_X12_189.1 lk_X12_189.2 (by decide) rfl (Nat.le_of_ble_eq_true rfl) rfl rfl (Nat.le_of_ble_eq_true rfl) ⟨Nat.le_refl _, Nat.le_refl _, Nat.le_refl _⟩ ?_
    refine PAt.mono h (fun v κ gi4 gl5 hq => ?_)
    obtain ⟨rfl, r6, rfl, h⟩ := hq
    refine px_if_eq (tgt := 32) dX12_lets_17 (by decide) ?_
    by_cases hc : r6 = 0
    · rw [if_pos hc] at h ⊢
      refine px_iconst (v := ((-1) : Int32)) dX12_lets_32 (by decide) ?_
      exact px_ireturn dX12_lets_33 rfl ⟨.int, rfl, rfl, rfl⟩ ⟨rfl, _, rfl, h⟩
    · rw [if_neg hc] at h ⊢
      refine px_iload dX12_lets_20 rfl ?_
      refine px_iconst (v := (0 : Int32)) dX12_lets_22 (by decide) ?_
      refine px_sipush (v := (719 : Int32)) dX12_lets_23 (by decide) ?_
      refine px_callS_I (As := [.int x4, .int (0 : Int32), .int (719 : Int32)]) (st := []) dX12_lets_26 lk_X12_189.1 lk_X12_189.2 (by decide) rfl (Nat.le_of_ble_eq_true rfl) rfl rfl (Nat.le_of_ble_eq_true rfl) ⟨Nat.le_refl _, Nat.le_refl _, Nat.le_refl _⟩ ?_
      refine PAt.mono h (fun v κ gi7 gl8 hq => ?_)
      obtain ⟨rfl, r9, rfl, h⟩ := hq
      refine px_if_ne (tgt := 34) dX12_lets_29 (by decide) ?_
      by_cases hc : ¬ r9 = 0
      · rw [if_pos hc] at h ⊢
        refine px_bipush (v := (12 : Int32)) dX12_lets_34 (by decide) ?_
        refine px_iload_n dX12_lets_36 rfl rfl ?_
        refine px_imul dX12_lets_37 ?_
        refine px_iload_n dX12_lets_38 rfl rfl ?_
        refine px_iadd dX12_lets_39 ?_
        obtain ⟨z10, hz10⟩ : ∃ y : Int32, y = ((12 : Int32) * x1) + x2 := ⟨_, rfl⟩
        have h := h z10 hz10
        refine px_namei hz10 ?_
        refine px_istore (ls2 := [some (.ref 329), some (.int x1), some (.int x2), some (.int x3), some (.int x4), some (.int z10)]) dX12_lets_40 (by decide) rfl ?_
        refine px_aload_n dX12_lets_42 rfl rfl ?_
        refine px_iload dX12_lets_43 rfl ?_
        refine px_iload_n dX12_lets_45 rfl rfl ?_
        refine px_callV_I (As := [.int z10, .int x3]) (st := []) dX12_lets_46 lk_X12_395.1 lk_X12_395.2 (b := 329) zl_329 zk_329 (by decide) rfl (by decide) rfl (Nat.le_of_ble_eq_true rfl) rfl rfl (Nat.le_of_ble_eq_true rfl) ⟨Nat.le_refl _, Nat.le_refl _, Nat.le_refl _⟩ ?_
        refine PAt.mono h (fun v κ gi11 gl12 hq => ?_)
        obtain ⟨rfl, r13, rfl, h⟩ := hq
        refine px_if_eq (tgt := 75) dX12_lets_49 (by decide) ?_
        by_cases hc : r13 = 0
        · rw [if_pos hc] at h ⊢
          refine px_iconst (v := (0 : Int32)) dX12_lets_75 (by decide) ?_
          exact px_ireturn dX12_lets_76 rfl ⟨.int, rfl, rfl, rfl⟩ ⟨rfl, _, rfl, h⟩
        · rw [if_neg hc] at h ⊢
          refine px_aload_n dX12_lets_52 rfl rfl ?_
          refine px_iload dX12_lets_53 rfl ?_
          refine px_iload_n dX12_lets_55 rfl rfl ?_
          refine px_sipush (v := (360 : Int32)) dX12_lets_56 (by decide) ?_
          refine px_irem dX12_lets_59 (by decide) ?_
          refine px_bipush (v := (30 : Int32)) dX12_lets_60 (by decide) ?_
          refine px_idiv dX12_lets_62 (by decide) ?_
          refine px_iload dX12_lets_63 rfl ?_
          refine px_callV_I (As := [.int z10, .int ((jr x3 (360 : Int32)) / (30 : Int32)), .int x4]) (st := []) dX12_lets_65 lk_X12_398.1 lk_X12_398.2 (b := 329) zl_329 zk_329 (by decide) rfl (by decide) rfl (Nat.le_of_ble_eq_true rfl) rfl rfl (Nat.le_of_ble_eq_true rfl) ⟨Nat.le_refl _, Nat.le_refl _, Nat.le_refl _⟩ ?_
          refine PAt.mono h (fun v κ gi14 gl15 hq => ?_)
          obtain ⟨rfl, r16, rfl, h⟩ := hq
          refine px_if_eq (tgt := 75) dX12_lets_68 (by decide) ?_
          by_cases hc : r16 = 0
          · rw [if_pos hc] at h ⊢
            refine px_iconst (v := (0 : Int32)) dX12_lets_75 (by decide) ?_
            exact px_ireturn dX12_lets_76 rfl ⟨.int, rfl, rfl, rfl⟩ ⟨rfl, _, rfl, h⟩
          · rw [if_neg hc] at h ⊢
            refine px_iconst (v := (1 : Int32)) dX12_lets_71 (by decide) ?_
            refine px_goto (tgt := 76) dX12_lets_72 (by decide) ?_
            exact px_ireturn dX12_lets_76 rfl ⟨.int, rfl, rfl, rfl⟩ ⟨rfl, _, rfl, h⟩
      · rw [if_neg hc] at h ⊢
        refine px_iconst (v := ((-1) : Int32)) dX12_lets_32 (by decide) ?_
        exact px_ireturn dX12_lets_33 rfl ⟨.int, rfl, rfl, rfl⟩ ⟨rfl, _, rfl, h⟩
abbrev p_X12_judge_36 (x1 : Int32) (x2 : Int32) (x3 : Int32) (x4 : Int32) (gi : Gi) (gl : Gl) (Q : Int32 → Gi → Gl → Prop) : Prop := PAt mX12_judge NN NN κF 36 [some (.ref 329), some (.int x1), some (.int x2), some (.int x3), some (.int x4)] [] gi gl (RiQ Q)
def f_X12_judge (x1 : Int32) (x2 : Int32) (x3 : Int32) (gi : Gi) (gl : Gl) (Q : Int32 → Gi → Gl → Prop) : Prop :=
p_X12_isPicture x1 gi gl (fun (r3 : Int32) (gi1 : Gi) (gl2 : Gl) =>
if r3 = 0 then
(Q ((-2) : Int32) gi1 gl2)
else
(p_X12_within x2 (0 : Int32) (3599 : Int32) gi1 gl2 (fun (r6 : Int32) (gi4 : Gi) (gl5 : Gl) =>
if r6 = 0 then
(Q ((-2) : Int32) gi4 gl5)
else
(p_X12_within x3 (0 : Int32) (719 : Int32) gi4 gl5 (fun (r9 : Int32) (gi7 : Gi) (gl8 : Gl) =>
if ¬ r9 = 0 then
(p_X12_judge_36 x1 x2 x3 (0 : Int32) gi7 gl8 Q)
else
(Q ((-2) : Int32) gi7 gl8))))))
def f_X12_judge_36 (x1 : Int32) (x2 : Int32) (x3 : Int32) (x4 : Int32) (gi : Gi) (gl : Gl) (Q : Int32 → Gi → Gl → Prop) : Prop :=
vp_in x1 40 ∧
if (gi 356 x1.toNatClampNeg) ≤ x4 then
(Q ((-1) : Int32) gi gl)
else
(p_X12_lets x1 x4 x2 x3 gi gl (fun (r3 : Int32) (gi1 : Gi) (gl2 : Gl) =>
if ¬ r3 = 0 then
(p_X12_judge_36 x1 x2 x3 (x4 + (1 : Int32)) gi1 gl2 Q)
else
(Q x4 gi1 gl2)))
set_option maxRecDepth 100000 in
theorem v_X12_judge {x1 : Int32} {x2 : Int32} {x3 : Int32} {gi : Gi} {gl : Gl} {Q : Int32 → Gi → Gl → Prop}  (h : f_X12_judge x1 x2 x3 gi gl Q) : p_X12_judge x1 x2 x3 gi gl Q := by
  unfold f_X12_judge at h
  show PAt mX12_judge NN NN κF 0 [some (.ref 329), some (.int x1), some (.int x2), some (.int x3), none] [] gi gl _
  refine px_aload_n dX12_judge_0 rfl rfl ?_
  refine px_iload_n dX12_judge_1 rfl rfl ?_
  refine px_callV_I (As := [.int x1]) (st := []) dX12_judge_2 lk_X12_347.1 lk_X12_347.2 (b := 329) zl_329 zk_329 (by decide) rfl (by decide) rfl (Nat.le_of_ble_eq_true rfl) rfl rfl (Nat.le_of_ble_eq_true rfl) ⟨Nat.le_refl _, Nat.le_refl _, Nat.le_refl _⟩ ?_
  refine PAt.mono h (fun v κ gi1 gl2 hq => ?_)
  obtain ⟨rfl, r3, rfl, h⟩ := hq
  refine px_if_eq (tgt := 30) dX12_judge_5 (by decide) ?_
  by_cases hc : r3 = 0
  · rw [if_pos hc] at h ⊢
    refine px_bipush (v := ((-2) : Int32)) dX12_judge_30 (by decide) ?_
    exact px_ireturn dX12_judge_32 rfl ⟨.int, rfl, rfl, rfl⟩ ⟨rfl, _, rfl, h⟩
  · rw [if_neg hc] at h ⊢
    refine px_iload_n dX12_judge_8 rfl rfl ?_
    refine px_iconst (v := (0 : Int32)) dX12_judge_9 (by decide) ?_
    refine px_sipush (v := (3599 : Int32)) dX12_judge_10 (by decide) ?_
    refine px_callS_I (As := [.int x2, .int (0 : Int32), .int (3599 : Int32)]) (st := []) dX12_judge_13 lk_X12_189.1 lk_X12_189.2 (by decide) rfl (Nat.le_of_ble_eq_true rfl) rfl rfl (Nat.le_of_ble_eq_true rfl) ⟨Nat.le_refl _, Nat.le_refl _, Nat.le_refl _⟩ ?_
    refine PAt.mono h (fun v κ gi4 gl5 hq => ?_)
    obtain ⟨rfl, r6, rfl, h⟩ := hq
    refine px_if_eq (tgt := 30) dX12_judge_16 (by decide) ?_
    by_cases hc : r6 = 0
    · rw [if_pos hc] at h ⊢
      refine px_bipush (v := ((-2) : Int32)) dX12_judge_30 (by decide) ?_
      exact px_ireturn dX12_judge_32 rfl ⟨.int, rfl, rfl, rfl⟩ ⟨rfl, _, rfl, h⟩
    · rw [if_neg hc] at h ⊢
      refine px_iload_n dX12_judge_19 rfl rfl ?_
      refine px_iconst (v := (0 : Int32)) dX12_judge_20 (by decide) ?_
      refine px_sipush (v := (719 : Int32)) dX12_judge_21 (by decide) ?_
      refine px_callS_I (As := [.int x3, .int (0 : Int32), .int (719 : Int32)]) (st := []) dX12_judge_24 lk_X12_189.1 lk_X12_189.2 (by decide) rfl (Nat.le_of_ble_eq_true rfl) rfl rfl (Nat.le_of_ble_eq_true rfl) ⟨Nat.le_refl _, Nat.le_refl _, Nat.le_refl _⟩ ?_
      refine PAt.mono h (fun v κ gi7 gl8 hq => ?_)
      obtain ⟨rfl, r9, rfl, h⟩ := hq
      refine px_if_ne (tgt := 33) dX12_judge_27 (by decide) ?_
      by_cases hc : ¬ r9 = 0
      · rw [if_pos hc] at h ⊢
        refine px_iconst (v := (0 : Int32)) dX12_judge_33 (by decide) ?_
        refine px_istore (ls2 := [some (.ref 329), some (.int x1), some (.int x2), some (.int x3), some (.int (0 : Int32))]) dX12_judge_34 (by decide) rfl ?_
        exact PAt.forget h (lsub_at ⟨rfl, ⟨rfl, ⟨rfl, ⟨rfl, ⟨rfl, trivial⟩⟩⟩⟩⟩)
      · rw [if_neg hc] at h ⊢
        refine px_bipush (v := ((-2) : Int32)) dX12_judge_30 (by decide) ?_
        exact px_ireturn dX12_judge_32 rfl ⟨.int, rfl, rfl, rfl⟩ ⟨rfl, _, rfl, h⟩
set_option maxRecDepth 100000 in
theorem v_X12_judge_36 {x1 : Int32} {x2 : Int32} {x3 : Int32} {x4 : Int32} {gi : Gi} {gl : Gl} {Q : Int32 → Gi → Gl → Prop}  (h : f_X12_judge_36 x1 x2 x3 x4 gi gl Q) : p_X12_judge_36 x1 x2 x3 x4 gi gl Q := by
  unfold f_X12_judge_36 at h
  show PAt mX12_judge NN NN κF 36 [some (.ref 329), some (.int x1), some (.int x2), some (.int x3), some (.int x4)] [] gi gl _
  refine px_iload dX12_judge_36 rfl ?_
  refine px_aload_n dX12_judge_38 rfl rfl ?_
  refine gf_X12_89 rfl dX12_judge_39 zl_329 zk_329 rfl zr_329_28 zl_356 ?_
  refine px_iload_n dX12_judge_42 rfl rfl ?_
  obtain ⟨hi, h⟩ := h
  refine px_iaload (n := 40) dX12_judge_43 zl_356 zk_356 zs_356 hi ?_
  refine px_icmp_ge (tgt := 68) dX12_judge_44 (by decide) ?_
  by_cases hc : (gi 356 x1.toNatClampNeg) ≤ x4
  · rw [if_pos hc] at h ⊢
    refine px_iconst (v := ((-1) : Int32)) dX12_judge_68 (by decide) ?_
    exact px_ireturn dX12_judge_69 rfl ⟨.int, rfl, rfl, rfl⟩ ⟨rfl, _, rfl, h⟩
  · rw [if_neg hc] at h ⊢
    refine px_aload_n dX12_judge_47 rfl rfl ?_
    refine px_iload_n dX12_judge_48 rfl rfl ?_
    refine px_iload dX12_judge_49 rfl ?_
    refine px_iload_n dX12_judge_51 rfl rfl ?_
    refine px_iload_n dX12_judge_52 rfl rfl ?_
    refine px_callV_I (As := [.int x1, .int x4, .int x2, .int x3]) (st := []) dX12_judge_53 lk_X12_401.1 lk_X12_401.2 (b := 329) zl_329 zk_329 (by decide) rfl (by decide) rfl (Nat.le_of_ble_eq_true rfl) rfl rfl (Nat.le_of_ble_eq_true rfl) ⟨Nat.le_refl _, Nat.le_refl _, Nat.le_refl _⟩ ?_
    refine PAt.mono h (fun v κ gi1 gl2 hq => ?_)
    obtain ⟨rfl, r3, rfl, h⟩ := hq
    refine px_if_ne (tgt := 62) dX12_judge_56 (by decide) ?_
    by_cases hc : ¬ r3 = 0
    · rw [if_pos hc] at h ⊢
      refine px_iinc (v := x4 + (1 : Int32)) (ls2 := [some (.ref 329), some (.int x1), some (.int x2), some (.int x3), some (.int (x4 + (1 : Int32)))]) dX12_judge_62 rfl rfl (by decide) rfl ?_
      refine px_goto (tgt := 36) dX12_judge_65 (by decide) ?_
      exact PAt.forget h (lsub_at ⟨rfl, ⟨rfl, ⟨rfl, ⟨rfl, ⟨rfl, trivial⟩⟩⟩⟩⟩)
    · rw [if_neg hc] at h ⊢
      refine px_iload dX12_judge_59 rfl ?_
      exact px_ireturn dX12_judge_61 rfl ⟨.int, rfl, rfl, rfl⟩ ⟨rfl, _, rfl, h⟩
abbrev p_X12_findDays_2 (x1 : Int32) (x2 : Int32) (gi : Gi) (gl : Gl) (Q : Gi → Gl → Prop) : Prop := PAt mX12_findDays NN NN κF 2 [some (.ref 329), some (.int x1), some (.int x2), none, none] [] gi gl (RvQ Q)
abbrev p_X12_findDays_17 (x1 : Int32) (x2 : Int32) (x3 : Int32) (x4 : Int32) (gi : Gi) (gl : Gl) (Q : Gi → Gl → Prop) : Prop := PAt mX12_findDays NN NN κF 17 [some (.ref 329), some (.int x1), some (.int x2), some (.int x3), some (.int x4)] [] gi gl (RvQ Q)
def f_X12_findDays (x1 : Int32) (gi : Gi) (gl : Gl) (Q : Gi → Gl → Prop) : Prop :=
p_X12_findDays_2 x1 (0 : Int32) gi gl Q
def f_X12_findDays_2 (x1 : Int32) (x2 : Int32) (gi : Gi) (gl : Gl) (Q : Gi → Gl → Prop) : Prop :=
if (3600 : Int32) ≤ x2 then
(Q gi gl)
else
(∀ z1 : Int32, z1 = (12 : Int32) * x1 →
p_X12_findDays_17 x1 x2 (1 : Int32) z1 gi gl Q)
def f_X12_findDays_17 (x1 : Int32) (x2 : Int32) (x3 : Int32) (x4 : Int32) (gi : Gi) (gl : Gl) (Q : Gi → Gl → Prop) : Prop :=
vp_in x1 40 ∧
if (((12 : Int32) * x1) + (gi 356 x1.toNatClampNeg)) ≤ x4 then
(vp_in x2 3600 ∧
∀ gi1 : Gi, gi1 = uI gi 364 (upd (gi 364) x2.toNatClampNeg (vp_nar .boolean x3)) →
p_X12_findDays_2 x1 (x2 + (1 : Int32)) gi1 gl Q)
else
(if x3 = 0 then
(vp_in x2 3600 ∧
∀ gi2 : Gi, gi2 = uI gi 364 (upd (gi 364) x2.toNatClampNeg (vp_nar .boolean x3)) →
p_X12_findDays_2 x1 (x2 + (1 : Int32)) gi2 gl Q)
else
(p_X12_letsDay x4 x2 gi gl (fun (r5 : Int32) (gi3 : Gi) (gl4 : Gl) =>
p_X12_findDays_17 x1 x2 r5 (x4 + (1 : Int32)) gi3 gl4 Q)))
set_option maxRecDepth 100000 in
theorem v_X12_findDays {x1 : Int32} {gi : Gi} {gl : Gl} {Q : Gi → Gl → Prop}  (h : f_X12_findDays x1 gi gl Q) : p_X12_findDays x1 gi gl Q := by
  unfold f_X12_findDays at h
  show PAt mX12_findDays NN NN κF 0 [some (.ref 329), some (.int x1), none, none, none] [] gi gl _
  refine px_iconst (v := (0 : Int32)) dX12_findDays_0 (by decide) ?_
  refine px_istore_n (ls2 := [some (.ref 329), some (.int x1), some (.int (0 : Int32)), none, none]) (i := 2) rfl dX12_findDays_1 (by decide) rfl ?_
  exact PAt.forget h (lsub_at ⟨rfl, ⟨rfl, ⟨rfl, trivial⟩⟩⟩)
set_option maxRecDepth 100000 in
theorem v_X12_findDays_2 {x1 : Int32} {x2 : Int32} {gi : Gi} {gl : Gl} {Q : Gi → Gl → Prop}  (h : f_X12_findDays_2 x1 x2 gi gl Q) : p_X12_findDays_2 x1 x2 gi gl Q := by
  unfold f_X12_findDays_2 at h
  show PAt mX12_findDays NN NN κF 2 [some (.ref 329), some (.int x1), some (.int x2), none, none] [] gi gl _
  refine px_iload_n dX12_findDays_2 rfl rfl ?_
  refine px_sipush (v := (3600 : Int32)) dX12_findDays_3 (by decide) ?_
  refine px_icmp_ge (tgt := 64) dX12_findDays_6 (by decide) ?_
  by_cases hc : (3600 : Int32) ≤ x2
  · rw [if_pos hc] at h ⊢
    exact px_return dX12_findDays_64 rfl rfl ⟨rfl, rfl, h⟩
  · rw [if_neg hc] at h ⊢
    refine px_iconst (v := (1 : Int32)) dX12_findDays_9 (by decide) ?_
    refine px_istore_n (ls2 := [some (.ref 329), some (.int x1), some (.int x2), some (.int (1 : Int32)), none]) (i := 3) rfl dX12_findDays_10 (by decide) rfl ?_
    refine px_bipush (v := (12 : Int32)) dX12_findDays_11 (by decide) ?_
    refine px_iload_n dX12_findDays_13 rfl rfl ?_
    refine px_imul dX12_findDays_14 ?_
    obtain ⟨z1, hz1⟩ : ∃ y : Int32, y = (12 : Int32) * x1 := ⟨_, rfl⟩
    have h := h z1 hz1
    refine px_namei hz1 ?_
    refine px_istore (ls2 := [some (.ref 329), some (.int x1), some (.int x2), some (.int (1 : Int32)), some (.int z1)]) dX12_findDays_15 (by decide) rfl ?_
    exact PAt.forget h (lsub_at ⟨rfl, ⟨rfl, ⟨rfl, ⟨rfl, ⟨rfl, trivial⟩⟩⟩⟩⟩)
set_option maxRecDepth 100000 in
theorem v_X12_findDays_17 {x1 : Int32} {x2 : Int32} {x3 : Int32} {x4 : Int32} {gi : Gi} {gl : Gl} {Q : Gi → Gl → Prop}  (h : f_X12_findDays_17 x1 x2 x3 x4 gi gl Q) : p_X12_findDays_17 x1 x2 x3 x4 gi gl Q := by
  unfold f_X12_findDays_17 at h
  show PAt mX12_findDays NN NN κF 17 [some (.ref 329), some (.int x1), some (.int x2), some (.int x3), some (.int x4)] [] gi gl _
  refine px_iload dX12_findDays_17 rfl ?_
  refine px_bipush (v := (12 : Int32)) dX12_findDays_19 (by decide) ?_
  refine px_iload_n dX12_findDays_21 rfl rfl ?_
  refine px_imul dX12_findDays_22 ?_
  refine px_aload_n dX12_findDays_23 rfl rfl ?_
  refine gf_X12_89 rfl dX12_findDays_24 zl_329 zk_329 rfl zr_329_28 zl_356 ?_
  refine px_iload_n dX12_findDays_27 rfl rfl ?_
  obtain ⟨hi, h⟩ := h
  refine px_iaload (n := 40) dX12_findDays_28 zl_356 zk_356 zs_356 hi ?_
  refine px_iadd dX12_findDays_29 ?_
  refine px_icmp_ge (tgt := 51) dX12_findDays_30 (by decide) ?_
  by_cases hc : (((12 : Int32) * x1) + (gi 356 x1.toNatClampNeg)) ≤ x4
  · rw [if_pos hc] at h ⊢
    refine px_aload_n dX12_findDays_51 rfl rfl ?_
    refine gf_X12_121 rfl dX12_findDays_52 zl_329 zk_329 rfl zr_329_52 zl_364 ?_
    refine px_iload_n dX12_findDays_55 rfl rfl ?_
    refine px_iload_n dX12_findDays_56 rfl rfl ?_
    obtain ⟨hi, h⟩ := h
    refine px_zastore (n := 3600) dX12_findDays_57 zl_364 zk_364 zs_364 hi ?_
    obtain ⟨gi1, hgi1⟩ : ∃ y : Gi, y = uI gi 364 (upd (gi 364) x2.toNatClampNeg (vp_nar .boolean x3)) := ⟨_, rfl⟩
    have h := h gi1 hgi1
    refine px_namegi hgi1 ?_
    refine px_iinc (v := x2 + (1 : Int32)) (ls2 := [some (.ref 329), some (.int x1), some (.int (x2 + (1 : Int32))), some (.int x3), some (.int x4)]) dX12_findDays_58 rfl rfl (by decide) rfl ?_
    refine px_goto (tgt := 2) dX12_findDays_61 (by decide) ?_
    exact PAt.forget h (lsub_at ⟨rfl, ⟨rfl, ⟨rfl, trivial⟩⟩⟩)
  · rw [if_neg hc] at h ⊢
    refine px_iload_n dX12_findDays_33 rfl rfl ?_
    refine px_if_eq (tgt := 51) dX12_findDays_34 (by decide) ?_
    by_cases hc : x3 = 0
    · rw [if_pos hc] at h ⊢
      refine px_aload_n dX12_findDays_51 rfl rfl ?_
      refine gf_X12_121 rfl dX12_findDays_52 zl_329 zk_329 rfl zr_329_52 zl_364 ?_
      refine px_iload_n dX12_findDays_55 rfl rfl ?_
      refine px_iload_n dX12_findDays_56 rfl rfl ?_
      obtain ⟨hi, h⟩ := h
      refine px_zastore (n := 3600) dX12_findDays_57 zl_364 zk_364 zs_364 hi ?_
      obtain ⟨gi2, hgi2⟩ : ∃ y : Gi, y = uI gi 364 (upd (gi 364) x2.toNatClampNeg (vp_nar .boolean x3)) := ⟨_, rfl⟩
      have h := h gi2 hgi2
      refine px_namegi hgi2 ?_
      refine px_iinc (v := x2 + (1 : Int32)) (ls2 := [some (.ref 329), some (.int x1), some (.int (x2 + (1 : Int32))), some (.int x3), some (.int x4)]) dX12_findDays_58 rfl rfl (by decide) rfl ?_
      refine px_goto (tgt := 2) dX12_findDays_61 (by decide) ?_
      exact PAt.forget h (lsub_at ⟨rfl, ⟨rfl, ⟨rfl, trivial⟩⟩⟩)
    · rw [if_neg hc] at h ⊢
      refine px_aload_n dX12_findDays_37 rfl rfl ?_
      refine px_iload dX12_findDays_38 rfl ?_
      refine px_iload_n dX12_findDays_40 rfl rfl ?_
      refine px_callV_I (As := [.int x4, .int x2]) (st := []) dX12_findDays_41 lk_X12_395.1 lk_X12_395.2 (b := 329) zl_329 zk_329 (by decide) rfl (by decide) rfl (Nat.le_of_ble_eq_true rfl) rfl rfl (Nat.le_of_ble_eq_true rfl) ⟨Nat.le_refl _, Nat.le_refl _, Nat.le_refl _⟩ ?_
      refine PAt.mono h (fun v κ gi3 gl4 hq => ?_)
      obtain ⟨rfl, r5, rfl, h⟩ := hq
      refine px_istore_n (ls2 := [some (.ref 329), some (.int x1), some (.int x2), some (.int r5), some (.int x4)]) (i := 3) rfl dX12_findDays_44 (by decide) rfl ?_
      refine px_iinc (v := x4 + (1 : Int32)) (ls2 := [some (.ref 329), some (.int x1), some (.int x2), some (.int r5), some (.int (x4 + (1 : Int32)))]) dX12_findDays_45 rfl rfl (by decide) rfl ?_
      refine px_goto (tgt := 17) dX12_findDays_48 (by decide) ?_
      exact PAt.forget h (lsub_at ⟨rfl, ⟨rfl, ⟨rfl, ⟨rfl, ⟨rfl, trivial⟩⟩⟩⟩⟩)
abbrev p_X12_findMinutes_2 (x1 : Int32) (x2 : Int32) (gi : Gi) (gl : Gl) (Q : Gi → Gl → Prop) : Prop := PAt mX12_findMinutes NN NN κF 2 [some (.ref 329), some (.int x1), some (.int x2), none, none, none] [] gi gl (RvQ Q)
abbrev p_X12_findMinutes_17 (x1 : Int32) (x2 : Int32) (x3 : Int32) (gi : Gi) (gl : Gl) (Q : Gi → Gl → Prop) : Prop := PAt mX12_findMinutes NN NN κF 17 [some (.ref 329), some (.int x1), some (.int x2), some (.int x3), none, none] [] gi gl (RvQ Q)
abbrev p_X12_findMinutes_33 (x1 : Int32) (x2 : Int32) (x3 : Int32) (x4 : Int32) (x5 : Int32) (gi : Gi) (gl : Gl) (Q : Gi → Gl → Prop) : Prop := PAt mX12_findMinutes NN NN κF 33 [some (.ref 329), some (.int x1), some (.int x2), some (.int x3), some (.int x4), some (.int x5)] [] gi gl (RvQ Q)
abbrev p_X12_findMinutes_70 (x1 : Int32) (x2 : Int32) (x3 : Int32) (x4 : Int32) (gi : Gi) (gl : Gl) (Q : Gi → Gl → Prop) : Prop := PAt mX12_findMinutes NN NN κF 70 [some (.ref 329), some (.int x1), some (.int x2), some (.int x3), some (.int x4), none] [] gi gl (RvQ Q)
def f_X12_findMinutes (x1 : Int32) (gi : Gi) (gl : Gl) (Q : Gi → Gl → Prop) : Prop :=
p_X12_findMinutes_2 x1 (0 : Int32) gi gl Q
def f_X12_findMinutes_2 (x1 : Int32) (x2 : Int32) (gi : Gi) (gl : Gl) (Q : Gi → Gl → Prop) : Prop :=
if (12 : Int32) ≤ x2 then
(Q gi gl)
else
(vp_in x2 12 ∧
∀ gi1 : Gi, gi1 = uI gi 366 (upd (gi 366) x2.toNatClampNeg (0 : Int32)) →
p_X12_findMinutes_17 x1 x2 (0 : Int32) gi1 gl Q)
def f_X12_findMinutes_17 (x1 : Int32) (x2 : Int32) (x3 : Int32) (gi : Gi) (gl : Gl) (Q : Gi → Gl → Prop) : Prop :=
if (720 : Int32) ≤ x3 then
(p_X12_findMinutes_2 x1 (x2 + (1 : Int32)) gi gl Q)
else
(∀ z1 : Int32, z1 = (12 : Int32) * x1 →
p_X12_findMinutes_33 x1 x2 x3 (1 : Int32) z1 gi gl Q)
def f_X12_findMinutes_33 (x1 : Int32) (x2 : Int32) (x3 : Int32) (x4 : Int32) (x5 : Int32) (gi : Gi) (gl : Gl) (Q : Gi → Gl → Prop) : Prop :=
vp_in x1 40 ∧
if (((12 : Int32) * x1) + (gi 356 x1.toNatClampNeg)) ≤ x5 then
(p_X12_findMinutes_70 x1 x2 x3 x4 gi gl Q)
else
(if x4 = 0 then
(p_X12_findMinutes_70 x1 x2 x3 x4 gi gl Q)
else
(p_X12_letsMinute x5 x2 x3 gi gl (fun (r3 : Int32) (gi1 : Gi) (gl2 : Gl) =>
p_X12_findMinutes_33 x1 x2 x3 r3 (x5 + (1 : Int32)) gi1 gl2 Q)))
def f_X12_findMinutes_70 (x1 : Int32) (x2 : Int32) (x3 : Int32) (x4 : Int32) (gi : Gi) (gl : Gl) (Q : Gi → Gl → Prop) : Prop :=
vp_in (((720 : Int32) * x2) + x3) 8640 ∧
∀ gi1 : Gi, gi1 = uI gi 365 (upd (gi 365) (((720 : Int32) * x2) + x3).toNatClampNeg (vp_nar .boolean x4)) →
vp_in x2 12 ∧
if x4 = 0 then
(vp_in x2 12 ∧
∀ gi2 : Gi, gi2 = uI gi1 366 (upd (gi1 366) x2.toNatClampNeg ((gi1 366 x2.toNatClampNeg) + (0 : Int32))) →
p_X12_findMinutes_17 x1 x2 (x3 + (1 : Int32)) gi2 gl Q)
else
(vp_in x2 12 ∧
∀ gi3 : Gi, gi3 = uI gi1 366 (upd (gi1 366) x2.toNatClampNeg ((gi1 366 x2.toNatClampNeg) + (1 : Int32))) →
p_X12_findMinutes_17 x1 x2 (x3 + (1 : Int32)) gi3 gl Q)
set_option maxRecDepth 100000 in
theorem v_X12_findMinutes {x1 : Int32} {gi : Gi} {gl : Gl} {Q : Gi → Gl → Prop}  (h : f_X12_findMinutes x1 gi gl Q) : p_X12_findMinutes x1 gi gl Q := by
  unfold f_X12_findMinutes at h
  show PAt mX12_findMinutes NN NN κF 0 [some (.ref 329), some (.int x1), none, none, none, none] [] gi gl _
  refine px_iconst (v := (0 : Int32)) dX12_findMinutes_0 (by decide) ?_
  refine px_istore_n (ls2 := [some (.ref 329), some (.int x1), some (.int (0 : Int32)), none, none, none]) (i := 2) rfl dX12_findMinutes_1 (by decide) rfl ?_
  exact PAt.forget h (lsub_at ⟨rfl, ⟨rfl, ⟨rfl, trivial⟩⟩⟩)
set_option maxRecDepth 100000 in
theorem v_X12_findMinutes_2 {x1 : Int32} {x2 : Int32} {gi : Gi} {gl : Gl} {Q : Gi → Gl → Prop}  (h : f_X12_findMinutes_2 x1 x2 gi gl Q) : p_X12_findMinutes_2 x1 x2 gi gl Q := by
  unfold f_X12_findMinutes_2 at h
  show PAt mX12_findMinutes NN NN κF 2 [some (.ref 329), some (.int x1), some (.int x2), none, none, none] [] gi gl _
  refine px_iload_n dX12_findMinutes_2 rfl rfl ?_
  refine px_bipush (v := (12 : Int32)) dX12_findMinutes_3 (by decide) ?_
  refine px_icmp_ge (tgt := 115) dX12_findMinutes_5 (by decide) ?_
  by_cases hc : (12 : Int32) ≤ x2
  · rw [if_pos hc] at h ⊢
    exact px_return dX12_findMinutes_115 rfl rfl ⟨rfl, rfl, h⟩
  · rw [if_neg hc] at h ⊢
    refine px_aload_n dX12_findMinutes_8 rfl rfl ?_
    refine gf_X12_128 rfl dX12_findMinutes_9 zl_329 zk_329 rfl zr_329_54 zl_366 ?_
    refine px_iload_n dX12_findMinutes_12 rfl rfl ?_
    refine px_iconst (v := (0 : Int32)) dX12_findMinutes_13 (by decide) ?_
    obtain ⟨hi, h⟩ := h
    refine px_iastore (n := 12) dX12_findMinutes_14 zl_366 zk_366 zs_366 hi ?_
    obtain ⟨gi1, hgi1⟩ : ∃ y : Gi, y = uI gi 366 (upd (gi 366) x2.toNatClampNeg (0 : Int32)) := ⟨_, rfl⟩
    have h := h gi1 hgi1
    refine px_namegi hgi1 ?_
    refine px_iconst (v := (0 : Int32)) dX12_findMinutes_15 (by decide) ?_
    refine px_istore_n (ls2 := [some (.ref 329), some (.int x1), some (.int x2), some (.int (0 : Int32)), none, none]) (i := 3) rfl dX12_findMinutes_16 (by decide) rfl ?_
    exact PAt.forget h (lsub_at ⟨rfl, ⟨rfl, ⟨rfl, ⟨rfl, trivial⟩⟩⟩⟩)
set_option maxRecDepth 100000 in
theorem v_X12_findMinutes_17 {x1 : Int32} {x2 : Int32} {x3 : Int32} {gi : Gi} {gl : Gl} {Q : Gi → Gl → Prop}  (h : f_X12_findMinutes_17 x1 x2 x3 gi gl Q) : p_X12_findMinutes_17 x1 x2 x3 gi gl Q := by
  unfold f_X12_findMinutes_17 at h
  show PAt mX12_findMinutes NN NN κF 17 [some (.ref 329), some (.int x1), some (.int x2), some (.int x3), none, none] [] gi gl _
  refine px_iload_n dX12_findMinutes_17 rfl rfl ?_
  refine px_sipush (v := (720 : Int32)) dX12_findMinutes_18 (by decide) ?_
  refine px_icmp_ge (tgt := 109) dX12_findMinutes_21 (by decide) ?_
  by_cases hc : (720 : Int32) ≤ x3
  · rw [if_pos hc] at h ⊢
    refine px_iinc (v := x2 + (1 : Int32)) (ls2 := [some (.ref 329), some (.int x1), some (.int (x2 + (1 : Int32))), some (.int x3), none, none]) dX12_findMinutes_109 rfl rfl (by decide) rfl ?_
    refine px_goto (tgt := 2) dX12_findMinutes_112 (by decide) ?_
    exact PAt.forget h (lsub_at ⟨rfl, ⟨rfl, ⟨rfl, trivial⟩⟩⟩)
  · rw [if_neg hc] at h ⊢
    refine px_iconst (v := (1 : Int32)) dX12_findMinutes_24 (by decide) ?_
    refine px_istore (ls2 := [some (.ref 329), some (.int x1), some (.int x2), some (.int x3), some (.int (1 : Int32)), none]) dX12_findMinutes_25 (by decide) rfl ?_
    refine px_bipush (v := (12 : Int32)) dX12_findMinutes_27 (by decide) ?_
    refine px_iload_n dX12_findMinutes_29 rfl rfl ?_
    refine px_imul dX12_findMinutes_30 ?_
    obtain ⟨z1, hz1⟩ : ∃ y : Int32, y = (12 : Int32) * x1 := ⟨_, rfl⟩
    have h := h z1 hz1
    refine px_namei hz1 ?_
    refine px_istore (ls2 := [some (.ref 329), some (.int x1), some (.int x2), some (.int x3), some (.int (1 : Int32)), some (.int z1)]) dX12_findMinutes_31 (by decide) rfl ?_
    exact PAt.forget h (lsub_at ⟨rfl, ⟨rfl, ⟨rfl, ⟨rfl, ⟨rfl, ⟨rfl, trivial⟩⟩⟩⟩⟩⟩)
set_option maxRecDepth 100000 in
theorem v_X12_findMinutes_33 {x1 : Int32} {x2 : Int32} {x3 : Int32} {x4 : Int32} {x5 : Int32} {gi : Gi} {gl : Gl} {Q : Gi → Gl → Prop}  (h : f_X12_findMinutes_33 x1 x2 x3 x4 x5 gi gl Q) : p_X12_findMinutes_33 x1 x2 x3 x4 x5 gi gl Q := by
  unfold f_X12_findMinutes_33 at h
  show PAt mX12_findMinutes NN NN κF 33 [some (.ref 329), some (.int x1), some (.int x2), some (.int x3), some (.int x4), some (.int x5)] [] gi gl _
  refine px_iload dX12_findMinutes_33 rfl ?_
  refine px_bipush (v := (12 : Int32)) dX12_findMinutes_35 (by decide) ?_
  refine px_iload_n dX12_findMinutes_37 rfl rfl ?_
  refine px_imul dX12_findMinutes_38 ?_
  refine px_aload_n dX12_findMinutes_39 rfl rfl ?_
  refine gf_X12_89 rfl dX12_findMinutes_40 zl_329 zk_329 rfl zr_329_28 zl_356 ?_
  refine px_iload_n dX12_findMinutes_43 rfl rfl ?_
  obtain ⟨hi, h⟩ := h
  refine px_iaload (n := 40) dX12_findMinutes_44 zl_356 zk_356 zs_356 hi ?_
  refine px_iadd dX12_findMinutes_45 ?_
  refine px_icmp_ge (tgt := 70) dX12_findMinutes_46 (by decide) ?_
  by_cases hc : (((12 : Int32) * x1) + (gi 356 x1.toNatClampNeg)) ≤ x5
  · rw [if_pos hc] at h ⊢
    exact PAt.forget h (lsub_at ⟨rfl, ⟨rfl, ⟨rfl, ⟨rfl, ⟨rfl, trivial⟩⟩⟩⟩⟩)
  · rw [if_neg hc] at h ⊢
    refine px_iload dX12_findMinutes_49 rfl ?_
    refine px_if_eq (tgt := 70) dX12_findMinutes_51 (by decide) ?_
    by_cases hc : x4 = 0
    · rw [if_pos hc] at h ⊢
      exact PAt.forget h (lsub_at ⟨rfl, ⟨rfl, ⟨rfl, ⟨rfl, ⟨rfl, trivial⟩⟩⟩⟩⟩)
    · rw [if_neg hc] at h ⊢
      refine px_aload_n dX12_findMinutes_54 rfl rfl ?_
      refine px_iload dX12_findMinutes_55 rfl ?_
      refine px_iload_n dX12_findMinutes_57 rfl rfl ?_
      refine px_iload_n dX12_findMinutes_58 rfl rfl ?_
      refine px_callV_I (As := [.int x5, .int x2, .int x3]) (st := []) dX12_findMinutes_59 lk_X12_398.1 lk_X12_398.2 (b := 329) zl_329 zk_329 (by decide) rfl (by decide) rfl (Nat.le_of_ble_eq_true rfl) rfl rfl (Nat.le_of_ble_eq_true rfl) ⟨Nat.le_refl _, Nat.le_refl _, Nat.le_refl _⟩ ?_
      refine PAt.mono h (fun v κ gi1 gl2 hq => ?_)
      obtain ⟨rfl, r3, rfl, h⟩ := hq
      refine px_istore (ls2 := [some (.ref 329), some (.int x1), some (.int x2), some (.int x3), some (.int r3), some (.int x5)]) dX12_findMinutes_62 (by decide) rfl ?_
      refine px_iinc (v := x5 + (1 : Int32)) (ls2 := [some (.ref 329), some (.int x1), some (.int x2), some (.int x3), some (.int r3), some (.int (x5 + (1 : Int32)))]) dX12_findMinutes_64 rfl rfl (by decide) rfl ?_
      refine px_goto (tgt := 33) dX12_findMinutes_67 (by decide) ?_
      exact PAt.forget h (lsub_at ⟨rfl, ⟨rfl, ⟨rfl, ⟨rfl, ⟨rfl, ⟨rfl, trivial⟩⟩⟩⟩⟩⟩)
set_option maxRecDepth 100000 in
theorem v_X12_findMinutes_70 {x1 : Int32} {x2 : Int32} {x3 : Int32} {x4 : Int32} {gi : Gi} {gl : Gl} {Q : Gi → Gl → Prop}  (h : f_X12_findMinutes_70 x1 x2 x3 x4 gi gl Q) : p_X12_findMinutes_70 x1 x2 x3 x4 gi gl Q := by
  unfold f_X12_findMinutes_70 at h
  show PAt mX12_findMinutes NN NN κF 70 [some (.ref 329), some (.int x1), some (.int x2), some (.int x3), some (.int x4), none] [] gi gl _
  refine px_aload_n dX12_findMinutes_70 rfl rfl ?_
  refine gf_X12_125 rfl dX12_findMinutes_71 zl_329 zk_329 rfl zr_329_53 zl_365 ?_
  refine px_sipush (v := (720 : Int32)) dX12_findMinutes_74 (by decide) ?_
  refine px_iload_n dX12_findMinutes_77 rfl rfl ?_
  refine px_imul dX12_findMinutes_78 ?_
  refine px_iload_n dX12_findMinutes_79 rfl rfl ?_
  refine px_iadd dX12_findMinutes_80 ?_
  refine px_iload dX12_findMinutes_81 rfl ?_
  obtain ⟨hi, h⟩ := h
  refine px_zastore (n := 8640) dX12_findMinutes_83 zl_365 zk_365 zs_365 hi ?_
  obtain ⟨gi1, hgi1⟩ : ∃ y : Gi, y = uI gi 365 (upd (gi 365) (((720 : Int32) * x2) + x3).toNatClampNeg (vp_nar .boolean x4)) := ⟨_, rfl⟩
  have h := h gi1 hgi1
  refine px_namegi hgi1 ?_
  refine px_aload_n dX12_findMinutes_84 rfl rfl ?_
  refine gf_X12_128 rfl dX12_findMinutes_85 zl_329 zk_329 rfl zr_329_54 zl_366 ?_
  refine px_iload_n dX12_findMinutes_88 rfl rfl ?_
  refine px_dup2 dX12_findMinutes_89 rfl rfl ?_
  obtain ⟨hi, h⟩ := h
  refine px_iaload (n := 12) dX12_findMinutes_90 zl_366 zk_366 zs_366 hi ?_
  refine px_iload dX12_findMinutes_91 rfl ?_
  refine px_if_eq (tgt := 100) dX12_findMinutes_93 (by decide) ?_
  by_cases hc : x4 = 0
  · rw [if_pos hc] at h ⊢
    refine px_iconst (v := (0 : Int32)) dX12_findMinutes_100 (by decide) ?_
    refine px_iadd dX12_findMinutes_101 ?_
    obtain ⟨hi, h⟩ := h
    refine px_iastore (n := 12) dX12_findMinutes_102 zl_366 zk_366 zs_366 hi ?_
    obtain ⟨gi2, hgi2⟩ : ∃ y : Gi, y = uI gi1 366 (upd (gi1 366) x2.toNatClampNeg ((gi1 366 x2.toNatClampNeg) + (0 : Int32))) := ⟨_, rfl⟩
    have h := h gi2 hgi2
    refine px_namegi hgi2 ?_
    refine px_iinc (v := x3 + (1 : Int32)) (ls2 := [some (.ref 329), some (.int x1), some (.int x2), some (.int (x3 + (1 : Int32))), some (.int x4), none]) dX12_findMinutes_103 rfl rfl (by decide) rfl ?_
    refine px_goto (tgt := 17) dX12_findMinutes_106 (by decide) ?_
    exact PAt.forget h (lsub_at ⟨rfl, ⟨rfl, ⟨rfl, ⟨rfl, trivial⟩⟩⟩⟩)
  · rw [if_neg hc] at h ⊢
    refine px_iconst (v := (1 : Int32)) dX12_findMinutes_96 (by decide) ?_
    refine px_goto (tgt := 101) dX12_findMinutes_97 (by decide) ?_
    refine px_iadd dX12_findMinutes_101 ?_
    obtain ⟨hi, h⟩ := h
    refine px_iastore (n := 12) dX12_findMinutes_102 zl_366 zk_366 zs_366 hi ?_
    obtain ⟨gi3, hgi3⟩ : ∃ y : Gi, y = uI gi1 366 (upd (gi1 366) x2.toNatClampNeg ((gi1 366 x2.toNatClampNeg) + (1 : Int32))) := ⟨_, rfl⟩
    have h := h gi3 hgi3
    refine px_namegi hgi3 ?_
    refine px_iinc (v := x3 + (1 : Int32)) (ls2 := [some (.ref 329), some (.int x1), some (.int x2), some (.int (x3 + (1 : Int32))), some (.int x4), none]) dX12_findMinutes_103 rfl rfl (by decide) rfl ?_
    refine px_goto (tgt := 17) dX12_findMinutes_106 (by decide) ?_
    exact PAt.forget h (lsub_at ⟨rfl, ⟨rfl, ⟨rfl, ⟨rfl, trivial⟩⟩⟩⟩)
def f_X12_minutesOn (x1 : Int32) (gi : Gi) (gl : Gl) (Q : Int32 → Gi → Gl → Prop) : Prop :=
vp_in x1 3600 ∧
if (gi 364 x1.toNatClampNeg) = 0 then
(Q (0 : Int32) gi gl)
else
(vp_in ((jr x1 (360 : Int32)) / (30 : Int32)) 12 ∧
Q (gi 366 ((jr x1 (360 : Int32)) / (30 : Int32)).toNatClampNeg) gi gl)
set_option maxRecDepth 100000 in
theorem v_X12_minutesOn {x1 : Int32} {gi : Gi} {gl : Gl} {Q : Int32 → Gi → Gl → Prop}  (h : f_X12_minutesOn x1 gi gl Q) : p_X12_minutesOn x1 gi gl Q := by
  unfold f_X12_minutesOn at h
  show PAt mX12_minutesOn NN NN κF 0 [some (.ref 329), some (.int x1)] [] gi gl _
  refine px_aload_n dX12_minutesOn_0 rfl rfl ?_
  refine gf_X12_121 rfl dX12_minutesOn_1 zl_329 zk_329 rfl zr_329_52 zl_364 ?_
  refine px_iload_n dX12_minutesOn_4 rfl rfl ?_
  obtain ⟨hi, h⟩ := h
  refine px_zaload (n := 3600) dX12_minutesOn_5 zl_364 zk_364 zs_364 hi ?_
  refine px_if_eq (tgt := 25) dX12_minutesOn_6 (by decide) ?_
  by_cases hc : (gi 364 x1.toNatClampNeg) = 0
  · rw [if_pos hc] at h ⊢
    refine px_iconst (v := (0 : Int32)) dX12_minutesOn_25 (by decide) ?_
    exact px_ireturn dX12_minutesOn_26 rfl ⟨.int, rfl, rfl, rfl⟩ ⟨rfl, _, rfl, h⟩
  · rw [if_neg hc] at h ⊢
    refine px_aload_n dX12_minutesOn_9 rfl rfl ?_
    refine gf_X12_128 rfl dX12_minutesOn_10 zl_329 zk_329 rfl zr_329_54 zl_366 ?_
    refine px_iload_n dX12_minutesOn_13 rfl rfl ?_
    refine px_sipush (v := (360 : Int32)) dX12_minutesOn_14 (by decide) ?_
    refine px_irem dX12_minutesOn_17 (by decide) ?_
    refine px_bipush (v := (30 : Int32)) dX12_minutesOn_18 (by decide) ?_
    refine px_idiv dX12_minutesOn_20 (by decide) ?_
    obtain ⟨hi, h⟩ := h
    refine px_iaload (n := 12) dX12_minutesOn_21 zl_366 zk_366 zs_366 hi ?_
    refine px_goto (tgt := 26) dX12_minutesOn_22 (by decide) ?_
    exact px_ireturn dX12_minutesOn_26 rfl ⟨.int, rfl, rfl, rfl⟩ ⟨rfl, _, rfl, h⟩
abbrev p_X12_moments_4 (x1 : Int32) (x2 : Int32) (gi : Gi) (gl : Gl) (Q : Int32 → Gi → Gl → Prop) : Prop := PAt mX12_moments NN NN κF 4 [some (.ref 329), some (.int x1), some (.int x2)] [] gi gl (RiQ Q)
def f_X12_moments  (gi : Gi) (gl : Gl) (Q : Int32 → Gi → Gl → Prop) : Prop :=
p_X12_moments_4 (0 : Int32) (0 : Int32) gi gl Q
def f_X12_moments_4 (x1 : Int32) (x2 : Int32) (gi : Gi) (gl : Gl) (Q : Int32 → Gi → Gl → Prop) : Prop :=
if (3600 : Int32) ≤ x2 then
(Q x1 gi gl)
else
(p_X12_minutesOn x2 gi gl (fun (r3 : Int32) (gi1 : Gi) (gl2 : Gl) =>
∀ z4 : Int32, z4 = x1 + r3 →
p_X12_moments_4 z4 (x2 + (1 : Int32)) gi1 gl2 Q))
set_option maxRecDepth 100000 in
theorem v_X12_moments  {gi : Gi} {gl : Gl} {Q : Int32 → Gi → Gl → Prop}  (h : f_X12_moments  gi gl Q) : p_X12_moments  gi gl Q := by
  unfold f_X12_moments at h
  show PAt mX12_moments NN NN κF 0 [some (.ref 329), none, none] [] gi gl _
  refine px_iconst (v := (0 : Int32)) dX12_moments_0 (by decide) ?_
  refine px_istore_n (ls2 := [some (.ref 329), some (.int (0 : Int32)), none]) (i := 1) rfl dX12_moments_1 (by decide) rfl ?_
  refine px_iconst (v := (0 : Int32)) dX12_moments_2 (by decide) ?_
  refine px_istore_n (ls2 := [some (.ref 329), some (.int (0 : Int32)), some (.int (0 : Int32))]) (i := 2) rfl dX12_moments_3 (by decide) rfl ?_
  exact PAt.forget h (lsub_at ⟨rfl, ⟨rfl, ⟨rfl, trivial⟩⟩⟩)
set_option maxRecDepth 100000 in
theorem v_X12_moments_4 {x1 : Int32} {x2 : Int32} {gi : Gi} {gl : Gl} {Q : Int32 → Gi → Gl → Prop}  (h : f_X12_moments_4 x1 x2 gi gl Q) : p_X12_moments_4 x1 x2 gi gl Q := by
  unfold f_X12_moments_4 at h
  show PAt mX12_moments NN NN κF 4 [some (.ref 329), some (.int x1), some (.int x2)] [] gi gl _
  refine px_iload_n dX12_moments_4 rfl rfl ?_
  refine px_sipush (v := (3600 : Int32)) dX12_moments_5 (by decide) ?_
  refine px_icmp_ge (tgt := 25) dX12_moments_8 (by decide) ?_
  by_cases hc : (3600 : Int32) ≤ x2
  · rw [if_pos hc] at h ⊢
    refine px_iload_n dX12_moments_25 rfl rfl ?_
    exact px_ireturn dX12_moments_26 rfl ⟨.int, rfl, rfl, rfl⟩ ⟨rfl, _, rfl, h⟩
  · rw [if_neg hc] at h ⊢
    refine px_iload_n dX12_moments_11 rfl rfl ?_
    refine px_aload_n dX12_moments_12 rfl rfl ?_
    refine px_iload_n dX12_moments_13 rfl rfl ?_
    refine px_callV_I (As := [.int x2]) (st := [.int x1]) dX12_moments_14 lk_X12_405.1 lk_X12_405.2 (b := 329) zl_329 zk_329 (by decide) rfl (by decide) rfl (Nat.le_of_ble_eq_true rfl) rfl rfl (Nat.le_of_ble_eq_true rfl) ⟨Nat.le_refl _, Nat.le_refl _, Nat.le_refl _⟩ ?_
    refine PAt.mono h (fun v κ gi1 gl2 hq => ?_)
    obtain ⟨rfl, r3, rfl, h⟩ := hq
    refine px_iadd dX12_moments_17 ?_
    obtain ⟨z4, hz4⟩ : ∃ y : Int32, y = x1 + r3 := ⟨_, rfl⟩
    have h := h z4 hz4
    refine px_namei hz4 ?_
    refine px_istore_n (ls2 := [some (.ref 329), some (.int z4), some (.int x2)]) (i := 1) rfl dX12_moments_18 (by decide) rfl ?_
    refine px_iinc (v := x2 + (1 : Int32)) (ls2 := [some (.ref 329), some (.int z4), some (.int (x2 + (1 : Int32)))]) dX12_moments_19 rfl rfl (by decide) rfl ?_
    refine px_goto (tgt := 4) dX12_moments_22 (by decide) ?_
    exact PAt.forget h (lsub_at ⟨rfl, ⟨rfl, ⟨rfl, trivial⟩⟩⟩)
def f_X12_finds (x1 : Int32) (gi : Gi) (gl : Gl) (Q : Gi → Gl → Prop) : Prop :=
p_X12_findDays x1 gi gl (fun (gi1 : Gi) (gl2 : Gl) =>
p_X12_findMinutes x1 gi1 gl2 (fun (gi3 : Gi) (gl4 : Gl) =>
Q gi3 gl4))
set_option maxRecDepth 100000 in
theorem v_X12_finds {x1 : Int32} {gi : Gi} {gl : Gl} {Q : Gi → Gl → Prop}  (h : f_X12_finds x1 gi gl Q) : p_X12_finds x1 gi gl Q := by
  unfold f_X12_finds at h
  show PAt mX12_finds NN NN κF 0 [some (.ref 329), some (.int x1)] [] gi gl _
  refine px_aload_n dX12_finds_0 rfl rfl ?_
  refine px_iload_n dX12_finds_1 rfl rfl ?_
  refine px_callV_V (As := [.int x1]) (st := []) dX12_finds_2 lk_X12_408.1 lk_X12_408.2 (b := 329) zl_329 zk_329 (by decide) rfl (by decide) rfl (Nat.le_of_ble_eq_true rfl) rfl rfl (Nat.le_of_ble_eq_true rfl) ⟨Nat.le_refl _, Nat.le_refl _, Nat.le_refl _⟩ ?_
  refine PAt.mono h (fun v κ gi1 gl2 hq => ?_)
  obtain ⟨rfl, -, h⟩ := hq
  refine px_aload_n dX12_finds_5 rfl rfl ?_
  refine px_iload_n dX12_finds_6 rfl rfl ?_
  refine px_callV_V (As := [.int x1]) (st := []) dX12_finds_7 lk_X12_411.1 lk_X12_411.2 (b := 329) zl_329 zk_329 (by decide) rfl (by decide) rfl (Nat.le_of_ble_eq_true rfl) rfl rfl (Nat.le_of_ble_eq_true rfl) ⟨Nat.le_refl _, Nat.le_refl _, Nat.le_refl _⟩ ?_
  refine PAt.mono h (fun v κ gi3 gl4 hq => ?_)
  obtain ⟨rfl, -, h⟩ := hq
  exact px_return dX12_finds_10 rfl rfl ⟨rfl, rfl, h⟩
def f_X12_all (x1 : Int32) (gi : Gi) (gl : Gl) (Q : Int32 → Gi → Gl → Prop) : Prop :=
p_X12_isPicture x1 gi gl (fun (r3 : Int32) (gi1 : Gi) (gl2 : Gl) =>
if ¬ r3 = 0 then
(p_X12_finds x1 gi1 gl2 (fun (gi4 : Gi) (gl5 : Gl) =>
p_X12_moments  gi4 gl5 (fun (r8 : Int32) (gi6 : Gi) (gl7 : Gl) =>
Q r8 gi6 gl7)))
else
(Q ((-1) : Int32) gi1 gl2))
set_option maxRecDepth 100000 in
theorem v_X12_all {x1 : Int32} {gi : Gi} {gl : Gl} {Q : Int32 → Gi → Gl → Prop}  (h : f_X12_all x1 gi gl Q) : p_X12_all x1 gi gl Q := by
  unfold f_X12_all at h
  show PAt mX12_all NN NN κF 0 [some (.ref 329), some (.int x1)] [] gi gl _
  refine px_aload_n dX12_all_0 rfl rfl ?_
  refine px_iload_n dX12_all_1 rfl rfl ?_
  refine px_callV_I (As := [.int x1]) (st := []) dX12_all_2 lk_X12_347.1 lk_X12_347.2 (b := 329) zl_329 zk_329 (by decide) rfl (by decide) rfl (Nat.le_of_ble_eq_true rfl) rfl rfl (Nat.le_of_ble_eq_true rfl) ⟨Nat.le_refl _, Nat.le_refl _, Nat.le_refl _⟩ ?_
  refine PAt.mono h (fun v κ gi1 gl2 hq => ?_)
  obtain ⟨rfl, r3, rfl, h⟩ := hq
  refine px_if_ne (tgt := 10) dX12_all_5 (by decide) ?_
  by_cases hc : ¬ r3 = 0
  · rw [if_pos hc] at h ⊢
    refine px_aload_n dX12_all_10 rfl rfl ?_
    refine px_iload_n dX12_all_11 rfl rfl ?_
    refine px_callV_V (As := [.int x1]) (st := []) dX12_all_12 lk_X12_414.1 lk_X12_414.2 (b := 329) zl_329 zk_329 (by decide) rfl (by decide) rfl (Nat.le_of_ble_eq_true rfl) rfl rfl (Nat.le_of_ble_eq_true rfl) ⟨Nat.le_refl _, Nat.le_refl _, Nat.le_refl _⟩ ?_
    refine PAt.mono h (fun v κ gi4 gl5 hq => ?_)
    obtain ⟨rfl, -, h⟩ := hq
    refine px_aload_n dX12_all_15 rfl rfl ?_
    refine px_callV_I (As := []) (st := []) dX12_all_16 lk_X12_417.1 lk_X12_417.2 (b := 329) zl_329 zk_329 (by decide) rfl (by decide) rfl (Nat.le_of_ble_eq_true rfl) rfl rfl (Nat.le_of_ble_eq_true rfl) ⟨Nat.le_refl _, Nat.le_refl _, Nat.le_refl _⟩ ?_
    refine PAt.mono h (fun v κ gi6 gl7 hq => ?_)
    obtain ⟨rfl, r8, rfl, h⟩ := hq
    exact px_ireturn dX12_all_19 rfl ⟨.int, rfl, rfl, rfl⟩ ⟨rfl, _, rfl, h⟩
  · rw [if_neg hc] at h ⊢
    refine px_iconst (v := ((-1) : Int32)) dX12_all_8 (by decide) ?_
    exact px_ireturn dX12_all_9 rfl ⟨.int, rfl, rfl, rfl⟩ ⟨rfl, _, rfl, h⟩
abbrev p_X12_days_25 (x2 : Int32) (x3 : Int32) (x4 : Int32) (gi : Gi) (gl : Gl) (Q : Int32 → Gi → Gl → Prop) : Prop := PAt mX12_days NN NN κF 25 [some (.ref 329), none, some (.int x2), some (.int x3), some (.int x4)] [] gi gl (RiQ Q)
def f_X12_days (x1 : Int32) (x2 : Int32) (gi : Gi) (gl : Gl) (Q : Int32 → Gi → Gl → Prop) : Prop :=
p_X12_isPicture x1 gi gl (fun (r3 : Int32) (gi1 : Gi) (gl2 : Gl) =>
if r3 = 0 then
(Q ((-1) : Int32) gi1 gl2)
else
(if ((-1) : Int32) ≤ x2 then
(p_X12_finds x1 gi1 gl2 (fun (gi4 : Gi) (gl5 : Gl) =>
p_X12_days_25 x2 (0 : Int32) (0 : Int32) gi4 gl5 Q))
else
(Q ((-1) : Int32) gi1 gl2)))
def f_X12_days_25 (x2 : Int32) (x3 : Int32) (x4 : Int32) (gi : Gi) (gl : Gl) (Q : Int32 → Gi → Gl → Prop) : Prop :=
if (3600 : Int32) ≤ x4 then
(if ¬ x2 = ((-1) : Int32) then
(Q ((-1) : Int32) gi gl)
else
(Q x3 gi gl))
else
(p_X12_minutesOn x4 gi gl (fun (r3 : Int32) (gi1 : Gi) (gl2 : Gl) =>
if ¬ r3 = 0 then
(if ¬ x3 = x2 then
(p_X12_days_25 x2 (x3 + (1 : Int32)) (x4 + (1 : Int32)) gi1 gl2 Q)
else
(Q x4 gi1 gl2))
else
(p_X12_days_25 x2 x3 (x4 + (1 : Int32)) gi1 gl2 Q)))
set_option maxRecDepth 100000 in
theorem v_X12_days {x1 : Int32} {x2 : Int32} {gi : Gi} {gl : Gl} {Q : Int32 → Gi → Gl → Prop}  (h : f_X12_days x1 x2 gi gl Q) : p_X12_days x1 x2 gi gl Q := by
  unfold f_X12_days at h
  show PAt mX12_days NN NN κF 0 [some (.ref 329), some (.int x1), some (.int x2), none, none] [] gi gl _
  refine px_aload_n dX12_days_0 rfl rfl ?_
  refine px_iload_n dX12_days_1 rfl rfl ?_
  refine px_callV_I (As := [.int x1]) (st := []) dX12_days_2 lk_X12_347.1 lk_X12_347.2 (b := 329) zl_329 zk_329 (by decide) rfl (by decide) rfl (Nat.le_of_ble_eq_true rfl) rfl rfl (Nat.le_of_ble_eq_true rfl) ⟨Nat.le_refl _, Nat.le_refl _, Nat.le_refl _⟩ ?_
  refine PAt.mono h (fun v κ gi1 gl2 hq => ?_)
  obtain ⟨rfl, r3, rfl, h⟩ := hq
  refine px_if_eq (tgt := 13) dX12_days_5 (by decide) ?_
  by_cases hc : r3 = 0
  · rw [if_pos hc] at h ⊢
    refine px_iconst (v := ((-1) : Int32)) dX12_days_13 (by decide) ?_
    exact px_ireturn dX12_days_14 rfl ⟨.int, rfl, rfl, rfl⟩ ⟨rfl, _, rfl, h⟩
  · rw [if_neg hc] at h ⊢
    refine px_iload_n dX12_days_8 rfl rfl ?_
    refine px_iconst (v := ((-1) : Int32)) dX12_days_9 (by decide) ?_
    refine px_icmp_ge (tgt := 15) dX12_days_10 (by decide) ?_
    by_cases hc : ((-1) : Int32) ≤ x2
    · rw [if_pos hc] at h ⊢
      refine px_aload_n dX12_days_15 rfl rfl ?_
      refine px_iload_n dX12_days_16 rfl rfl ?_
      refine px_callV_V (As := [.int x1]) (st := []) dX12_days_17 lk_X12_414.1 lk_X12_414.2 (b := 329) zl_329 zk_329 (by decide) rfl (by decide) rfl (Nat.le_of_ble_eq_true rfl) rfl rfl (Nat.le_of_ble_eq_true rfl) ⟨Nat.le_refl _, Nat.le_refl _, Nat.le_refl _⟩ ?_
      refine PAt.mono h (fun v κ gi4 gl5 hq => ?_)
      obtain ⟨rfl, -, h⟩ := hq
      refine px_iconst (v := (0 : Int32)) dX12_days_20 (by decide) ?_
      refine px_istore_n (ls2 := [some (.ref 329), some (.int x1), some (.int x2), some (.int (0 : Int32)), none]) (i := 3) rfl dX12_days_21 (by decide) rfl ?_
      refine px_iconst (v := (0 : Int32)) dX12_days_22 (by decide) ?_
      refine px_istore (ls2 := [some (.ref 329), some (.int x1), some (.int x2), some (.int (0 : Int32)), some (.int (0 : Int32))]) dX12_days_23 (by decide) rfl ?_
      exact PAt.forget h (lsub_at ⟨rfl, ⟨rfl, ⟨rfl, ⟨rfl, trivial⟩⟩⟩⟩)
    · rw [if_neg hc] at h ⊢
      refine px_iconst (v := ((-1) : Int32)) dX12_days_13 (by decide) ?_
      exact px_ireturn dX12_days_14 rfl ⟨.int, rfl, rfl, rfl⟩ ⟨rfl, _, rfl, h⟩
set_option maxRecDepth 100000 in
theorem v_X12_days_25 {x2 : Int32} {x3 : Int32} {x4 : Int32} {gi : Gi} {gl : Gl} {Q : Int32 → Gi → Gl → Prop}  (h : f_X12_days_25 x2 x3 x4 gi gl Q) : p_X12_days_25 x2 x3 x4 gi gl Q := by
  unfold f_X12_days_25 at h
  show PAt mX12_days NN NN κF 25 [some (.ref 329), none, some (.int x2), some (.int x3), some (.int x4)] [] gi gl _
  refine px_iload dX12_days_25 rfl ?_
  refine px_sipush (v := (3600 : Int32)) dX12_days_27 (by decide) ?_
  refine px_icmp_ge (tgt := 62) dX12_days_30 (by decide) ?_
  by_cases hc : (3600 : Int32) ≤ x4
  · rw [if_pos hc] at h ⊢
    refine px_iload_n dX12_days_62 rfl rfl ?_
    refine px_iconst (v := ((-1) : Int32)) dX12_days_63 (by decide) ?_
    refine px_icmp_ne (tgt := 71) dX12_days_64 (by decide) ?_
    by_cases hc : ¬ x2 = ((-1) : Int32)
    · rw [if_pos hc] at h ⊢
      refine px_iconst (v := ((-1) : Int32)) dX12_days_71 (by decide) ?_
      exact px_ireturn dX12_days_72 rfl ⟨.int, rfl, rfl, rfl⟩ ⟨rfl, _, rfl, h⟩
    · rw [if_neg hc] at h ⊢
      refine px_iload_n dX12_days_67 rfl rfl ?_
      refine px_goto (tgt := 72) dX12_days_68 (by decide) ?_
      exact px_ireturn dX12_days_72 rfl ⟨.int, rfl, rfl, rfl⟩ ⟨rfl, _, rfl, h⟩
  · rw [if_neg hc] at h ⊢
    refine px_aload_n dX12_days_33 rfl rfl ?_
    refine px_iload dX12_days_34 rfl ?_
    refine px_callV_I (As := [.int x4]) (st := []) dX12_days_36 lk_X12_405.1 lk_X12_405.2 (b := 329) zl_329 zk_329 (by decide) rfl (by decide) rfl (Nat.le_of_ble_eq_true rfl) rfl rfl (Nat.le_of_ble_eq_true rfl) ⟨Nat.le_refl _, Nat.le_refl _, Nat.le_refl _⟩ ?_
    refine PAt.mono h (fun v κ gi1 gl2 hq => ?_)
    obtain ⟨rfl, r3, rfl, h⟩ := hq
    refine px_if_ne (tgt := 45) dX12_days_39 (by decide) ?_
    by_cases hc : ¬ r3 = 0
    · rw [if_pos hc] at h ⊢
      refine px_iload_n dX12_days_45 rfl rfl ?_
      refine px_iload_n dX12_days_46 rfl rfl ?_
      refine px_icmp_ne (tgt := 53) dX12_days_47 (by decide) ?_
      by_cases hc : ¬ x3 = x2
      · rw [if_pos hc] at h ⊢
        refine px_iinc (v := x3 + (1 : Int32)) (ls2 := [some (.ref 329), none, some (.int x2), some (.int (x3 + (1 : Int32))), some (.int x4)]) dX12_days_53 rfl rfl (by decide) rfl ?_
        refine px_iinc (v := x4 + (1 : Int32)) (ls2 := [some (.ref 329), none, some (.int x2), some (.int (x3 + (1 : Int32))), some (.int (x4 + (1 : Int32)))]) dX12_days_56 rfl rfl (by decide) rfl ?_
        refine px_goto (tgt := 25) dX12_days_59 (by decide) ?_
        exact PAt.forget h (lsub_at ⟨rfl, ⟨rfl, ⟨rfl, ⟨rfl, trivial⟩⟩⟩⟩)
      · rw [if_neg hc] at h ⊢
        refine px_iload dX12_days_50 rfl ?_
        exact px_ireturn dX12_days_52 rfl ⟨.int, rfl, rfl, rfl⟩ ⟨rfl, _, rfl, h⟩
    · rw [if_neg hc] at h ⊢
      refine px_goto (tgt := 56) dX12_days_42 (by decide) ?_
      refine px_iinc (v := x4 + (1 : Int32)) (ls2 := [some (.ref 329), none, some (.int x2), some (.int x3), some (.int (x4 + (1 : Int32)))]) dX12_days_56 rfl rfl (by decide) rfl ?_
      refine px_goto (tgt := 25) dX12_days_59 (by decide) ?_
      exact PAt.forget h (lsub_at ⟨rfl, ⟨rfl, ⟨rfl, ⟨rfl, trivial⟩⟩⟩⟩)
def f_X12_beginsRun (x1 : Int32) (x2 : Int32) (gi : Gi) (gl : Gl) (Q : Int32 → Gi → Gl → Prop) : Prop :=
vp_in (((720 : Int32) * x1) + x2) 8640 ∧
if (gi 365 (((720 : Int32) * x1) + x2).toNatClampNeg) = 0 then
(Q (0 : Int32) gi gl)
else
(if x2 = 0 then
(Q (1 : Int32) gi gl)
else
(vp_in ((((720 : Int32) * x1) + x2) - (1 : Int32)) 8640 ∧
if ¬ (gi 365 ((((720 : Int32) * x1) + x2) - (1 : Int32)).toNatClampNeg) = 0 then
(Q (0 : Int32) gi gl)
else
(Q (1 : Int32) gi gl)))
set_option maxRecDepth 100000 in
theorem v_X12_beginsRun {x1 : Int32} {x2 : Int32} {gi : Gi} {gl : Gl} {Q : Int32 → Gi → Gl → Prop}  (h : f_X12_beginsRun x1 x2 gi gl Q) : p_X12_beginsRun x1 x2 gi gl Q := by
  unfold f_X12_beginsRun at h
  show PAt mX12_beginsRun NN NN κF 0 [some (.ref 329), some (.int x1), some (.int x2)] [] gi gl _
  refine px_aload_n dX12_beginsRun_0 rfl rfl ?_
  refine gf_X12_125 rfl dX12_beginsRun_1 zl_329 zk_329 rfl zr_329_53 zl_365 ?_
  refine px_sipush (v := (720 : Int32)) dX12_beginsRun_4 (by decide) ?_
  refine px_iload_n dX12_beginsRun_7 rfl rfl ?_
  refine px_imul dX12_beginsRun_8 ?_
  refine px_iload_n dX12_beginsRun_9 rfl rfl ?_
  refine px_iadd dX12_beginsRun_10 ?_
  obtain ⟨hi, h⟩ := h
  refine px_zaload (n := 8640) dX12_beginsRun_11 zl_365 zk_365 zs_365 hi ?_
  refine px_if_eq (tgt := 40) dX12_beginsRun_12 (by decide) ?_
  by_cases hc : (gi 365 (((720 : Int32) * x1) + x2).toNatClampNeg) = 0
  · rw [if_pos hc] at h ⊢
    refine px_iconst (v := (0 : Int32)) dX12_beginsRun_40 (by decide) ?_
    exact px_ireturn dX12_beginsRun_41 rfl ⟨.boolean, rfl, rfl, by decide⟩ ⟨rfl, _, rfl, h⟩
  · rw [if_neg hc] at h ⊢
    refine px_iload_n dX12_beginsRun_15 rfl rfl ?_
    refine px_if_eq (tgt := 36) dX12_beginsRun_16 (by decide) ?_
    by_cases hc : x2 = 0
    · rw [if_pos hc] at h ⊢
      refine px_iconst (v := (1 : Int32)) dX12_beginsRun_36 (by decide) ?_
      refine px_goto (tgt := 41) dX12_beginsRun_37 (by decide) ?_
      exact px_ireturn dX12_beginsRun_41 rfl ⟨.boolean, rfl, rfl, by decide⟩ ⟨rfl, _, rfl, h⟩
    · rw [if_neg hc] at h ⊢
      refine px_aload_n dX12_beginsRun_19 rfl rfl ?_
      refine gf_X12_125 rfl dX12_beginsRun_20 zl_329 zk_329 rfl zr_329_53 zl_365 ?_
      refine px_sipush (v := (720 : Int32)) dX12_beginsRun_23 (by decide) ?_
      refine px_iload_n dX12_beginsRun_26 rfl rfl ?_
      refine px_imul dX12_beginsRun_27 ?_
      refine px_iload_n dX12_beginsRun_28 rfl rfl ?_
      refine px_iadd dX12_beginsRun_29 ?_
      refine px_iconst (v := (1 : Int32)) dX12_beginsRun_30 (by decide) ?_
      refine px_isub dX12_beginsRun_31 ?_
      obtain ⟨hi, h⟩ := h
      refine px_zaload (n := 8640) dX12_beginsRun_32 zl_365 zk_365 zs_365 hi ?_
      refine px_if_ne (tgt := 40) dX12_beginsRun_33 (by decide) ?_
      by_cases hc : ¬ (gi 365 ((((720 : Int32) * x1) + x2) - (1 : Int32)).toNatClampNeg) = 0
      · rw [if_pos hc] at h ⊢
        refine px_iconst (v := (0 : Int32)) dX12_beginsRun_40 (by decide) ?_
        exact px_ireturn dX12_beginsRun_41 rfl ⟨.boolean, rfl, rfl, by decide⟩ ⟨rfl, _, rfl, h⟩
      · rw [if_neg hc] at h ⊢
        refine px_iconst (v := (1 : Int32)) dX12_beginsRun_36 (by decide) ?_
        refine px_goto (tgt := 41) dX12_beginsRun_37 (by decide) ?_
        exact px_ireturn dX12_beginsRun_41 rfl ⟨.boolean, rfl, rfl, by decide⟩ ⟨rfl, _, rfl, h⟩
abbrev p_X12_runsOf_4 (x1 : Int32) (x2 : Int32) (x3 : Int32) (gi : Gi) (gl : Gl) (Q : Int32 → Gi → Gl → Prop) : Prop := PAt mX12_runsOf NN NN κF 4 [some (.ref 329), some (.int x1), some (.int x2), some (.int x3)] [] gi gl (RiQ Q)
def f_X12_runsOf (x1 : Int32) (gi : Gi) (gl : Gl) (Q : Int32 → Gi → Gl → Prop) : Prop :=
p_X12_runsOf_4 x1 (0 : Int32) (0 : Int32) gi gl Q
def f_X12_runsOf_4 (x1 : Int32) (x2 : Int32) (x3 : Int32) (gi : Gi) (gl : Gl) (Q : Int32 → Gi → Gl → Prop) : Prop :=
if (720 : Int32) ≤ x3 then
(Q x2 gi gl)
else
(p_X12_beginsRun x1 x3 gi gl (fun (r3 : Int32) (gi1 : Gi) (gl2 : Gl) =>
if r3 = 0 then
(∀ z4 : Int32, z4 = x2 + (0 : Int32) →
p_X12_runsOf_4 x1 z4 (x3 + (1 : Int32)) gi1 gl2 Q)
else
(∀ z5 : Int32, z5 = x2 + (1 : Int32) →
p_X12_runsOf_4 x1 z5 (x3 + (1 : Int32)) gi1 gl2 Q)))
set_option maxRecDepth 100000 in
theorem v_X12_runsOf {x1 : Int32} {gi : Gi} {gl : Gl} {Q : Int32 → Gi → Gl → Prop}  (h : f_X12_runsOf x1 gi gl Q) : p_X12_runsOf x1 gi gl Q := by
  unfold f_X12_runsOf at h
  show PAt mX12_runsOf NN NN κF 0 [some (.ref 329), some (.int x1), none, none] [] gi gl _
  refine px_iconst (v := (0 : Int32)) dX12_runsOf_0 (by decide) ?_
  refine px_istore_n (ls2 := [some (.ref 329), some (.int x1), some (.int (0 : Int32)), none]) (i := 2) rfl dX12_runsOf_1 (by decide) rfl ?_
  refine px_iconst (v := (0 : Int32)) dX12_runsOf_2 (by decide) ?_
  refine px_istore_n (ls2 := [some (.ref 329), some (.int x1), some (.int (0 : Int32)), some (.int (0 : Int32))]) (i := 3) rfl dX12_runsOf_3 (by decide) rfl ?_
  exact PAt.forget h (lsub_at ⟨rfl, ⟨rfl, ⟨rfl, ⟨rfl, trivial⟩⟩⟩⟩)
set_option maxRecDepth 100000 in
theorem v_X12_runsOf_4 {x1 : Int32} {x2 : Int32} {x3 : Int32} {gi : Gi} {gl : Gl} {Q : Int32 → Gi → Gl → Prop}  (h : f_X12_runsOf_4 x1 x2 x3 gi gl Q) : p_X12_runsOf_4 x1 x2 x3 gi gl Q := by
  unfold f_X12_runsOf_4 at h
  show PAt mX12_runsOf NN NN κF 4 [some (.ref 329), some (.int x1), some (.int x2), some (.int x3)] [] gi gl _
  refine px_iload_n dX12_runsOf_4 rfl rfl ?_
  refine px_sipush (v := (720 : Int32)) dX12_runsOf_5 (by decide) ?_
  refine px_icmp_ge (tgt := 34) dX12_runsOf_8 (by decide) ?_
  by_cases hc : (720 : Int32) ≤ x3
  · rw [if_pos hc] at h ⊢
    refine px_iload_n dX12_runsOf_34 rfl rfl ?_
    exact px_ireturn dX12_runsOf_35 rfl ⟨.int, rfl, rfl, rfl⟩ ⟨rfl, _, rfl, h⟩
  · rw [if_neg hc] at h ⊢
    refine px_iload_n dX12_runsOf_11 rfl rfl ?_
    refine px_aload_n dX12_runsOf_12 rfl rfl ?_
    refine px_iload_n dX12_runsOf_13 rfl rfl ?_
    refine px_iload_n dX12_runsOf_14 rfl rfl ?_
    refine px_callV_I (As := [.int x1, .int x3]) (st := [.int x2]) dX12_runsOf_15 lk_X12_420.1 lk_X12_420.2 (b := 329) zl_329 zk_329 (by decide) rfl (by decide) rfl (Nat.le_of_ble_eq_true rfl) rfl rfl (Nat.le_of_ble_eq_true rfl) ⟨Nat.le_refl _, Nat.le_refl _, Nat.le_refl _⟩ ?_
    refine PAt.mono h (fun v κ gi1 gl2 hq => ?_)
    obtain ⟨rfl, r3, rfl, h⟩ := hq
    refine px_if_eq (tgt := 25) dX12_runsOf_18 (by decide) ?_
    by_cases hc : r3 = 0
    · rw [if_pos hc] at h ⊢
      refine px_iconst (v := (0 : Int32)) dX12_runsOf_25 (by decide) ?_
      refine px_iadd dX12_runsOf_26 ?_
      obtain ⟨z4, hz4⟩ : ∃ y : Int32, y = x2 + (0 : Int32) := ⟨_, rfl⟩
      have h := h z4 hz4
      refine px_namei hz4 ?_
      refine px_istore_n (ls2 := [some (.ref 329), some (.int x1), some (.int z4), some (.int x3)]) (i := 2) rfl dX12_runsOf_27 (by decide) rfl ?_
      refine px_iinc (v := x3 + (1 : Int32)) (ls2 := [some (.ref 329), some (.int x1), some (.int z4), some (.int (x3 + (1 : Int32)))]) dX12_runsOf_28 rfl rfl (by decide) rfl ?_
      refine px_goto (tgt := 4) dX12_runsOf_31 (by decide) ?_
      exact PAt.forget h (lsub_at ⟨rfl, ⟨rfl, ⟨rfl, ⟨rfl, trivial⟩⟩⟩⟩)
    · rw [if_neg hc] at h ⊢
      refine px_iconst (v := (1 : Int32)) dX12_runsOf_21 (by decide) ?_
      refine px_goto (tgt := 26) dX12_runsOf_22 (by decide) ?_
      refine px_iadd dX12_runsOf_26 ?_
      obtain ⟨z5, hz5⟩ : ∃ y : Int32, y = x2 + (1 : Int32) := ⟨_, rfl⟩
      have h := h z5 hz5
      refine px_namei hz5 ?_
      refine px_istore_n (ls2 := [some (.ref 329), some (.int x1), some (.int z5), some (.int x3)]) (i := 2) rfl dX12_runsOf_27 (by decide) rfl ?_
      refine px_iinc (v := x3 + (1 : Int32)) (ls2 := [some (.ref 329), some (.int x1), some (.int z5), some (.int (x3 + (1 : Int32)))]) dX12_runsOf_28 rfl rfl (by decide) rfl ?_
      refine px_goto (tgt := 4) dX12_runsOf_31 (by decide) ?_
      exact PAt.forget h (lsub_at ⟨rfl, ⟨rfl, ⟨rfl, ⟨rfl, trivial⟩⟩⟩⟩)
abbrev p_X12_runMinute_6 (x1 : Int32) (x3 : Int32) (x4 : Int32) (x5 : Int32) (gi : Gi) (gl : Gl) (Q : Int32 → Gi → Gl → Prop) : Prop := PAt mX12_runMinute NN NN κF 6 [some (.ref 329), some (.int x1), none, some (.int x3), some (.int x4), some (.int x5)] [] gi gl (RiQ Q)
abbrev p_X12_runMinute_21 (x1 : Int32) (x3 : Int32) (x4 : Int32) (x5 : Int32) (gi : Gi) (gl : Gl) (Q : Int32 → Gi → Gl → Prop) : Prop := PAt mX12_runMinute NN NN κF 21 [some (.ref 329), some (.int x1), none, some (.int x3), some (.int x4), some (.int x5)] [] gi gl (RiQ Q)
abbrev p_X12_runMinute_47 (x1 : Int32) (x3 : Int32) (x5 : Int32) (gi : Gi) (gl : Gl) (Q : Int32 → Gi → Gl → Prop) : Prop := PAt mX12_runMinute NN NN κF 47 [some (.ref 329), some (.int x1), none, some (.int x3), none, some (.int x5)] [] gi gl (RiQ Q)
def f_X12_runMinute (x1 : Int32) (x2 : Int32) (x3 : Int32) (gi : Gi) (gl : Gl) (Q : Int32 → Gi → Gl → Prop) : Prop :=
p_X12_runMinute_6 x1 x3 x2 (0 : Int32) gi gl Q
def f_X12_runMinute_6 (x1 : Int32) (x3 : Int32) (x4 : Int32) (x5 : Int32) (gi : Gi) (gl : Gl) (Q : Int32 → Gi → Gl → Prop) : Prop :=
p_X12_beginsRun x1 x5 gi gl (fun (r3 : Int32) (gi1 : Gi) (gl2 : Gl) =>
if r3 = 0 then
(p_X12_runMinute_21 x1 x3 x4 x5 gi1 gl2 Q)
else
(if x4 ≤ 0 then
(p_X12_runMinute_47 x1 x3 x5 gi1 gl2 Q)
else
(p_X12_runMinute_21 x1 x3 x4 x5 gi1 gl2 Q)))
def f_X12_runMinute_21 (x1 : Int32) (x3 : Int32) (x4 : Int32) (x5 : Int32) (gi : Gi) (gl : Gl) (Q : Int32 → Gi → Gl → Prop) : Prop :=
p_X12_beginsRun x1 x5 gi gl (fun (r3 : Int32) (gi1 : Gi) (gl2 : Gl) =>
if r3 = 0 then
(∀ z4 : Int32, z4 = x4 - (0 : Int32) →
p_X12_runMinute_6 x1 x3 z4 (x5 + (1 : Int32)) gi1 gl2 Q)
else
(∀ z5 : Int32, z5 = x4 - (1 : Int32) →
p_X12_runMinute_6 x1 x3 z5 (x5 + (1 : Int32)) gi1 gl2 Q))
def f_X12_runMinute_47 (x1 : Int32) (x3 : Int32) (x5 : Int32) (gi : Gi) (gl : Gl) (Q : Int32 → Gi → Gl → Prop) : Prop :=
if x3 = 0 then
(Q x5 gi gl)
else
(if (720 : Int32) ≤ (x5 + (1 : Int32)) then
(Q x5 gi gl)
else
(vp_in ((((720 : Int32) * x1) + x5) + (1 : Int32)) 8640 ∧
if (gi 365 ((((720 : Int32) * x1) + x5) + (1 : Int32)).toNatClampNeg) = 0 then
(Q x5 gi gl)
else
(p_X12_runMinute_47 x1 x3 (x5 + (1 : Int32)) gi gl Q)))
set_option maxRecDepth 100000 in
theorem v_X12_runMinute {x1 : Int32} {x2 : Int32} {x3 : Int32} {gi : Gi} {gl : Gl} {Q : Int32 → Gi → Gl → Prop}  (h : f_X12_runMinute x1 x2 x3 gi gl Q) : p_X12_runMinute x1 x2 x3 gi gl Q := by
  unfold f_X12_runMinute at h
  show PAt mX12_runMinute NN NN κF 0 [some (.ref 329), some (.int x1), some (.int x2), some (.int x3), none, none] [] gi gl _
  refine px_iload_n dX12_runMinute_0 rfl rfl ?_
  refine px_istore (ls2 := [some (.ref 329), some (.int x1), some (.int x2), some (.int x3), some (.int x2), none]) dX12_runMinute_1 (by decide) rfl ?_
  refine px_iconst (v := (0 : Int32)) dX12_runMinute_3 (by decide) ?_
  refine px_istore (ls2 := [some (.ref 329), some (.int x1), some (.int x2), some (.int x3), some (.int x2), some (.int (0 : Int32))]) dX12_runMinute_4 (by decide) rfl ?_
  exact PAt.forget h (lsub_at ⟨rfl, ⟨rfl, ⟨rfl, ⟨rfl, ⟨rfl, trivial⟩⟩⟩⟩⟩)
set_option maxRecDepth 100000 in
theorem v_X12_runMinute_6 {x1 : Int32} {x3 : Int32} {x4 : Int32} {x5 : Int32} {gi : Gi} {gl : Gl} {Q : Int32 → Gi → Gl → Prop}  (h : f_X12_runMinute_6 x1 x3 x4 x5 gi gl Q) : p_X12_runMinute_6 x1 x3 x4 x5 gi gl Q := by
  unfold f_X12_runMinute_6 at h
  show PAt mX12_runMinute NN NN κF 6 [some (.ref 329), some (.int x1), none, some (.int x3), some (.int x4), some (.int x5)] [] gi gl _
  refine px_aload_n dX12_runMinute_6 rfl rfl ?_
  refine px_iload_n dX12_runMinute_7 rfl rfl ?_
  refine px_iload dX12_runMinute_8 rfl ?_
  refine px_callV_I (As := [.int x1, .int x5]) (st := []) dX12_runMinute_10 lk_X12_420.1 lk_X12_420.2 (b := 329) zl_329 zk_329 (by decide) rfl (by decide) rfl (Nat.le_of_ble_eq_true rfl) rfl rfl (Nat.le_of_ble_eq_true rfl) ⟨Nat.le_refl _, Nat.le_refl _, Nat.le_refl _⟩ ?_
  refine PAt.mono h (fun v κ gi1 gl2 hq => ?_)
  obtain ⟨rfl, r3, rfl, h⟩ := hq
  refine px_if_eq (tgt := 21) dX12_runMinute_13 (by decide) ?_
  by_cases hc : r3 = 0
  · rw [if_pos hc] at h ⊢
    exact PAt.forget h (lsub_at ⟨rfl, ⟨rfl, ⟨rfl, ⟨rfl, ⟨rfl, trivial⟩⟩⟩⟩⟩)
  · rw [if_neg hc] at h ⊢
    refine px_iload dX12_runMinute_16 rfl ?_
    refine px_if_le (tgt := 47) dX12_runMinute_18 (by decide) ?_
    by_cases hc : x4 ≤ 0
    · rw [if_pos hc] at h ⊢
      exact PAt.forget h (lsub_at ⟨rfl, ⟨rfl, ⟨rfl, ⟨rfl, trivial⟩⟩⟩⟩)
    · rw [if_neg hc] at h ⊢
      exact PAt.forget h (lsub_at ⟨rfl, ⟨rfl, ⟨rfl, ⟨rfl, ⟨rfl, trivial⟩⟩⟩⟩⟩)
set_option maxRecDepth 100000 in
theorem v_X12_runMinute_21 {x1 : Int32} {x3 : Int32} {x4 : Int32} {x5 : Int32} {gi : Gi} {gl : Gl} {Q : Int32 → Gi → Gl → Prop}  (h : f_X12_runMinute_21 x1 x3 x4 x5 gi gl Q) : p_X12_runMinute_21 x1 x3 x4 x5 gi gl Q := by
  unfold f_X12_runMinute_21 at h
  show PAt mX12_runMinute NN NN κF 21 [some (.ref 329), some (.int x1), none, some (.int x3), some (.int x4), some (.int x5)] [] gi gl _
  refine px_iload dX12_runMinute_21 rfl ?_
  refine px_aload_n dX12_runMinute_23 rfl rfl ?_
  refine px_iload_n dX12_runMinute_24 rfl rfl ?_
  refine px_iload dX12_runMinute_25 rfl ?_
  refine px_callV_I (As := [.int x1, .int x5]) (st := [.int x4]) dX12_runMinute_27 lk_X12_420.1 lk_X12_420.2 (b := 329) zl_329 zk_329 (by decide) rfl (by decide) rfl (Nat.le_of_ble_eq_true rfl) rfl rfl (Nat.le_of_ble_eq_true rfl) ⟨Nat.le_refl _, Nat.le_refl _, Nat.le_refl _⟩ ?_
  refine PAt.mono h (fun v κ gi1 gl2 hq => ?_)
  obtain ⟨rfl, r3, rfl, h⟩ := hq
  refine px_if_eq (tgt := 37) dX12_runMinute_30 (by decide) ?_
  by_cases hc : r3 = 0
  · rw [if_pos hc] at h ⊢
    refine px_iconst (v := (0 : Int32)) dX12_runMinute_37 (by decide) ?_
    refine px_isub dX12_runMinute_38 ?_
    obtain ⟨z4, hz4⟩ : ∃ y : Int32, y = x4 - (0 : Int32) := ⟨_, rfl⟩
    have h := h z4 hz4
    refine px_namei hz4 ?_
    refine px_istore (ls2 := [some (.ref 329), some (.int x1), none, some (.int x3), some (.int z4), some (.int x5)]) dX12_runMinute_39 (by decide) rfl ?_
    refine px_iinc (v := x5 + (1 : Int32)) (ls2 := [some (.ref 329), some (.int x1), none, some (.int x3), some (.int z4), some (.int (x5 + (1 : Int32)))]) dX12_runMinute_41 rfl rfl (by decide) rfl ?_
    refine px_goto (tgt := 6) dX12_runMinute_44 (by decide) ?_
    exact PAt.forget h (lsub_at ⟨rfl, ⟨rfl, ⟨rfl, ⟨rfl, ⟨rfl, trivial⟩⟩⟩⟩⟩)
  · rw [if_neg hc] at h ⊢
    refine px_iconst (v := (1 : Int32)) dX12_runMinute_33 (by decide) ?_
    refine px_goto (tgt := 38) dX12_runMinute_34 (by decide) ?_
    refine px_isub dX12_runMinute_38 ?_
    obtain ⟨z5, hz5⟩ : ∃ y : Int32, y = x4 - (1 : Int32) := ⟨_, rfl⟩
    have h := h z5 hz5
    refine px_namei hz5 ?_
    refine px_istore (ls2 := [some (.ref 329), some (.int x1), none, some (.int x3), some (.int z5), some (.int x5)]) dX12_runMinute_39 (by decide) rfl ?_
    refine px_iinc (v := x5 + (1 : Int32)) (ls2 := [some (.ref 329), some (.int x1), none, some (.int x3), some (.int z5), some (.int (x5 + (1 : Int32)))]) dX12_runMinute_41 rfl rfl (by decide) rfl ?_
    refine px_goto (tgt := 6) dX12_runMinute_44 (by decide) ?_
    exact PAt.forget h (lsub_at ⟨rfl, ⟨rfl, ⟨rfl, ⟨rfl, ⟨rfl, trivial⟩⟩⟩⟩⟩)
set_option maxRecDepth 100000 in
theorem v_X12_runMinute_47 {x1 : Int32} {x3 : Int32} {x5 : Int32} {gi : Gi} {gl : Gl} {Q : Int32 → Gi → Gl → Prop}  (h : f_X12_runMinute_47 x1 x3 x5 gi gl Q) : p_X12_runMinute_47 x1 x3 x5 gi gl Q := by
  unfold f_X12_runMinute_47 at h
  show PAt mX12_runMinute NN NN κF 47 [some (.ref 329), some (.int x1), none, some (.int x3), none, some (.int x5)] [] gi gl _
  refine px_iload_n dX12_runMinute_47 rfl rfl ?_
  refine px_if_eq (tgt := 85) dX12_runMinute_48 (by decide) ?_
  by_cases hc : x3 = 0
  · rw [if_pos hc] at h ⊢
    refine px_iload dX12_runMinute_85 rfl ?_
    exact px_ireturn dX12_runMinute_87 rfl ⟨.int, rfl, rfl, rfl⟩ ⟨rfl, _, rfl, h⟩
  · rw [if_neg hc] at h ⊢
    refine px_iload dX12_runMinute_51 rfl ?_
    refine px_iconst (v := (1 : Int32)) dX12_runMinute_53 (by decide) ?_
    refine px_iadd dX12_runMinute_54 ?_
    refine px_sipush (v := (720 : Int32)) dX12_runMinute_55 (by decide) ?_
    refine px_icmp_ge (tgt := 85) dX12_runMinute_58 (by decide) ?_
    by_cases hc : (720 : Int32) ≤ (x5 + (1 : Int32))
    · rw [if_pos hc] at h ⊢
      refine px_iload dX12_runMinute_85 rfl ?_
      exact px_ireturn dX12_runMinute_87 rfl ⟨.int, rfl, rfl, rfl⟩ ⟨rfl, _, rfl, h⟩
    · rw [if_neg hc] at h ⊢
      refine px_aload_n dX12_runMinute_61 rfl rfl ?_
      refine gf_X12_125 rfl dX12_runMinute_62 zl_329 zk_329 rfl zr_329_53 zl_365 ?_
      refine px_sipush (v := (720 : Int32)) dX12_runMinute_65 (by decide) ?_
      refine px_iload_n dX12_runMinute_68 rfl rfl ?_
      refine px_imul dX12_runMinute_69 ?_
      refine px_iload dX12_runMinute_70 rfl ?_
      refine px_iadd dX12_runMinute_72 ?_
      refine px_iconst (v := (1 : Int32)) dX12_runMinute_73 (by decide) ?_
      refine px_iadd dX12_runMinute_74 ?_
      obtain ⟨hi, h⟩ := h
      refine px_zaload (n := 8640) dX12_runMinute_75 zl_365 zk_365 zs_365 hi ?_
      refine px_if_eq (tgt := 85) dX12_runMinute_76 (by decide) ?_
      by_cases hc : (gi 365 ((((720 : Int32) * x1) + x5) + (1 : Int32)).toNatClampNeg) = 0
      · rw [if_pos hc] at h ⊢
        refine px_iload dX12_runMinute_85 rfl ?_
        exact px_ireturn dX12_runMinute_87 rfl ⟨.int, rfl, rfl, rfl⟩ ⟨rfl, _, rfl, h⟩
      · rw [if_neg hc] at h ⊢
        refine px_iinc (v := x5 + (1 : Int32)) (ls2 := [some (.ref 329), some (.int x1), none, some (.int x3), none, some (.int (x5 + (1 : Int32)))]) dX12_runMinute_79 rfl rfl (by decide) rfl ?_
        refine px_goto (tgt := 47) dX12_runMinute_82 (by decide) ?_
        exact PAt.forget h (lsub_at ⟨rfl, ⟨rfl, ⟨rfl, ⟨rfl, trivial⟩⟩⟩⟩)
abbrev p_X12_runs_41 (x2 : Int32) (x3 : Int32) (x4 : Int32) (gi : Gi) (gl : Gl) (Q : Int32 → Gi → Gl → Prop) : Prop := PAt mX12_runs NN NN κF 41 [some (.ref 329), none, some (.int x2), some (.int x3), some (.int x4), none, none] [] gi gl (RiQ Q)
abbrev p_X12_runs_73 (x2 : Int32) (x3 : Int32) (x4 : Int32) (x5 : Int32) (gi : Gi) (gl : Gl) (Q : Int32 → Gi → Gl → Prop) : Prop := PAt mX12_runs NN NN κF 73 [some (.ref 329), none, some (.int x2), some (.int x3), some (.int x4), some (.int x5), none] [] gi gl (RiQ Q)
def f_X12_runs (x1 : Int32) (x2 : Int32) (x3 : Int32) (gi : Gi) (gl : Gl) (Q : Int32 → Gi → Gl → Prop) : Prop :=
p_X12_isPicture x1 gi gl (fun (r3 : Int32) (gi1 : Gi) (gl2 : Gl) =>
if r3 = 0 then
(Q ((-1) : Int32) gi1 gl2)
else
(if x2 < ((-1) : Int32) then
(Q ((-1) : Int32) gi1 gl2)
else
(if ¬ x2 = ((-1) : Int32) then
(p_X12_within x3 (0 : Int32) (2 : Int32) gi1 gl2 (fun (r6 : Int32) (gi4 : Gi) (gl5 : Gl) =>
if ¬ r6 = 0 then
(p_X12_finds x1 gi4 gl5 (fun (gi7 : Gi) (gl8 : Gl) =>
p_X12_runs_41 x2 x3 (0 : Int32) gi7 gl8 Q))
else
(Q ((-1) : Int32) gi4 gl5)))
else
(p_X12_within x3 (0 : Int32) (0 : Int32) gi1 gl2 (fun (r11 : Int32) (gi9 : Gi) (gl10 : Gl) =>
if ¬ r11 = 0 then
(p_X12_finds x1 gi9 gl10 (fun (gi12 : Gi) (gl13 : Gl) =>
p_X12_runs_41 x2 x3 (0 : Int32) gi12 gl13 Q))
else
(Q ((-1) : Int32) gi9 gl10))))))
def f_X12_runs_41 (x2 : Int32) (x3 : Int32) (x4 : Int32) (gi : Gi) (gl : Gl) (Q : Int32 → Gi → Gl → Prop) : Prop :=
if (12 : Int32) ≤ x4 then
(p_X12_runs_73 x2 x3 (0 : Int32) (0 : Int32) gi gl Q)
else
(p_X12_runsOf x4 gi gl (fun (r3 : Int32) (gi1 : Gi) (gl2 : Gl) =>
vp_in x4 12 ∧
∀ gi4 : Gi, gi4 = uI gi1 367 (upd (gi1 367) x4.toNatClampNeg r3) →
p_X12_runs_41 x2 x3 (x4 + (1 : Int32)) gi4 gl2 Q))
def f_X12_runs_73 (x2 : Int32) (x3 : Int32) (x4 : Int32) (x5 : Int32) (gi : Gi) (gl : Gl) (Q : Int32 → Gi → Gl → Prop) : Prop :=
if (3600 : Int32) ≤ x5 then
(if ¬ x2 = ((-1) : Int32) then
(Q ((-1) : Int32) gi gl)
else
(Q x4 gi gl))
else
(vp_in x5 3600 ∧
if ¬ (gi 364 x5.toNatClampNeg) = 0 then
(∀ z1 : Int32, z1 = (jr x5 (360 : Int32)) / (30 : Int32) →
if x2 < 0 then
(vp_in z1 12 ∧
∀ z2 : Int32, z2 = x4 + (gi 367 z1.toNatClampNeg) →
p_X12_runs_73 x2 x3 z2 (x5 + (1 : Int32)) gi gl Q)
else
(vp_in z1 12 ∧
if (x4 + (gi 367 z1.toNatClampNeg)) ≤ x2 then
(vp_in z1 12 ∧
∀ z3 : Int32, z3 = x4 + (gi 367 z1.toNatClampNeg) →
p_X12_runs_73 x2 x3 z3 (x5 + (1 : Int32)) gi gl Q)
else
(if ¬ x3 = 0 then
(if ¬ x3 = (2 : Int32) then
(p_X12_runMinute z1 (x2 - x4) (0 : Int32) gi gl (fun (r6 : Int32) (gi4 : Gi) (gl5 : Gl) =>
Q r6 gi4 gl5))
else
(p_X12_runMinute z1 (x2 - x4) (1 : Int32) gi gl (fun (r9 : Int32) (gi7 : Gi) (gl8 : Gl) =>
Q r9 gi7 gl8)))
else
(Q x5 gi gl))))
else
(p_X12_runs_73 x2 x3 x4 (x5 + (1 : Int32)) gi gl Q))
set_option maxRecDepth 100000 in
theorem v_X12_runs {x1 : Int32} {x2 : Int32} {x3 : Int32} {gi : Gi} {gl : Gl} {Q : Int32 → Gi → Gl → Prop}  (h : f_X12_runs x1 x2 x3 gi gl Q) : p_X12_runs x1 x2 x3 gi gl Q := by
  unfold f_X12_runs at h
  show PAt mX12_runs NN NN κF 0 [some (.ref 329), some (.int x1), some (.int x2), some (.int x3), none, none, none] [] gi gl _
  refine px_aload_n dX12_runs_0 rfl rfl ?_
  refine px_iload_n dX12_runs_1 rfl rfl ?_
  refine px_callV_I (As := [.int x1]) (st := []) dX12_runs_2 lk_X12_347.1 lk_X12_347.2 (b := 329) zl_329 zk_329 (by decide) rfl (by decide) rfl (Nat.le_of_ble_eq_true rfl) rfl rfl (Nat.le_of_ble_eq_true rfl) ⟨Nat.le_refl _, Nat.le_refl _, Nat.le_refl _⟩ ?_
  refine PAt.mono h (fun v κ gi1 gl2 hq => ?_)
  obtain ⟨rfl, r3, rfl, h⟩ := hq
  refine px_if_eq (tgt := 31) dX12_runs_5 (by decide) ?_
  by_cases hc : r3 = 0
  · rw [if_pos hc] at h ⊢
    refine px_iconst (v := ((-1) : Int32)) dX12_runs_31 (by decide) ?_
    exact px_ireturn dX12_runs_32 rfl ⟨.int, rfl, rfl, rfl⟩ ⟨rfl, _, rfl, h⟩
  · rw [if_neg hc] at h ⊢
    refine px_iload_n dX12_runs_8 rfl rfl ?_
    refine px_iconst (v := ((-1) : Int32)) dX12_runs_9 (by decide) ?_
    refine px_icmp_lt (tgt := 31) dX12_runs_10 (by decide) ?_
    by_cases hc : x2 < ((-1) : Int32)
    · rw [if_pos hc] at h ⊢
      refine px_iconst (v := ((-1) : Int32)) dX12_runs_31 (by decide) ?_
      exact px_ireturn dX12_runs_32 rfl ⟨.int, rfl, rfl, rfl⟩ ⟨rfl, _, rfl, h⟩
    · rw [if_neg hc] at h ⊢
      refine px_iload_n dX12_runs_13 rfl rfl ?_
      refine px_iconst (v := (0 : Int32)) dX12_runs_14 (by decide) ?_
      refine px_iload_n dX12_runs_15 rfl rfl ?_
      refine px_iconst (v := ((-1) : Int32)) dX12_runs_16 (by decide) ?_
      refine px_icmp_ne (tgt := 24) dX12_runs_17 (by decide) ?_
      by_cases hc : ¬ x2 = ((-1) : Int32)
      · rw [if_pos hc] at h ⊢
        refine px_iconst (v := (2 : Int32)) dX12_runs_24 (by decide) ?_
        refine px_callS_I (As := [.int x3, .int (0 : Int32), .int (2 : Int32)]) (st := []) dX12_runs_25 lk_X12_189.1 lk_X12_189.2 (by decide) rfl (Nat.le_of_ble_eq_true rfl) rfl rfl (Nat.le_of_ble_eq_true rfl) ⟨Nat.le_refl _, Nat.le_refl _, Nat.le_refl _⟩ ?_
        refine PAt.mono h (fun v κ gi4 gl5 hq => ?_)
        obtain ⟨rfl, r6, rfl, h⟩ := hq
        refine px_if_ne (tgt := 33) dX12_runs_28 (by decide) ?_
        by_cases hc : ¬ r6 = 0
        · rw [if_pos hc] at h ⊢
          refine px_aload_n dX12_runs_33 rfl rfl ?_
          refine px_iload_n dX12_runs_34 rfl rfl ?_
          refine px_callV_V (As := [.int x1]) (st := []) dX12_runs_35 lk_X12_414.1 lk_X12_414.2 (b := 329) zl_329 zk_329 (by decide) rfl (by decide) rfl (Nat.le_of_ble_eq_true rfl) rfl rfl (Nat.le_of_ble_eq_true rfl) ⟨Nat.le_refl _, Nat.le_refl _, Nat.le_refl _⟩ ?_
          refine PAt.mono h (fun v κ gi7 gl8 hq => ?_)
          obtain ⟨rfl, -, h⟩ := hq
          refine px_iconst (v := (0 : Int32)) dX12_runs_38 (by decide) ?_
          refine px_istore (ls2 := [some (.ref 329), some (.int x1), some (.int x2), some (.int x3), some (.int (0 : Int32)), none, none]) dX12_runs_39 (by decide) rfl ?_
          exact PAt.forget h (lsub_at ⟨rfl, ⟨rfl, ⟨rfl, ⟨rfl, trivial⟩⟩⟩⟩)
        · rw [if_neg hc] at h ⊢
          refine px_iconst (v := ((-1) : Int32)) dX12_runs_31 (by decide) ?_
          exact px_ireturn dX12_runs_32 rfl ⟨.int, rfl, rfl, rfl⟩ ⟨rfl, _, rfl, h⟩
      · rw [if_neg hc] at h ⊢
        refine px_iconst (v := (0 : Int32)) dX12_runs_20 (by decide) ?_
        refine px_goto (tgt := 25) dX12_runs_21 (by decide) ?_
        refine px_callS_I (As := [.int x3, .int (0 : Int32), .int (0 : Int32)]) (st := []) dX12_runs_25 lk_X12_189.1 lk_X12_189.2 (by decide) rfl (Nat.le_of_ble_eq_true rfl) rfl rfl (Nat.le_of_ble_eq_true rfl) ⟨Nat.le_refl _, Nat.le_refl _, Nat.le_refl _⟩ ?_
        refine PAt.mono h (fun v κ gi9 gl10 hq => ?_)
        obtain ⟨rfl, r11, rfl, h⟩ := hq
        refine px_if_ne (tgt := 33) dX12_runs_28 (by decide) ?_
        by_cases hc : ¬ r11 = 0
        · rw [if_pos hc] at h ⊢
          refine px_aload_n dX12_runs_33 rfl rfl ?_
          refine px_iload_n dX12_runs_34 rfl rfl ?_
          refine px_callV_V (As := [.int x1]) (st := []) dX12_runs_35 lk_X12_414.1 lk_X12_414.2 (b := 329) zl_329 zk_329 (by decide) rfl (by decide) rfl (Nat.le_of_ble_eq_true rfl) rfl rfl (Nat.le_of_ble_eq_true rfl) ⟨Nat.le_refl _, Nat.le_refl _, Nat.le_refl _⟩ ?_
          refine PAt.mono h (fun v κ gi12 gl13 hq => ?_)
          obtain ⟨rfl, -, h⟩ := hq
          refine px_iconst (v := (0 : Int32)) dX12_runs_38 (by decide) ?_
          refine px_istore (ls2 := [some (.ref 329), some (.int x1), some (.int x2), some (.int x3), some (.int (0 : Int32)), none, none]) dX12_runs_39 (by decide) rfl ?_
          exact PAt.forget h (lsub_at ⟨rfl, ⟨rfl, ⟨rfl, ⟨rfl, trivial⟩⟩⟩⟩)
        · rw [if_neg hc] at h ⊢
          refine px_iconst (v := ((-1) : Int32)) dX12_runs_31 (by decide) ?_
          exact px_ireturn dX12_runs_32 rfl ⟨.int, rfl, rfl, rfl⟩ ⟨rfl, _, rfl, h⟩
set_option maxRecDepth 100000 in
theorem v_X12_runs_41 {x2 : Int32} {x3 : Int32} {x4 : Int32} {gi : Gi} {gl : Gl} {Q : Int32 → Gi → Gl → Prop}  (h : f_X12_runs_41 x2 x3 x4 gi gl Q) : p_X12_runs_41 x2 x3 x4 gi gl Q := by
  unfold f_X12_runs_41 at h
  show PAt mX12_runs NN NN κF 41 [some (.ref 329), none, some (.int x2), some (.int x3), some (.int x4), none, none] [] gi gl _
  refine px_iload dX12_runs_41 rfl ?_
  refine px_bipush (v := (12 : Int32)) dX12_runs_43 (by decide) ?_
  refine px_icmp_ge (tgt := 67) dX12_runs_45 (by decide) ?_
  by_cases hc : (12 : Int32) ≤ x4
  · rw [if_pos hc] at h ⊢
    refine px_iconst (v := (0 : Int32)) dX12_runs_67 (by decide) ?_
    refine px_istore (ls2 := [some (.ref 329), none, some (.int x2), some (.int x3), some (.int (0 : Int32)), none, none]) dX12_runs_68 (by decide) rfl ?_
    refine px_iconst (v := (0 : Int32)) dX12_runs_70 (by decide) ?_
    refine px_istore (ls2 := [some (.ref 329), none, some (.int x2), some (.int x3), some (.int (0 : Int32)), some (.int (0 : Int32)), none]) dX12_runs_71 (by decide) rfl ?_
    exact PAt.forget h (lsub_at ⟨rfl, ⟨rfl, ⟨rfl, ⟨rfl, ⟨rfl, trivial⟩⟩⟩⟩⟩)
  · rw [if_neg hc] at h ⊢
    refine px_aload_n dX12_runs_48 rfl rfl ?_
    refine gf_X12_131 rfl dX12_runs_49 zl_329 zk_329 rfl zr_329_55 zl_367 ?_
    refine px_iload dX12_runs_52 rfl ?_
    refine px_aload_n dX12_runs_54 rfl rfl ?_
    refine px_iload dX12_runs_55 rfl ?_
    refine px_callV_I (As := [.int x4]) (st := [.int x4, .ref 367]) dX12_runs_57 lk_X12_423.1 lk_X12_423.2 (b := 329) zl_329 zk_329 (by decide) rfl (by decide) rfl (Nat.le_of_ble_eq_true rfl) rfl rfl (Nat.le_of_ble_eq_true rfl) ⟨Nat.le_refl _, Nat.le_refl _, Nat.le_refl _⟩ ?_
    refine PAt.mono h (fun v κ gi1 gl2 hq => ?_)
    obtain ⟨rfl, r3, rfl, h⟩ := hq
    obtain ⟨hi, h⟩ := h
    refine px_iastore (n := 12) dX12_runs_60 zl_367 zk_367 zs_367 hi ?_
    obtain ⟨gi4, hgi4⟩ : ∃ y : Gi, y = uI gi1 367 (upd (gi1 367) x4.toNatClampNeg r3) := ⟨_, rfl⟩
    have h := h gi4 hgi4
    refine px_namegi hgi4 ?_
    refine px_iinc (v := x4 + (1 : Int32)) (ls2 := [some (.ref 329), none, some (.int x2), some (.int x3), some (.int (x4 + (1 : Int32))), none, none]) dX12_runs_61 rfl rfl (by decide) rfl ?_
    refine px_goto (tgt := 41) dX12_runs_64 (by decide) ?_
    exact PAt.forget h (lsub_at ⟨rfl, ⟨rfl, ⟨rfl, ⟨rfl, trivial⟩⟩⟩⟩)
set_option maxRecDepth 100000 in
theorem v_X12_runs_73 {x2 : Int32} {x3 : Int32} {x4 : Int32} {x5 : Int32} {gi : Gi} {gl : Gl} {Q : Int32 → Gi → Gl → Prop}  (h : f_X12_runs_73 x2 x3 x4 x5 gi gl Q) : p_X12_runs_73 x2 x3 x4 x5 gi gl Q := by
  unfold f_X12_runs_73 at h
  show PAt mX12_runs NN NN κF 73 [some (.ref 329), none, some (.int x2), some (.int x3), some (.int x4), some (.int x5), none] [] gi gl _
  refine px_iload dX12_runs_73 rfl ?_
  refine px_sipush (v := (3600 : Int32)) dX12_runs_75 (by decide) ?_
  refine px_icmp_ge (tgt := 171) dX12_runs_78 (by decide) ?_
  by_cases hc : (3600 : Int32) ≤ x5
  · rw [if_pos hc] at h ⊢
    refine px_iload_n dX12_runs_171 rfl rfl ?_
    refine px_iconst (v := ((-1) : Int32)) dX12_runs_172 (by decide) ?_
    refine px_icmp_ne (tgt := 181) dX12_runs_173 (by decide) ?_
    by_cases hc : ¬ x2 = ((-1) : Int32)
    · rw [if_pos hc] at h ⊢
      refine px_iconst (v := ((-1) : Int32)) dX12_runs_181 (by decide) ?_
      exact px_ireturn dX12_runs_182 rfl ⟨.int, rfl, rfl, rfl⟩ ⟨rfl, _, rfl, h⟩
    · rw [if_neg hc] at h ⊢
      refine px_iload dX12_runs_176 rfl ?_
      refine px_goto (tgt := 182) dX12_runs_178 (by decide) ?_
      exact px_ireturn dX12_runs_182 rfl ⟨.int, rfl, rfl, rfl⟩ ⟨rfl, _, rfl, h⟩
  · rw [if_neg hc] at h ⊢
    refine px_aload_n dX12_runs_81 rfl rfl ?_
    refine gf_X12_121 rfl dX12_runs_82 zl_329 zk_329 rfl zr_329_52 zl_364 ?_
    refine px_iload dX12_runs_85 rfl ?_
    obtain ⟨hi, h⟩ := h
    refine px_zaload (n := 3600) dX12_runs_87 zl_364 zk_364 zs_364 hi ?_
    refine px_if_ne (tgt := 94) dX12_runs_88 (by decide) ?_
    by_cases hc : ¬ (gi 364 x5.toNatClampNeg) = 0
    · rw [if_pos hc] at h ⊢
      refine px_iload dX12_runs_94 rfl ?_
      refine px_sipush (v := (360 : Int32)) dX12_runs_96 (by decide) ?_
      refine px_irem dX12_runs_99 (by decide) ?_
      refine px_bipush (v := (30 : Int32)) dX12_runs_100 (by decide) ?_
      refine px_idiv dX12_runs_102 (by decide) ?_
      obtain ⟨z1, hz1⟩ : ∃ y : Int32, y = (jr x5 (360 : Int32)) / (30 : Int32) := ⟨_, rfl⟩
      have h := h z1 hz1
      refine px_namei hz1 ?_
      refine px_istore (ls2 := [some (.ref 329), none, some (.int x2), some (.int x3), some (.int x4), some (.int x5), some (.int z1)]) dX12_runs_103 (by decide) rfl ?_
      refine px_iload_n dX12_runs_105 rfl rfl ?_
      refine px_if_lt (tgt := 153) dX12_runs_106 (by decide) ?_
      by_cases hc : x2 < 0
      · rw [if_pos hc] at h ⊢
        refine px_iload dX12_runs_153 rfl ?_
        refine px_aload_n dX12_runs_155 rfl rfl ?_
        refine gf_X12_131 rfl dX12_runs_156 zl_329 zk_329 rfl zr_329_55 zl_367 ?_
        refine px_iload dX12_runs_159 rfl ?_
        obtain ⟨hi, h⟩ := h
        refine px_iaload (n := 12) dX12_runs_161 zl_367 zk_367 zs_367 hi ?_
        refine px_iadd dX12_runs_162 ?_
        obtain ⟨z2, hz2⟩ : ∃ y : Int32, y = x4 + (gi 367 z1.toNatClampNeg) := ⟨_, rfl⟩
        have h := h z2 hz2
        refine px_namei hz2 ?_
        refine px_istore (ls2 := [some (.ref 329), none, some (.int x2), some (.int x3), some (.int z2), some (.int x5), some (.int z1)]) dX12_runs_163 (by decide) rfl ?_
        refine px_iinc (v := x5 + (1 : Int32)) (ls2 := [some (.ref 329), none, some (.int x2), some (.int x3), some (.int z2), some (.int (x5 + (1 : Int32))), some (.int z1)]) dX12_runs_165 rfl rfl (by decide) rfl ?_
        refine px_goto (tgt := 73) dX12_runs_168 (by decide) ?_
        exact PAt.forget h (lsub_at ⟨rfl, ⟨rfl, ⟨rfl, ⟨rfl, ⟨rfl, trivial⟩⟩⟩⟩⟩)
      · rw [if_neg hc] at h ⊢
        refine px_iload_n dX12_runs_109 rfl rfl ?_
        refine px_iload dX12_runs_110 rfl ?_
        refine px_aload_n dX12_runs_112 rfl rfl ?_
        refine gf_X12_131 rfl dX12_runs_113 zl_329 zk_329 rfl zr_329_55 zl_367 ?_
        refine px_iload dX12_runs_116 rfl ?_
        obtain ⟨hi, h⟩ := h
        refine px_iaload (n := 12) dX12_runs_118 zl_367 zk_367 zs_367 hi ?_
        refine px_iadd dX12_runs_119 ?_
        refine px_icmp_ge (tgt := 153) dX12_runs_120 (by decide) ?_
        by_cases hc : (x4 + (gi 367 z1.toNatClampNeg)) ≤ x2
        · rw [if_pos hc] at h ⊢
          refine px_iload dX12_runs_153 rfl ?_
          refine px_aload_n dX12_runs_155 rfl rfl ?_
          refine gf_X12_131 rfl dX12_runs_156 zl_329 zk_329 rfl zr_329_55 zl_367 ?_
          refine px_iload dX12_runs_159 rfl ?_
          obtain ⟨hi, h⟩ := h
          refine px_iaload (n := 12) dX12_runs_161 zl_367 zk_367 zs_367 hi ?_
          refine px_iadd dX12_runs_162 ?_
          obtain ⟨z3, hz3⟩ : ∃ y : Int32, y = x4 + (gi 367 z1.toNatClampNeg) := ⟨_, rfl⟩
          have h := h z3 hz3
          refine px_namei hz3 ?_
          refine px_istore (ls2 := [some (.ref 329), none, some (.int x2), some (.int x3), some (.int z3), some (.int x5), some (.int z1)]) dX12_runs_163 (by decide) rfl ?_
          refine px_iinc (v := x5 + (1 : Int32)) (ls2 := [some (.ref 329), none, some (.int x2), some (.int x3), some (.int z3), some (.int (x5 + (1 : Int32))), some (.int z1)]) dX12_runs_165 rfl rfl (by decide) rfl ?_
          refine px_goto (tgt := 73) dX12_runs_168 (by decide) ?_
          exact PAt.forget h (lsub_at ⟨rfl, ⟨rfl, ⟨rfl, ⟨rfl, ⟨rfl, trivial⟩⟩⟩⟩⟩)
        · rw [if_neg hc] at h ⊢
          refine px_iload_n dX12_runs_123 rfl rfl ?_
          refine px_if_ne (tgt := 132) dX12_runs_124 (by decide) ?_
          by_cases hc : ¬ x3 = 0
          · rw [if_pos hc] at h ⊢
            refine px_aload_n dX12_runs_132 rfl rfl ?_
            refine px_iload dX12_runs_133 rfl ?_
            refine px_iload_n dX12_runs_135 rfl rfl ?_
            refine px_iload dX12_runs_136 rfl ?_
            refine px_isub dX12_runs_138 ?_
            refine px_iload_n dX12_runs_139 rfl rfl ?_
            refine px_iconst (v := (2 : Int32)) dX12_runs_140 (by decide) ?_
            refine px_icmp_ne (tgt := 148) dX12_runs_141 (by decide) ?_
            by_cases hc : ¬ x3 = (2 : Int32)
            · rw [if_pos hc] at h ⊢
              refine px_iconst (v := (0 : Int32)) dX12_runs_148 (by decide) ?_
              refine px_callV_I (As := [.int z1, .int (x2 - x4), .int (0 : Int32)]) (st := []) dX12_runs_149 lk_X12_426.1 lk_X12_426.2 (b := 329) zl_329 zk_329 (by decide) rfl (by decide) rfl (Nat.le_of_ble_eq_true rfl) rfl rfl (Nat.le_of_ble_eq_true rfl) ⟨Nat.le_refl _, Nat.le_refl _, Nat.le_refl _⟩ ?_
              refine PAt.mono h (fun v κ gi4 gl5 hq => ?_)
              obtain ⟨rfl, r6, rfl, h⟩ := hq
              exact px_ireturn dX12_runs_152 rfl ⟨.int, rfl, rfl, rfl⟩ ⟨rfl, _, rfl, h⟩
            · rw [if_neg hc] at h ⊢
              refine px_iconst (v := (1 : Int32)) dX12_runs_144 (by decide) ?_
              refine px_goto (tgt := 149) dX12_runs_145 (by decide) ?_
              refine px_callV_I (As := [.int z1, .int (x2 - x4), .int (1 : Int32)]) (st := []) dX12_runs_149 lk_X12_426.1 lk_X12_426.2 (b := 329) zl_329 zk_329 (by decide) rfl (by decide) rfl (Nat.le_of_ble_eq_true rfl) rfl rfl (Nat.le_of_ble_eq_true rfl) ⟨Nat.le_refl _, Nat.le_refl _, Nat.le_refl _⟩ ?_
              refine PAt.mono h (fun v κ gi7 gl8 hq => ?_)
              obtain ⟨rfl, r9, rfl, h⟩ := hq
              exact px_ireturn dX12_runs_152 rfl ⟨.int, rfl, rfl, rfl⟩ ⟨rfl, _, rfl, h⟩
          · rw [if_neg hc] at h ⊢
            refine px_iload dX12_runs_127 rfl ?_
            refine px_goto (tgt := 152) dX12_runs_129 (by decide) ?_
            exact px_ireturn dX12_runs_152 rfl ⟨.int, rfl, rfl, rfl⟩ ⟨rfl, _, rfl, h⟩
    · rw [if_neg hc] at h ⊢
      refine px_goto (tgt := 165) dX12_runs_91 (by decide) ?_
      refine px_iinc (v := x5 + (1 : Int32)) (ls2 := [some (.ref 329), none, some (.int x2), some (.int x3), some (.int x4), some (.int (x5 + (1 : Int32))), none]) dX12_runs_165 rfl rfl (by decide) rfl ?_
      refine px_goto (tgt := 73) dX12_runs_168 (by decide) ?_
      exact PAt.forget h (lsub_at ⟨rfl, ⟨rfl, ⟨rfl, ⟨rfl, ⟨rfl, trivial⟩⟩⟩⟩⟩)
abbrev p_X12_dayBits_5 (x1 : Int32) (x2 : Int32) (x3 : Int32) (x4 : Int32) (gi : Gi) (gl : Gl) (Q : Int32 → Gi → Gl → Prop) : Prop := PAt mX12_dayBits NN NN κF 5 [some (.ref 329), some (.int x1), some (.int x2), some (.int x3), some (.int x4)] [] gi gl (RiQ Q)
def f_X12_dayBits (x1 : Int32) (x2 : Int32) (gi : Gi) (gl : Gl) (Q : Int32 → Gi → Gl → Prop) : Prop :=
p_X12_dayBits_5 x1 x2 (0 : Int32) (0 : Int32) gi gl Q
def f_X12_dayBits_5 (x1 : Int32) (x2 : Int32) (x3 : Int32) (x4 : Int32) (gi : Gi) (gl : Gl) (Q : Int32 → Gi → Gl → Prop) : Prop :=
vp_in x1 40 ∧
if (gi 356 x1.toNatClampNeg) ≤ x4 then
(Q x3 gi gl)
else
(p_X12_letsDay (((12 : Int32) * x1) + x4) x2 gi gl (fun (r3 : Int32) (gi1 : Gi) (gl2 : Gl) =>
if r3 = 0 then
(∀ z4 : Int32, z4 = x3 ||| (0 : Int32) →
p_X12_dayBits_5 x1 x2 z4 (x4 + (1 : Int32)) gi1 gl2 Q)
else
(∀ z5 : Int32, z5 = x3 ||| (jl (1 : Int32) x4) →
p_X12_dayBits_5 x1 x2 z5 (x4 + (1 : Int32)) gi1 gl2 Q)))
set_option maxRecDepth 100000 in
theorem v_X12_dayBits {x1 : Int32} {x2 : Int32} {gi : Gi} {gl : Gl} {Q : Int32 → Gi → Gl → Prop}  (h : f_X12_dayBits x1 x2 gi gl Q) : p_X12_dayBits x1 x2 gi gl Q := by
  unfold f_X12_dayBits at h
  show PAt mX12_dayBits NN NN κF 0 [some (.ref 329), some (.int x1), some (.int x2), none, none] [] gi gl _
  refine px_iconst (v := (0 : Int32)) dX12_dayBits_0 (by decide) ?_
  refine px_istore_n (ls2 := [some (.ref 329), some (.int x1), some (.int x2), some (.int (0 : Int32)), none]) (i := 3) rfl dX12_dayBits_1 (by decide) rfl ?_
  refine px_iconst (v := (0 : Int32)) dX12_dayBits_2 (by decide) ?_
  refine px_istore (ls2 := [some (.ref 329), some (.int x1), some (.int x2), some (.int (0 : Int32)), some (.int (0 : Int32))]) dX12_dayBits_3 (by decide) rfl ?_
  exact PAt.forget h (lsub_at ⟨rfl, ⟨rfl, ⟨rfl, ⟨rfl, ⟨rfl, trivial⟩⟩⟩⟩⟩)
set_option maxRecDepth 100000 in
theorem v_X12_dayBits_5 {x1 : Int32} {x2 : Int32} {x3 : Int32} {x4 : Int32} {gi : Gi} {gl : Gl} {Q : Int32 → Gi → Gl → Prop}  (h : f_X12_dayBits_5 x1 x2 x3 x4 gi gl Q) : p_X12_dayBits_5 x1 x2 x3 x4 gi gl Q := by
  unfold f_X12_dayBits_5 at h
  show PAt mX12_dayBits NN NN κF 5 [some (.ref 329), some (.int x1), some (.int x2), some (.int x3), some (.int x4)] [] gi gl _
  refine px_iload dX12_dayBits_5 rfl ?_
  refine px_aload_n dX12_dayBits_7 rfl rfl ?_
  refine gf_X12_89 rfl dX12_dayBits_8 zl_329 zk_329 rfl zr_329_28 zl_356 ?_
  refine px_iload_n dX12_dayBits_11 rfl rfl ?_
  obtain ⟨hi, h⟩ := h
  refine px_iaload (n := 40) dX12_dayBits_12 zl_356 zk_356 zs_356 hi ?_
  refine px_icmp_ge (tgt := 48) dX12_dayBits_13 (by decide) ?_
  by_cases hc : (gi 356 x1.toNatClampNeg) ≤ x4
  · rw [if_pos hc] at h ⊢
    refine px_iload_n dX12_dayBits_48 rfl rfl ?_
    exact px_ireturn dX12_dayBits_49 rfl ⟨.int, rfl, rfl, rfl⟩ ⟨rfl, _, rfl, h⟩
  · rw [if_neg hc] at h ⊢
    refine px_iload_n dX12_dayBits_16 rfl rfl ?_
    refine px_aload_n dX12_dayBits_17 rfl rfl ?_
    refine px_bipush (v := (12 : Int32)) dX12_dayBits_18 (by decide) ?_
    refine px_iload_n dX12_dayBits_20 rfl rfl ?_
    refine px_imul dX12_dayBits_21 ?_
    refine px_iload dX12_dayBits_22 rfl ?_
    refine px_iadd dX12_dayBits_24 ?_
    refine px_iload_n dX12_dayBits_25 rfl rfl ?_
    refine px_callV_I (As := [.int (((12 : Int32) * x1) + x4), .int x2]) (st := [.int x3]) dX12_dayBits_26 lk_X12_395.1 lk_X12_395.2 (b := 329) zl_329 zk_329 (by decide) rfl (by decide) rfl (Nat.le_of_ble_eq_true rfl) rfl rfl (Nat.le_of_ble_eq_true rfl) ⟨Nat.le_refl _, Nat.le_refl _, Nat.le_refl _⟩ ?_
    refine PAt.mono h (fun v κ gi1 gl2 hq => ?_)
    obtain ⟨rfl, r3, rfl, h⟩ := hq
    refine px_if_eq (tgt := 39) dX12_dayBits_29 (by decide) ?_
    by_cases hc : r3 = 0
    · rw [if_pos hc] at h ⊢
      refine px_iconst (v := (0 : Int32)) dX12_dayBits_39 (by decide) ?_
      refine px_ior dX12_dayBits_40 ?_
      obtain ⟨z4, hz4⟩ : ∃ y : Int32, y = x3 ||| (0 : Int32) := ⟨_, rfl⟩
      have h := h z4 hz4
      refine px_namei hz4 ?_
      refine px_istore_n (ls2 := [some (.ref 329), some (.int x1), some (.int x2), some (.int z4), some (.int x4)]) (i := 3) rfl dX12_dayBits_41 (by decide) rfl ?_
      refine px_iinc (v := x4 + (1 : Int32)) (ls2 := [some (.ref 329), some (.int x1), some (.int x2), some (.int z4), some (.int (x4 + (1 : Int32)))]) dX12_dayBits_42 rfl rfl (by decide) rfl ?_
      refine px_goto (tgt := 5) dX12_dayBits_45 (by decide) ?_
      exact PAt.forget h (lsub_at ⟨rfl, ⟨rfl, ⟨rfl, ⟨rfl, ⟨rfl, trivial⟩⟩⟩⟩⟩)
    · rw [if_neg hc] at h ⊢
      refine px_iconst (v := (1 : Int32)) dX12_dayBits_32 (by decide) ?_
      refine px_iload dX12_dayBits_33 rfl ?_
      refine px_ishl dX12_dayBits_35 ?_
      refine px_goto (tgt := 40) dX12_dayBits_36 (by decide) ?_
      refine px_ior dX12_dayBits_40 ?_
      obtain ⟨z5, hz5⟩ : ∃ y : Int32, y = x3 ||| (jl (1 : Int32) x4) := ⟨_, rfl⟩
      have h := h z5 hz5
      refine px_namei hz5 ?_
      refine px_istore_n (ls2 := [some (.ref 329), some (.int x1), some (.int x2), some (.int z5), some (.int x4)]) (i := 3) rfl dX12_dayBits_41 (by decide) rfl ?_
      refine px_iinc (v := x4 + (1 : Int32)) (ls2 := [some (.ref 329), some (.int x1), some (.int x2), some (.int z5), some (.int (x4 + (1 : Int32)))]) dX12_dayBits_42 rfl rfl (by decide) rfl ?_
      refine px_goto (tgt := 5) dX12_dayBits_45 (by decide) ?_
      exact PAt.forget h (lsub_at ⟨rfl, ⟨rfl, ⟨rfl, ⟨rfl, ⟨rfl, trivial⟩⟩⟩⟩⟩)
abbrev p_X12_minuteBits_6 (x1 : Int32) (x2 : Int32) (x3 : Int32) (x4 : Int32) (x5 : Int32) (gi : Gi) (gl : Gl) (Q : Int32 → Gi → Gl → Prop) : Prop := PAt mX12_minuteBits NN NN κF 6 [some (.ref 329), some (.int x1), some (.int x2), some (.int x3), some (.int x4), some (.int x5)] [] gi gl (RiQ Q)
def f_X12_minuteBits (x1 : Int32) (x2 : Int32) (x3 : Int32) (gi : Gi) (gl : Gl) (Q : Int32 → Gi → Gl → Prop) : Prop :=
p_X12_minuteBits_6 x1 x2 x3 (0 : Int32) (0 : Int32) gi gl Q
def f_X12_minuteBits_6 (x1 : Int32) (x2 : Int32) (x3 : Int32) (x4 : Int32) (x5 : Int32) (gi : Gi) (gl : Gl) (Q : Int32 → Gi → Gl → Prop) : Prop :=
vp_in x1 40 ∧
if (gi 356 x1.toNatClampNeg) ≤ x5 then
(Q x4 gi gl)
else
(p_X12_letsMinute (((12 : Int32) * x1) + x5) x2 x3 gi gl (fun (r3 : Int32) (gi1 : Gi) (gl2 : Gl) =>
if r3 = 0 then
(∀ z4 : Int32, z4 = x4 ||| (0 : Int32) →
p_X12_minuteBits_6 x1 x2 x3 z4 (x5 + (1 : Int32)) gi1 gl2 Q)
else
(∀ z5 : Int32, z5 = x4 ||| (jl (1 : Int32) x5) →
p_X12_minuteBits_6 x1 x2 x3 z5 (x5 + (1 : Int32)) gi1 gl2 Q)))
set_option maxRecDepth 100000 in
theorem v_X12_minuteBits {x1 : Int32} {x2 : Int32} {x3 : Int32} {gi : Gi} {gl : Gl} {Q : Int32 → Gi → Gl → Prop}  (h : f_X12_minuteBits x1 x2 x3 gi gl Q) : p_X12_minuteBits x1 x2 x3 gi gl Q := by
  unfold f_X12_minuteBits at h
  show PAt mX12_minuteBits NN NN κF 0 [some (.ref 329), some (.int x1), some (.int x2), some (.int x3), none, none] [] gi gl _
  refine px_iconst (v := (0 : Int32)) dX12_minuteBits_0 (by decide) ?_
  refine px_istore (ls2 := [some (.ref 329), some (.int x1), some (.int x2), some (.int x3), some (.int (0 : Int32)), none]) dX12_minuteBits_1 (by decide) rfl ?_
  refine px_iconst (v := (0 : Int32)) dX12_minuteBits_3 (by decide) ?_
  refine px_istore (ls2 := [some (.ref 329), some (.int x1), some (.int x2), some (.int x3), some (.int (0 : Int32)), some (.int (0 : Int32))]) dX12_minuteBits_4 (by decide) rfl ?_
  exact PAt.forget h (lsub_at ⟨rfl, ⟨rfl, ⟨rfl, ⟨rfl, ⟨rfl, ⟨rfl, trivial⟩⟩⟩⟩⟩⟩)
set_option maxRecDepth 100000 in
theorem v_X12_minuteBits_6 {x1 : Int32} {x2 : Int32} {x3 : Int32} {x4 : Int32} {x5 : Int32} {gi : Gi} {gl : Gl} {Q : Int32 → Gi → Gl → Prop}  (h : f_X12_minuteBits_6 x1 x2 x3 x4 x5 gi gl Q) : p_X12_minuteBits_6 x1 x2 x3 x4 x5 gi gl Q := by
  unfold f_X12_minuteBits_6 at h
  show PAt mX12_minuteBits NN NN κF 6 [some (.ref 329), some (.int x1), some (.int x2), some (.int x3), some (.int x4), some (.int x5)] [] gi gl _
  refine px_iload dX12_minuteBits_6 rfl ?_
  refine px_aload_n dX12_minuteBits_8 rfl rfl ?_
  refine gf_X12_89 rfl dX12_minuteBits_9 zl_329 zk_329 rfl zr_329_28 zl_356 ?_
  refine px_iload_n dX12_minuteBits_12 rfl rfl ?_
  obtain ⟨hi, h⟩ := h
  refine px_iaload (n := 40) dX12_minuteBits_13 zl_356 zk_356 zs_356 hi ?_
  refine px_icmp_ge (tgt := 52) dX12_minuteBits_14 (by decide) ?_
  by_cases hc : (gi 356 x1.toNatClampNeg) ≤ x5
  · rw [if_pos hc] at h ⊢
    refine px_iload dX12_minuteBits_52 rfl ?_
    exact px_ireturn dX12_minuteBits_54 rfl ⟨.int, rfl, rfl, rfl⟩ ⟨rfl, _, rfl, h⟩
  · rw [if_neg hc] at h ⊢
    refine px_iload dX12_minuteBits_17 rfl ?_
    refine px_aload_n dX12_minuteBits_19 rfl rfl ?_
    refine px_bipush (v := (12 : Int32)) dX12_minuteBits_20 (by decide) ?_
    refine px_iload_n dX12_minuteBits_22 rfl rfl ?_
    refine px_imul dX12_minuteBits_23 ?_
    refine px_iload dX12_minuteBits_24 rfl ?_
    refine px_iadd dX12_minuteBits_26 ?_
    refine px_iload_n dX12_minuteBits_27 rfl rfl ?_
    refine px_iload_n dX12_minuteBits_28 rfl rfl ?_
    refine px_callV_I (As := [.int (((12 : Int32) * x1) + x5), .int x2, .int x3]) (st := [.int x4]) dX12_minuteBits_29 lk_X12_398.1 lk_X12_398.2 (b := 329) zl_329 zk_329 (by decide) rfl (by decide) rfl (Nat.le_of_ble_eq_true rfl) rfl rfl (Nat.le_of_ble_eq_true rfl) ⟨Nat.le_refl _, Nat.le_refl _, Nat.le_refl _⟩ ?_
    refine PAt.mono h (fun v κ gi1 gl2 hq => ?_)
    obtain ⟨rfl, r3, rfl, h⟩ := hq
    refine px_if_eq (tgt := 42) dX12_minuteBits_32 (by decide) ?_
    by_cases hc : r3 = 0
    · rw [if_pos hc] at h ⊢
      refine px_iconst (v := (0 : Int32)) dX12_minuteBits_42 (by decide) ?_
      refine px_ior dX12_minuteBits_43 ?_
      obtain ⟨z4, hz4⟩ : ∃ y : Int32, y = x4 ||| (0 : Int32) := ⟨_, rfl⟩
      have h := h z4 hz4
      refine px_namei hz4 ?_
      refine px_istore (ls2 := [some (.ref 329), some (.int x1), some (.int x2), some (.int x3), some (.int z4), some (.int x5)]) dX12_minuteBits_44 (by decide) rfl ?_
      refine px_iinc (v := x5 + (1 : Int32)) (ls2 := [some (.ref 329), some (.int x1), some (.int x2), some (.int x3), some (.int z4), some (.int (x5 + (1 : Int32)))]) dX12_minuteBits_46 rfl rfl (by decide) rfl ?_
      refine px_goto (tgt := 6) dX12_minuteBits_49 (by decide) ?_
      exact PAt.forget h (lsub_at ⟨rfl, ⟨rfl, ⟨rfl, ⟨rfl, ⟨rfl, ⟨rfl, trivial⟩⟩⟩⟩⟩⟩)
    · rw [if_neg hc] at h ⊢
      refine px_iconst (v := (1 : Int32)) dX12_minuteBits_35 (by decide) ?_
      refine px_iload dX12_minuteBits_36 rfl ?_
      refine px_ishl dX12_minuteBits_38 ?_
      refine px_goto (tgt := 43) dX12_minuteBits_39 (by decide) ?_
      refine px_ior dX12_minuteBits_43 ?_
      obtain ⟨z5, hz5⟩ : ∃ y : Int32, y = x4 ||| (jl (1 : Int32) x5) := ⟨_, rfl⟩
      have h := h z5 hz5
      refine px_namei hz5 ?_
      refine px_istore (ls2 := [some (.ref 329), some (.int x1), some (.int x2), some (.int x3), some (.int z5), some (.int x5)]) dX12_minuteBits_44 (by decide) rfl ?_
      refine px_iinc (v := x5 + (1 : Int32)) (ls2 := [some (.ref 329), some (.int x1), some (.int x2), some (.int x3), some (.int z5), some (.int (x5 + (1 : Int32)))]) dX12_minuteBits_46 rfl rfl (by decide) rfl ?_
      refine px_goto (tgt := 6) dX12_minuteBits_49 (by decide) ?_
      exact PAt.forget h (lsub_at ⟨rfl, ⟨rfl, ⟨rfl, ⟨rfl, ⟨rfl, ⟨rfl, trivial⟩⟩⟩⟩⟩⟩)
abbrev p_X12_findSets_11 (x1 : Int32) (x2 : Int32) (x3 : Int32) (gi : Gi) (gl : Gl) (Q : Gi → Gl → Prop) : Prop := PAt mX12_findSets NN NN κF 11 [some (.ref 329), some (.int x1), some (.int x2), some (.int x3), none, none] [] gi gl (RvQ Q)
abbrev p_X12_findSets_31 (x1 : Int32) (x2 : Int32) (x3 : Int32) (gi : Gi) (gl : Gl) (Q : Gi → Gl → Prop) : Prop := PAt mX12_findSets NN NN κF 31 [some (.ref 329), some (.int x1), some (.int x2), some (.int x3), none, none] [] gi gl (RvQ Q)
abbrev p_X12_findSets_40 (x1 : Int32) (x2 : Int32) (x3 : Int32) (x4 : Int32) (gi : Gi) (gl : Gl) (Q : Gi → Gl → Prop) : Prop := PAt mX12_findSets NN NN κF 40 [some (.ref 329), some (.int x1), some (.int x2), some (.int x3), some (.int x4), none] [] gi gl (RvQ Q)
abbrev p_X12_findSets_74 (x1 : Int32) (x2 : Int32) (x3 : Int32) (x4 : Int32) (gi : Gi) (gl : Gl) (Q : Gi → Gl → Prop) : Prop := PAt mX12_findSets NN NN κF 74 [some (.ref 329), some (.int x1), some (.int x2), some (.int x3), some (.int x4), none] [] gi gl (RvQ Q)
abbrev p_X12_findSets_117 (x1 : Int32) (x2 : Int32) (x3 : Int32) (x4 : Int32) (gi : Gi) (gl : Gl) (Q : Gi → Gl → Prop) : Prop := PAt mX12_findSets NN NN κF 117 [some (.ref 329), some (.int x1), some (.int x2), some (.int x3), some (.int x4), none] [] gi gl (RvQ Q)
abbrev p_X12_findSets_148 (x1 : Int32) (x2 : Int32) (x3 : Int32) (x4 : Int32) (gi : Gi) (gl : Gl) (Q : Gi → Gl → Prop) : Prop := PAt mX12_findSets NN NN κF 148 [some (.ref 329), some (.int x1), some (.int x2), some (.int x3), some (.int x4), none] [] gi gl (RvQ Q)
abbrev p_X12_findSets_157 (x1 : Int32) (x2 : Int32) (x3 : Int32) (x4 : Int32) (x5 : Int32) (gi : Gi) (gl : Gl) (Q : Gi → Gl → Prop) : Prop := PAt mX12_findSets NN NN κF 157 [some (.ref 329), some (.int x1), some (.int x2), some (.int x3), some (.int x4), some (.int x5)] [] gi gl (RvQ Q)
abbrev p_X12_findSets_214 (x1 : Int32) (x2 : Int32) (x3 : Int32) (gi : Gi) (gl : Gl) (Q : Gi → Gl → Prop) : Prop := PAt mX12_findSets NN NN κF 214 [some (.ref 329), some (.int x1), some (.int x2), some (.int x3), none, none] [] gi gl (RvQ Q)
abbrev p_X12_findSets_227 (x1 : Int32) (x2 : Int32) (x3 : Int32) (x4 : Int32) (gi : Gi) (gl : Gl) (Q : Gi → Gl → Prop) : Prop := PAt mX12_findSets NN NN κF 227 [some (.ref 329), some (.int x1), some (.int x2), some (.int x3), some (.int x4), none] [] gi gl (RvQ Q)
def f_X12_findSets (x1 : Int32) (gi : Gi) (gl : Gl) (Q : Gi → Gl → Prop) : Prop :=
vp_in x1 40 ∧
∀ z1 : Int32, z1 = jl (1 : Int32) (gi 356 x1.toNatClampNeg) →
p_X12_findSets_11 x1 z1 (0 : Int32) gi gl Q
def f_X12_findSets_11 (x1 : Int32) (x2 : Int32) (x3 : Int32) (gi : Gi) (gl : Gl) (Q : Gi → Gl → Prop) : Prop :=
if x2 ≤ x3 then
(p_X12_findSets_31 x1 x2 (0 : Int32) gi gl Q)
else
(vp_in x3 4096 ∧
∀ gi1 : Gi, gi1 = uI gi 368 (upd (gi 368) x3.toNatClampNeg (vp_nar .boolean (0 : Int32))) →
p_X12_findSets_11 x1 x2 (x3 + (1 : Int32)) gi1 gl Q)
def f_X12_findSets_31 (x1 : Int32) (x2 : Int32) (x3 : Int32) (gi : Gi) (gl : Gl) (Q : Gi → Gl → Prop) : Prop :=
if (12 : Int32) ≤ x3 then
(p_X12_findSets_214 x1 x2 (0 : Int32) gi gl Q)
else
(p_X12_findSets_40 x1 x2 x3 (0 : Int32) gi gl Q)
def f_X12_findSets_214 (x1 : Int32) (x2 : Int32) (x3 : Int32) (gi : Gi) (gl : Gl) (Q : Gi → Gl → Prop) : Prop :=
vp_in x1 40 ∧
if (gi 356 x1.toNatClampNeg) ≤ x3 then
(Q gi gl)
else
(p_X12_findSets_227 x1 x2 x3 (0 : Int32) gi gl Q)
def f_X12_findSets_40 (x1 : Int32) (x2 : Int32) (x3 : Int32) (x4 : Int32) (gi : Gi) (gl : Gl) (Q : Gi → Gl → Prop) : Prop :=
if x2 ≤ x4 then
(∀ z1 : Int32, z1 = (30 : Int32) * x3 →
p_X12_findSets_74 x1 x2 x3 z1 gi gl Q)
else
(vp_in x4 4096 ∧
∀ gi2 : Gi, gi2 = uI gi 369 (upd (gi 369) x4.toNatClampNeg (vp_nar .boolean (0 : Int32))) →
vp_in x4 4096 ∧
∀ gi3 : Gi, gi3 = uI gi2 370 (upd (gi2 370) x4.toNatClampNeg (vp_nar .boolean (0 : Int32))) →
p_X12_findSets_40 x1 x2 x3 (x4 + (1 : Int32)) gi3 gl Q)
def f_X12_findSets_227 (x1 : Int32) (x2 : Int32) (x3 : Int32) (x4 : Int32) (gi : Gi) (gl : Gl) (Q : Gi → Gl → Prop) : Prop :=
if x2 ≤ x4 then
(p_X12_findSets_214 x1 x2 (x3 + (1 : Int32)) gi gl Q)
else
(if ¬ ((ja x4 x3) &&& (1 : Int32)) = 0 then
(p_X12_findSets_227 x1 x2 x3 (x4 + (1 : Int32)) gi gl Q)
else
(vp_in (x4 ||| (jl (1 : Int32) x3)) 4096 ∧
if (gi 368 (x4 ||| (jl (1 : Int32) x3)).toNatClampNeg) = 0 then
(p_X12_findSets_227 x1 x2 x3 (x4 + (1 : Int32)) gi gl Q)
else
(vp_in x4 4096 ∧
∀ gi1 : Gi, gi1 = uI gi 368 (upd (gi 368) x4.toNatClampNeg (vp_nar .boolean (1 : Int32))) →
p_X12_findSets_227 x1 x2 x3 (x4 + (1 : Int32)) gi1 gl Q)))
def f_X12_findSets_74 (x1 : Int32) (x2 : Int32) (x3 : Int32) (x4 : Int32) (gi : Gi) (gl : Gl) (Q : Gi → Gl → Prop) : Prop :=
if (3600 : Int32) ≤ x4 then
(p_X12_findSets_117 x1 x2 x3 (0 : Int32) gi gl Q)
else
(if ¬ ((jr x4 (360 : Int32)) / (30 : Int32)) = x3 then
(p_X12_findSets_74 x1 x2 x3 (x4 + (1 : Int32)) gi gl Q)
else
(p_X12_dayBits x1 x4 gi gl (fun (r3 : Int32) (gi1 : Gi) (gl2 : Gl) =>
vp_in r3 4096 ∧
∀ gi4 : Gi, gi4 = uI gi1 369 (upd (gi1 369) r3.toNatClampNeg (vp_nar .boolean (1 : Int32))) →
p_X12_findSets_74 x1 x2 x3 (x4 + (1 : Int32)) gi4 gl2 Q)))
def f_X12_findSets_117 (x1 : Int32) (x2 : Int32) (x3 : Int32) (x4 : Int32) (gi : Gi) (gl : Gl) (Q : Gi → Gl → Prop) : Prop :=
if (720 : Int32) ≤ x4 then
(p_X12_findSets_148 x1 x2 x3 (0 : Int32) gi gl Q)
else
(p_X12_minuteBits x1 x3 x4 gi gl (fun (r3 : Int32) (gi1 : Gi) (gl2 : Gl) =>
vp_in r3 4096 ∧
∀ gi4 : Gi, gi4 = uI gi1 370 (upd (gi1 370) r3.toNatClampNeg (vp_nar .boolean (1 : Int32))) →
p_X12_findSets_117 x1 x2 x3 (x4 + (1 : Int32)) gi4 gl2 Q))
def f_X12_findSets_148 (x1 : Int32) (x2 : Int32) (x3 : Int32) (x4 : Int32) (gi : Gi) (gl : Gl) (Q : Gi → Gl → Prop) : Prop :=
if x2 ≤ x4 then
(p_X12_findSets_31 x1 x2 (x3 + (1 : Int32)) gi gl Q)
else
(p_X12_findSets_157 x1 x2 x3 x4 (0 : Int32) gi gl Q)
def f_X12_findSets_157 (x1 : Int32) (x2 : Int32) (x3 : Int32) (x4 : Int32) (x5 : Int32) (gi : Gi) (gl : Gl) (Q : Gi → Gl → Prop) : Prop :=
if x2 ≤ x5 then
(p_X12_findSets_148 x1 x2 x3 (x4 + (1 : Int32)) gi gl Q)
else
(vp_in x4 4096 ∧
if (gi 369 x4.toNatClampNeg) = 0 then
(p_X12_findSets_148 x1 x2 x3 (x4 + (1 : Int32)) gi gl Q)
else
(vp_in x5 4096 ∧
if (gi 370 x5.toNatClampNeg) = 0 then
(p_X12_findSets_157 x1 x2 x3 x4 (x5 + (1 : Int32)) gi gl Q)
else
(vp_in (x4 &&& x5) 4096 ∧
∀ gi1 : Gi, gi1 = uI gi 368 (upd (gi 368) (x4 &&& x5).toNatClampNeg (vp_nar .boolean (1 : Int32))) →
p_X12_findSets_157 x1 x2 x3 x4 (x5 + (1 : Int32)) gi1 gl Q)))
set_option maxRecDepth 100000 in
theorem v_X12_findSets {x1 : Int32} {gi : Gi} {gl : Gl} {Q : Gi → Gl → Prop}  (h : f_X12_findSets x1 gi gl Q) : p_X12_findSets x1 gi gl Q := by
  unfold f_X12_findSets at h
  show PAt mX12_findSets NN NN κF 0 [some (.ref 329), some (.int x1), none, none, none, none] [] gi gl _
  refine px_iconst (v := (1 : Int32)) dX12_findSets_0 (by decide) ?_
  refine px_aload_n dX12_findSets_1 rfl rfl ?_
  refine gf_X12_89 rfl dX12_findSets_2 zl_329 zk_329 rfl zr_329_28 zl_356 ?_
  refine px_iload_n dX12_findSets_5 rfl rfl ?_
  obtain ⟨hi, h⟩ := h
  refine px_iaload (n := 40) dX12_findSets_6 zl_356 zk_356 zs_356 hi ?_
  refine px_ishl dX12_findSets_7 ?_
  obtain ⟨z1, hz1⟩ : ∃ y : Int32, y = jl (1 : Int32) (gi 356 x1.toNatClampNeg) := ⟨_, rfl⟩
  have h := h z1 hz1
  refine px_namei hz1 ?_
  refine px_istore_n (ls2 := [some (.ref 329), some (.int x1), some (.int z1), none, none, none]) (i := 2) rfl dX12_findSets_8 (by decide) rfl ?_
  refine px_iconst (v := (0 : Int32)) dX12_findSets_9 (by decide) ?_
  refine px_istore_n (ls2 := [some (.ref 329), some (.int x1), some (.int z1), some (.int (0 : Int32)), none, none]) (i := 3) rfl dX12_findSets_10 (by decide) rfl ?_
  exact PAt.forget h (lsub_at ⟨rfl, ⟨rfl, ⟨rfl, ⟨rfl, trivial⟩⟩⟩⟩)
set_option maxRecDepth 100000 in
theorem v_X12_findSets_11 {x1 : Int32} {x2 : Int32} {x3 : Int32} {gi : Gi} {gl : Gl} {Q : Gi → Gl → Prop}  (h : f_X12_findSets_11 x1 x2 x3 gi gl Q) : p_X12_findSets_11 x1 x2 x3 gi gl Q := by
  unfold f_X12_findSets_11 at h
  show PAt mX12_findSets NN NN κF 11 [some (.ref 329), some (.int x1), some (.int x2), some (.int x3), none, none] [] gi gl _
  refine px_iload_n dX12_findSets_11 rfl rfl ?_
  refine px_iload_n dX12_findSets_12 rfl rfl ?_
  refine px_icmp_ge (tgt := 29) dX12_findSets_13 (by decide) ?_
  by_cases hc : x2 ≤ x3
  · rw [if_pos hc] at h ⊢
    refine px_iconst (v := (0 : Int32)) dX12_findSets_29 (by decide) ?_
    refine px_istore_n (ls2 := [some (.ref 329), some (.int x1), some (.int x2), some (.int (0 : Int32)), none, none]) (i := 3) rfl dX12_findSets_30 (by decide) rfl ?_
    exact PAt.forget h (lsub_at ⟨rfl, ⟨rfl, ⟨rfl, ⟨rfl, trivial⟩⟩⟩⟩)
  · rw [if_neg hc] at h ⊢
    refine px_aload_n dX12_findSets_16 rfl rfl ?_
    refine gf_X12_134 rfl dX12_findSets_17 zl_329 zk_329 rfl zr_329_56 zl_368 ?_
    refine px_iload_n dX12_findSets_20 rfl rfl ?_
    refine px_iconst (v := (0 : Int32)) dX12_findSets_21 (by decide) ?_
    obtain ⟨hi, h⟩ := h
    refine px_zastore (n := 4096) dX12_findSets_22 zl_368 zk_368 zs_368 hi ?_
    obtain ⟨gi1, hgi1⟩ : ∃ y : Gi, y = uI gi 368 (upd (gi 368) x3.toNatClampNeg (vp_nar .boolean (0 : Int32))) := ⟨_, rfl⟩
    have h := h gi1 hgi1
    refine px_namegi hgi1 ?_
    refine px_iinc (v := x3 + (1 : Int32)) (ls2 := [some (.ref 329), some (.int x1), some (.int x2), some (.int (x3 + (1 : Int32))), none, none]) dX12_findSets_23 rfl rfl (by decide) rfl ?_
    refine px_goto (tgt := 11) dX12_findSets_26 (by decide) ?_
    exact PAt.forget h (lsub_at ⟨rfl, ⟨rfl, ⟨rfl, ⟨rfl, trivial⟩⟩⟩⟩)
set_option maxRecDepth 100000 in
theorem v_X12_findSets_31 {x1 : Int32} {x2 : Int32} {x3 : Int32} {gi : Gi} {gl : Gl} {Q : Gi → Gl → Prop}  (h : f_X12_findSets_31 x1 x2 x3 gi gl Q) : p_X12_findSets_31 x1 x2 x3 gi gl Q := by
  unfold f_X12_findSets_31 at h
  show PAt mX12_findSets NN NN κF 31 [some (.ref 329), some (.int x1), some (.int x2), some (.int x3), none, none] [] gi gl _
  refine px_iload_n dX12_findSets_31 rfl rfl ?_
  refine px_bipush (v := (12 : Int32)) dX12_findSets_32 (by decide) ?_
  refine px_icmp_ge (tgt := 212) dX12_findSets_34 (by decide) ?_
  by_cases hc : (12 : Int32) ≤ x3
  · rw [if_pos hc] at h ⊢
    refine px_iconst (v := (0 : Int32)) dX12_findSets_212 (by decide) ?_
    refine px_istore_n (ls2 := [some (.ref 329), some (.int x1), some (.int x2), some (.int (0 : Int32)), none, none]) (i := 3) rfl dX12_findSets_213 (by decide) rfl ?_
    exact PAt.forget h (lsub_at ⟨rfl, ⟨rfl, ⟨rfl, ⟨rfl, trivial⟩⟩⟩⟩)
  · rw [if_neg hc] at h ⊢
    refine px_iconst (v := (0 : Int32)) dX12_findSets_37 (by decide) ?_
    refine px_istore (ls2 := [some (.ref 329), some (.int x1), some (.int x2), some (.int x3), some (.int (0 : Int32)), none]) dX12_findSets_38 (by decide) rfl ?_
    exact PAt.forget h (lsub_at ⟨rfl, ⟨rfl, ⟨rfl, ⟨rfl, ⟨rfl, trivial⟩⟩⟩⟩⟩)
set_option maxRecDepth 100000 in
theorem v_X12_findSets_214 {x1 : Int32} {x2 : Int32} {x3 : Int32} {gi : Gi} {gl : Gl} {Q : Gi → Gl → Prop}  (h : f_X12_findSets_214 x1 x2 x3 gi gl Q) : p_X12_findSets_214 x1 x2 x3 gi gl Q := by
  unfold f_X12_findSets_214 at h
  show PAt mX12_findSets NN NN κF 214 [some (.ref 329), some (.int x1), some (.int x2), some (.int x3), none, none] [] gi gl _
  refine px_iload_n dX12_findSets_214 rfl rfl ?_
  refine px_aload_n dX12_findSets_215 rfl rfl ?_
  refine gf_X12_89 rfl dX12_findSets_216 zl_329 zk_329 rfl zr_329_28 zl_356 ?_
  refine px_iload_n dX12_findSets_219 rfl rfl ?_
  obtain ⟨hi, h⟩ := h
  refine px_iaload (n := 40) dX12_findSets_220 zl_356 zk_356 zs_356 hi ?_
  refine px_icmp_ge (tgt := 276) dX12_findSets_221 (by decide) ?_
  by_cases hc : (gi 356 x1.toNatClampNeg) ≤ x3
  · rw [if_pos hc] at h ⊢
    exact px_return dX12_findSets_276 rfl rfl ⟨rfl, rfl, h⟩
  · rw [if_neg hc] at h ⊢
    refine px_iconst (v := (0 : Int32)) dX12_findSets_224 (by decide) ?_
    refine px_istore (ls2 := [some (.ref 329), some (.int x1), some (.int x2), some (.int x3), some (.int (0 : Int32)), none]) dX12_findSets_225 (by decide) rfl ?_
    exact PAt.forget h (lsub_at ⟨rfl, ⟨rfl, ⟨rfl, ⟨rfl, ⟨rfl, trivial⟩⟩⟩⟩⟩)
set_option maxRecDepth 100000 in
theorem v_X12_findSets_40 {x1 : Int32} {x2 : Int32} {x3 : Int32} {x4 : Int32} {gi : Gi} {gl : Gl} {Q : Gi → Gl → Prop}  (h : f_X12_findSets_40 x1 x2 x3 x4 gi gl Q) : p_X12_findSets_40 x1 x2 x3 x4 gi gl Q := by
  unfold f_X12_findSets_40 at h
  show PAt mX12_findSets NN NN κF 40 [some (.ref 329), some (.int x1), some (.int x2), some (.int x3), some (.int x4), none] [] gi gl _
  refine px_iload dX12_findSets_40 rfl ?_
  refine px_iload_n dX12_findSets_42 rfl rfl ?_
  refine px_icmp_ge (tgt := 68) dX12_findSets_43 (by decide) ?_
  by_cases hc : x2 ≤ x4
  · rw [if_pos hc] at h ⊢
    refine px_bipush (v := (30 : Int32)) dX12_findSets_68 (by decide) ?_
    refine px_iload_n dX12_findSets_70 rfl rfl ?_
    refine px_imul dX12_findSets_71 ?_
    obtain ⟨z1, hz1⟩ : ∃ y : Int32, y = (30 : Int32) * x3 := ⟨_, rfl⟩
    have h := h z1 hz1
    refine px_namei hz1 ?_
    refine px_istore (ls2 := [some (.ref 329), some (.int x1), some (.int x2), some (.int x3), some (.int z1), none]) dX12_findSets_72 (by decide) rfl ?_
    exact PAt.forget h (lsub_at ⟨rfl, ⟨rfl, ⟨rfl, ⟨rfl, ⟨rfl, trivial⟩⟩⟩⟩⟩)
  · rw [if_neg hc] at h ⊢
    refine px_aload_n dX12_findSets_46 rfl rfl ?_
    refine gf_X12_137 rfl dX12_findSets_47 zl_329 zk_329 rfl zr_329_57 zl_369 ?_
    refine px_iload dX12_findSets_50 rfl ?_
    refine px_iconst (v := (0 : Int32)) dX12_findSets_52 (by decide) ?_
    obtain ⟨hi, h⟩ := h
    refine px_zastore (n := 4096) dX12_findSets_53 zl_369 zk_369 zs_369 hi ?_
    obtain ⟨gi2, hgi2⟩ : ∃ y : Gi, y = uI gi 369 (upd (gi 369) x4.toNatClampNeg (vp_nar .boolean (0 : Int32))) := ⟨_, rfl⟩
    have h := h gi2 hgi2
    refine px_namegi hgi2 ?_
    refine px_aload_n dX12_findSets_54 rfl rfl ?_
    refine gf_X12_140 rfl dX12_findSets_55 zl_329 zk_329 rfl zr_329_58 zl_370 ?_
    refine px_iload dX12_findSets_58 rfl ?_
    refine px_iconst (v := (0 : Int32)) dX12_findSets_60 (by decide) ?_
    obtain ⟨hi, h⟩ := h
    refine px_zastore (n := 4096) dX12_findSets_61 zl_370 zk_370 zs_370 hi ?_
    obtain ⟨gi3, hgi3⟩ : ∃ y : Gi, y = uI gi2 370 (upd (gi2 370) x4.toNatClampNeg (vp_nar .boolean (0 : Int32))) := ⟨_, rfl⟩
    have h := h gi3 hgi3
    refine px_namegi hgi3 ?_
    refine px_iinc (v := x4 + (1 : Int32)) (ls2 := [some (.ref 329), some (.int x1), some (.int x2), some (.int x3), some (.int (x4 + (1 : Int32))), none]) dX12_findSets_62 rfl rfl (by decide) rfl ?_
    refine px_goto (tgt := 40) dX12_findSets_65 (by decide) ?_
    exact PAt.forget h (lsub_at ⟨rfl, ⟨rfl, ⟨rfl, ⟨rfl, ⟨rfl, trivial⟩⟩⟩⟩⟩)
set_option maxRecDepth 100000 in
theorem v_X12_findSets_227 {x1 : Int32} {x2 : Int32} {x3 : Int32} {x4 : Int32} {gi : Gi} {gl : Gl} {Q : Gi → Gl → Prop}  (h : f_X12_findSets_227 x1 x2 x3 x4 gi gl Q) : p_X12_findSets_227 x1 x2 x3 x4 gi gl Q := by
  unfold f_X12_findSets_227 at h
  show PAt mX12_findSets NN NN κF 227 [some (.ref 329), some (.int x1), some (.int x2), some (.int x3), some (.int x4), none] [] gi gl _
  refine px_iload dX12_findSets_227 rfl ?_
  refine px_iload_n dX12_findSets_229 rfl rfl ?_
  refine px_icmp_ge (tgt := 270) dX12_findSets_230 (by decide) ?_
  by_cases hc : x2 ≤ x4
  · rw [if_pos hc] at h ⊢
    refine px_iinc (v := x3 + (1 : Int32)) (ls2 := [some (.ref 329), some (.int x1), some (.int x2), some (.int (x3 + (1 : Int32))), some (.int x4), none]) dX12_findSets_270 rfl rfl (by decide) rfl ?_
    refine px_goto (tgt := 214) dX12_findSets_273 (by decide) ?_
    exact PAt.forget h (lsub_at ⟨rfl, ⟨rfl, ⟨rfl, ⟨rfl, trivial⟩⟩⟩⟩)
  · rw [if_neg hc] at h ⊢
    refine px_iload dX12_findSets_233 rfl ?_
    refine px_iload_n dX12_findSets_235 rfl rfl ?_
    refine px_ishr dX12_findSets_236 ?_
    refine px_iconst (v := (1 : Int32)) dX12_findSets_237 (by decide) ?_
    refine px_iand dX12_findSets_238 ?_
    refine px_if_ne (tgt := 264) dX12_findSets_239 (by decide) ?_
    by_cases hc : ¬ ((ja x4 x3) &&& (1 : Int32)) = 0
    · rw [if_pos hc] at h ⊢
      refine px_iinc (v := x4 + (1 : Int32)) (ls2 := [some (.ref 329), some (.int x1), some (.int x2), some (.int x3), some (.int (x4 + (1 : Int32))), none]) dX12_findSets_264 rfl rfl (by decide) rfl ?_
      refine px_goto (tgt := 227) dX12_findSets_267 (by decide) ?_
      exact PAt.forget h (lsub_at ⟨rfl, ⟨rfl, ⟨rfl, ⟨rfl, ⟨rfl, trivial⟩⟩⟩⟩⟩)
    · rw [if_neg hc] at h ⊢
      refine px_aload_n dX12_findSets_242 rfl rfl ?_
      refine gf_X12_134 rfl dX12_findSets_243 zl_329 zk_329 rfl zr_329_56 zl_368 ?_
      refine px_iload dX12_findSets_246 rfl ?_
      refine px_iconst (v := (1 : Int32)) dX12_findSets_248 (by decide) ?_
      refine px_iload_n dX12_findSets_249 rfl rfl ?_
      refine px_ishl dX12_findSets_250 ?_
      refine px_ior dX12_findSets_251 ?_
      obtain ⟨hi, h⟩ := h
      refine px_zaload (n := 4096) dX12_findSets_252 zl_368 zk_368 zs_368 hi ?_
      refine px_if_eq (tgt := 264) dX12_findSets_253 (by decide) ?_
      by_cases hc : (gi 368 (x4 ||| (jl (1 : Int32) x3)).toNatClampNeg) = 0
      · rw [if_pos hc] at h ⊢
        refine px_iinc (v := x4 + (1 : Int32)) (ls2 := [some (.ref 329), some (.int x1), some (.int x2), some (.int x3), some (.int (x4 + (1 : Int32))), none]) dX12_findSets_264 rfl rfl (by decide) rfl ?_
        refine px_goto (tgt := 227) dX12_findSets_267 (by decide) ?_
        exact PAt.forget h (lsub_at ⟨rfl, ⟨rfl, ⟨rfl, ⟨rfl, ⟨rfl, trivial⟩⟩⟩⟩⟩)
      · rw [if_neg hc] at h ⊢
        refine px_aload_n dX12_findSets_256 rfl rfl ?_
        refine gf_X12_134 rfl dX12_findSets_257 zl_329 zk_329 rfl zr_329_56 zl_368 ?_
        refine px_iload dX12_findSets_260 rfl ?_
        refine px_iconst (v := (1 : Int32)) dX12_findSets_262 (by decide) ?_
        obtain ⟨hi, h⟩ := h
        refine px_zastore (n := 4096) dX12_findSets_263 zl_368 zk_368 zs_368 hi ?_
        obtain ⟨gi1, hgi1⟩ : ∃ y : Gi, y = uI gi 368 (upd (gi 368) x4.toNatClampNeg (vp_nar .boolean (1 : Int32))) := ⟨_, rfl⟩
        have h := h gi1 hgi1
        refine px_namegi hgi1 ?_
        refine px_iinc (v := x4 + (1 : Int32)) (ls2 := [some (.ref 329), some (.int x1), some (.int x2), some (.int x3), some (.int (x4 + (1 : Int32))), none]) dX12_findSets_264 rfl rfl (by decide) rfl ?_
        refine px_goto (tgt := 227) dX12_findSets_267 (by decide) ?_
        exact PAt.forget h (lsub_at ⟨rfl, ⟨rfl, ⟨rfl, ⟨rfl, ⟨rfl, trivial⟩⟩⟩⟩⟩)
set_option maxRecDepth 100000 in
theorem v_X12_findSets_74 {x1 : Int32} {x2 : Int32} {x3 : Int32} {x4 : Int32} {gi : Gi} {gl : Gl} {Q : Gi → Gl → Prop}  (h : f_X12_findSets_74 x1 x2 x3 x4 gi gl Q) : p_X12_findSets_74 x1 x2 x3 x4 gi gl Q := by
  unfold f_X12_findSets_74 at h
  show PAt mX12_findSets NN NN κF 74 [some (.ref 329), some (.int x1), some (.int x2), some (.int x3), some (.int x4), none] [] gi gl _
  refine px_iload dX12_findSets_74 rfl ?_
  refine px_sipush (v := (3600 : Int32)) dX12_findSets_76 (by decide) ?_
  refine px_icmp_ge (tgt := 114) dX12_findSets_79 (by decide) ?_
  by_cases hc : (3600 : Int32) ≤ x4
  · rw [if_pos hc] at h ⊢
    refine px_iconst (v := (0 : Int32)) dX12_findSets_114 (by decide) ?_
    refine px_istore (ls2 := [some (.ref 329), some (.int x1), some (.int x2), some (.int x3), some (.int (0 : Int32)), none]) dX12_findSets_115 (by decide) rfl ?_
    exact PAt.forget h (lsub_at ⟨rfl, ⟨rfl, ⟨rfl, ⟨rfl, ⟨rfl, trivial⟩⟩⟩⟩⟩)
  · rw [if_neg hc] at h ⊢
    refine px_iload dX12_findSets_82 rfl ?_
    refine px_sipush (v := (360 : Int32)) dX12_findSets_84 (by decide) ?_
    refine px_irem dX12_findSets_87 (by decide) ?_
    refine px_bipush (v := (30 : Int32)) dX12_findSets_88 (by decide) ?_
    refine px_idiv dX12_findSets_90 (by decide) ?_
    refine px_iload_n dX12_findSets_91 rfl rfl ?_
    refine px_icmp_ne (tgt := 108) dX12_findSets_92 (by decide) ?_
    by_cases hc : ¬ ((jr x4 (360 : Int32)) / (30 : Int32)) = x3
    · rw [if_pos hc] at h ⊢
      refine px_iinc (v := x4 + (1 : Int32)) (ls2 := [some (.ref 329), some (.int x1), some (.int x2), some (.int x3), some (.int (x4 + (1 : Int32))), none]) dX12_findSets_108 rfl rfl (by decide) rfl ?_
      refine px_goto (tgt := 74) dX12_findSets_111 (by decide) ?_
      exact PAt.forget h (lsub_at ⟨rfl, ⟨rfl, ⟨rfl, ⟨rfl, ⟨rfl, trivial⟩⟩⟩⟩⟩)
    · rw [if_neg hc] at h ⊢
      refine px_aload_n dX12_findSets_95 rfl rfl ?_
      refine gf_X12_137 rfl dX12_findSets_96 zl_329 zk_329 rfl zr_329_57 zl_369 ?_
      refine px_aload_n dX12_findSets_99 rfl rfl ?_
      refine px_iload_n dX12_findSets_100 rfl rfl ?_
      refine px_iload dX12_findSets_101 rfl ?_
      refine px_callV_I (As := [.int x1, .int x4]) (st := [.ref 369]) dX12_findSets_103 lk_X12_430.1 lk_X12_430.2 (b := 329) zl_329 zk_329 (by decide) rfl (by decide) rfl (Nat.le_of_ble_eq_true rfl) rfl rfl (Nat.le_of_ble_eq_true rfl) ⟨Nat.le_refl _, Nat.le_refl _, Nat.le_refl _⟩ ?_
      refine PAt.mono h (fun v κ gi1 gl2 hq => ?_)
      obtain ⟨rfl, r3, rfl, h⟩ := hq
      refine px_iconst (v := (1 : Int32)) dX12_findSets_106 (by decide) ?_
      obtain ⟨hi, h⟩ := h
      refine px_zastore (n := 4096) dX12_findSets_107 zl_369 zk_369 zs_369 hi ?_
      obtain ⟨gi4, hgi4⟩ : ∃ y : Gi, y = uI gi1 369 (upd (gi1 369) r3.toNatClampNeg (vp_nar .boolean (1 : Int32))) := ⟨_, rfl⟩
      have h := h gi4 hgi4
      refine px_namegi hgi4 ?_
      refine px_iinc (v := x4 + (1 : Int32)) (ls2 := [some (.ref 329), some (.int x1), some (.int x2), some (.int x3), some (.int (x4 + (1 : Int32))), none]) dX12_findSets_108 rfl rfl (by decide) rfl ?_
      refine px_goto (tgt := 74) dX12_findSets_111 (by decide) ?_
      exact PAt.forget h (lsub_at ⟨rfl, ⟨rfl, ⟨rfl, ⟨rfl, ⟨rfl, trivial⟩⟩⟩⟩⟩)
set_option maxRecDepth 100000 in
theorem v_X12_findSets_117 {x1 : Int32} {x2 : Int32} {x3 : Int32} {x4 : Int32} {gi : Gi} {gl : Gl} {Q : Gi → Gl → Prop}  (h : f_X12_findSets_117 x1 x2 x3 x4 gi gl Q) : p_X12_findSets_117 x1 x2 x3 x4 gi gl Q := by
  unfold f_X12_findSets_117 at h
  show PAt mX12_findSets NN NN κF 117 [some (.ref 329), some (.int x1), some (.int x2), some (.int x3), some (.int x4), none] [] gi gl _
  refine px_iload dX12_findSets_117 rfl ?_
  refine px_sipush (v := (720 : Int32)) dX12_findSets_119 (by decide) ?_
  refine px_icmp_ge (tgt := 145) dX12_findSets_122 (by decide) ?_
  by_cases hc : (720 : Int32) ≤ x4
  · rw [if_pos hc] at h ⊢
    refine px_iconst (v := (0 : Int32)) dX12_findSets_145 (by decide) ?_
    refine px_istore (ls2 := [some (.ref 329), some (.int x1), some (.int x2), some (.int x3), some (.int (0 : Int32)), none]) dX12_findSets_146 (by decide) rfl ?_
    exact PAt.forget h (lsub_at ⟨rfl, ⟨rfl, ⟨rfl, ⟨rfl, ⟨rfl, trivial⟩⟩⟩⟩⟩)
  · rw [if_neg hc] at h ⊢
    refine px_aload_n dX12_findSets_125 rfl rfl ?_
    refine gf_X12_140 rfl dX12_findSets_126 zl_329 zk_329 rfl zr_329_58 zl_370 ?_
    refine px_aload_n dX12_findSets_129 rfl rfl ?_
    refine px_iload_n dX12_findSets_130 rfl rfl ?_
    refine px_iload_n dX12_findSets_131 rfl rfl ?_
    refine px_iload dX12_findSets_132 rfl ?_
    refine px_callV_I (As := [.int x1, .int x3, .int x4]) (st := [.ref 370]) dX12_findSets_134 lk_X12_433.1 lk_X12_433.2 (b := 329) zl_329 zk_329 (by decide) rfl (by decide) rfl (Nat.le_of_ble_eq_true rfl) rfl rfl (Nat.le_of_ble_eq_true rfl) ⟨Nat.le_refl _, Nat.le_refl _, Nat.le_refl _⟩ ?_
    refine PAt.mono h (fun v κ gi1 gl2 hq => ?_)
    obtain ⟨rfl, r3, rfl, h⟩ := hq
    refine px_iconst (v := (1 : Int32)) dX12_findSets_137 (by decide) ?_
    obtain ⟨hi, h⟩ := h
    refine px_zastore (n := 4096) dX12_findSets_138 zl_370 zk_370 zs_370 hi ?_
    obtain ⟨gi4, hgi4⟩ : ∃ y : Gi, y = uI gi1 370 (upd (gi1 370) r3.toNatClampNeg (vp_nar .boolean (1 : Int32))) := ⟨_, rfl⟩
    have h := h gi4 hgi4
    refine px_namegi hgi4 ?_
    refine px_iinc (v := x4 + (1 : Int32)) (ls2 := [some (.ref 329), some (.int x1), some (.int x2), some (.int x3), some (.int (x4 + (1 : Int32))), none]) dX12_findSets_139 rfl rfl (by decide) rfl ?_
    refine px_goto (tgt := 117) dX12_findSets_142 (by decide) ?_
    exact PAt.forget h (lsub_at ⟨rfl, ⟨rfl, ⟨rfl, ⟨rfl, ⟨rfl, trivial⟩⟩⟩⟩⟩)
set_option maxRecDepth 100000 in
theorem v_X12_findSets_148 {x1 : Int32} {x2 : Int32} {x3 : Int32} {x4 : Int32} {gi : Gi} {gl : Gl} {Q : Gi → Gl → Prop}  (h : f_X12_findSets_148 x1 x2 x3 x4 gi gl Q) : p_X12_findSets_148 x1 x2 x3 x4 gi gl Q := by
  unfold f_X12_findSets_148 at h
  show PAt mX12_findSets NN NN κF 148 [some (.ref 329), some (.int x1), some (.int x2), some (.int x3), some (.int x4), none] [] gi gl _
  refine px_iload dX12_findSets_148 rfl ?_
  refine px_iload_n dX12_findSets_150 rfl rfl ?_
  refine px_icmp_ge (tgt := 206) dX12_findSets_151 (by decide) ?_
  by_cases hc : x2 ≤ x4
  · rw [if_pos hc] at h ⊢
    refine px_iinc (v := x3 + (1 : Int32)) (ls2 := [some (.ref 329), some (.int x1), some (.int x2), some (.int (x3 + (1 : Int32))), some (.int x4), none]) dX12_findSets_206 rfl rfl (by decide) rfl ?_
    refine px_goto (tgt := 31) dX12_findSets_209 (by decide) ?_
    exact PAt.forget h (lsub_at ⟨rfl, ⟨rfl, ⟨rfl, ⟨rfl, trivial⟩⟩⟩⟩)
  · rw [if_neg hc] at h ⊢
    refine px_iconst (v := (0 : Int32)) dX12_findSets_154 (by decide) ?_
    refine px_istore (ls2 := [some (.ref 329), some (.int x1), some (.int x2), some (.int x3), some (.int x4), some (.int (0 : Int32))]) dX12_findSets_155 (by decide) rfl ?_
    exact PAt.forget h (lsub_at ⟨rfl, ⟨rfl, ⟨rfl, ⟨rfl, ⟨rfl, ⟨rfl, trivial⟩⟩⟩⟩⟩⟩)
set_option maxRecDepth 100000 in
theorem v_X12_findSets_157 {x1 : Int32} {x2 : Int32} {x3 : Int32} {x4 : Int32} {x5 : Int32} {gi : Gi} {gl : Gl} {Q : Gi → Gl → Prop}  (h : f_X12_findSets_157 x1 x2 x3 x4 x5 gi gl Q) : p_X12_findSets_157 x1 x2 x3 x4 x5 gi gl Q := by
  unfold f_X12_findSets_157 at h
  show PAt mX12_findSets NN NN κF 157 [some (.ref 329), some (.int x1), some (.int x2), some (.int x3), some (.int x4), some (.int x5)] [] gi gl _
  refine px_iload dX12_findSets_157 rfl ?_
  refine px_iload_n dX12_findSets_159 rfl rfl ?_
  refine px_icmp_ge (tgt := 200) dX12_findSets_160 (by decide) ?_
  by_cases hc : x2 ≤ x5
  · rw [if_pos hc] at h ⊢
    refine px_iinc (v := x4 + (1 : Int32)) (ls2 := [some (.ref 329), some (.int x1), some (.int x2), some (.int x3), some (.int (x4 + (1 : Int32))), some (.int x5)]) dX12_findSets_200 rfl rfl (by decide) rfl ?_
    refine px_goto (tgt := 148) dX12_findSets_203 (by decide) ?_
    exact PAt.forget h (lsub_at ⟨rfl, ⟨rfl, ⟨rfl, ⟨rfl, ⟨rfl, trivial⟩⟩⟩⟩⟩)
  · rw [if_neg hc] at h ⊢
    refine px_aload_n dX12_findSets_163 rfl rfl ?_
    refine gf_X12_137 rfl dX12_findSets_164 zl_329 zk_329 rfl zr_329_57 zl_369 ?_
    refine px_iload dX12_findSets_167 rfl ?_
    obtain ⟨hi, h⟩ := h
    refine px_zaload (n := 4096) dX12_findSets_169 zl_369 zk_369 zs_369 hi ?_
    refine px_if_eq (tgt := 200) dX12_findSets_170 (by decide) ?_
    by_cases hc : (gi 369 x4.toNatClampNeg) = 0
    · rw [if_pos hc] at h ⊢
      refine px_iinc (v := x4 + (1 : Int32)) (ls2 := [some (.ref 329), some (.int x1), some (.int x2), some (.int x3), some (.int (x4 + (1 : Int32))), some (.int x5)]) dX12_findSets_200 rfl rfl (by decide) rfl ?_
      refine px_goto (tgt := 148) dX12_findSets_203 (by decide) ?_
      exact PAt.forget h (lsub_at ⟨rfl, ⟨rfl, ⟨rfl, ⟨rfl, ⟨rfl, trivial⟩⟩⟩⟩⟩)
    · rw [if_neg hc] at h ⊢
      refine px_aload_n dX12_findSets_173 rfl rfl ?_
      refine gf_X12_140 rfl dX12_findSets_174 zl_329 zk_329 rfl zr_329_58 zl_370 ?_
      refine px_iload dX12_findSets_177 rfl ?_
      obtain ⟨hi, h⟩ := h
      refine px_zaload (n := 4096) dX12_findSets_179 zl_370 zk_370 zs_370 hi ?_
      refine px_if_eq (tgt := 194) dX12_findSets_180 (by decide) ?_
      by_cases hc : (gi 370 x5.toNatClampNeg) = 0
      · rw [if_pos hc] at h ⊢
        refine px_iinc (v := x5 + (1 : Int32)) (ls2 := [some (.ref 329), some (.int x1), some (.int x2), some (.int x3), some (.int x4), some (.int (x5 + (1 : Int32)))]) dX12_findSets_194 rfl rfl (by decide) rfl ?_
        refine px_goto (tgt := 157) dX12_findSets_197 (by decide) ?_
        exact PAt.forget h (lsub_at ⟨rfl, ⟨rfl, ⟨rfl, ⟨rfl, ⟨rfl, ⟨rfl, trivial⟩⟩⟩⟩⟩⟩)
      · rw [if_neg hc] at h ⊢
        refine px_aload_n dX12_findSets_183 rfl rfl ?_
        refine gf_X12_134 rfl dX12_findSets_184 zl_329 zk_329 rfl zr_329_56 zl_368 ?_
        refine px_iload dX12_findSets_187 rfl ?_
        refine px_iload dX12_findSets_189 rfl ?_
        refine px_iand dX12_findSets_191 ?_
        refine px_iconst (v := (1 : Int32)) dX12_findSets_192 (by decide) ?_
        obtain ⟨hi, h⟩ := h
        refine px_zastore (n := 4096) dX12_findSets_193 zl_368 zk_368 zs_368 hi ?_
        obtain ⟨gi1, hgi1⟩ : ∃ y : Gi, y = uI gi 368 (upd (gi 368) (x4 &&& x5).toNatClampNeg (vp_nar .boolean (1 : Int32))) := ⟨_, rfl⟩
        have h := h gi1 hgi1
        refine px_namegi hgi1 ?_
        refine px_iinc (v := x5 + (1 : Int32)) (ls2 := [some (.ref 329), some (.int x1), some (.int x2), some (.int x3), some (.int x4), some (.int (x5 + (1 : Int32)))]) dX12_findSets_194 rfl rfl (by decide) rfl ?_
        refine px_goto (tgt := 157) dX12_findSets_197 (by decide) ?_
        exact PAt.forget h (lsub_at ⟨rfl, ⟨rfl, ⟨rfl, ⟨rfl, ⟨rfl, ⟨rfl, trivial⟩⟩⟩⟩⟩⟩)
abbrev p_X12_bitsOf_4 (x0 : Int32) (x1 : Int32) (x2 : Int32) (gi : Gi) (gl : Gl) (Q : Int32 → Gi → Gl → Prop) : Prop := PAt mX12_bitsOf NN NN κF 4 [some (.int x0), some (.int x1), some (.int x2)] [] gi gl (RiQ Q)
def f_X12_bitsOf (x0 : Int32) (gi : Gi) (gl : Gl) (Q : Int32 → Gi → Gl → Prop) : Prop :=
p_X12_bitsOf_4 x0 (0 : Int32) (0 : Int32) gi gl Q
def f_X12_bitsOf_4 (x0 : Int32) (x1 : Int32) (x2 : Int32) (gi : Gi) (gl : Gl) (Q : Int32 → Gi → Gl → Prop) : Prop :=
if (12 : Int32) ≤ x2 then
(Q x1 gi gl)
else
(∀ z1 : Int32, z1 = x1 + ((ja x0 x2) &&& (1 : Int32)) →
p_X12_bitsOf_4 x0 z1 (x2 + (1 : Int32)) gi gl Q)
set_option maxRecDepth 100000 in
theorem v_X12_bitsOf {x0 : Int32} {gi : Gi} {gl : Gl} {Q : Int32 → Gi → Gl → Prop}  (h : f_X12_bitsOf x0 gi gl Q) : p_X12_bitsOf x0 gi gl Q := by
  unfold f_X12_bitsOf at h
  show PAt mX12_bitsOf NN NN κF 0 [some (.int x0), none, none] [] gi gl _
  refine px_iconst (v := (0 : Int32)) dX12_bitsOf_0 (by decide) ?_
  refine px_istore_n (ls2 := [some (.int x0), some (.int (0 : Int32)), none]) (i := 1) rfl dX12_bitsOf_1 (by decide) rfl ?_
  refine px_iconst (v := (0 : Int32)) dX12_bitsOf_2 (by decide) ?_
  refine px_istore_n (ls2 := [some (.int x0), some (.int (0 : Int32)), some (.int (0 : Int32))]) (i := 2) rfl dX12_bitsOf_3 (by decide) rfl ?_
  exact PAt.forget h (lsub_at ⟨rfl, ⟨rfl, ⟨rfl, trivial⟩⟩⟩)
set_option maxRecDepth 100000 in
theorem v_X12_bitsOf_4 {x0 : Int32} {x1 : Int32} {x2 : Int32} {gi : Gi} {gl : Gl} {Q : Int32 → Gi → Gl → Prop}  (h : f_X12_bitsOf_4 x0 x1 x2 gi gl Q) : p_X12_bitsOf_4 x0 x1 x2 gi gl Q := by
  unfold f_X12_bitsOf_4 at h
  show PAt mX12_bitsOf NN NN κF 4 [some (.int x0), some (.int x1), some (.int x2)] [] gi gl _
  refine px_iload_n dX12_bitsOf_4 rfl rfl ?_
  refine px_bipush (v := (12 : Int32)) dX12_bitsOf_5 (by decide) ?_
  refine px_icmp_ge (tgt := 24) dX12_bitsOf_7 (by decide) ?_
  by_cases hc : (12 : Int32) ≤ x2
  · rw [if_pos hc] at h ⊢
    refine px_iload_n dX12_bitsOf_24 rfl rfl ?_
    exact px_ireturn dX12_bitsOf_25 rfl ⟨.int, rfl, rfl, rfl⟩ ⟨rfl, _, rfl, h⟩
  · rw [if_neg hc] at h ⊢
    refine px_iload_n dX12_bitsOf_10 rfl rfl ?_
    refine px_iload_n dX12_bitsOf_11 rfl rfl ?_
    refine px_iload_n dX12_bitsOf_12 rfl rfl ?_
    refine px_ishr dX12_bitsOf_13 ?_
    refine px_iconst (v := (1 : Int32)) dX12_bitsOf_14 (by decide) ?_
    refine px_iand dX12_bitsOf_15 ?_
    refine px_iadd dX12_bitsOf_16 ?_
    obtain ⟨z1, hz1⟩ : ∃ y : Int32, y = x1 + ((ja x0 x2) &&& (1 : Int32)) := ⟨_, rfl⟩
    have h := h z1 hz1
    refine px_namei hz1 ?_
    refine px_istore_n (ls2 := [some (.int x0), some (.int z1), some (.int x2)]) (i := 1) rfl dX12_bitsOf_17 (by decide) rfl ?_
    refine px_iinc (v := x2 + (1 : Int32)) (ls2 := [some (.int x0), some (.int z1), some (.int (x2 + (1 : Int32)))]) dX12_bitsOf_18 rfl rfl (by decide) rfl ?_
    refine px_goto (tgt := 4) dX12_bitsOf_21 (by decide) ?_
    exact PAt.forget h (lsub_at ⟨rfl, ⟨rfl, ⟨rfl, trivial⟩⟩⟩)
abbrev p_X12_quarrel_29 (x2 : Int32) (x3 : Int32) (x4 : Int32) (gi : Gi) (gl : Gl) (Q : Int32 → Gi → Gl → Prop) : Prop := PAt mX12_quarrel NN NN κF 29 [some (.ref 329), none, some (.int x2), some (.int x3), some (.int x4)] [] gi gl (RiQ Q)
def f_X12_quarrel (x1 : Int32) (gi : Gi) (gl : Gl) (Q : Int32 → Gi → Gl → Prop) : Prop :=
p_X12_isPicture x1 gi gl (fun (r3 : Int32) (gi1 : Gi) (gl2 : Gl) =>
if ¬ r3 = 0 then
(p_X12_findSets x1 gi1 gl2 (fun (gi4 : Gi) (gl5 : Gl) =>
vp_in x1 40 ∧
∀ z6 : Int32, z6 = jl (1 : Int32) (gi4 356 x1.toNatClampNeg) →
p_X12_quarrel_29 z6 (0 : Int32) (0 : Int32) gi4 gl5 Q))
else
(Q ((-1) : Int32) gi1 gl2))
def f_X12_quarrel_29 (x2 : Int32) (x3 : Int32) (x4 : Int32) (gi : Gi) (gl : Gl) (Q : Int32 → Gi → Gl → Prop) : Prop :=
if x2 ≤ x4 then
(Q x3 gi gl)
else
(vp_in x4 4096 ∧
if ¬ (gi 368 x4.toNatClampNeg) = 0 then
(p_X12_quarrel_29 x2 x3 (x4 + (1 : Int32)) gi gl Q)
else
(if x3 = 0 then
(p_X12_quarrel_29 x2 x4 (x4 + (1 : Int32)) gi gl Q)
else
(p_X12_bitsOf x4 gi gl (fun (r3 : Int32) (gi1 : Gi) (gl2 : Gl) =>
p_X12_bitsOf x3 gi1 gl2 (fun (r6 : Int32) (gi4 : Gi) (gl5 : Gl) =>
if r6 ≤ r3 then
(p_X12_quarrel_29 x2 x3 (x4 + (1 : Int32)) gi4 gl5 Q)
else
(p_X12_quarrel_29 x2 x4 (x4 + (1 : Int32)) gi4 gl5 Q))))))
set_option maxRecDepth 100000 in
theorem v_X12_quarrel {x1 : Int32} {gi : Gi} {gl : Gl} {Q : Int32 → Gi → Gl → Prop}  (h : f_X12_quarrel x1 gi gl Q) : p_X12_quarrel x1 gi gl Q := by
  unfold f_X12_quarrel at h
  show PAt mX12_quarrel NN NN κF 0 [some (.ref 329), some (.int x1), none, none, none] [] gi gl _
  refine px_aload_n dX12_quarrel_0 rfl rfl ?_
  refine px_iload_n dX12_quarrel_1 rfl rfl ?_
  refine px_callV_I (As := [.int x1]) (st := []) dX12_quarrel_2 lk_X12_347.1 lk_X12_347.2 (b := 329) zl_329 zk_329 (by decide) rfl (by decide) rfl (Nat.le_of_ble_eq_true rfl) rfl rfl (Nat.le_of_ble_eq_true rfl) ⟨Nat.le_refl _, Nat.le_refl _, Nat.le_refl _⟩ ?_
  refine PAt.mono h (fun v κ gi1 gl2 hq => ?_)
  obtain ⟨rfl, r3, rfl, h⟩ := hq
  refine px_if_ne (tgt := 10) dX12_quarrel_5 (by decide) ?_
  by_cases hc : ¬ r3 = 0
  · rw [if_pos hc] at h ⊢
    refine px_aload_n dX12_quarrel_10 rfl rfl ?_
    refine px_iload_n dX12_quarrel_11 rfl rfl ?_
    refine px_callV_V (As := [.int x1]) (st := []) dX12_quarrel_12 lk_X12_437.1 lk_X12_437.2 (b := 329) zl_329 zk_329 (by decide) rfl (by decide) rfl (Nat.le_of_ble_eq_true rfl) rfl rfl (Nat.le_of_ble_eq_true rfl) ⟨Nat.le_refl _, Nat.le_refl _, Nat.le_refl _⟩ ?_
    refine PAt.mono h (fun v κ gi4 gl5 hq => ?_)
    obtain ⟨rfl, -, h⟩ := hq
    refine px_iconst (v := (1 : Int32)) dX12_quarrel_15 (by decide) ?_
    refine px_aload_n dX12_quarrel_16 rfl rfl ?_
    refine gf_X12_89 rfl dX12_quarrel_17 zl_329 zk_329 rfl zr_329_28 zl_356 ?_
    refine px_iload_n dX12_quarrel_20 rfl rfl ?_
    obtain ⟨hi, h⟩ := h
    refine px_iaload (n := 40) dX12_quarrel_21 zl_356 zk_356 zs_356 hi ?_
    refine px_ishl dX12_quarrel_22 ?_
    obtain ⟨z6, hz6⟩ : ∃ y : Int32, y = jl (1 : Int32) (gi4 356 x1.toNatClampNeg) := ⟨_, rfl⟩
    have h := h z6 hz6
    refine px_namei hz6 ?_
    refine px_istore_n (ls2 := [some (.ref 329), some (.int x1), some (.int z6), none, none]) (i := 2) rfl dX12_quarrel_23 (by decide) rfl ?_
    refine px_iconst (v := (0 : Int32)) dX12_quarrel_24 (by decide) ?_
    refine px_istore_n (ls2 := [some (.ref 329), some (.int x1), some (.int z6), some (.int (0 : Int32)), none]) (i := 3) rfl dX12_quarrel_25 (by decide) rfl ?_
    refine px_iconst (v := (0 : Int32)) dX12_quarrel_26 (by decide) ?_
    refine px_istore (ls2 := [some (.ref 329), some (.int x1), some (.int z6), some (.int (0 : Int32)), some (.int (0 : Int32))]) dX12_quarrel_27 (by decide) rfl ?_
    exact PAt.forget h (lsub_at ⟨rfl, ⟨rfl, ⟨rfl, ⟨rfl, trivial⟩⟩⟩⟩)
  · rw [if_neg hc] at h ⊢
    refine px_iconst (v := ((-1) : Int32)) dX12_quarrel_8 (by decide) ?_
    exact px_ireturn dX12_quarrel_9 rfl ⟨.int, rfl, rfl, rfl⟩ ⟨rfl, _, rfl, h⟩
set_option maxRecDepth 100000 in
theorem v_X12_quarrel_29 {x2 : Int32} {x3 : Int32} {x4 : Int32} {gi : Gi} {gl : Gl} {Q : Int32 → Gi → Gl → Prop}  (h : f_X12_quarrel_29 x2 x3 x4 gi gl Q) : p_X12_quarrel_29 x2 x3 x4 gi gl Q := by
  unfold f_X12_quarrel_29 at h
  show PAt mX12_quarrel NN NN κF 29 [some (.ref 329), none, some (.int x2), some (.int x3), some (.int x4)] [] gi gl _
  refine px_iload dX12_quarrel_29 rfl ?_
  refine px_iload_n dX12_quarrel_31 rfl rfl ?_
  refine px_icmp_ge (tgt := 70) dX12_quarrel_32 (by decide) ?_
  by_cases hc : x2 ≤ x4
  · rw [if_pos hc] at h ⊢
    refine px_iload_n dX12_quarrel_70 rfl rfl ?_
    exact px_ireturn dX12_quarrel_71 rfl ⟨.int, rfl, rfl, rfl⟩ ⟨rfl, _, rfl, h⟩
  · rw [if_neg hc] at h ⊢
    refine px_aload_n dX12_quarrel_35 rfl rfl ?_
    refine gf_X12_134 rfl dX12_quarrel_36 zl_329 zk_329 rfl zr_329_56 zl_368 ?_
    refine px_iload dX12_quarrel_39 rfl ?_
    obtain ⟨hi, h⟩ := h
    refine px_zaload (n := 4096) dX12_quarrel_41 zl_368 zk_368 zs_368 hi ?_
    refine px_if_ne (tgt := 64) dX12_quarrel_42 (by decide) ?_
    by_cases hc : ¬ (gi 368 x4.toNatClampNeg) = 0
    · rw [if_pos hc] at h ⊢
      refine px_iinc (v := x4 + (1 : Int32)) (ls2 := [some (.ref 329), none, some (.int x2), some (.int x3), some (.int (x4 + (1 : Int32)))]) dX12_quarrel_64 rfl rfl (by decide) rfl ?_
      refine px_goto (tgt := 29) dX12_quarrel_67 (by decide) ?_
      exact PAt.forget h (lsub_at ⟨rfl, ⟨rfl, ⟨rfl, ⟨rfl, trivial⟩⟩⟩⟩)
    · rw [if_neg hc] at h ⊢
      refine px_iload_n dX12_quarrel_45 rfl rfl ?_
      refine px_if_eq (tgt := 61) dX12_quarrel_46 (by decide) ?_
      by_cases hc : x3 = 0
      · rw [if_pos hc] at h ⊢
        refine px_iload dX12_quarrel_61 rfl ?_
        refine px_istore_n (ls2 := [some (.ref 329), none, some (.int x2), some (.int x4), some (.int x4)]) (i := 3) rfl dX12_quarrel_63 (by decide) rfl ?_
        refine px_iinc (v := x4 + (1 : Int32)) (ls2 := [some (.ref 329), none, some (.int x2), some (.int x4), some (.int (x4 + (1 : Int32)))]) dX12_quarrel_64 rfl rfl (by decide) rfl ?_
        refine px_goto (tgt := 29) dX12_quarrel_67 (by decide) ?_
        exact PAt.forget h (lsub_at ⟨rfl, ⟨rfl, ⟨rfl, ⟨rfl, trivial⟩⟩⟩⟩)
      · rw [if_neg hc] at h ⊢
        refine px_iload dX12_quarrel_49 rfl ?_
        refine px_callS_I (As := [.int x4]) (st := []) dX12_quarrel_51 lk_X12_440.1 lk_X12_440.2 (by decide) rfl (Nat.le_of_ble_eq_true rfl) rfl rfl (Nat.le_of_ble_eq_true rfl) ⟨Nat.le_refl _, Nat.le_refl _, Nat.le_refl _⟩ ?_
        refine PAt.mono h (fun v κ gi1 gl2 hq => ?_)
        obtain ⟨rfl, r3, rfl, h⟩ := hq
        refine px_iload_n dX12_quarrel_54 rfl rfl ?_
        refine px_callS_I (As := [.int x3]) (st := [.int r3]) dX12_quarrel_55 lk_X12_440.1 lk_X12_440.2 (by decide) rfl (Nat.le_of_ble_eq_true rfl) rfl rfl (Nat.le_of_ble_eq_true rfl) ⟨Nat.le_refl _, Nat.le_refl _, Nat.le_refl _⟩ ?_
        refine PAt.mono h (fun v κ gi4 gl5 hq => ?_)
        obtain ⟨rfl, r6, rfl, h⟩ := hq
        refine px_icmp_ge (tgt := 64) dX12_quarrel_58 (by decide) ?_
        by_cases hc : r6 ≤ r3
        · rw [if_pos hc] at h ⊢
          refine px_iinc (v := x4 + (1 : Int32)) (ls2 := [some (.ref 329), none, some (.int x2), some (.int x3), some (.int (x4 + (1 : Int32)))]) dX12_quarrel_64 rfl rfl (by decide) rfl ?_
          refine px_goto (tgt := 29) dX12_quarrel_67 (by decide) ?_
          exact PAt.forget h (lsub_at ⟨rfl, ⟨rfl, ⟨rfl, ⟨rfl, trivial⟩⟩⟩⟩)
        · rw [if_neg hc] at h ⊢
          refine px_iload dX12_quarrel_61 rfl ?_
          refine px_istore_n (ls2 := [some (.ref 329), none, some (.int x2), some (.int x4), some (.int x4)]) (i := 3) rfl dX12_quarrel_63 (by decide) rfl ?_
          refine px_iinc (v := x4 + (1 : Int32)) (ls2 := [some (.ref 329), none, some (.int x2), some (.int x4), some (.int (x4 + (1 : Int32)))]) dX12_quarrel_64 rfl rfl (by decide) rfl ?_
          refine px_goto (tgt := 29) dX12_quarrel_67 (by decide) ?_
          exact PAt.forget h (lsub_at ⟨rfl, ⟨rfl, ⟨rfl, ⟨rfl, trivial⟩⟩⟩⟩)
