/-! laid by program: X12 -/
abbrev p_X12_mostOf_2 (x1 : Int32) (x2 : Int32) (gi : Gi) (gl : Gl) (Q : Int32 → Gi → Gl → Prop) : Prop := PAt mX12_mostOf NN NN κF 2 [some (.ref 329), some (.int x1), some (.int x2), none, none, none] [] gi gl (RiQ Q)
abbrev p_X12_mostOf_24 (x1 : Int32) (x2 : Int32) (gi : Gi) (gl : Gl) (Q : Int32 → Gi → Gl → Prop) : Prop := PAt mX12_mostOf NN NN κF 24 [some (.ref 329), some (.int x1), some (.int x2), none, none, none] [] gi gl (RiQ Q)
abbrev p_X12_mostOf_58 (x1 : Int32) (x2 : Int32) (x3 : Int32) (x4 : Int32) (x5 : Int32) (gi : Gi) (gl : Gl) (Q : Int32 → Gi → Gl → Prop) : Prop := PAt mX12_mostOf NN NN κF 58 [some (.ref 329), some (.int x1), some (.int x2), some (.int x3), some (.int x4), some (.int x5)] [] gi gl (RiQ Q)
abbrev p_X12_mostOf_110 (x2 : Int32) (x3 : Int32) (gi : Gi) (gl : Gl) (Q : Int32 → Gi → Gl → Prop) : Prop := PAt mX12_mostOf NN NN κF 110 [some (.ref 329), none, some (.int x2), some (.int x3), none, none] [] gi gl (RiQ Q)
def f_X12_mostOf (x1 : Int32) (gi : Gi) (gl : Gl) (Q : Int32 → Gi → Gl → Prop) : Prop :=
p_X12_mostOf_2 x1 (0 : Int32) gi gl Q
def f_X12_mostOf_2 (x1 : Int32) (x2 : Int32) (gi : Gi) (gl : Gl) (Q : Int32 → Gi → Gl → Prop) : Prop :=
if (256 : Int32) ≤ x2 then
(p_X12_mostOf_24 x1 (0 : Int32) gi gl Q)
else
(vp_in x2 256 ∧
∀ gi1 : Gi, gi1 = uI gi 376 (upd (gi 376) x2.toNatClampNeg (vp_nar .boolean (0 : Int32))) →
p_X12_mostOf_2 x1 (x2 + (1 : Int32)) gi1 gl Q)
def f_X12_mostOf_24 (x1 : Int32) (x2 : Int32) (gi : Gi) (gl : Gl) (Q : Int32 → Gi → Gl → Prop) : Prop :=
if (3600 : Int32) ≤ x2 then
(p_X12_mostOf_110 (0 : Int32) (255 : Int32) gi gl Q)
else
(vp_in x2 3600 ∧
∀ z1 : Int32, z1 = (gi 374 x2.toNatClampNeg) &&& x1 →
∀ z2 : Int32, z2 = (jr x2 (360 : Int32)) / (30 : Int32) →
∀ z3 : Int32, z3 = (720 : Int32) * z2 →
p_X12_mostOf_58 x1 x2 z1 z2 z3 gi gl Q)
def f_X12_mostOf_110 (x2 : Int32) (x3 : Int32) (gi : Gi) (gl : Gl) (Q : Int32 → Gi → Gl → Prop) : Prop :=
if x3 ≤ 0 then
(Q x2 gi gl)
else
(vp_in x3 256 ∧
if (gi 376 x3.toNatClampNeg) = 0 then
(p_X12_mostOf_110 x2 (x3 + ((-1) : Int32)) gi gl Q)
else
(p_X12_bitsOf x3 gi gl (fun (r3 : Int32) (gi1 : Gi) (gl2 : Gl) =>
p_X12_bitsOf x2 gi1 gl2 (fun (r6 : Int32) (gi4 : Gi) (gl5 : Gl) =>
if r3 < r6 then
(p_X12_mostOf_110 x2 (x3 + ((-1) : Int32)) gi4 gl5 Q)
else
(p_X12_mostOf_110 x3 (x3 + ((-1) : Int32)) gi4 gl5 Q)))))
def f_X12_mostOf_58 (x1 : Int32) (x2 : Int32) (x3 : Int32) (x4 : Int32) (x5 : Int32) (gi : Gi) (gl : Gl) (Q : Int32 → Gi → Gl → Prop) : Prop :=
if (((720 : Int32) * x4) + (720 : Int32)) ≤ x5 then
(p_X12_mostOf_24 x1 (x2 + (1 : Int32)) gi gl Q)
else
(if x3 ≤ 0 then
(p_X12_mostOf_24 x1 (x2 + (1 : Int32)) gi gl Q)
else
(vp_in x5 8640 ∧
vp_in (x3 &&& (gi 375 x5.toNatClampNeg)) 256 ∧
∀ gi1 : Gi, gi1 = uI gi 376 (upd (gi 376) (x3 &&& (gi 375 x5.toNatClampNeg)).toNatClampNeg (vp_nar .boolean (1 : Int32))) →
p_X12_mostOf_58 x1 x2 x3 x4 (x5 + (1 : Int32)) gi1 gl Q))
set_option maxRecDepth 100000 in
theorem v_X12_mostOf {x1 : Int32} {gi : Gi} {gl : Gl} {Q : Int32 → Gi → Gl → Prop}  (h : f_X12_mostOf x1 gi gl Q) : p_X12_mostOf x1 gi gl Q := by
  unfold f_X12_mostOf at h
  show PAt mX12_mostOf NN NN κF 0 [some (.ref 329), some (.int x1), none, none, none, none] [] gi gl _
  refine px_iconst (v := (0 : Int32)) dX12_mostOf_0 (by decide) ?_
  refine px_istore_n (ls2 := [some (.ref 329), some (.int x1), some (.int (0 : Int32)), none, none, none]) (i := 2) rfl dX12_mostOf_1 (by decide) rfl ?_
  exact PAt.forget h (lsub_at ⟨rfl, ⟨rfl, ⟨rfl, trivial⟩⟩⟩)
set_option maxRecDepth 100000 in
theorem v_X12_mostOf_2 {x1 : Int32} {x2 : Int32} {gi : Gi} {gl : Gl} {Q : Int32 → Gi → Gl → Prop}  (h : f_X12_mostOf_2 x1 x2 gi gl Q) : p_X12_mostOf_2 x1 x2 gi gl Q := by
  unfold f_X12_mostOf_2 at h
  show PAt mX12_mostOf NN NN κF 2 [some (.ref 329), some (.int x1), some (.int x2), none, none, none] [] gi gl _
  refine px_iload_n dX12_mostOf_2 rfl rfl ?_
  refine px_sipush (v := (256 : Int32)) dX12_mostOf_3 (by decide) ?_
  refine px_icmp_ge (tgt := 22) dX12_mostOf_6 (by decide) ?_
  by_cases hc : (256 : Int32) ≤ x2
  · rw [if_pos hc] at h ⊢
    refine px_iconst (v := (0 : Int32)) dX12_mostOf_22 (by decide) ?_
    refine px_istore_n (ls2 := [some (.ref 329), some (.int x1), some (.int (0 : Int32)), none, none, none]) (i := 2) rfl dX12_mostOf_23 (by decide) rfl ?_
    exact PAt.forget h (lsub_at ⟨rfl, ⟨rfl, ⟨rfl, trivial⟩⟩⟩)
  · rw [if_neg hc] at h ⊢
    refine px_aload_n dX12_mostOf_9 rfl rfl ?_
    refine gf_X12_158 rfl dX12_mostOf_10 zl_329 zk_329 rfl zr_329_66 zl_376 ?_
    refine px_iload_n dX12_mostOf_13 rfl rfl ?_
    refine px_iconst (v := (0 : Int32)) dX12_mostOf_14 (by decide) ?_
    obtain ⟨hi, h⟩ := h
    refine px_zastore (n := 256) dX12_mostOf_15 zl_376 zk_376 zs_376 hi ?_
    obtain ⟨gi1, hgi1⟩ : ∃ y : Gi, y = uI gi 376 (upd (gi 376) x2.toNatClampNeg (vp_nar .boolean (0 : Int32))) := ⟨_, rfl⟩
    have h := h gi1 hgi1
    refine px_namegi hgi1 ?_
    refine px_iinc (v := x2 + (1 : Int32)) (ls2 := [some (.ref 329), some (.int x1), some (.int (x2 + (1 : Int32))), none, none, none]) dX12_mostOf_16 rfl rfl (by decide) rfl ?_
    refine px_goto (tgt := 2) dX12_mostOf_19 (by decide) ?_
    exact PAt.forget h (lsub_at ⟨rfl, ⟨rfl, ⟨rfl, trivial⟩⟩⟩)
set_option maxRecDepth 100000 in
theorem v_X12_mostOf_24 {x1 : Int32} {x2 : Int32} {gi : Gi} {gl : Gl} {Q : Int32 → Gi → Gl → Prop}  (h : f_X12_mostOf_24 x1 x2 gi gl Q) : p_X12_mostOf_24 x1 x2 gi gl Q := by
  unfold f_X12_mostOf_24 at h
  show PAt mX12_mostOf NN NN κF 24 [some (.ref 329), some (.int x1), some (.int x2), none, none, none] [] gi gl _
  refine px_iload_n dX12_mostOf_24 rfl rfl ?_
  refine px_sipush (v := (3600 : Int32)) dX12_mostOf_25 (by decide) ?_
  refine px_icmp_ge (tgt := 104) dX12_mostOf_28 (by decide) ?_
  by_cases hc : (3600 : Int32) ≤ x2
  · rw [if_pos hc] at h ⊢
    refine px_iconst (v := (0 : Int32)) dX12_mostOf_104 (by decide) ?_
    refine px_istore_n (ls2 := [some (.ref 329), some (.int x1), some (.int (0 : Int32)), none, none, none]) (i := 2) rfl dX12_mostOf_105 (by decide) rfl ?_
    refine px_sipush (v := (255 : Int32)) dX12_mostOf_106 (by decide) ?_
    refine px_istore_n (ls2 := [some (.ref 329), some (.int x1), some (.int (0 : Int32)), some (.int (255 : Int32)), none, none]) (i := 3) rfl dX12_mostOf_109 (by decide) rfl ?_
    exact PAt.forget h (lsub_at ⟨rfl, ⟨rfl, ⟨rfl, trivial⟩⟩⟩)
  · rw [if_neg hc] at h ⊢
    refine px_aload_n dX12_mostOf_31 rfl rfl ?_
    refine gf_X12_152 rfl dX12_mostOf_32 zl_329 zk_329 rfl zr_329_64 zl_374 ?_
    refine px_iload_n dX12_mostOf_35 rfl rfl ?_
    obtain ⟨hi, h⟩ := h
    refine px_iaload (n := 3600) dX12_mostOf_36 zl_374 zk_374 zs_374 hi ?_
    refine px_iload_n dX12_mostOf_37 rfl rfl ?_
    refine px_iand dX12_mostOf_38 ?_
    obtain ⟨z1, hz1⟩ : ∃ y : Int32, y = (gi 374 x2.toNatClampNeg) &&& x1 := ⟨_, rfl⟩
    have h := h z1 hz1
    refine px_namei hz1 ?_
    refine px_istore_n (ls2 := [some (.ref 329), some (.int x1), some (.int x2), some (.int z1), none, none]) (i := 3) rfl dX12_mostOf_39 (by decide) rfl ?_
    refine px_iload_n dX12_mostOf_40 rfl rfl ?_
    refine px_sipush (v := (360 : Int32)) dX12_mostOf_41 (by decide) ?_
    refine px_irem dX12_mostOf_44 (by decide) ?_
    refine px_bipush (v := (30 : Int32)) dX12_mostOf_45 (by decide) ?_
    refine px_idiv dX12_mostOf_47 (by decide) ?_
    obtain ⟨z2, hz2⟩ : ∃ y : Int32, y = (jr x2 (360 : Int32)) / (30 : Int32) := ⟨_, rfl⟩
    have h := h z2 hz2
    refine px_namei hz2 ?_
    refine px_istore (ls2 := [some (.ref 329), some (.int x1), some (.int x2), some (.int z1), some (.int z2), none]) dX12_mostOf_48 (by decide) rfl ?_
    refine px_sipush (v := (720 : Int32)) dX12_mostOf_50 (by decide) ?_
    refine px_iload dX12_mostOf_53 rfl ?_
    refine px_imul dX12_mostOf_55 ?_
    obtain ⟨z3, hz3⟩ : ∃ y : Int32, y = (720 : Int32) * z2 := ⟨_, rfl⟩
    have h := h z3 hz3
    refine px_namei hz3 ?_
    refine px_istore (ls2 := [some (.ref 329), some (.int x1), some (.int x2), some (.int z1), some (.int z2), some (.int z3)]) dX12_mostOf_56 (by decide) rfl ?_
    exact PAt.forget h (lsub_at ⟨rfl, ⟨rfl, ⟨rfl, ⟨rfl, ⟨rfl, ⟨rfl, trivial⟩⟩⟩⟩⟩⟩)
set_option maxRecDepth 100000 in
theorem v_X12_mostOf_110 {x2 : Int32} {x3 : Int32} {gi : Gi} {gl : Gl} {Q : Int32 → Gi → Gl → Prop}  (h : f_X12_mostOf_110 x2 x3 gi gl Q) : p_X12_mostOf_110 x2 x3 gi gl Q := by
  unfold f_X12_mostOf_110 at h
  show PAt mX12_mostOf NN NN κF 110 [some (.ref 329), none, some (.int x2), some (.int x3), none, none] [] gi gl _
  refine px_iload_n dX12_mostOf_110 rfl rfl ?_
  refine px_if_le (tgt := 142) dX12_mostOf_111 (by decide) ?_
  by_cases hc : x3 ≤ 0
  · rw [if_pos hc] at h ⊢
    refine px_iload_n dX12_mostOf_142 rfl rfl ?_
    exact px_ireturn dX12_mostOf_143 rfl ⟨.int, rfl, rfl, rfl⟩ ⟨rfl, _, rfl, h⟩
  · rw [if_neg hc] at h ⊢
    refine px_aload_n dX12_mostOf_114 rfl rfl ?_
    refine gf_X12_158 rfl dX12_mostOf_115 zl_329 zk_329 rfl zr_329_66 zl_376 ?_
    refine px_iload_n dX12_mostOf_118 rfl rfl ?_
    obtain ⟨hi, h⟩ := h
    refine px_zaload (n := 256) dX12_mostOf_119 zl_376 zk_376 zs_376 hi ?_
    refine px_if_eq (tgt := 136) dX12_mostOf_120 (by decide) ?_
    by_cases hc : (gi 376 x3.toNatClampNeg) = 0
    · rw [if_pos hc] at h ⊢
      refine px_iinc (v := x3 + ((-1) : Int32)) (ls2 := [some (.ref 329), none, some (.int x2), some (.int (x3 + ((-1) : Int32))), none, none]) dX12_mostOf_136 rfl rfl (by decide) rfl ?_
      refine px_goto (tgt := 110) dX12_mostOf_139 (by decide) ?_
      exact PAt.forget h (lsub_at ⟨rfl, ⟨rfl, ⟨rfl, trivial⟩⟩⟩)
    · rw [if_neg hc] at h ⊢
      refine px_iload_n dX12_mostOf_123 rfl rfl ?_
      refine px_callS_I (As := [.int x3]) (st := []) dX12_mostOf_124 lk_X12_440.1 lk_X12_440.2 (by decide) rfl (Nat.le_of_ble_eq_true rfl) rfl rfl (Nat.le_of_ble_eq_true rfl) ⟨Nat.le_refl _, Nat.le_refl _, Nat.le_refl _⟩ ?_
      refine PAt.mono h (fun v κ gi1 gl2 hq => ?_)
      obtain ⟨rfl, r3, rfl, h⟩ := hq
      refine px_iload_n dX12_mostOf_127 rfl rfl ?_
      refine px_callS_I (As := [.int x2]) (st := [.int r3]) dX12_mostOf_128 lk_X12_440.1 lk_X12_440.2 (by decide) rfl (Nat.le_of_ble_eq_true rfl) rfl rfl (Nat.le_of_ble_eq_true rfl) ⟨Nat.le_refl _, Nat.le_refl _, Nat.le_refl _⟩ ?_
      refine PAt.mono h (fun v κ gi4 gl5 hq => ?_)
      obtain ⟨rfl, r6, rfl, h⟩ := hq
      refine px_icmp_lt (tgt := 136) dX12_mostOf_131 (by decide) ?_
      by_cases hc : r3 < r6
      · rw [if_pos hc] at h ⊢
        refine px_iinc (v := x3 + ((-1) : Int32)) (ls2 := [some (.ref 329), none, some (.int x2), some (.int (x3 + ((-1) : Int32))), none, none]) dX12_mostOf_136 rfl rfl (by decide) rfl ?_
        refine px_goto (tgt := 110) dX12_mostOf_139 (by decide) ?_
        exact PAt.forget h (lsub_at ⟨rfl, ⟨rfl, ⟨rfl, trivial⟩⟩⟩)
      · rw [if_neg hc] at h ⊢
        refine px_iload_n dX12_mostOf_134 rfl rfl ?_
        refine px_istore_n (ls2 := [some (.ref 329), none, some (.int x3), some (.int x3), none, none]) (i := 2) rfl dX12_mostOf_135 (by decide) rfl ?_
        refine px_iinc (v := x3 + ((-1) : Int32)) (ls2 := [some (.ref 329), none, some (.int x3), some (.int (x3 + ((-1) : Int32))), none, none]) dX12_mostOf_136 rfl rfl (by decide) rfl ?_
        refine px_goto (tgt := 110) dX12_mostOf_139 (by decide) ?_
        exact PAt.forget h (lsub_at ⟨rfl, ⟨rfl, ⟨rfl, trivial⟩⟩⟩)
set_option maxRecDepth 100000 in
theorem v_X12_mostOf_58 {x1 : Int32} {x2 : Int32} {x3 : Int32} {x4 : Int32} {x5 : Int32} {gi : Gi} {gl : Gl} {Q : Int32 → Gi → Gl → Prop}  (h : f_X12_mostOf_58 x1 x2 x3 x4 x5 gi gl Q) : p_X12_mostOf_58 x1 x2 x3 x4 x5 gi gl Q := by
  unfold f_X12_mostOf_58 at h
  show PAt mX12_mostOf NN NN κF 58 [some (.ref 329), some (.int x1), some (.int x2), some (.int x3), some (.int x4), some (.int x5)] [] gi gl _
  refine px_iload dX12_mostOf_58 rfl ?_
  refine px_sipush (v := (720 : Int32)) dX12_mostOf_60 (by decide) ?_
  refine px_iload dX12_mostOf_63 rfl ?_
  refine px_imul dX12_mostOf_65 ?_
  refine px_sipush (v := (720 : Int32)) dX12_mostOf_66 (by decide) ?_
  refine px_iadd dX12_mostOf_69 ?_
  refine px_icmp_ge (tgt := 98) dX12_mostOf_70 (by decide) ?_
  by_cases hc : (((720 : Int32) * x4) + (720 : Int32)) ≤ x5
  · rw [if_pos hc] at h ⊢
    refine px_iinc (v := x2 + (1 : Int32)) (ls2 := [some (.ref 329), some (.int x1), some (.int (x2 + (1 : Int32))), some (.int x3), some (.int x4), some (.int x5)]) dX12_mostOf_98 rfl rfl (by decide) rfl ?_
    refine px_goto (tgt := 24) dX12_mostOf_101 (by decide) ?_
    exact PAt.forget h (lsub_at ⟨rfl, ⟨rfl, ⟨rfl, trivial⟩⟩⟩)
  · rw [if_neg hc] at h ⊢
    refine px_iload_n dX12_mostOf_73 rfl rfl ?_
    refine px_if_le (tgt := 98) dX12_mostOf_74 (by decide) ?_
    by_cases hc : x3 ≤ 0
    · rw [if_pos hc] at h ⊢
      refine px_iinc (v := x2 + (1 : Int32)) (ls2 := [some (.ref 329), some (.int x1), some (.int (x2 + (1 : Int32))), some (.int x3), some (.int x4), some (.int x5)]) dX12_mostOf_98 rfl rfl (by decide) rfl ?_
      refine px_goto (tgt := 24) dX12_mostOf_101 (by decide) ?_
      exact PAt.forget h (lsub_at ⟨rfl, ⟨rfl, ⟨rfl, trivial⟩⟩⟩)
    · rw [if_neg hc] at h ⊢
      refine px_aload_n dX12_mostOf_77 rfl rfl ?_
      refine gf_X12_158 rfl dX12_mostOf_78 zl_329 zk_329 rfl zr_329_66 zl_376 ?_
      refine px_iload_n dX12_mostOf_81 rfl rfl ?_
      refine px_aload_n dX12_mostOf_82 rfl rfl ?_
      refine gf_X12_155 rfl dX12_mostOf_83 zl_329 zk_329 rfl zr_329_65 zl_375 ?_
      refine px_iload dX12_mostOf_86 rfl ?_
      obtain ⟨hi, h⟩ := h
      refine px_iaload (n := 8640) dX12_mostOf_88 zl_375 zk_375 zs_375 hi ?_
      refine px_iand dX12_mostOf_89 ?_
      refine px_iconst (v := (1 : Int32)) dX12_mostOf_90 (by decide) ?_
      obtain ⟨hi, h⟩ := h
      refine px_zastore (n := 256) dX12_mostOf_91 zl_376 zk_376 zs_376 hi ?_
      obtain ⟨gi1, hgi1⟩ : ∃ y : Gi, y = uI gi 376 (upd (gi 376) (x3 &&& (gi 375 x5.toNatClampNeg)).toNatClampNeg (vp_nar .boolean (1 : Int32))) := ⟨_, rfl⟩
      have h := h gi1 hgi1
      refine px_namegi hgi1 ?_
      refine px_iinc (v := x5 + (1 : Int32)) (ls2 := [some (.ref 329), some (.int x1), some (.int x2), some (.int x3), some (.int x4), some (.int (x5 + (1 : Int32)))]) dX12_mostOf_92 rfl rfl (by decide) rfl ?_
      refine px_goto (tgt := 58) dX12_mostOf_95 (by decide) ?_
      exact PAt.forget h (lsub_at ⟨rfl, ⟨rfl, ⟨rfl, ⟨rfl, ⟨rfl, ⟨rfl, trivial⟩⟩⟩⟩⟩⟩)
abbrev p_X12_cloud_48 (x1 : Int32) (x2 : Int32) (x3 : Int32) (x4 : Int32) (gi : Gi) (gl : Gl) (Q : Int32 → Gi → Gl → Prop) : Prop := PAt mX12_cloud NN NN κF 48 [some (.ref 329), some (.int x1), some (.int x2), some (.int x3), some (.int x4), none, none] [] gi gl (RiQ Q)
abbrev p_X12_cloud_86 (x1 : Int32) (x2 : Int32) (x3 : Int32) (x4 : Int32) (x5 : Int32) (x6 : Int32) (gi : Gi) (gl : Gl) (Q : Int32 → Gi → Gl → Prop) : Prop := PAt mX12_cloud NN NN κF 86 [some (.ref 329), some (.int x1), some (.int x2), some (.int x3), some (.int x4), some (.int x5), some (.int x6)] [] gi gl (RiQ Q)
def f_X12_cloud (x1 : Int32) (x2 : Int32) (gi : Gi) (gl : Gl) (Q : Int32 → Gi → Gl → Prop) : Prop :=
if x1 < (1 : Int32) then
(Q ((-1) : Int32) gi gl)
else
(if (jl (1 : Int32) (gi 355 (0 : Int32).toNatClampNeg)) ≤ x1 then
(Q ((-1) : Int32) gi gl)
else
(p_X12_within x2 (0 : Int32) (2 : Int32) gi gl (fun (r3 : Int32) (gi1 : Gi) (gl2 : Gl) =>
if ¬ r3 = 0 then
(p_X12_findClouds  gi1 gl2 (fun (gi4 : Gi) (gl5 : Gl) =>
if ¬ x2 = (2 : Int32) then
(p_X12_cloud_48 x1 x2 (0 : Int32) (0 : Int32) gi4 gl5 Q)
else
(p_X12_mostOf x1 gi4 gl5 (fun (r8 : Int32) (gi6 : Gi) (gl7 : Gl) =>
Q r8 gi6 gl7))))
else
(Q ((-1) : Int32) gi1 gl2))))
def f_X12_cloud_48 (x1 : Int32) (x2 : Int32) (x3 : Int32) (x4 : Int32) (gi : Gi) (gl : Gl) (Q : Int32 → Gi → Gl → Prop) : Prop :=
if (3600 : Int32) ≤ x4 then
(if ¬ x2 = 0 then
(Q ((-1) : Int32) gi gl)
else
(Q x3 gi gl))
else
(vp_in x4 3600 ∧
if ((gi 374 x4.toNatClampNeg) &&& x1) = x1 then
(∀ z1 : Int32, z1 = (jr x4 (360 : Int32)) / (30 : Int32) →
p_X12_cloud_86 x1 x2 x3 x4 z1 (0 : Int32) gi gl Q)
else
(p_X12_cloud_48 x1 x2 x3 (x4 + (1 : Int32)) gi gl Q))
def f_X12_cloud_86 (x1 : Int32) (x2 : Int32) (x3 : Int32) (x4 : Int32) (x5 : Int32) (x6 : Int32) (gi : Gi) (gl : Gl) (Q : Int32 → Gi → Gl → Prop) : Prop :=
if (720 : Int32) ≤ x6 then
(p_X12_cloud_48 x1 x2 x3 (x4 + (1 : Int32)) gi gl Q)
else
(vp_in (((720 : Int32) * x5) + x6) 8640 ∧
if ((gi 375 (((720 : Int32) * x5) + x6).toNatClampNeg) &&& x1) = x1 then
(if ¬ x2 = (1 : Int32) then
(p_X12_cloud_86 x1 x2 (x3 + (1 : Int32)) x4 x5 (x6 + (1 : Int32)) gi gl Q)
else
(Q (((720 : Int32) * x4) + x6) gi gl))
else
(p_X12_cloud_86 x1 x2 x3 x4 x5 (x6 + (1 : Int32)) gi gl Q))
set_option maxRecDepth 100000 in
theorem v_X12_cloud {x1 : Int32} {x2 : Int32} {gi : Gi} {gl : Gl} {Q : Int32 → Gi → Gl → Prop}  (h : f_X12_cloud x1 x2 gi gl Q) : p_X12_cloud x1 x2 gi gl Q := by
  unfold f_X12_cloud at h
  show PAt mX12_cloud NN NN κF 0 [some (.ref 329), some (.int x1), some (.int x2), none, none, none, none] [] gi gl _
  refine px_iload_n dX12_cloud_0 rfl rfl ?_
  refine px_iconst (v := (1 : Int32)) dX12_cloud_1 (by decide) ?_
  refine px_icmp_lt (tgt := 26) dX12_cloud_2 (by decide) ?_
  by_cases hc : x1 < (1 : Int32)
  · rw [if_pos hc] at h ⊢
    refine px_iconst (v := ((-1) : Int32)) dX12_cloud_26 (by decide) ?_
    exact px_ireturn dX12_cloud_27 rfl ⟨.int, rfl, rfl, rfl⟩ ⟨rfl, _, rfl, h⟩
  · rw [if_neg hc] at h ⊢
    refine px_iload_n dX12_cloud_5 rfl rfl ?_
    refine px_iconst (v := (1 : Int32)) dX12_cloud_6 (by decide) ?_
    refine px_aload_n dX12_cloud_7 rfl rfl ?_
    refine gf_X12_86 rfl dX12_cloud_8 zl_329 zk_329 rfl zr_329_27 zl_355 ?_
    refine px_iconst (v := (0 : Int32)) dX12_cloud_11 (by decide) ?_
    refine px_iaload (n := 5) dX12_cloud_12 zl_355 zk_355 zs_355 (vp_lit (by decide)) ?_
    refine px_ishl dX12_cloud_13 ?_
    refine px_icmp_ge (tgt := 26) dX12_cloud_14 (by decide) ?_
    by_cases hc : (jl (1 : Int32) (gi 355 (0 : Int32).toNatClampNeg)) ≤ x1
    · rw [if_pos hc] at h ⊢
      refine px_iconst (v := ((-1) : Int32)) dX12_cloud_26 (by decide) ?_
      exact px_ireturn dX12_cloud_27 rfl ⟨.int, rfl, rfl, rfl⟩ ⟨rfl, _, rfl, h⟩
    · rw [if_neg hc] at h ⊢
      refine px_iload_n dX12_cloud_17 rfl rfl ?_
      refine px_iconst (v := (0 : Int32)) dX12_cloud_18 (by decide) ?_
      refine px_iconst (v := (2 : Int32)) dX12_cloud_19 (by decide) ?_
      refine px_callS_I (As := [.int x2, .int (0 : Int32), .int (2 : Int32)]) (st := []) dX12_cloud_20 lk_X12_189.1 lk_X12_189.2 (by decide) rfl (Nat.le_of_ble_eq_true rfl) rfl rfl (Nat.le_of_ble_eq_true rfl) ⟨Nat.le_refl _, Nat.le_refl _, Nat.le_refl _⟩ ?_
      refine PAt.mono h (fun v κ gi1 gl2 hq => ?_)
      obtain ⟨rfl, r3, rfl, h⟩ := hq
      refine px_if_ne (tgt := 28) dX12_cloud_23 (by decide) ?_
      by_cases hc : ¬ r3 = 0
      · rw [if_pos hc] at h ⊢
        refine px_aload_n dX12_cloud_28 rfl rfl ?_
        refine px_callV_V (As := []) (st := []) dX12_cloud_29 lk_X12_475.1 lk_X12_475.2 (b := 329) zl_329 zk_329 (by decide) rfl (by decide) rfl (Nat.le_of_ble_eq_true rfl) rfl rfl (Nat.le_of_ble_eq_true rfl) ⟨Nat.le_refl _, Nat.le_refl _, Nat.le_refl _⟩ ?_
        refine PAt.mono h (fun v κ gi4 gl5 hq => ?_)
        obtain ⟨rfl, -, h⟩ := hq
        refine px_iload_n dX12_cloud_32 rfl rfl ?_
        refine px_iconst (v := (2 : Int32)) dX12_cloud_33 (by decide) ?_
        refine px_icmp_ne (tgt := 43) dX12_cloud_34 (by decide) ?_
        by_cases hc : ¬ x2 = (2 : Int32)
        · rw [if_pos hc] at h ⊢
          refine px_iconst (v := (0 : Int32)) dX12_cloud_43 (by decide) ?_
          refine px_istore_n (ls2 := [some (.ref 329), some (.int x1), some (.int x2), some (.int (0 : Int32)), none, none, none]) (i := 3) rfl dX12_cloud_44 (by decide) rfl ?_
          refine px_iconst (v := (0 : Int32)) dX12_cloud_45 (by decide) ?_
          refine px_istore (ls2 := [some (.ref 329), some (.int x1), some (.int x2), some (.int (0 : Int32)), some (.int (0 : Int32)), none, none]) dX12_cloud_46 (by decide) rfl ?_
          exact PAt.forget h (lsub_at ⟨rfl, ⟨rfl, ⟨rfl, ⟨rfl, ⟨rfl, trivial⟩⟩⟩⟩⟩)
        · rw [if_neg hc] at h ⊢
          refine px_aload_n dX12_cloud_37 rfl rfl ?_
          refine px_iload_n dX12_cloud_38 rfl rfl ?_
          refine px_callV_I (As := [.int x1]) (st := []) dX12_cloud_39 lk_X12_478.1 lk_X12_478.2 (b := 329) zl_329 zk_329 (by decide) rfl (by decide) rfl (Nat.le_of_ble_eq_true rfl) rfl rfl (Nat.le_of_ble_eq_true rfl) ⟨Nat.le_refl _, Nat.le_refl _, Nat.le_refl _⟩ ?_
          refine PAt.mono h (fun v κ gi6 gl7 hq => ?_)
          obtain ⟨rfl, r8, rfl, h⟩ := hq
          exact px_ireturn dX12_cloud_42 rfl ⟨.int, rfl, rfl, rfl⟩ ⟨rfl, _, rfl, h⟩
      · rw [if_neg hc] at h ⊢
        refine px_iconst (v := ((-1) : Int32)) dX12_cloud_26 (by decide) ?_
        exact px_ireturn dX12_cloud_27 rfl ⟨.int, rfl, rfl, rfl⟩ ⟨rfl, _, rfl, h⟩
set_option maxRecDepth 100000 in
theorem v_X12_cloud_48 {x1 : Int32} {x2 : Int32} {x3 : Int32} {x4 : Int32} {gi : Gi} {gl : Gl} {Q : Int32 → Gi → Gl → Prop}  (h : f_X12_cloud_48 x1 x2 x3 x4 gi gl Q) : p_X12_cloud_48 x1 x2 x3 x4 gi gl Q := by
  unfold f_X12_cloud_48 at h
  show PAt mX12_cloud NN NN κF 48 [some (.ref 329), some (.int x1), some (.int x2), some (.int x3), some (.int x4), none, none] [] gi gl _
  refine px_iload dX12_cloud_48 rfl ?_
  refine px_sipush (v := (3600 : Int32)) dX12_cloud_50 (by decide) ?_
  refine px_icmp_ge (tgt := 147) dX12_cloud_53 (by decide) ?_
  by_cases hc : (3600 : Int32) ≤ x4
  · rw [if_pos hc] at h ⊢
    refine px_iload_n dX12_cloud_147 rfl rfl ?_
    refine px_if_ne (tgt := 155) dX12_cloud_148 (by decide) ?_
    by_cases hc : ¬ x2 = 0
    · rw [if_pos hc] at h ⊢
      refine px_iconst (v := ((-1) : Int32)) dX12_cloud_155 (by decide) ?_
      exact px_ireturn dX12_cloud_156 rfl ⟨.int, rfl, rfl, rfl⟩ ⟨rfl, _, rfl, h⟩
    · rw [if_neg hc] at h ⊢
      refine px_iload_n dX12_cloud_151 rfl rfl ?_
      refine px_goto (tgt := 156) dX12_cloud_152 (by decide) ?_
      exact px_ireturn dX12_cloud_156 rfl ⟨.int, rfl, rfl, rfl⟩ ⟨rfl, _, rfl, h⟩
  · rw [if_neg hc] at h ⊢
    refine px_aload_n dX12_cloud_56 rfl rfl ?_
    refine gf_X12_152 rfl dX12_cloud_57 zl_329 zk_329 rfl zr_329_64 zl_374 ?_
    refine px_iload dX12_cloud_60 rfl ?_
    obtain ⟨hi, h⟩ := h
    refine px_iaload (n := 3600) dX12_cloud_62 zl_374 zk_374 zs_374 hi ?_
    refine px_iload_n dX12_cloud_63 rfl rfl ?_
    refine px_iand dX12_cloud_64 ?_
    refine px_iload_n dX12_cloud_65 rfl rfl ?_
    refine px_icmp_eq (tgt := 72) dX12_cloud_66 (by decide) ?_
    by_cases hc : ((gi 374 x4.toNatClampNeg) &&& x1) = x1
    · rw [if_pos hc] at h ⊢
      refine px_iload dX12_cloud_72 rfl ?_
      refine px_sipush (v := (360 : Int32)) dX12_cloud_74 (by decide) ?_
      refine px_irem dX12_cloud_77 (by decide) ?_
      refine px_bipush (v := (30 : Int32)) dX12_cloud_78 (by decide) ?_
      refine px_idiv dX12_cloud_80 (by decide) ?_
      obtain ⟨z1, hz1⟩ : ∃ y : Int32, y = (jr x4 (360 : Int32)) / (30 : Int32) := ⟨_, rfl⟩
      have h := h z1 hz1
      refine px_namei hz1 ?_
      refine px_istore (ls2 := [some (.ref 329), some (.int x1), some (.int x2), some (.int x3), some (.int x4), some (.int z1), none]) dX12_cloud_81 (by decide) rfl ?_
      refine px_iconst (v := (0 : Int32)) dX12_cloud_83 (by decide) ?_
      refine px_istore (ls2 := [some (.ref 329), some (.int x1), some (.int x2), some (.int x3), some (.int x4), some (.int z1), some (.int (0 : Int32))]) dX12_cloud_84 (by decide) rfl ?_
      exact PAt.forget h (lsub_at ⟨rfl, ⟨rfl, ⟨rfl, ⟨rfl, ⟨rfl, ⟨rfl, ⟨rfl, trivial⟩⟩⟩⟩⟩⟩⟩)
    · rw [if_neg hc] at h ⊢
      refine px_goto (tgt := 141) dX12_cloud_69 (by decide) ?_
      refine px_iinc (v := x4 + (1 : Int32)) (ls2 := [some (.ref 329), some (.int x1), some (.int x2), some (.int x3), some (.int (x4 + (1 : Int32))), none, none]) dX12_cloud_141 rfl rfl (by decide) rfl ?_
      refine px_goto (tgt := 48) dX12_cloud_144 (by decide) ?_
      exact PAt.forget h (lsub_at ⟨rfl, ⟨rfl, ⟨rfl, ⟨rfl, ⟨rfl, trivial⟩⟩⟩⟩⟩)
set_option maxRecDepth 100000 in
theorem v_X12_cloud_86 {x1 : Int32} {x2 : Int32} {x3 : Int32} {x4 : Int32} {x5 : Int32} {x6 : Int32} {gi : Gi} {gl : Gl} {Q : Int32 → Gi → Gl → Prop}  (h : f_X12_cloud_86 x1 x2 x3 x4 x5 x6 gi gl Q) : p_X12_cloud_86 x1 x2 x3 x4 x5 x6 gi gl Q := by
  unfold f_X12_cloud_86 at h
  show PAt mX12_cloud NN NN κF 86 [some (.ref 329), some (.int x1), some (.int x2), some (.int x3), some (.int x4), some (.int x5), some (.int x6)] [] gi gl _
  refine px_iload dX12_cloud_86 rfl ?_
  refine px_sipush (v := (720 : Int32)) dX12_cloud_88 (by decide) ?_
  refine px_icmp_ge (tgt := 141) dX12_cloud_91 (by decide) ?_
  by_cases hc : (720 : Int32) ≤ x6
  · rw [if_pos hc] at h ⊢
    refine px_iinc (v := x4 + (1 : Int32)) (ls2 := [some (.ref 329), some (.int x1), some (.int x2), some (.int x3), some (.int (x4 + (1 : Int32))), some (.int x5), some (.int x6)]) dX12_cloud_141 rfl rfl (by decide) rfl ?_
    refine px_goto (tgt := 48) dX12_cloud_144 (by decide) ?_
    exact PAt.forget h (lsub_at ⟨rfl, ⟨rfl, ⟨rfl, ⟨rfl, ⟨rfl, trivial⟩⟩⟩⟩⟩)
  · rw [if_neg hc] at h ⊢
    refine px_aload_n dX12_cloud_94 rfl rfl ?_
    refine gf_X12_155 rfl dX12_cloud_95 zl_329 zk_329 rfl zr_329_65 zl_375 ?_
    refine px_sipush (v := (720 : Int32)) dX12_cloud_98 (by decide) ?_
    refine px_iload dX12_cloud_101 rfl ?_
    refine px_imul dX12_cloud_103 ?_
    refine px_iload dX12_cloud_104 rfl ?_
    refine px_iadd dX12_cloud_106 ?_
    obtain ⟨hi, h⟩ := h
    refine px_iaload (n := 8640) dX12_cloud_107 zl_375 zk_375 zs_375 hi ?_
    refine px_iload_n dX12_cloud_108 rfl rfl ?_
    refine px_iand dX12_cloud_109 ?_
    refine px_iload_n dX12_cloud_110 rfl rfl ?_
    refine px_icmp_eq (tgt := 117) dX12_cloud_111 (by decide) ?_
    by_cases hc : ((gi 375 (((720 : Int32) * x5) + x6).toNatClampNeg) &&& x1) = x1
    · rw [if_pos hc] at h ⊢
      refine px_iload_n dX12_cloud_117 rfl rfl ?_
      refine px_iconst (v := (1 : Int32)) dX12_cloud_118 (by decide) ?_
      refine px_icmp_ne (tgt := 132) dX12_cloud_119 (by decide) ?_
      by_cases hc : ¬ x2 = (1 : Int32)
      · rw [if_pos hc] at h ⊢
        refine px_iinc (v := x3 + (1 : Int32)) (ls2 := [some (.ref 329), some (.int x1), some (.int x2), some (.int (x3 + (1 : Int32))), some (.int x4), some (.int x5), some (.int x6)]) dX12_cloud_132 rfl rfl (by decide) rfl ?_
        refine px_iinc (v := x6 + (1 : Int32)) (ls2 := [some (.ref 329), some (.int x1), some (.int x2), some (.int (x3 + (1 : Int32))), some (.int x4), some (.int x5), some (.int (x6 + (1 : Int32)))]) dX12_cloud_135 rfl rfl (by decide) rfl ?_
        refine px_goto (tgt := 86) dX12_cloud_138 (by decide) ?_
        exact PAt.forget h (lsub_at ⟨rfl, ⟨rfl, ⟨rfl, ⟨rfl, ⟨rfl, ⟨rfl, ⟨rfl, trivial⟩⟩⟩⟩⟩⟩⟩)
      · rw [if_neg hc] at h ⊢
        refine px_sipush (v := (720 : Int32)) dX12_cloud_122 (by decide) ?_
        refine px_iload dX12_cloud_125 rfl ?_
        refine px_imul dX12_cloud_127 ?_
        refine px_iload dX12_cloud_128 rfl ?_
        refine px_iadd dX12_cloud_130 ?_
        exact px_ireturn dX12_cloud_131 rfl ⟨.int, rfl, rfl, rfl⟩ ⟨rfl, _, rfl, h⟩
    · rw [if_neg hc] at h ⊢
      refine px_goto (tgt := 135) dX12_cloud_114 (by decide) ?_
      refine px_iinc (v := x6 + (1 : Int32)) (ls2 := [some (.ref 329), some (.int x1), some (.int x2), some (.int x3), some (.int x4), some (.int x5), some (.int (x6 + (1 : Int32)))]) dX12_cloud_135 rfl rfl (by decide) rfl ?_
      refine px_goto (tgt := 86) dX12_cloud_138 (by decide) ?_
      exact PAt.forget h (lsub_at ⟨rfl, ⟨rfl, ⟨rfl, ⟨rfl, ⟨rfl, ⟨rfl, ⟨rfl, trivial⟩⟩⟩⟩⟩⟩⟩)
abbrev p_X12_copies_14 (x1 : Int32) (x2 : Int32) (x3 : Int32) (gi : Gi) (gl : Gl) (Q : Gi → Gl → Prop) : Prop := PAt mX12_copies NN NN κF 14 [some (.ref 329), some (.int x1), some (.int x2), some (.int x3)] [] gi gl (RvQ Q)
abbrev p_X12_copies_50 (x1 : Int32) (x2 : Int32) (x3 : Int32) (gi : Gi) (gl : Gl) (Q : Gi → Gl → Prop) : Prop := PAt mX12_copies NN NN κF 50 [some (.ref 329), some (.int x1), some (.int x2), some (.int x3)] [] gi gl (RvQ Q)
abbrev p_X12_copies_174 (x1 : Int32) (x2 : Int32) (x3 : Int32) (gi : Gi) (gl : Gl) (Q : Gi → Gl → Prop) : Prop := PAt mX12_copies NN NN κF 174 [some (.ref 329), some (.int x1), some (.int x2), some (.int x3)] [] gi gl (RvQ Q)
def f_X12_copies (x1 : Int32) (x2 : Int32) (gi : Gi) (gl : Gl) (Q : Gi → Gl → Prop) : Prop :=
vp_in x1 5 ∧
vp_in x2 5 ∧
∀ gi1 : Gi, gi1 = uI gi 355 (upd (gi 355) x2.toNatClampNeg (gi 355 x1.toNatClampNeg)) →
p_X12_copies_14 x1 x2 (0 : Int32) gi1 gl Q
def f_X12_copies_14 (x1 : Int32) (x2 : Int32) (x3 : Int32) (gi : Gi) (gl : Gl) (Q : Gi → Gl → Prop) : Prop :=
if (8 : Int32) ≤ x3 then
(p_X12_copies_50 x1 x2 (0 : Int32) gi gl Q)
else
(vp_in (((8 : Int32) * x1) + x3) 40 ∧
vp_in (((8 : Int32) * x2) + x3) 40 ∧
∀ gi1 : Gi, gi1 = uI gi 356 (upd (gi 356) (((8 : Int32) * x2) + x3).toNatClampNeg (gi 356 (((8 : Int32) * x1) + x3).toNatClampNeg)) →
p_X12_copies_14 x1 x2 (x3 + (1 : Int32)) gi1 gl Q)
def f_X12_copies_50 (x1 : Int32) (x2 : Int32) (x3 : Int32) (gi : Gi) (gl : Gl) (Q : Gi → Gl → Prop) : Prop :=
if (96 : Int32) ≤ x3 then
(p_X12_copies_174 x1 x2 (0 : Int32) gi gl Q)
else
(vp_in (((96 : Int32) * x1) + x3) 480 ∧
vp_in (((96 : Int32) * x2) + x3) 480 ∧
∀ gi1 : Gi, gi1 = uI gi 357 (upd (gi 357) (((96 : Int32) * x2) + x3).toNatClampNeg (gi 357 (((96 : Int32) * x1) + x3).toNatClampNeg)) →
vp_in (((96 : Int32) * x1) + x3) 480 ∧
vp_in (((96 : Int32) * x2) + x3) 480 ∧
∀ gi2 : Gi, gi2 = uI gi1 358 (upd (gi1 358) (((96 : Int32) * x2) + x3).toNatClampNeg (gi1 358 (((96 : Int32) * x1) + x3).toNatClampNeg)) →
vp_in (((96 : Int32) * x1) + x3) 480 ∧
vp_in (((96 : Int32) * x2) + x3) 480 ∧
∀ gi3 : Gi, gi3 = uI gi2 359 (upd (gi2 359) (((96 : Int32) * x2) + x3).toNatClampNeg (gi2 359 (((96 : Int32) * x1) + x3).toNatClampNeg)) →
vp_in (((96 : Int32) * x1) + x3) 480 ∧
vp_in (((96 : Int32) * x2) + x3) 480 ∧
∀ gi4 : Gi, gi4 = uI gi3 360 (upd (gi3 360) (((96 : Int32) * x2) + x3).toNatClampNeg (gi3 360 (((96 : Int32) * x1) + x3).toNatClampNeg)) →
vp_in (((96 : Int32) * x1) + x3) 480 ∧
vp_in (((96 : Int32) * x2) + x3) 480 ∧
∀ gi5 : Gi, gi5 = uI gi4 361 (upd (gi4 361) (((96 : Int32) * x2) + x3).toNatClampNeg (gi4 361 (((96 : Int32) * x1) + x3).toNatClampNeg)) →
p_X12_copies_50 x1 x2 (x3 + (1 : Int32)) gi5 gl Q)
def f_X12_copies_174 (x1 : Int32) (x2 : Int32) (x3 : Int32) (gi : Gi) (gl : Gl) (Q : Gi → Gl → Prop) : Prop :=
if (12 : Int32) ≤ x3 then
(Q gi gl)
else
(vp_in (((12 : Int32) * x1) + x3) 60 ∧
vp_in (((12 : Int32) * x2) + x3) 60 ∧
∀ gi1 : Gi, gi1 = uI gi 362 (upd (gi 362) (((12 : Int32) * x2) + x3).toNatClampNeg (gi 362 (((12 : Int32) * x1) + x3).toNatClampNeg)) →
p_X12_copies_174 x1 x2 (x3 + (1 : Int32)) gi1 gl Q)
set_option maxRecDepth 100000 in
theorem v_X12_copies {x1 : Int32} {x2 : Int32} {gi : Gi} {gl : Gl} {Q : Gi → Gl → Prop}  (h : f_X12_copies x1 x2 gi gl Q) : p_X12_copies x1 x2 gi gl Q := by
  unfold f_X12_copies at h
  show PAt mX12_copies NN NN κF 0 [some (.ref 329), some (.int x1), some (.int x2), none] [] gi gl _
  refine px_aload_n dX12_copies_0 rfl rfl ?_
  refine gf_X12_86 rfl dX12_copies_1 zl_329 zk_329 rfl zr_329_27 zl_355 ?_
  refine px_iload_n dX12_copies_4 rfl rfl ?_
  refine px_aload_n dX12_copies_5 rfl rfl ?_
  refine gf_X12_86 rfl dX12_copies_6 zl_329 zk_329 rfl zr_329_27 zl_355 ?_
  refine px_iload_n dX12_copies_9 rfl rfl ?_
  obtain ⟨hi, h⟩ := h
  refine px_iaload (n := 5) dX12_copies_10 zl_355 zk_355 zs_355 hi ?_
  obtain ⟨hi, h⟩ := h
  refine px_iastore (n := 5) dX12_copies_11 zl_355 zk_355 zs_355 hi ?_
  obtain ⟨gi1, hgi1⟩ : ∃ y : Gi, y = uI gi 355 (upd (gi 355) x2.toNatClampNeg (gi 355 x1.toNatClampNeg)) := ⟨_, rfl⟩
  have h := h gi1 hgi1
  refine px_namegi hgi1 ?_
  refine px_iconst (v := (0 : Int32)) dX12_copies_12 (by decide) ?_
  refine px_istore_n (ls2 := [some (.ref 329), some (.int x1), some (.int x2), some (.int (0 : Int32))]) (i := 3) rfl dX12_copies_13 (by decide) rfl ?_
  exact PAt.forget h (lsub_at ⟨rfl, ⟨rfl, ⟨rfl, ⟨rfl, trivial⟩⟩⟩⟩)
set_option maxRecDepth 100000 in
theorem v_X12_copies_14 {x1 : Int32} {x2 : Int32} {x3 : Int32} {gi : Gi} {gl : Gl} {Q : Gi → Gl → Prop}  (h : f_X12_copies_14 x1 x2 x3 gi gl Q) : p_X12_copies_14 x1 x2 x3 gi gl Q := by
  unfold f_X12_copies_14 at h
  show PAt mX12_copies NN NN κF 14 [some (.ref 329), some (.int x1), some (.int x2), some (.int x3)] [] gi gl _
  refine px_iload_n dX12_copies_14 rfl rfl ?_
  refine px_bipush (v := (8 : Int32)) dX12_copies_15 (by decide) ?_
  refine px_icmp_ge (tgt := 48) dX12_copies_17 (by decide) ?_
  by_cases hc : (8 : Int32) ≤ x3
  · rw [if_pos hc] at h ⊢
    refine px_iconst (v := (0 : Int32)) dX12_copies_48 (by decide) ?_
    refine px_istore_n (ls2 := [some (.ref 329), some (.int x1), some (.int x2), some (.int (0 : Int32))]) (i := 3) rfl dX12_copies_49 (by decide) rfl ?_
    exact PAt.forget h (lsub_at ⟨rfl, ⟨rfl, ⟨rfl, ⟨rfl, trivial⟩⟩⟩⟩)
  · rw [if_neg hc] at h ⊢
    refine px_aload_n dX12_copies_20 rfl rfl ?_
    refine gf_X12_89 rfl dX12_copies_21 zl_329 zk_329 rfl zr_329_28 zl_356 ?_
    refine px_bipush (v := (8 : Int32)) dX12_copies_24 (by decide) ?_
    refine px_iload_n dX12_copies_26 rfl rfl ?_
    refine px_imul dX12_copies_27 ?_
    refine px_iload_n dX12_copies_28 rfl rfl ?_
    refine px_iadd dX12_copies_29 ?_
    refine px_aload_n dX12_copies_30 rfl rfl ?_
    refine gf_X12_89 rfl dX12_copies_31 zl_329 zk_329 rfl zr_329_28 zl_356 ?_
    refine px_bipush (v := (8 : Int32)) dX12_copies_34 (by decide) ?_
    refine px_iload_n dX12_copies_36 rfl rfl ?_
    refine px_imul dX12_copies_37 ?_
    refine px_iload_n dX12_copies_38 rfl rfl ?_
    refine px_iadd dX12_copies_39 ?_
    obtain ⟨hi, h⟩ := h
    refine px_iaload (n := 40) dX12_copies_40 zl_356 zk_356 zs_356 hi ?_
    obtain ⟨hi, h⟩ := h
    refine px_iastore (n := 40) dX12_copies_41 zl_356 zk_356 zs_356 hi ?_
    obtain ⟨gi1, hgi1⟩ : ∃ y : Gi, y = uI gi 356 (upd (gi 356) (((8 : Int32) * x2) + x3).toNatClampNeg (gi 356 (((8 : Int32) * x1) + x3).toNatClampNeg)) := ⟨_, rfl⟩
    have h := h gi1 hgi1
    refine px_namegi hgi1 ?_
    refine px_iinc (v := x3 + (1 : Int32)) (ls2 := [some (.ref 329), some (.int x1), some (.int x2), some (.int (x3 + (1 : Int32)))]) dX12_copies_42 rfl rfl (by decide) rfl ?_
    refine px_goto (tgt := 14) dX12_copies_45 (by decide) ?_
    exact PAt.forget h (lsub_at ⟨rfl, ⟨rfl, ⟨rfl, ⟨rfl, trivial⟩⟩⟩⟩)
set_option maxRecDepth 100000 in
theorem v_X12_copies_50 {x1 : Int32} {x2 : Int32} {x3 : Int32} {gi : Gi} {gl : Gl} {Q : Gi → Gl → Prop}  (h : f_X12_copies_50 x1 x2 x3 gi gl Q) : p_X12_copies_50 x1 x2 x3 gi gl Q := by
  unfold f_X12_copies_50 at h
  show PAt mX12_copies NN NN κF 50 [some (.ref 329), some (.int x1), some (.int x2), some (.int x3)] [] gi gl _
  refine px_iload_n dX12_copies_50 rfl rfl ?_
  refine px_bipush (v := (96 : Int32)) dX12_copies_51 (by decide) ?_
  refine px_icmp_ge (tgt := 172) dX12_copies_53 (by decide) ?_
  by_cases hc : (96 : Int32) ≤ x3
  · rw [if_pos hc] at h ⊢
    refine px_iconst (v := (0 : Int32)) dX12_copies_172 (by decide) ?_
    refine px_istore_n (ls2 := [some (.ref 329), some (.int x1), some (.int x2), some (.int (0 : Int32))]) (i := 3) rfl dX12_copies_173 (by decide) rfl ?_
    exact PAt.forget h (lsub_at ⟨rfl, ⟨rfl, ⟨rfl, ⟨rfl, trivial⟩⟩⟩⟩)
  · rw [if_neg hc] at h ⊢
    refine px_aload_n dX12_copies_56 rfl rfl ?_
    refine gf_X12_92 rfl dX12_copies_57 zl_329 zk_329 rfl zr_329_29 zl_357 ?_
    refine px_bipush (v := (96 : Int32)) dX12_copies_60 (by decide) ?_
    refine px_iload_n dX12_copies_62 rfl rfl ?_
    refine px_imul dX12_copies_63 ?_
    refine px_iload_n dX12_copies_64 rfl rfl ?_
    refine px_iadd dX12_copies_65 ?_
    refine px_aload_n dX12_copies_66 rfl rfl ?_
    refine gf_X12_92 rfl dX12_copies_67 zl_329 zk_329 rfl zr_329_29 zl_357 ?_
    refine px_bipush (v := (96 : Int32)) dX12_copies_70 (by decide) ?_
    refine px_iload_n dX12_copies_72 rfl rfl ?_
    refine px_imul dX12_copies_73 ?_
    refine px_iload_n dX12_copies_74 rfl rfl ?_
    refine px_iadd dX12_copies_75 ?_
    obtain ⟨hi, h⟩ := h
    refine px_iaload (n := 480) dX12_copies_76 zl_357 zk_357 zs_357 hi ?_
    obtain ⟨hi, h⟩ := h
    refine px_iastore (n := 480) dX12_copies_77 zl_357 zk_357 zs_357 hi ?_
    obtain ⟨gi1, hgi1⟩ : ∃ y : Gi, y = uI gi 357 (upd (gi 357) (((96 : Int32) * x2) + x3).toNatClampNeg (gi 357 (((96 : Int32) * x1) + x3).toNatClampNeg)) := ⟨_, rfl⟩
    have h := h gi1 hgi1
    refine px_namegi hgi1 ?_
    refine px_aload_n dX12_copies_78 rfl rfl ?_
    refine gf_X12_95 rfl dX12_copies_79 zl_329 zk_329 rfl zr_329_30 zl_358 ?_
    refine px_bipush (v := (96 : Int32)) dX12_copies_82 (by decide) ?_
    refine px_iload_n dX12_copies_84 rfl rfl ?_
    refine px_imul dX12_copies_85 ?_
    refine px_iload_n dX12_copies_86 rfl rfl ?_
    refine px_iadd dX12_copies_87 ?_
    refine px_aload_n dX12_copies_88 rfl rfl ?_
    refine gf_X12_95 rfl dX12_copies_89 zl_329 zk_329 rfl zr_329_30 zl_358 ?_
    refine px_bipush (v := (96 : Int32)) dX12_copies_92 (by decide) ?_
    refine px_iload_n dX12_copies_94 rfl rfl ?_
    refine px_imul dX12_copies_95 ?_
    refine px_iload_n dX12_copies_96 rfl rfl ?_
    refine px_iadd dX12_copies_97 ?_
    obtain ⟨hi, h⟩ := h
    refine px_iaload (n := 480) dX12_copies_98 zl_358 zk_358 zs_358 hi ?_
    obtain ⟨hi, h⟩ := h
    refine px_iastore (n := 480) dX12_copies_99 zl_358 zk_358 zs_358 hi ?_
    obtain ⟨gi2, hgi2⟩ : ∃ y : Gi, y = uI gi1 358 (upd (gi1 358) (((96 : Int32) * x2) + x3).toNatClampNeg (gi1 358 (((96 : Int32) * x1) + x3).toNatClampNeg)) := ⟨_, rfl⟩
    have h := h gi2 hgi2
    refine px_namegi hgi2 ?_
    refine px_aload_n dX12_copies_100 rfl rfl ?_
    refine gf_X12_98 rfl dX12_copies_101 zl_329 zk_329 rfl zr_329_31 zl_359 ?_
    refine px_bipush (v := (96 : Int32)) dX12_copies_104 (by decide) ?_
    refine px_iload_n dX12_copies_106 rfl rfl ?_
    refine px_imul dX12_copies_107 ?_
    refine px_iload_n dX12_copies_108 rfl rfl ?_
    refine px_iadd dX12_copies_109 ?_
    refine px_aload_n dX12_copies_110 rfl rfl ?_
    refine gf_X12_98 rfl dX12_copies_111 zl_329 zk_329 rfl zr_329_31 zl_359 ?_
    refine px_bipush (v := (96 : Int32)) dX12_copies_114 (by decide) ?_
    refine px_iload_n dX12_copies_116 rfl rfl ?_
    refine px_imul dX12_copies_117 ?_
    refine px_iload_n dX12_copies_118 rfl rfl ?_
    refine px_iadd dX12_copies_119 ?_
    obtain ⟨hi, h⟩ := h
    refine px_iaload (n := 480) dX12_copies_120 zl_359 zk_359 zs_359 hi ?_
    obtain ⟨hi, h⟩ := h
    refine px_iastore (n := 480) dX12_copies_121 zl_359 zk_359 zs_359 hi ?_
    obtain ⟨gi3, hgi3⟩ : ∃ y : Gi, y = uI gi2 359 (upd (gi2 359) (((96 : Int32) * x2) + x3).toNatClampNeg (gi2 359 (((96 : Int32) * x1) + x3).toNatClampNeg)) := ⟨_, rfl⟩
    have h := h gi3 hgi3
    refine px_namegi hgi3 ?_
    refine px_aload_n dX12_copies_122 rfl rfl ?_
    refine gf_X12_101 rfl dX12_copies_123 zl_329 zk_329 rfl zr_329_32 zl_360 ?_
    refine px_bipush (v := (96 : Int32)) dX12_copies_126 (by decide) ?_
    refine px_iload_n dX12_copies_128 rfl rfl ?_
    refine px_imul dX12_copies_129 ?_
    refine px_iload_n dX12_copies_130 rfl rfl ?_
    refine px_iadd dX12_copies_131 ?_
    refine px_aload_n dX12_copies_132 rfl rfl ?_
    refine gf_X12_101 rfl dX12_copies_133 zl_329 zk_329 rfl zr_329_32 zl_360 ?_
    refine px_bipush (v := (96 : Int32)) dX12_copies_136 (by decide) ?_
    refine px_iload_n dX12_copies_138 rfl rfl ?_
    refine px_imul dX12_copies_139 ?_
    refine px_iload_n dX12_copies_140 rfl rfl ?_
    refine px_iadd dX12_copies_141 ?_
    obtain ⟨hi, h⟩ := h
    refine px_iaload (n := 480) dX12_copies_142 zl_360 zk_360 zs_360 hi ?_
    obtain ⟨hi, h⟩ := h
    refine px_iastore (n := 480) dX12_copies_143 zl_360 zk_360 zs_360 hi ?_
    obtain ⟨gi4, hgi4⟩ : ∃ y : Gi, y = uI gi3 360 (upd (gi3 360) (((96 : Int32) * x2) + x3).toNatClampNeg (gi3 360 (((96 : Int32) * x1) + x3).toNatClampNeg)) := ⟨_, rfl⟩
    have h := h gi4 hgi4
    refine px_namegi hgi4 ?_
    refine px_aload_n dX12_copies_144 rfl rfl ?_
    refine gf_X12_104 rfl dX12_copies_145 zl_329 zk_329 rfl zr_329_33 zl_361 ?_
    refine px_bipush (v := (96 : Int32)) dX12_copies_148 (by decide) ?_
    refine px_iload_n dX12_copies_150 rfl rfl ?_
    refine px_imul dX12_copies_151 ?_
    refine px_iload_n dX12_copies_152 rfl rfl ?_
    refine px_iadd dX12_copies_153 ?_
    refine px_aload_n dX12_copies_154 rfl rfl ?_
    refine gf_X12_104 rfl dX12_copies_155 zl_329 zk_329 rfl zr_329_33 zl_361 ?_
    refine px_bipush (v := (96 : Int32)) dX12_copies_158 (by decide) ?_
    refine px_iload_n dX12_copies_160 rfl rfl ?_
    refine px_imul dX12_copies_161 ?_
    refine px_iload_n dX12_copies_162 rfl rfl ?_
    refine px_iadd dX12_copies_163 ?_
    obtain ⟨hi, h⟩ := h
    refine px_iaload (n := 480) dX12_copies_164 zl_361 zk_361 zs_361 hi ?_
    obtain ⟨hi, h⟩ := h
    refine px_iastore (n := 480) dX12_copies_165 zl_361 zk_361 zs_361 hi ?_
    obtain ⟨gi5, hgi5⟩ : ∃ y : Gi, y = uI gi4 361 (upd (gi4 361) (((96 : Int32) * x2) + x3).toNatClampNeg (gi4 361 (((96 : Int32) * x1) + x3).toNatClampNeg)) := ⟨_, rfl⟩
    have h := h gi5 hgi5
    refine px_namegi hgi5 ?_
    refine px_iinc (v := x3 + (1 : Int32)) (ls2 := [some (.ref 329), some (.int x1), some (.int x2), some (.int (x3 + (1 : Int32)))]) dX12_copies_166 rfl rfl (by decide) rfl ?_
    refine px_goto (tgt := 50) dX12_copies_169 (by decide) ?_
    exact PAt.forget h (lsub_at ⟨rfl, ⟨rfl, ⟨rfl, ⟨rfl, trivial⟩⟩⟩⟩)
set_option maxRecDepth 100000 in
theorem v_X12_copies_174 {x1 : Int32} {x2 : Int32} {x3 : Int32} {gi : Gi} {gl : Gl} {Q : Gi → Gl → Prop}  (h : f_X12_copies_174 x1 x2 x3 gi gl Q) : p_X12_copies_174 x1 x2 x3 gi gl Q := by
  unfold f_X12_copies_174 at h
  show PAt mX12_copies NN NN κF 174 [some (.ref 329), some (.int x1), some (.int x2), some (.int x3)] [] gi gl _
  refine px_iload_n dX12_copies_174 rfl rfl ?_
  refine px_bipush (v := (12 : Int32)) dX12_copies_175 (by decide) ?_
  refine px_icmp_ge (tgt := 208) dX12_copies_177 (by decide) ?_
  by_cases hc : (12 : Int32) ≤ x3
  · rw [if_pos hc] at h ⊢
    exact px_return dX12_copies_208 rfl rfl ⟨rfl, rfl, h⟩
  · rw [if_neg hc] at h ⊢
    refine px_aload_n dX12_copies_180 rfl rfl ?_
    refine gf_X12_107 rfl dX12_copies_181 zl_329 zk_329 rfl zr_329_34 zl_362 ?_
    refine px_bipush (v := (12 : Int32)) dX12_copies_184 (by decide) ?_
    refine px_iload_n dX12_copies_186 rfl rfl ?_
    refine px_imul dX12_copies_187 ?_
    refine px_iload_n dX12_copies_188 rfl rfl ?_
    refine px_iadd dX12_copies_189 ?_
    refine px_aload_n dX12_copies_190 rfl rfl ?_
    refine gf_X12_107 rfl dX12_copies_191 zl_329 zk_329 rfl zr_329_34 zl_362 ?_
    refine px_bipush (v := (12 : Int32)) dX12_copies_194 (by decide) ?_
    refine px_iload_n dX12_copies_196 rfl rfl ?_
    refine px_imul dX12_copies_197 ?_
    refine px_iload_n dX12_copies_198 rfl rfl ?_
    refine px_iadd dX12_copies_199 ?_
    obtain ⟨hi, h⟩ := h
    refine px_iaload (n := 60) dX12_copies_200 zl_362 zk_362 zs_362 hi ?_
    obtain ⟨hi, h⟩ := h
    refine px_iastore (n := 60) dX12_copies_201 zl_362 zk_362 zs_362 hi ?_
    obtain ⟨gi1, hgi1⟩ : ∃ y : Gi, y = uI gi 362 (upd (gi 362) (((12 : Int32) * x2) + x3).toNatClampNeg (gi 362 (((12 : Int32) * x1) + x3).toNatClampNeg)) := ⟨_, rfl⟩
    have h := h gi1 hgi1
    refine px_namegi hgi1 ?_
    refine px_iinc (v := x3 + (1 : Int32)) (ls2 := [some (.ref 329), some (.int x1), some (.int x2), some (.int (x3 + (1 : Int32)))]) dX12_copies_202 rfl rfl (by decide) rfl ?_
    refine px_goto (tgt := 174) dX12_copies_205 (by decide) ?_
    exact PAt.forget h (lsub_at ⟨rfl, ⟨rfl, ⟨rfl, ⟨rfl, trivial⟩⟩⟩⟩)
def f_X12_image  (gi : Gi) (gl : Gl) (Q : Int32 → Gi → Gl → Prop) : Prop :=
if ¬ (gi 329 67) = (4 : Int32) then
(∀ gi1 : Gi, gi1 = uI gi 329 (upd (gi 329) 67 ((gi 329 67) + (1 : Int32))) →
p_X12_copies (0 : Int32) (gi1 329 67) gi1 gl (fun (gi2 : Gi) (gl3 : Gl) =>
Q ((gi2 329 67) - (1 : Int32)) gi2 gl3))
else
(Q ((-1) : Int32) gi gl)
set_option maxRecDepth 100000 in
theorem v_X12_image  {gi : Gi} {gl : Gl} {Q : Int32 → Gi → Gl → Prop}  (h : f_X12_image  gi gl Q) : p_X12_image  gi gl Q := by
  unfold f_X12_image at h
  show PAt mX12_image NN NN κF 0 [some (.ref 329)] [] gi gl _
  refine px_aload_n dX12_image_0 rfl rfl ?_
  refine gf_X12_321 rfl dX12_image_1 zl_329 zk_329 ?_
  refine px_iconst (v := (4 : Int32)) dX12_image_4 (by decide) ?_
  refine px_icmp_ne (tgt := 10) dX12_image_5 (by decide) ?_
  by_cases hc : ¬ (gi 329 67) = (4 : Int32)
  · rw [if_pos hc] at h ⊢
    refine px_aload_n dX12_image_10 rfl rfl ?_
    refine px_dup dX12_image_11 rfl ?_
    refine gf_X12_321 rfl dX12_image_12 zl_329 zk_329 ?_
    refine px_iconst (v := (1 : Int32)) dX12_image_15 (by decide) ?_
    refine px_iadd dX12_image_16 ?_
    refine pf_X12_321 rfl dX12_image_17 zl_329 zk_329 ?_
    obtain ⟨gi1, hgi1⟩ : ∃ y : Gi, y = uI gi 329 (upd (gi 329) 67 ((gi 329 67) + (1 : Int32))) := ⟨_, rfl⟩
    have h := h gi1 hgi1
    refine px_namegi hgi1 ?_
    refine px_aload_n dX12_image_20 rfl rfl ?_
    refine px_iconst (v := (0 : Int32)) dX12_image_21 (by decide) ?_
    refine px_aload_n dX12_image_22 rfl rfl ?_
    refine gf_X12_321 rfl dX12_image_23 zl_329 zk_329 ?_
    refine px_callV_V (As := [.int (0 : Int32), .int (gi1 329 67)]) (st := []) dX12_image_26 lk_X12_481.1 lk_X12_481.2 (b := 329) zl_329 zk_329 (by decide) rfl (by decide) rfl (Nat.le_of_ble_eq_true rfl) rfl rfl (Nat.le_of_ble_eq_true rfl) ⟨Nat.le_refl _, Nat.le_refl _, Nat.le_refl _⟩ ?_
    refine PAt.mono h (fun v κ gi2 gl3 hq => ?_)
    obtain ⟨rfl, -, h⟩ := hq
    refine px_aload_n dX12_image_29 rfl rfl ?_
    refine gf_X12_321 rfl dX12_image_30 zl_329 zk_329 ?_
    refine px_iconst (v := (1 : Int32)) dX12_image_33 (by decide) ?_
    refine px_isub dX12_image_34 ?_
    exact px_ireturn dX12_image_35 rfl ⟨.int, rfl, rfl, rfl⟩ ⟨rfl, _, rfl, h⟩
  · rw [if_neg hc] at h ⊢
    refine px_iconst (v := ((-1) : Int32)) dX12_image_8 (by decide) ?_
    exact px_ireturn dX12_image_9 rfl ⟨.int, rfl, rfl, rfl⟩ ⟨rfl, _, rfl, h⟩
def f_X12_back (x1 : Int32) (gi : Gi) (gl : Gl) (Q : Int32 → Gi → Gl → Prop) : Prop :=
p_X12_within x1 (0 : Int32) ((gi 329 67) - (1 : Int32)) gi gl (fun (r3 : Int32) (gi1 : Gi) (gl2 : Gl) =>
if ¬ r3 = 0 then
(p_X12_copies (x1 + (1 : Int32)) (0 : Int32) gi1 gl2 (fun (gi4 : Gi) (gl5 : Gl) =>
Q (1 : Int32) gi4 gl5))
else
(Q (0 : Int32) gi1 gl2))
set_option maxRecDepth 100000 in
theorem v_X12_back {x1 : Int32} {gi : Gi} {gl : Gl} {Q : Int32 → Gi → Gl → Prop}  (h : f_X12_back x1 gi gl Q) : p_X12_back x1 gi gl Q := by
  unfold f_X12_back at h
  show PAt mX12_back NN NN κF 0 [some (.ref 329), some (.int x1)] [] gi gl _
  refine px_iload_n dX12_back_0 rfl rfl ?_
  refine px_iconst (v := (0 : Int32)) dX12_back_1 (by decide) ?_
  refine px_aload_n dX12_back_2 rfl rfl ?_
  refine gf_X12_321 rfl dX12_back_3 zl_329 zk_329 ?_
  refine px_iconst (v := (1 : Int32)) dX12_back_6 (by decide) ?_
  refine px_isub dX12_back_7 ?_
  refine px_callS_I (As := [.int x1, .int (0 : Int32), .int ((gi 329 67) - (1 : Int32))]) (st := []) dX12_back_8 lk_X12_189.1 lk_X12_189.2 (by decide) rfl (Nat.le_of_ble_eq_true rfl) rfl rfl (Nat.le_of_ble_eq_true rfl) ⟨Nat.le_refl _, Nat.le_refl _, Nat.le_refl _⟩ ?_
  refine PAt.mono h (fun v κ gi1 gl2 hq => ?_)
  obtain ⟨rfl, r3, rfl, h⟩ := hq
  refine px_if_ne (tgt := 16) dX12_back_11 (by decide) ?_
  by_cases hc : ¬ r3 = 0
  · rw [if_pos hc] at h ⊢
    refine px_aload_n dX12_back_16 rfl rfl ?_
    refine px_iload_n dX12_back_17 rfl rfl ?_
    refine px_iconst (v := (1 : Int32)) dX12_back_18 (by decide) ?_
    refine px_iadd dX12_back_19 ?_
    refine px_iconst (v := (0 : Int32)) dX12_back_20 (by decide) ?_
    refine px_callV_V (As := [.int (x1 + (1 : Int32)), .int (0 : Int32)]) (st := []) dX12_back_21 lk_X12_481.1 lk_X12_481.2 (b := 329) zl_329 zk_329 (by decide) rfl (by decide) rfl (Nat.le_of_ble_eq_true rfl) rfl rfl (Nat.le_of_ble_eq_true rfl) ⟨Nat.le_refl _, Nat.le_refl _, Nat.le_refl _⟩ ?_
    refine PAt.mono h (fun v κ gi4 gl5 hq => ?_)
    obtain ⟨rfl, -, h⟩ := hq
    refine px_iconst (v := (1 : Int32)) dX12_back_24 (by decide) ?_
    exact px_ireturn dX12_back_25 rfl ⟨.boolean, rfl, rfl, by decide⟩ ⟨rfl, _, rfl, h⟩
  · rw [if_neg hc] at h ⊢
    refine px_iconst (v := (0 : Int32)) dX12_back_14 (by decide) ?_
    exact px_ireturn dX12_back_15 rfl ⟨.boolean, rfl, rfl, by decide⟩ ⟨rfl, _, rfl, h⟩
abbrev p_X12_signsInAll_4 (x1 : Int32) (x2 : Int32) (gi : Gi) (gl : Gl) (Q : Int32 → Gi → Gl → Prop) : Prop := PAt mX12_signsInAll NN NN κF 4 [some (.ref 329), some (.int x1), some (.int x2)] [] gi gl (RiQ Q)
def f_X12_signsInAll  (gi : Gi) (gl : Gl) (Q : Int32 → Gi → Gl → Prop) : Prop :=
p_X12_signsInAll_4 (0 : Int32) (0 : Int32) gi gl Q
def f_X12_signsInAll_4 (x1 : Int32) (x2 : Int32) (gi : Gi) (gl : Gl) (Q : Int32 → Gi → Gl → Prop) : Prop :=
if (gi 355 (0 : Int32).toNatClampNeg) ≤ x2 then
(Q x1 gi gl)
else
(vp_in x2 40 ∧
∀ z1 : Int32, z1 = x1 + (gi 356 x2.toNatClampNeg) →
p_X12_signsInAll_4 z1 (x2 + (1 : Int32)) gi gl Q)
set_option maxRecDepth 100000 in
theorem v_X12_signsInAll  {gi : Gi} {gl : Gl} {Q : Int32 → Gi → Gl → Prop}  (h : f_X12_signsInAll  gi gl Q) : p_X12_signsInAll  gi gl Q := by
  unfold f_X12_signsInAll at h
  show PAt mX12_signsInAll NN NN κF 0 [some (.ref 329), none, none] [] gi gl _
  refine px_iconst (v := (0 : Int32)) dX12_signsInAll_0 (by decide) ?_
  refine px_istore_n (ls2 := [some (.ref 329), some (.int (0 : Int32)), none]) (i := 1) rfl dX12_signsInAll_1 (by decide) rfl ?_
  refine px_iconst (v := (0 : Int32)) dX12_signsInAll_2 (by decide) ?_
  refine px_istore_n (ls2 := [some (.ref 329), some (.int (0 : Int32)), some (.int (0 : Int32))]) (i := 2) rfl dX12_signsInAll_3 (by decide) rfl ?_
  exact PAt.forget h (lsub_at ⟨rfl, ⟨rfl, ⟨rfl, trivial⟩⟩⟩)
set_option maxRecDepth 100000 in
theorem v_X12_signsInAll_4 {x1 : Int32} {x2 : Int32} {gi : Gi} {gl : Gl} {Q : Int32 → Gi → Gl → Prop}  (h : f_X12_signsInAll_4 x1 x2 gi gl Q) : p_X12_signsInAll_4 x1 x2 gi gl Q := by
  unfold f_X12_signsInAll_4 at h
  show PAt mX12_signsInAll NN NN κF 4 [some (.ref 329), some (.int x1), some (.int x2)] [] gi gl _
  refine px_iload_n dX12_signsInAll_4 rfl rfl ?_
  refine px_aload_n dX12_signsInAll_5 rfl rfl ?_
  refine gf_X12_86 rfl dX12_signsInAll_6 zl_329 zk_329 rfl zr_329_27 zl_355 ?_
  refine px_iconst (v := (0 : Int32)) dX12_signsInAll_9 (by decide) ?_
  refine px_iaload (n := 5) dX12_signsInAll_10 zl_355 zk_355 zs_355 (vp_lit (by decide)) ?_
  refine px_icmp_ge (tgt := 29) dX12_signsInAll_11 (by decide) ?_
  by_cases hc : (gi 355 (0 : Int32).toNatClampNeg) ≤ x2
  · rw [if_pos hc] at h ⊢
    refine px_iload_n dX12_signsInAll_29 rfl rfl ?_
    exact px_ireturn dX12_signsInAll_30 rfl ⟨.int, rfl, rfl, rfl⟩ ⟨rfl, _, rfl, h⟩
  · rw [if_neg hc] at h ⊢
    refine px_iload_n dX12_signsInAll_14 rfl rfl ?_
    refine px_aload_n dX12_signsInAll_15 rfl rfl ?_
    refine gf_X12_89 rfl dX12_signsInAll_16 zl_329 zk_329 rfl zr_329_28 zl_356 ?_
    refine px_iload_n dX12_signsInAll_19 rfl rfl ?_
    obtain ⟨hi, h⟩ := h
    refine px_iaload (n := 40) dX12_signsInAll_20 zl_356 zk_356 zs_356 hi ?_
    refine px_iadd dX12_signsInAll_21 ?_
    obtain ⟨z1, hz1⟩ : ∃ y : Int32, y = x1 + (gi 356 x2.toNatClampNeg) := ⟨_, rfl⟩
    have h := h z1 hz1
    refine px_namei hz1 ?_
    refine px_istore_n (ls2 := [some (.ref 329), some (.int z1), some (.int x2)]) (i := 1) rfl dX12_signsInAll_22 (by decide) rfl ?_
    refine px_iinc (v := x2 + (1 : Int32)) (ls2 := [some (.ref 329), some (.int z1), some (.int (x2 + (1 : Int32)))]) dX12_signsInAll_23 rfl rfl (by decide) rfl ?_
    refine px_goto (tgt := 4) dX12_signsInAll_26 (by decide) ?_
    exact PAt.forget h (lsub_at ⟨rfl, ⟨rfl, ⟨rfl, trivial⟩⟩⟩)
def f_X12_count (x1 : Int32) (gi : Gi) (gl : Gl) (Q : Int32 → Gi → Gl → Prop) : Prop :=
p_X12_within x1 (10 : Int32) (21 : Int32) gi gl (fun (r3 : Int32) (gi1 : Gi) (gl2 : Gl) =>
if r3 = 0 then
(if x1 = (0 : Int32) then
(Q (gi1 329 1) gi1 gl2)
else (
if x1 = (1 : Int32) then
(Q (gi1 355 (0 : Int32).toNatClampNeg) gi1 gl2)
else (
if x1 = (2 : Int32) then
(Q (gi1 329 36) gi1 gl2)
else (
if x1 = (3 : Int32) then
(Q (gi1 329 67) gi1 gl2)
else (
if x1 = (4 : Int32) then
(p_X12_signsInAll  gi1 gl2 (fun (r6 : Int32) (gi4 : Gi) (gl5 : Gl) =>
Q r6 gi4 gl5))
else (
Q ((-1) : Int32) gi1 gl2))))))
else
(vp_in (x1 - (10 : Int32)) 60 ∧
Q (gi1 362 (x1 - (10 : Int32)).toNatClampNeg) gi1 gl2))
set_option maxRecDepth 100000 in
theorem v_X12_count {x1 : Int32} {gi : Gi} {gl : Gl} {Q : Int32 → Gi → Gl → Prop}  (h : f_X12_count x1 gi gl Q) : p_X12_count x1 gi gl Q := by
  unfold f_X12_count at h
  show PAt mX12_count NN NN κF 0 [some (.ref 329), some (.int x1)] [] gi gl _
  refine px_iload_n dX12_count_0 rfl rfl ?_
  refine px_bipush (v := (10 : Int32)) dX12_count_1 (by decide) ?_
  refine px_bipush (v := (21 : Int32)) dX12_count_3 (by decide) ?_
  refine px_callS_I (As := [.int x1, .int (10 : Int32), .int (21 : Int32)]) (st := []) dX12_count_5 lk_X12_189.1 lk_X12_189.2 (by decide) rfl (Nat.le_of_ble_eq_true rfl) rfl rfl (Nat.le_of_ble_eq_true rfl) ⟨Nat.le_refl _, Nat.le_refl _, Nat.le_refl _⟩ ?_
  refine PAt.mono h (fun v κ gi1 gl2 hq => ?_)
  obtain ⟨rfl, r3, rfl, h⟩ := hq
  refine px_if_eq (tgt := 21) dX12_count_8 (by decide) ?_
  by_cases hc : r3 = 0
  · rw [if_pos hc] at h ⊢
    refine px_iload_n dX12_count_21 rfl rfl ?_
    by_cases hc0 : x1 = (0 : Int32)
    · rw [if_pos hc0] at h
      refine px_tblIn (tgt := 56) (off := 34) dX12_count_22 (by rw [hc0]; decide) (by rw [hc0]; decide) (by rw [hc0]; decide) (by decide) ?_
      refine px_aload_n dX12_count_56 rfl rfl ?_
      refine gf_X12_318 rfl dX12_count_57 zl_329 zk_329 ?_
      exact px_ireturn dX12_count_60 rfl ⟨.int, rfl, rfl, rfl⟩ ⟨rfl, _, rfl, h⟩
    · rw [if_neg hc0] at h
      by_cases hc1 : x1 = (1 : Int32)
      · rw [if_pos hc1] at h
        refine px_tblIn (tgt := 61) (off := 39) dX12_count_22 (by rw [hc1]; decide) (by rw [hc1]; decide) (by rw [hc1]; decide) (by decide) ?_
        refine px_aload_n dX12_count_61 rfl rfl ?_
        refine gf_X12_86 rfl dX12_count_62 zl_329 zk_329 rfl zr_329_27 zl_355 ?_
        refine px_iconst (v := (0 : Int32)) dX12_count_65 (by decide) ?_
        refine px_iaload (n := 5) dX12_count_66 zl_355 zk_355 zs_355 (vp_lit (by decide)) ?_
        exact px_ireturn dX12_count_67 rfl ⟨.int, rfl, rfl, rfl⟩ ⟨rfl, _, rfl, h⟩
      · rw [if_neg hc1] at h
        by_cases hc2 : x1 = (2 : Int32)
        · rw [if_pos hc2] at h
          refine px_tblIn (tgt := 68) (off := 46) dX12_count_22 (by rw [hc2]; decide) (by rw [hc2]; decide) (by rw [hc2]; decide) (by decide) ?_
          refine px_aload_n dX12_count_68 rfl rfl ?_
          refine gf_X12_161 rfl dX12_count_69 zl_329 zk_329 ?_
          exact px_ireturn dX12_count_72 rfl ⟨.int, rfl, rfl, rfl⟩ ⟨rfl, _, rfl, h⟩
        · rw [if_neg hc2] at h
          by_cases hc3 : x1 = (3 : Int32)
          · rw [if_pos hc3] at h
            refine px_tblIn (tgt := 73) (off := 51) dX12_count_22 (by rw [hc3]; decide) (by rw [hc3]; decide) (by rw [hc3]; decide) (by decide) ?_
            refine px_aload_n dX12_count_73 rfl rfl ?_
            refine gf_X12_321 rfl dX12_count_74 zl_329 zk_329 ?_
            exact px_ireturn dX12_count_77 rfl ⟨.int, rfl, rfl, rfl⟩ ⟨rfl, _, rfl, h⟩
          · rw [if_neg hc3] at h
            by_cases hc4 : x1 = (4 : Int32)
            · rw [if_pos hc4] at h
              refine px_tblIn (tgt := 78) (off := 56) dX12_count_22 (by rw [hc4]; decide) (by rw [hc4]; decide) (by rw [hc4]; decide) (by decide) ?_
              refine px_aload_n dX12_count_78 rfl rfl ?_
              refine px_callV_I (As := []) (st := []) dX12_count_79 lk_X12_484.1 lk_X12_484.2 (b := 329) zl_329 zk_329 (by decide) rfl (by decide) rfl (Nat.le_of_ble_eq_true rfl) rfl rfl (Nat.le_of_ble_eq_true rfl) ⟨Nat.le_refl _, Nat.le_refl _, Nat.le_refl _⟩ ?_
              refine PAt.mono h (fun v κ gi4 gl5 hq => ?_)
              obtain ⟨rfl, r6, rfl, h⟩ := hq
              exact px_ireturn dX12_count_82 rfl ⟨.int, rfl, rfl, rfl⟩ ⟨rfl, _, rfl, h⟩
            · rw [if_neg hc4] at h
              refine px_tblOut (tgt := 83) dX12_count_22 (tbl_out5 hc0 hc1 hc2 hc3 hc4) (by decide) ?_
              refine px_iconst (v := ((-1) : Int32)) dX12_count_83 (by decide) ?_
              exact px_ireturn dX12_count_84 rfl ⟨.int, rfl, rfl, rfl⟩ ⟨rfl, _, rfl, h⟩
  · rw [if_neg hc] at h ⊢
    refine px_aload_n dX12_count_11 rfl rfl ?_
    refine gf_X12_107 rfl dX12_count_12 zl_329 zk_329 rfl zr_329_34 zl_362 ?_
    refine px_iload_n dX12_count_15 rfl rfl ?_
    refine px_bipush (v := (10 : Int32)) dX12_count_16 (by decide) ?_
    refine px_isub dX12_count_18 ?_
    obtain ⟨hi, h⟩ := h
    refine px_iaload (n := 60) dX12_count_19 zl_362 zk_362 zs_362 hi ?_
    exact px_ireturn dX12_count_20 rfl ⟨.int, rfl, rfl, rfl⟩ ⟨rfl, _, rfl, h⟩
