/-! laid by program: X12 -/
abbrev p_X12_doubt_43 (x2 : Int32) (x3 : Int32) (x4 : Int32) (x5 : Int32) (gi : Gi) (gl : Gl) (Q : Int32 → Gi → Gl → Prop) : Prop := PAt mX12_doubt NN NN κF 43 [some (.ref 329), none, some (.int x2), some (.int x3), some (.int x4), some (.int x5), none] [] gi gl (RiQ Q)
abbrev p_X12_doubt_91 (x2 : Int32) (x3 : Int32) (x4 : Int32) (x5 : Int32) (x6 : Int32) (gi : Gi) (gl : Gl) (Q : Int32 → Gi → Gl → Prop) : Prop := PAt mX12_doubt NN NN κF 91 [some (.ref 329), none, some (.int x2), some (.int x3), some (.int x4), some (.int x5), some (.int x6)] [] gi gl (RiQ Q)
def f_X12_doubt (x1 : Int32) (x2 : Int32) (gi : Gi) (gl : Gl) (Q : Int32 → Gi → Gl → Prop) : Prop :=
p_X12_isPicture x1 gi gl (fun (r3 : Int32) (gi1 : Gi) (gl2 : Gl) =>
if r3 = 0 then
(Q ((-1) : Int32) gi1 gl2)
else
(p_X12_within x2 (0 : Int32) (1 : Int32) gi1 gl2 (fun (r6 : Int32) (gi4 : Gi) (gl5 : Gl) =>
if ¬ r6 = 0 then
(p_X12_findSets x1 gi4 gl5 (fun (gi7 : Gi) (gl8 : Gl) =>
vp_in x1 40 ∧
∀ z9 : Int32, z9 = jl (1 : Int32) (gi7 356 x1.toNatClampNeg) →
∀ z10 : Int32, z10 = z9 - (1 : Int32) →
∀ z11 : Int32, z11 = z9 - (1 : Int32) →
p_X12_doubt_43 x2 z9 z10 z11 gi7 gl8 Q))
else
(Q ((-1) : Int32) gi4 gl5))))
def f_X12_doubt_43 (x2 : Int32) (x3 : Int32) (x4 : Int32) (x5 : Int32) (gi : Gi) (gl : Gl) (Q : Int32 → Gi → Gl → Prop) : Prop :=
if x5 < 0 then
(p_X12_doubt_91 x2 x3 x4 (0 : Int32) (0 : Int32) gi gl Q)
else
(vp_in ((x3 - (1 : Int32)) - x5) 4096 ∧
if (gi 368 ((x3 - (1 : Int32)) - x5).toNatClampNeg) = 0 then
(p_X12_doubt_43 x2 x3 x4 (x5 + ((-1) : Int32)) gi gl Q)
else
(p_X12_bitsOf x5 gi gl (fun (r3 : Int32) (gi1 : Gi) (gl2 : Gl) =>
p_X12_bitsOf x4 gi1 gl2 (fun (r6 : Int32) (gi4 : Gi) (gl5 : Gl) =>
if r6 < r3 then
(p_X12_doubt_43 x2 x3 x4 (x5 + ((-1) : Int32)) gi4 gl5 Q)
else
(p_X12_doubt_43 x2 x3 x5 (x5 + ((-1) : Int32)) gi4 gl5 Q)))))
def f_X12_doubt_91 (x2 : Int32) (x3 : Int32) (x4 : Int32) (x5 : Int32) (x6 : Int32) (gi : Gi) (gl : Gl) (Q : Int32 → Gi → Gl → Prop) : Prop :=
if x3 ≤ x6 then
(if ¬ x2 = 0 then
(Q x5 gi gl)
else
(Q x4 gi gl))
else
(vp_in ((x3 - (1 : Int32)) - x6) 4096 ∧
if (gi 368 ((x3 - (1 : Int32)) - x6).toNatClampNeg) = 0 then
(∀ z1 : Int32, z1 = x5 + (0 : Int32) →
p_X12_doubt_91 x2 x3 x4 z1 (x6 + (1 : Int32)) gi gl Q)
else
(p_X12_bitsOf x6 gi gl (fun (r4 : Int32) (gi2 : Gi) (gl3 : Gl) =>
p_X12_bitsOf x4 gi2 gl3 (fun (r7 : Int32) (gi5 : Gi) (gl6 : Gl) =>
if ¬ r4 = r7 then
(∀ z8 : Int32, z8 = x5 + (0 : Int32) →
p_X12_doubt_91 x2 x3 x4 z8 (x6 + (1 : Int32)) gi5 gl6 Q)
else
(∀ z9 : Int32, z9 = x5 + (1 : Int32) →
p_X12_doubt_91 x2 x3 x4 z9 (x6 + (1 : Int32)) gi5 gl6 Q)))))
set_option maxRecDepth 100000 in
theorem v_X12_doubt {x1 : Int32} {x2 : Int32} {gi : Gi} {gl : Gl} {Q : Int32 → Gi → Gl → Prop}  (h : f_X12_doubt x1 x2 gi gl Q) : p_X12_doubt x1 x2 gi gl Q := by
  unfold f_X12_doubt at h
  show PAt mX12_doubt NN NN κF 0 [some (.ref 329), some (.int x1), some (.int x2), none, none, none, none] [] gi gl _
  refine px_aload_n dX12_doubt_0 rfl rfl ?_
  refine px_iload_n dX12_doubt_1 rfl rfl ?_
  refine px_callV_I (As := [.int x1]) (st := []) dX12_doubt_2 lk_X12_347.1 lk_X12_347.2 (b := 329) zl_329 zk_329 (by decide) rfl (by decide) rfl (Nat.le_of_ble_eq_true rfl) rfl rfl (Nat.le_of_ble_eq_true rfl) ⟨Nat.le_refl _, Nat.le_refl _, Nat.le_refl _⟩ ?_
  refine PAt.mono h (fun v κ gi1 gl2 hq => ?_)
  obtain ⟨rfl, r3, rfl, h⟩ := hq
  refine px_if_eq (tgt := 17) dX12_doubt_5 (by decide) ?_
  by_cases hc : r3 = 0
  · rw [if_pos hc] at h ⊢
    refine px_iconst (v := ((-1) : Int32)) dX12_doubt_17 (by decide) ?_
    exact px_ireturn dX12_doubt_18 rfl ⟨.int, rfl, rfl, rfl⟩ ⟨rfl, _, rfl, h⟩
  · rw [if_neg hc] at h ⊢
    refine px_iload_n dX12_doubt_8 rfl rfl ?_
    refine px_iconst (v := (0 : Int32)) dX12_doubt_9 (by decide) ?_
    refine px_iconst (v := (1 : Int32)) dX12_doubt_10 (by decide) ?_
    refine px_callS_I (As := [.int x2, .int (0 : Int32), .int (1 : Int32)]) (st := []) dX12_doubt_11 lk_X12_189.1 lk_X12_189.2 (by decide) rfl (Nat.le_of_ble_eq_true rfl) rfl rfl (Nat.le_of_ble_eq_true rfl) ⟨Nat.le_refl _, Nat.le_refl _, Nat.le_refl _⟩ ?_
    refine PAt.mono h (fun v κ gi4 gl5 hq => ?_)
    obtain ⟨rfl, r6, rfl, h⟩ := hq
    refine px_if_ne (tgt := 19) dX12_doubt_14 (by decide) ?_
    by_cases hc : ¬ r6 = 0
    · rw [if_pos hc] at h ⊢
      refine px_aload_n dX12_doubt_19 rfl rfl ?_
      refine px_iload_n dX12_doubt_20 rfl rfl ?_
      refine px_callV_V (As := [.int x1]) (st := []) dX12_doubt_21 lk_X12_437.1 lk_X12_437.2 (b := 329) zl_329 zk_329 (by decide) rfl (by decide) rfl (Nat.le_of_ble_eq_true rfl) rfl rfl (Nat.le_of_ble_eq_true rfl) ⟨Nat.le_refl _, Nat.le_refl _, Nat.le_refl _⟩ ?_
      refine PAt.mono h (fun v κ gi7 gl8 hq => ?_)
      obtain ⟨rfl, -, h⟩ := hq
      refine px_iconst (v := (1 : Int32)) dX12_doubt_24 (by decide) ?_
      refine px_aload_n dX12_doubt_25 rfl rfl ?_
      refine gf_X12_89 rfl dX12_doubt_26 zl_329 zk_329 rfl zr_329_28 zl_356 ?_
      refine px_iload_n dX12_doubt_29 rfl rfl ?_
      obtain ⟨hi, h⟩ := h
      refine px_iaload (n := 40) dX12_doubt_30 zl_356 zk_356 zs_356 hi ?_
      refine px_ishl dX12_doubt_31 ?_
      obtain ⟨z9, hz9⟩ : ∃ y : Int32, y = jl (1 : Int32) (gi7 356 x1.toNatClampNeg) := ⟨_, rfl⟩
      have h := h z9 hz9
      refine px_namei hz9 ?_
      refine px_istore_n (ls2 := [some (.ref 329), some (.int x1), some (.int x2), some (.int z9), none, none, none]) (i := 3) rfl dX12_doubt_32 (by decide) rfl ?_
      refine px_iload_n dX12_doubt_33 rfl rfl ?_
      refine px_iconst (v := (1 : Int32)) dX12_doubt_34 (by decide) ?_
      refine px_isub dX12_doubt_35 ?_
      obtain ⟨z10, hz10⟩ : ∃ y : Int32, y = z9 - (1 : Int32) := ⟨_, rfl⟩
      have h := h z10 hz10
      refine px_namei hz10 ?_
      refine px_istore (ls2 := [some (.ref 329), some (.int x1), some (.int x2), some (.int z9), some (.int z10), none, none]) dX12_doubt_36 (by decide) rfl ?_
      refine px_iload_n dX12_doubt_38 rfl rfl ?_
      refine px_iconst (v := (1 : Int32)) dX12_doubt_39 (by decide) ?_
      refine px_isub dX12_doubt_40 ?_
      obtain ⟨z11, hz11⟩ : ∃ y : Int32, y = z9 - (1 : Int32) := ⟨_, rfl⟩
      have h := h z11 hz11
      refine px_namei hz11 ?_
      refine px_istore (ls2 := [some (.ref 329), some (.int x1), some (.int x2), some (.int z9), some (.int z10), some (.int z11), none]) dX12_doubt_41 (by decide) rfl ?_
      exact PAt.forget h (lsub_at ⟨rfl, ⟨rfl, ⟨rfl, ⟨rfl, ⟨rfl, trivial⟩⟩⟩⟩⟩)
    · rw [if_neg hc] at h ⊢
      refine px_iconst (v := ((-1) : Int32)) dX12_doubt_17 (by decide) ?_
      exact px_ireturn dX12_doubt_18 rfl ⟨.int, rfl, rfl, rfl⟩ ⟨rfl, _, rfl, h⟩
set_option maxRecDepth 100000 in
theorem v_X12_doubt_43 {x2 : Int32} {x3 : Int32} {x4 : Int32} {x5 : Int32} {gi : Gi} {gl : Gl} {Q : Int32 → Gi → Gl → Prop}  (h : f_X12_doubt_43 x2 x3 x4 x5 gi gl Q) : p_X12_doubt_43 x2 x3 x4 x5 gi gl Q := by
  unfold f_X12_doubt_43 at h
  show PAt mX12_doubt NN NN κF 43 [some (.ref 329), none, some (.int x2), some (.int x3), some (.int x4), some (.int x5), none] [] gi gl _
  refine px_iload dX12_doubt_43 rfl ?_
  refine px_if_lt (tgt := 85) dX12_doubt_45 (by decide) ?_
  by_cases hc : x5 < 0
  · rw [if_pos hc] at h ⊢
    refine px_iconst (v := (0 : Int32)) dX12_doubt_85 (by decide) ?_
    refine px_istore (ls2 := [some (.ref 329), none, some (.int x2), some (.int x3), some (.int x4), some (.int (0 : Int32)), none]) dX12_doubt_86 (by decide) rfl ?_
    refine px_iconst (v := (0 : Int32)) dX12_doubt_88 (by decide) ?_
    refine px_istore (ls2 := [some (.ref 329), none, some (.int x2), some (.int x3), some (.int x4), some (.int (0 : Int32)), some (.int (0 : Int32))]) dX12_doubt_89 (by decide) rfl ?_
    exact PAt.forget h (lsub_at ⟨rfl, ⟨rfl, ⟨rfl, ⟨rfl, ⟨rfl, ⟨rfl, trivial⟩⟩⟩⟩⟩⟩)
  · rw [if_neg hc] at h ⊢
    refine px_aload_n dX12_doubt_48 rfl rfl ?_
    refine gf_X12_134 rfl dX12_doubt_49 zl_329 zk_329 rfl zr_329_56 zl_368 ?_
    refine px_iload_n dX12_doubt_52 rfl rfl ?_
    refine px_iconst (v := (1 : Int32)) dX12_doubt_53 (by decide) ?_
    refine px_isub dX12_doubt_54 ?_
    refine px_iload dX12_doubt_55 rfl ?_
    refine px_isub dX12_doubt_57 ?_
    obtain ⟨hi, h⟩ := h
    refine px_zaload (n := 4096) dX12_doubt_58 zl_368 zk_368 zs_368 hi ?_
    refine px_if_eq (tgt := 79) dX12_doubt_59 (by decide) ?_
    by_cases hc : (gi 368 ((x3 - (1 : Int32)) - x5).toNatClampNeg) = 0
    · rw [if_pos hc] at h ⊢
      refine px_iinc (v := x5 + ((-1) : Int32)) (ls2 := [some (.ref 329), none, some (.int x2), some (.int x3), some (.int x4), some (.int (x5 + ((-1) : Int32))), none]) dX12_doubt_79 rfl rfl (by decide) rfl ?_
      refine px_goto (tgt := 43) dX12_doubt_82 (by decide) ?_
      exact PAt.forget h (lsub_at ⟨rfl, ⟨rfl, ⟨rfl, ⟨rfl, ⟨rfl, trivial⟩⟩⟩⟩⟩)
    · rw [if_neg hc] at h ⊢
      refine px_iload dX12_doubt_62 rfl ?_
      refine px_callS_I (As := [.int x5]) (st := []) dX12_doubt_64 lk_X12_440.1 lk_X12_440.2 (by decide) rfl (Nat.le_of_ble_eq_true rfl) rfl rfl (Nat.le_of_ble_eq_true rfl) ⟨Nat.le_refl _, Nat.le_refl _, Nat.le_refl _⟩ ?_
      refine PAt.mono h (fun v κ gi1 gl2 hq => ?_)
      obtain ⟨rfl, r3, rfl, h⟩ := hq
      refine px_iload dX12_doubt_67 rfl ?_
      refine px_callS_I (As := [.int x4]) (st := [.int r3]) dX12_doubt_69 lk_X12_440.1 lk_X12_440.2 (by decide) rfl (Nat.le_of_ble_eq_true rfl) rfl rfl (Nat.le_of_ble_eq_true rfl) ⟨Nat.le_refl _, Nat.le_refl _, Nat.le_refl _⟩ ?_
      refine PAt.mono h (fun v κ gi4 gl5 hq => ?_)
      obtain ⟨rfl, r6, rfl, h⟩ := hq
      refine px_icmp_gt (tgt := 79) dX12_doubt_72 (by decide) ?_
      by_cases hc : r6 < r3
      · rw [if_pos hc] at h ⊢
        refine px_iinc (v := x5 + ((-1) : Int32)) (ls2 := [some (.ref 329), none, some (.int x2), some (.int x3), some (.int x4), some (.int (x5 + ((-1) : Int32))), none]) dX12_doubt_79 rfl rfl (by decide) rfl ?_
        refine px_goto (tgt := 43) dX12_doubt_82 (by decide) ?_
        exact PAt.forget h (lsub_at ⟨rfl, ⟨rfl, ⟨rfl, ⟨rfl, ⟨rfl, trivial⟩⟩⟩⟩⟩)
      · rw [if_neg hc] at h ⊢
        refine px_iload dX12_doubt_75 rfl ?_
        refine px_istore (ls2 := [some (.ref 329), none, some (.int x2), some (.int x3), some (.int x5), some (.int x5), none]) dX12_doubt_77 (by decide) rfl ?_
        refine px_iinc (v := x5 + ((-1) : Int32)) (ls2 := [some (.ref 329), none, some (.int x2), some (.int x3), some (.int x5), some (.int (x5 + ((-1) : Int32))), none]) dX12_doubt_79 rfl rfl (by decide) rfl ?_
        refine px_goto (tgt := 43) dX12_doubt_82 (by decide) ?_
        exact PAt.forget h (lsub_at ⟨rfl, ⟨rfl, ⟨rfl, ⟨rfl, ⟨rfl, trivial⟩⟩⟩⟩⟩)
set_option maxRecDepth 100000 in
theorem v_X12_doubt_91 {x2 : Int32} {x3 : Int32} {x4 : Int32} {x5 : Int32} {x6 : Int32} {gi : Gi} {gl : Gl} {Q : Int32 → Gi → Gl → Prop}  (h : f_X12_doubt_91 x2 x3 x4 x5 x6 gi gl Q) : p_X12_doubt_91 x2 x3 x4 x5 x6 gi gl Q := by
  unfold f_X12_doubt_91 at h
  show PAt mX12_doubt NN NN κF 91 [some (.ref 329), none, some (.int x2), some (.int x3), some (.int x4), some (.int x5), some (.int x6)] [] gi gl _
  refine px_iload dX12_doubt_91 rfl ?_
  refine px_iload_n dX12_doubt_93 rfl rfl ?_
  refine px_icmp_ge (tgt := 140) dX12_doubt_94 (by decide) ?_
  by_cases hc : x3 ≤ x6
  · rw [if_pos hc] at h ⊢
    refine px_iload_n dX12_doubt_140 rfl rfl ?_
    refine px_if_ne (tgt := 149) dX12_doubt_141 (by decide) ?_
    by_cases hc : ¬ x2 = 0
    · rw [if_pos hc] at h ⊢
      refine px_iload dX12_doubt_149 rfl ?_
      exact px_ireturn dX12_doubt_151 rfl ⟨.int, rfl, rfl, rfl⟩ ⟨rfl, _, rfl, h⟩
    · rw [if_neg hc] at h ⊢
      refine px_iload dX12_doubt_144 rfl ?_
      refine px_goto (tgt := 151) dX12_doubt_146 (by decide) ?_
      exact px_ireturn dX12_doubt_151 rfl ⟨.int, rfl, rfl, rfl⟩ ⟨rfl, _, rfl, h⟩
  · rw [if_neg hc] at h ⊢
    refine px_iload dX12_doubt_97 rfl ?_
    refine px_aload_n dX12_doubt_99 rfl rfl ?_
    refine gf_X12_134 rfl dX12_doubt_100 zl_329 zk_329 rfl zr_329_56 zl_368 ?_
    refine px_iload_n dX12_doubt_103 rfl rfl ?_
    refine px_iconst (v := (1 : Int32)) dX12_doubt_104 (by decide) ?_
    refine px_isub dX12_doubt_105 ?_
    refine px_iload dX12_doubt_106 rfl ?_
    refine px_isub dX12_doubt_108 ?_
    obtain ⟨hi, h⟩ := h
    refine px_zaload (n := 4096) dX12_doubt_109 zl_368 zk_368 zs_368 hi ?_
    refine px_if_eq (tgt := 130) dX12_doubt_110 (by decide) ?_
    by_cases hc : (gi 368 ((x3 - (1 : Int32)) - x6).toNatClampNeg) = 0
    · rw [if_pos hc] at h ⊢
      refine px_iconst (v := (0 : Int32)) dX12_doubt_130 (by decide) ?_
      refine px_iadd dX12_doubt_131 ?_
      obtain ⟨z1, hz1⟩ : ∃ y : Int32, y = x5 + (0 : Int32) := ⟨_, rfl⟩
      have h := h z1 hz1
      refine px_namei hz1 ?_
      refine px_istore (ls2 := [some (.ref 329), none, some (.int x2), some (.int x3), some (.int x4), some (.int z1), some (.int x6)]) dX12_doubt_132 (by decide) rfl ?_
      refine px_iinc (v := x6 + (1 : Int32)) (ls2 := [some (.ref 329), none, some (.int x2), some (.int x3), some (.int x4), some (.int z1), some (.int (x6 + (1 : Int32)))]) dX12_doubt_134 rfl rfl (by decide) rfl ?_
      refine px_goto (tgt := 91) dX12_doubt_137 (by decide) ?_
      exact PAt.forget h (lsub_at ⟨rfl, ⟨rfl, ⟨rfl, ⟨rfl, ⟨rfl, ⟨rfl, trivial⟩⟩⟩⟩⟩⟩)
    · rw [if_neg hc] at h ⊢
      refine px_iload dX12_doubt_113 rfl ?_
      refine px_callS_I (As := [.int x6]) (st := [.int x5]) dX12_doubt_115 lk_X12_440.1 lk_X12_440.2 (by decide) rfl (Nat.le_of_ble_eq_true rfl) rfl rfl (Nat.le_of_ble_eq_true rfl) ⟨Nat.le_refl _, Nat.le_refl _, Nat.le_refl _⟩ ?_
      refine PAt.mono h (fun v κ gi2 gl3 hq => ?_)
      obtain ⟨rfl, r4, rfl, h⟩ := hq
      refine px_iload dX12_doubt_118 rfl ?_
      refine px_callS_I (As := [.int x4]) (st := [.int r4, .int x5]) dX12_doubt_120 lk_X12_440.1 lk_X12_440.2 (by decide) rfl (Nat.le_of_ble_eq_true rfl) rfl rfl (Nat.le_of_ble_eq_true rfl) ⟨Nat.le_refl _, Nat.le_refl _, Nat.le_refl _⟩ ?_
      refine PAt.mono h (fun v κ gi5 gl6 hq => ?_)
      obtain ⟨rfl, r7, rfl, h⟩ := hq
      refine px_icmp_ne (tgt := 130) dX12_doubt_123 (by decide) ?_
      by_cases hc : ¬ r4 = r7
      · rw [if_pos hc] at h ⊢
        refine px_iconst (v := (0 : Int32)) dX12_doubt_130 (by decide) ?_
        refine px_iadd dX12_doubt_131 ?_
        obtain ⟨z8, hz8⟩ : ∃ y : Int32, y = x5 + (0 : Int32) := ⟨_, rfl⟩
        have h := h z8 hz8
        refine px_namei hz8 ?_
        refine px_istore (ls2 := [some (.ref 329), none, some (.int x2), some (.int x3), some (.int x4), some (.int z8), some (.int x6)]) dX12_doubt_132 (by decide) rfl ?_
        refine px_iinc (v := x6 + (1 : Int32)) (ls2 := [some (.ref 329), none, some (.int x2), some (.int x3), some (.int x4), some (.int z8), some (.int (x6 + (1 : Int32)))]) dX12_doubt_134 rfl rfl (by decide) rfl ?_
        refine px_goto (tgt := 91) dX12_doubt_137 (by decide) ?_
        exact PAt.forget h (lsub_at ⟨rfl, ⟨rfl, ⟨rfl, ⟨rfl, ⟨rfl, ⟨rfl, trivial⟩⟩⟩⟩⟩⟩)
      · rw [if_neg hc] at h ⊢
        refine px_iconst (v := (1 : Int32)) dX12_doubt_126 (by decide) ?_
        refine px_goto (tgt := 131) dX12_doubt_127 (by decide) ?_
        refine px_iadd dX12_doubt_131 ?_
        obtain ⟨z9, hz9⟩ : ∃ y : Int32, y = x5 + (1 : Int32) := ⟨_, rfl⟩
        have h := h z9 hz9
        refine px_namei hz9 ?_
        refine px_istore (ls2 := [some (.ref 329), none, some (.int x2), some (.int x3), some (.int x4), some (.int z9), some (.int x6)]) dX12_doubt_132 (by decide) rfl ?_
        refine px_iinc (v := x6 + (1 : Int32)) (ls2 := [some (.ref 329), none, some (.int x2), some (.int x3), some (.int x4), some (.int z9), some (.int (x6 + (1 : Int32)))]) dX12_doubt_134 rfl rfl (by decide) rfl ?_
        refine px_goto (tgt := 91) dX12_doubt_137 (by decide) ?_
        exact PAt.forget h (lsub_at ⟨rfl, ⟨rfl, ⟨rfl, ⟨rfl, ⟨rfl, ⟨rfl, trivial⟩⟩⟩⟩⟩⟩)
abbrev p_X12_isOwnPost_6 (x1 : Int32) (x2 : Int32) (x3 : Int32) (x4 : Int32) (gi : Gi) (gl : Gl) (Q : Int32 → Gi → Gl → Prop) : Prop := PAt mX12_isOwnPost NN NN κF 6 [some (.ref 329), some (.int x1), some (.int x2), some (.int x3), some (.int x4), none, none] [] gi gl (RiQ Q)
abbrev p_X12_isOwnPost_93 (x1 : Int32) (x2 : Int32) (x3 : Int32) (x4 : Int32) (x6 : Int32) (gi : Gi) (gl : Gl) (Q : Int32 → Gi → Gl → Prop) : Prop := PAt mX12_isOwnPost NN NN κF 93 [some (.ref 329), some (.int x1), some (.int x2), some (.int x3), some (.int x4), none, some (.int x6)] [] gi gl (RiQ Q)
def f_X12_isOwnPost (x1 : Int32) (x2 : Int32) (x3 : Int32) (gi : Gi) (gl : Gl) (Q : Int32 → Gi → Gl → Prop) : Prop :=
∀ z1 : Int32, z1 = (12 : Int32) * x1 →
p_X12_isOwnPost_6 x1 x2 x3 z1 gi gl Q
def f_X12_isOwnPost_6 (x1 : Int32) (x2 : Int32) (x3 : Int32) (x4 : Int32) (gi : Gi) (gl : Gl) (Q : Int32 → Gi → Gl → Prop) : Prop :=
vp_in x1 40 ∧
if (((12 : Int32) * x1) + (gi 356 x1.toNatClampNeg)) ≤ x4 then
(Q (0 : Int32) gi gl)
else
(vp_in x4 480 ∧
if (8 : Int32) ≤ (gi 357 x4.toNatClampNeg) then
(vp_in x4 480 ∧
∀ z1 : Int32, z1 = ((10 : Int32) * (gi 329 0)) + (gi 358 x4.toNatClampNeg) →
vp_in x4 480 ∧
∀ z2 : Int32, z2 = ((10 : Int32) * (gi 329 0)) + (gi 359 x4.toNatClampNeg) →
vp_in z1 20 ∧
if ¬ (gi 346 z1.toNatClampNeg) = x2 then
(p_X12_isOwnPost_93 x1 x2 x3 x4 z2 gi gl Q)
else
(vp_in z1 20 ∧
if (gi 347 z1.toNatClampNeg) = x3 then
(Q (1 : Int32) gi gl)
else
(p_X12_isOwnPost_93 x1 x2 x3 x4 z2 gi gl Q)))
else
(p_X12_isOwnPost_6 x1 x2 x3 (x4 + (1 : Int32)) gi gl Q))
def f_X12_isOwnPost_93 (x1 : Int32) (x2 : Int32) (x3 : Int32) (x4 : Int32) (x6 : Int32) (gi : Gi) (gl : Gl) (Q : Int32 → Gi → Gl → Prop) : Prop :=
vp_in x6 20 ∧
if ¬ (gi 346 x6.toNatClampNeg) = x2 then
(p_X12_isOwnPost_6 x1 x2 x3 (x4 + (1 : Int32)) gi gl Q)
else
(vp_in x6 20 ∧
if ¬ (gi 347 x6.toNatClampNeg) = x3 then
(p_X12_isOwnPost_6 x1 x2 x3 (x4 + (1 : Int32)) gi gl Q)
else
(Q (1 : Int32) gi gl))
set_option maxRecDepth 100000 in
theorem v_X12_isOwnPost {x1 : Int32} {x2 : Int32} {x3 : Int32} {gi : Gi} {gl : Gl} {Q : Int32 → Gi → Gl → Prop}  (h : f_X12_isOwnPost x1 x2 x3 gi gl Q) : p_X12_isOwnPost x1 x2 x3 gi gl Q := by
  unfold f_X12_isOwnPost at h
  show PAt mX12_isOwnPost NN NN κF 0 [some (.ref 329), some (.int x1), some (.int x2), some (.int x3), none, none, none] [] gi gl _
  refine px_bipush (v := (12 : Int32)) dX12_isOwnPost_0 (by decide) ?_
  refine px_iload_n dX12_isOwnPost_2 rfl rfl ?_
  refine px_imul dX12_isOwnPost_3 ?_
  obtain ⟨z1, hz1⟩ : ∃ y : Int32, y = (12 : Int32) * x1 := ⟨_, rfl⟩
  have h := h z1 hz1
  refine px_namei hz1 ?_
  refine px_istore (ls2 := [some (.ref 329), some (.int x1), some (.int x2), some (.int x3), some (.int z1), none, none]) dX12_isOwnPost_4 (by decide) rfl ?_
  exact PAt.forget h (lsub_at ⟨rfl, ⟨rfl, ⟨rfl, ⟨rfl, ⟨rfl, trivial⟩⟩⟩⟩⟩)
set_option maxRecDepth 100000 in
theorem v_X12_isOwnPost_6 {x1 : Int32} {x2 : Int32} {x3 : Int32} {x4 : Int32} {gi : Gi} {gl : Gl} {Q : Int32 → Gi → Gl → Prop}  (h : f_X12_isOwnPost_6 x1 x2 x3 x4 gi gl Q) : p_X12_isOwnPost_6 x1 x2 x3 x4 gi gl Q := by
  unfold f_X12_isOwnPost_6 at h
  show PAt mX12_isOwnPost NN NN κF 6 [some (.ref 329), some (.int x1), some (.int x2), some (.int x3), some (.int x4), none, none] [] gi gl _
  refine px_iload dX12_isOwnPost_6 rfl ?_
  refine px_bipush (v := (12 : Int32)) dX12_isOwnPost_8 (by decide) ?_
  refine px_iload_n dX12_isOwnPost_10 rfl rfl ?_
  refine px_imul dX12_isOwnPost_11 ?_
  refine px_aload_n dX12_isOwnPost_12 rfl rfl ?_
  refine gf_X12_89 rfl dX12_isOwnPost_13 zl_329 zk_329 rfl zr_329_28 zl_356 ?_
  refine px_iload_n dX12_isOwnPost_16 rfl rfl ?_
  obtain ⟨hi, h⟩ := h
  refine px_iaload (n := 40) dX12_isOwnPost_17 zl_356 zk_356 zs_356 hi ?_
  refine px_iadd dX12_isOwnPost_18 ?_
  refine px_icmp_ge (tgt := 123) dX12_isOwnPost_19 (by decide) ?_
  by_cases hc : (((12 : Int32) * x1) + (gi 356 x1.toNatClampNeg)) ≤ x4
  · rw [if_pos hc] at h ⊢
    refine px_iconst (v := (0 : Int32)) dX12_isOwnPost_123 (by decide) ?_
    exact px_ireturn dX12_isOwnPost_124 rfl ⟨.boolean, rfl, rfl, by decide⟩ ⟨rfl, _, rfl, h⟩
  · rw [if_neg hc] at h ⊢
    refine px_aload_n dX12_isOwnPost_22 rfl rfl ?_
    refine gf_X12_92 rfl dX12_isOwnPost_23 zl_329 zk_329 rfl zr_329_29 zl_357 ?_
    refine px_iload dX12_isOwnPost_26 rfl ?_
    obtain ⟨hi, h⟩ := h
    refine px_iaload (n := 480) dX12_isOwnPost_28 zl_357 zk_357 zs_357 hi ?_
    refine px_bipush (v := (8 : Int32)) dX12_isOwnPost_29 (by decide) ?_
    refine px_icmp_ge (tgt := 37) dX12_isOwnPost_31 (by decide) ?_
    by_cases hc : (8 : Int32) ≤ (gi 357 x4.toNatClampNeg)
    · rw [if_pos hc] at h ⊢
      refine px_bipush (v := (10 : Int32)) dX12_isOwnPost_37 (by decide) ?_
      refine px_aload_n dX12_isOwnPost_39 rfl rfl ?_
      refine gf_X12_312 rfl dX12_isOwnPost_40 zl_329 zk_329 ?_
      refine px_imul dX12_isOwnPost_43 ?_
      refine px_aload_n dX12_isOwnPost_44 rfl rfl ?_
      refine gf_X12_95 rfl dX12_isOwnPost_45 zl_329 zk_329 rfl zr_329_30 zl_358 ?_
      refine px_iload dX12_isOwnPost_48 rfl ?_
      obtain ⟨hi, h⟩ := h
      refine px_iaload (n := 480) dX12_isOwnPost_50 zl_358 zk_358 zs_358 hi ?_
      refine px_iadd dX12_isOwnPost_51 ?_
      obtain ⟨z1, hz1⟩ : ∃ y : Int32, y = ((10 : Int32) * (gi 329 0)) + (gi 358 x4.toNatClampNeg) := ⟨_, rfl⟩
      have h := h z1 hz1
      refine px_namei hz1 ?_
      refine px_istore (ls2 := [some (.ref 329), some (.int x1), some (.int x2), some (.int x3), some (.int x4), some (.int z1), none]) dX12_isOwnPost_52 (by decide) rfl ?_
      refine px_bipush (v := (10 : Int32)) dX12_isOwnPost_54 (by decide) ?_
      refine px_aload_n dX12_isOwnPost_56 rfl rfl ?_
      refine gf_X12_312 rfl dX12_isOwnPost_57 zl_329 zk_329 ?_
      refine px_imul dX12_isOwnPost_60 ?_
      refine px_aload_n dX12_isOwnPost_61 rfl rfl ?_
      refine gf_X12_98 rfl dX12_isOwnPost_62 zl_329 zk_329 rfl zr_329_31 zl_359 ?_
      refine px_iload dX12_isOwnPost_65 rfl ?_
      obtain ⟨hi, h⟩ := h
      refine px_iaload (n := 480) dX12_isOwnPost_67 zl_359 zk_359 zs_359 hi ?_
      refine px_iadd dX12_isOwnPost_68 ?_
      obtain ⟨z2, hz2⟩ : ∃ y : Int32, y = ((10 : Int32) * (gi 329 0)) + (gi 359 x4.toNatClampNeg) := ⟨_, rfl⟩
      have h := h z2 hz2
      refine px_namei hz2 ?_
      refine px_istore (ls2 := [some (.ref 329), some (.int x1), some (.int x2), some (.int x3), some (.int x4), some (.int z1), some (.int z2)]) dX12_isOwnPost_69 (by decide) rfl ?_
      refine px_aload_n dX12_isOwnPost_71 rfl rfl ?_
      refine gf_X12_59 rfl dX12_isOwnPost_72 zl_329 zk_329 rfl zr_329_18 zl_346 ?_
      refine px_iload dX12_isOwnPost_75 rfl ?_
      obtain ⟨hi, h⟩ := h
      refine px_iaload (n := 20) dX12_isOwnPost_77 zl_346 zk_346 zs_346 hi ?_
      refine px_iload_n dX12_isOwnPost_78 rfl rfl ?_
      refine px_icmp_ne (tgt := 93) dX12_isOwnPost_79 (by decide) ?_
      by_cases hc : ¬ (gi 346 z1.toNatClampNeg) = x2
      · rw [if_pos hc] at h ⊢
        exact PAt.forget h (lsub_at ⟨rfl, ⟨rfl, ⟨rfl, ⟨rfl, ⟨rfl, ⟨rfl, trivial⟩⟩⟩⟩⟩⟩)
      · rw [if_neg hc] at h ⊢
        refine px_aload_n dX12_isOwnPost_82 rfl rfl ?_
        refine gf_X12_62 rfl dX12_isOwnPost_83 zl_329 zk_329 rfl zr_329_19 zl_347 ?_
        refine px_iload dX12_isOwnPost_86 rfl ?_
        obtain ⟨hi, h⟩ := h
        refine px_iaload (n := 20) dX12_isOwnPost_88 zl_347 zk_347 zs_347 hi ?_
        refine px_iload_n dX12_isOwnPost_89 rfl rfl ?_
        refine px_icmp_eq (tgt := 115) dX12_isOwnPost_90 (by decide) ?_
        by_cases hc : (gi 347 z1.toNatClampNeg) = x3
        · rw [if_pos hc] at h ⊢
          refine px_iconst (v := (1 : Int32)) dX12_isOwnPost_115 (by decide) ?_
          exact px_ireturn dX12_isOwnPost_116 rfl ⟨.boolean, rfl, rfl, by decide⟩ ⟨rfl, _, rfl, h⟩
        · rw [if_neg hc] at h ⊢
          exact PAt.forget h (lsub_at ⟨rfl, ⟨rfl, ⟨rfl, ⟨rfl, ⟨rfl, ⟨rfl, trivial⟩⟩⟩⟩⟩⟩)
    · rw [if_neg hc] at h ⊢
      refine px_goto (tgt := 117) dX12_isOwnPost_34 (by decide) ?_
      refine px_iinc (v := x4 + (1 : Int32)) (ls2 := [some (.ref 329), some (.int x1), some (.int x2), some (.int x3), some (.int (x4 + (1 : Int32))), none, none]) dX12_isOwnPost_117 rfl rfl (by decide) rfl ?_
      refine px_goto (tgt := 6) dX12_isOwnPost_120 (by decide) ?_
      exact PAt.forget h (lsub_at ⟨rfl, ⟨rfl, ⟨rfl, ⟨rfl, ⟨rfl, trivial⟩⟩⟩⟩⟩)
set_option maxRecDepth 100000 in
theorem v_X12_isOwnPost_93 {x1 : Int32} {x2 : Int32} {x3 : Int32} {x4 : Int32} {x6 : Int32} {gi : Gi} {gl : Gl} {Q : Int32 → Gi → Gl → Prop}  (h : f_X12_isOwnPost_93 x1 x2 x3 x4 x6 gi gl Q) : p_X12_isOwnPost_93 x1 x2 x3 x4 x6 gi gl Q := by
  unfold f_X12_isOwnPost_93 at h
  show PAt mX12_isOwnPost NN NN κF 93 [some (.ref 329), some (.int x1), some (.int x2), some (.int x3), some (.int x4), none, some (.int x6)] [] gi gl _
  refine px_aload_n dX12_isOwnPost_93 rfl rfl ?_
  refine gf_X12_59 rfl dX12_isOwnPost_94 zl_329 zk_329 rfl zr_329_18 zl_346 ?_
  refine px_iload dX12_isOwnPost_97 rfl ?_
  obtain ⟨hi, h⟩ := h
  refine px_iaload (n := 20) dX12_isOwnPost_99 zl_346 zk_346 zs_346 hi ?_
  refine px_iload_n dX12_isOwnPost_100 rfl rfl ?_
  refine px_icmp_ne (tgt := 117) dX12_isOwnPost_101 (by decide) ?_
  by_cases hc : ¬ (gi 346 x6.toNatClampNeg) = x2
  · rw [if_pos hc] at h ⊢
    refine px_iinc (v := x4 + (1 : Int32)) (ls2 := [some (.ref 329), some (.int x1), some (.int x2), some (.int x3), some (.int (x4 + (1 : Int32))), none, some (.int x6)]) dX12_isOwnPost_117 rfl rfl (by decide) rfl ?_
    refine px_goto (tgt := 6) dX12_isOwnPost_120 (by decide) ?_
    exact PAt.forget h (lsub_at ⟨rfl, ⟨rfl, ⟨rfl, ⟨rfl, ⟨rfl, trivial⟩⟩⟩⟩⟩)
  · rw [if_neg hc] at h ⊢
    refine px_aload_n dX12_isOwnPost_104 rfl rfl ?_
    refine gf_X12_62 rfl dX12_isOwnPost_105 zl_329 zk_329 rfl zr_329_19 zl_347 ?_
    refine px_iload dX12_isOwnPost_108 rfl ?_
    obtain ⟨hi, h⟩ := h
    refine px_iaload (n := 20) dX12_isOwnPost_110 zl_347 zk_347 zs_347 hi ?_
    refine px_iload_n dX12_isOwnPost_111 rfl rfl ?_
    refine px_icmp_ne (tgt := 117) dX12_isOwnPost_112 (by decide) ?_
    by_cases hc : ¬ (gi 347 x6.toNatClampNeg) = x3
    · rw [if_pos hc] at h ⊢
      refine px_iinc (v := x4 + (1 : Int32)) (ls2 := [some (.ref 329), some (.int x1), some (.int x2), some (.int x3), some (.int (x4 + (1 : Int32))), none, some (.int x6)]) dX12_isOwnPost_117 rfl rfl (by decide) rfl ?_
      refine px_goto (tgt := 6) dX12_isOwnPost_120 (by decide) ?_
      exact PAt.forget h (lsub_at ⟨rfl, ⟨rfl, ⟨rfl, ⟨rfl, ⟨rfl, trivial⟩⟩⟩⟩⟩)
    · rw [if_neg hc] at h ⊢
      refine px_iconst (v := (1 : Int32)) dX12_isOwnPost_115 (by decide) ?_
      exact px_ireturn dX12_isOwnPost_116 rfl ⟨.boolean, rfl, rfl, by decide⟩ ⟨rfl, _, rfl, h⟩
def f_X12_isSo (x1 : Int32) (x2 : Int32) (x3 : Int32) (x4 : Int32) (gi : Gi) (gl : Gl) (Q : Int32 → Gi → Gl → Prop) : Prop :=
vp_in x1 480 ∧
∀ z1 : Int32, z1 = ((10 : Int32) * (gi 329 0)) + (gi 358 x1.toNatClampNeg) →
vp_in x1 480 ∧
∀ z2 : Int32, z2 = ((10 : Int32) * (gi 329 0)) + (gi 359 x1.toNatClampNeg) →
vp_in z1 20 ∧
∀ z3 : Int32, z3 = (gi 346 z1.toNatClampNeg) - x2 →
vp_in z1 20 ∧
∀ z4 : Int32, z4 = (gi 347 z1.toNatClampNeg) - x3 →
vp_in z2 20 ∧
∀ z5 : Int32, z5 = (gi 346 z2.toNatClampNeg) - x2 →
vp_in z2 20 ∧
∀ z6 : Int32, z6 = (gi 347 z2.toNatClampNeg) - x3 →
∀ z7 : Int32, z7 = (z3 * z6) - (z4 * z5) →
vp_in x1 480 ∧
if ¬ (gi 357 x1.toNatClampNeg) = (9 : Int32) then
(if ¬ z7 = 0 then
(Q (0 : Int32) gi gl)
else
(if ((z3 * z5) + (z4 * z6)) ≤ 0 then
(Q (0 : Int32) gi gl)
else
(if ((z5 * z5) + (z6 * z6)) ≤ ((z3 * z3) + (z4 * z4)) then
(Q (0 : Int32) gi gl)
else
(Q (1 : Int32) gi gl))))
else
(if x4 = 0 then
(if 0 ≤ z7 then
(Q (0 : Int32) gi gl)
else
(Q (1 : Int32) gi gl))
else
(if z7 ≤ 0 then
(Q (0 : Int32) gi gl)
else
(Q (1 : Int32) gi gl)))
set_option maxRecDepth 100000 in
theorem v_X12_isSo {x1 : Int32} {x2 : Int32} {x3 : Int32} {x4 : Int32} {gi : Gi} {gl : Gl} {Q : Int32 → Gi → Gl → Prop}  (h : f_X12_isSo x1 x2 x3 x4 gi gl Q) : p_X12_isSo x1 x2 x3 x4 gi gl Q := by
  unfold f_X12_isSo at h
  show PAt mX12_isSo NN NN κF 0 [some (.ref 329), some (.int x1), some (.int x2), some (.int x3), some (.int x4), none, none, none, none, none, none, none] [] gi gl _
  refine px_bipush (v := (10 : Int32)) dX12_isSo_0 (by decide) ?_
  refine px_aload_n dX12_isSo_2 rfl rfl ?_
  refine gf_X12_312 rfl dX12_isSo_3 zl_329 zk_329 ?_
  refine px_imul dX12_isSo_6 ?_
  refine px_aload_n dX12_isSo_7 rfl rfl ?_
  refine gf_X12_95 rfl dX12_isSo_8 zl_329 zk_329 rfl zr_329_30 zl_358 ?_
  refine px_iload_n dX12_isSo_11 rfl rfl ?_
  obtain ⟨hi, h⟩ := h
  refine px_iaload (n := 480) dX12_isSo_12 zl_358 zk_358 zs_358 hi ?_
  refine px_iadd dX12_isSo_13 ?_
  obtain ⟨z1, hz1⟩ : ∃ y : Int32, y = ((10 : Int32) * (gi 329 0)) + (gi 358 x1.toNatClampNeg) := ⟨_, rfl⟩
  have h := h z1 hz1
  refine px_namei hz1 ?_
  refine px_istore (ls2 := [some (.ref 329), some (.int x1), some (.int x2), some (.int x3), some (.int x4), some (.int z1), none, none, none, none, none, none]) dX12_isSo_14 (by decide) rfl ?_
  refine px_bipush (v := (10 : Int32)) dX12_isSo_16 (by decide) ?_
  refine px_aload_n dX12_isSo_18 rfl rfl ?_
  refine gf_X12_312 rfl dX12_isSo_19 zl_329 zk_329 ?_
  refine px_imul dX12_isSo_22 ?_
  refine px_aload_n dX12_isSo_23 rfl rfl ?_
  refine gf_X12_98 rfl dX12_isSo_24 zl_329 zk_329 rfl zr_329_31 zl_359 ?_
  refine px_iload_n dX12_isSo_27 rfl rfl ?_
  obtain ⟨hi, h⟩ := h
  refine px_iaload (n := 480) dX12_isSo_28 zl_359 zk_359 zs_359 hi ?_
  refine px_iadd dX12_isSo_29 ?_
  obtain ⟨z2, hz2⟩ : ∃ y : Int32, y = ((10 : Int32) * (gi 329 0)) + (gi 359 x1.toNatClampNeg) := ⟨_, rfl⟩
  have h := h z2 hz2
  refine px_namei hz2 ?_
  refine px_istore (ls2 := [some (.ref 329), some (.int x1), some (.int x2), some (.int x3), some (.int x4), some (.int z1), some (.int z2), none, none, none, none, none]) dX12_isSo_30 (by decide) rfl ?_
  refine px_aload_n dX12_isSo_32 rfl rfl ?_
  refine gf_X12_59 rfl dX12_isSo_33 zl_329 zk_329 rfl zr_329_18 zl_346 ?_
  refine px_iload dX12_isSo_36 rfl ?_
  obtain ⟨hi, h⟩ := h
  refine px_iaload (n := 20) dX12_isSo_38 zl_346 zk_346 zs_346 hi ?_
  refine px_iload_n dX12_isSo_39 rfl rfl ?_
  refine px_isub dX12_isSo_40 ?_
  obtain ⟨z3, hz3⟩ : ∃ y : Int32, y = (gi 346 z1.toNatClampNeg) - x2 := ⟨_, rfl⟩
  have h := h z3 hz3
  refine px_namei hz3 ?_
  refine px_istore (ls2 := [some (.ref 329), some (.int x1), some (.int x2), some (.int x3), some (.int x4), some (.int z1), some (.int z2), some (.int z3), none, none, none, none]) dX12_isSo_41 (by decide) rfl ?_
  refine px_aload_n dX12_isSo_43 rfl rfl ?_
  refine gf_X12_62 rfl dX12_isSo_44 zl_329 zk_329 rfl zr_329_19 zl_347 ?_
  refine px_iload dX12_isSo_47 rfl ?_
  obtain ⟨hi, h⟩ := h
  refine px_iaload (n := 20) dX12_isSo_49 zl_347 zk_347 zs_347 hi ?_
  refine px_iload_n dX12_isSo_50 rfl rfl ?_
  refine px_isub dX12_isSo_51 ?_
  obtain ⟨z4, hz4⟩ : ∃ y : Int32, y = (gi 347 z1.toNatClampNeg) - x3 := ⟨_, rfl⟩
  have h := h z4 hz4
  refine px_namei hz4 ?_
  refine px_istore (ls2 := [some (.ref 329), some (.int x1), some (.int x2), some (.int x3), some (.int x4), some (.int z1), some (.int z2), some (.int z3), some (.int z4), none, none, none]) dX12_isSo_52 (by decide) rfl ?_
  refine px_aload_n dX12_isSo_54 rfl rfl ?_
  refine gf_X12_59 rfl dX12_isSo_55 zl_329 zk_329 rfl zr_329_18 zl_346 ?_
  refine px_iload dX12_isSo_58 rfl ?_
  obtain ⟨hi, h⟩ := h
  refine px_iaload (n := 20) dX12_isSo_60 zl_346 zk_346 zs_346 hi ?_
  refine px_iload_n dX12_isSo_61 rfl rfl ?_
  refine px_isub dX12_isSo_62 ?_
  obtain ⟨z5, hz5⟩ : ∃ y : Int32, y = (gi 346 z2.toNatClampNeg) - x2 := ⟨_, rfl⟩
  have h := h z5 hz5
  refine px_namei hz5 ?_
  refine px_istore (ls2 := [some (.ref 329), some (.int x1), some (.int x2), some (.int x3), some (.int x4), some (.int z1), some (.int z2), some (.int z3), some (.int z4), some (.int z5), none, none]) dX12_isSo_63 (by decide) rfl ?_
  refine px_aload_n dX12_isSo_65 rfl rfl ?_
  refine gf_X12_62 rfl dX12_isSo_66 zl_329 zk_329 rfl zr_329_19 zl_347 ?_
  refine px_iload dX12_isSo_69 rfl ?_
  obtain ⟨hi, h⟩ := h
  refine px_iaload (n := 20) dX12_isSo_71 zl_347 zk_347 zs_347 hi ?_
  refine px_iload_n dX12_isSo_72 rfl rfl ?_
  refine px_isub dX12_isSo_73 ?_
  obtain ⟨z6, hz6⟩ : ∃ y : Int32, y = (gi 347 z2.toNatClampNeg) - x3 := ⟨_, rfl⟩
  have h := h z6 hz6
  refine px_namei hz6 ?_
  refine px_istore (ls2 := [some (.ref 329), some (.int x1), some (.int x2), some (.int x3), some (.int x4), some (.int z1), some (.int z2), some (.int z3), some (.int z4), some (.int z5), some (.int z6), none]) dX12_isSo_74 (by decide) rfl ?_
  refine px_iload dX12_isSo_76 rfl ?_
  refine px_iload dX12_isSo_78 rfl ?_
  refine px_imul dX12_isSo_80 ?_
  refine px_iload dX12_isSo_81 rfl ?_
  refine px_iload dX12_isSo_83 rfl ?_
  refine px_imul dX12_isSo_85 ?_
  refine px_isub dX12_isSo_86 ?_
  obtain ⟨z7, hz7⟩ : ∃ y : Int32, y = (z3 * z6) - (z4 * z5) := ⟨_, rfl⟩
  have h := h z7 hz7
  refine px_namei hz7 ?_
  refine px_istore (ls2 := [some (.ref 329), some (.int x1), some (.int x2), some (.int x3), some (.int x4), some (.int z1), some (.int z2), some (.int z3), some (.int z4), some (.int z5), some (.int z6), some (.int z7)]) dX12_isSo_87 (by decide) rfl ?_
  refine px_aload_n dX12_isSo_89 rfl rfl ?_
  refine gf_X12_92 rfl dX12_isSo_90 zl_329 zk_329 rfl zr_329_29 zl_357 ?_
  refine px_iload_n dX12_isSo_93 rfl rfl ?_
  obtain ⟨hi, h⟩ := h
  refine px_iaload (n := 480) dX12_isSo_94 zl_357 zk_357 zs_357 hi ?_
  refine px_bipush (v := (9 : Int32)) dX12_isSo_95 (by decide) ?_
  refine px_icmp_ne (tgt := 129) dX12_isSo_97 (by decide) ?_
  by_cases hc : ¬ (gi 357 x1.toNatClampNeg) = (9 : Int32)
  · rw [if_pos hc] at h ⊢
    refine px_iload dX12_isSo_129 rfl ?_
    refine px_if_ne (tgt := 177) dX12_isSo_131 (by decide) ?_
    by_cases hc : ¬ z7 = 0
    · rw [if_pos hc] at h ⊢
      refine px_iconst (v := (0 : Int32)) dX12_isSo_177 (by decide) ?_
      exact px_ireturn dX12_isSo_178 rfl ⟨.boolean, rfl, rfl, by decide⟩ ⟨rfl, _, rfl, h⟩
    · rw [if_neg hc] at h ⊢
      refine px_iload dX12_isSo_134 rfl ?_
      refine px_iload dX12_isSo_136 rfl ?_
      refine px_imul dX12_isSo_138 ?_
      refine px_iload dX12_isSo_139 rfl ?_
      refine px_iload dX12_isSo_141 rfl ?_
      refine px_imul dX12_isSo_143 ?_
      refine px_iadd dX12_isSo_144 ?_
      refine px_if_le (tgt := 177) dX12_isSo_145 (by decide) ?_
      by_cases hc : ((z3 * z5) + (z4 * z6)) ≤ 0
      · rw [if_pos hc] at h ⊢
        refine px_iconst (v := (0 : Int32)) dX12_isSo_177 (by decide) ?_
        exact px_ireturn dX12_isSo_178 rfl ⟨.boolean, rfl, rfl, by decide⟩ ⟨rfl, _, rfl, h⟩
      · rw [if_neg hc] at h ⊢
        refine px_iload dX12_isSo_148 rfl ?_
        refine px_iload dX12_isSo_150 rfl ?_
        refine px_imul dX12_isSo_152 ?_
        refine px_iload dX12_isSo_153 rfl ?_
        refine px_iload dX12_isSo_155 rfl ?_
        refine px_imul dX12_isSo_157 ?_
        refine px_iadd dX12_isSo_158 ?_
        refine px_iload dX12_isSo_159 rfl ?_
        refine px_iload dX12_isSo_161 rfl ?_
        refine px_imul dX12_isSo_163 ?_
        refine px_iload dX12_isSo_164 rfl ?_
        refine px_iload dX12_isSo_166 rfl ?_
        refine px_imul dX12_isSo_168 ?_
        refine px_iadd dX12_isSo_169 ?_
        refine px_icmp_ge (tgt := 177) dX12_isSo_170 (by decide) ?_
        by_cases hc : ((z5 * z5) + (z6 * z6)) ≤ ((z3 * z3) + (z4 * z4))
        · rw [if_pos hc] at h ⊢
          refine px_iconst (v := (0 : Int32)) dX12_isSo_177 (by decide) ?_
          exact px_ireturn dX12_isSo_178 rfl ⟨.boolean, rfl, rfl, by decide⟩ ⟨rfl, _, rfl, h⟩
        · rw [if_neg hc] at h ⊢
          refine px_iconst (v := (1 : Int32)) dX12_isSo_173 (by decide) ?_
          refine px_goto (tgt := 178) dX12_isSo_174 (by decide) ?_
          exact px_ireturn dX12_isSo_178 rfl ⟨.boolean, rfl, rfl, by decide⟩ ⟨rfl, _, rfl, h⟩
  · rw [if_neg hc] at h ⊢
    refine px_iload dX12_isSo_100 rfl ?_
    refine px_if_eq (tgt := 118) dX12_isSo_102 (by decide) ?_
    by_cases hc : x4 = 0
    · rw [if_pos hc] at h ⊢
      refine px_iload dX12_isSo_118 rfl ?_
      refine px_if_ge (tgt := 127) dX12_isSo_120 (by decide) ?_
      by_cases hc : 0 ≤ z7
      · rw [if_pos hc] at h ⊢
        refine px_iconst (v := (0 : Int32)) dX12_isSo_127 (by decide) ?_
        exact px_ireturn dX12_isSo_128 rfl ⟨.boolean, rfl, rfl, by decide⟩ ⟨rfl, _, rfl, h⟩
      · rw [if_neg hc] at h ⊢
        refine px_iconst (v := (1 : Int32)) dX12_isSo_123 (by decide) ?_
        refine px_goto (tgt := 128) dX12_isSo_124 (by decide) ?_
        exact px_ireturn dX12_isSo_128 rfl ⟨.boolean, rfl, rfl, by decide⟩ ⟨rfl, _, rfl, h⟩
    · rw [if_neg hc] at h ⊢
      refine px_iload dX12_isSo_105 rfl ?_
      refine px_if_le (tgt := 114) dX12_isSo_107 (by decide) ?_
      by_cases hc : z7 ≤ 0
      · rw [if_pos hc] at h ⊢
        refine px_iconst (v := (0 : Int32)) dX12_isSo_114 (by decide) ?_
        refine px_goto (tgt := 128) dX12_isSo_115 (by decide) ?_
        exact px_ireturn dX12_isSo_128 rfl ⟨.boolean, rfl, rfl, by decide⟩ ⟨rfl, _, rfl, h⟩
      · rw [if_neg hc] at h ⊢
        refine px_iconst (v := (1 : Int32)) dX12_isSo_110 (by decide) ?_
        refine px_goto (tgt := 128) dX12_isSo_111 (by decide) ?_
        exact px_ireturn dX12_isSo_128 rfl ⟨.boolean, rfl, rfl, by decide⟩ ⟨rfl, _, rfl, h⟩
abbrev p_X12_couldStand_18 (x1 : Int32) (x2 : Int32) (x3 : Int32) (x4 : Int32) (x5 : Int32) (gi : Gi) (gl : Gl) (Q : Int32 → Gi → Gl → Prop) : Prop := PAt mX12_couldStand NN NN κF 18 [some (.ref 329), some (.int x1), some (.int x2), some (.int x3), some (.int x4), some (.int x5)] [] gi gl (RiQ Q)
def f_X12_couldStand (x1 : Int32) (x2 : Int32) (x3 : Int32) (x4 : Int32) (gi : Gi) (gl : Gl) (Q : Int32 → Gi → Gl → Prop) : Prop :=
p_X12_isOwnPost x1 x2 x3 gi gl (fun (r3 : Int32) (gi1 : Gi) (gl2 : Gl) =>
if r3 = 0 then
(∀ z4 : Int32, z4 = (12 : Int32) * x1 →
p_X12_couldStand_18 x1 x2 x3 x4 z4 gi1 gl2 Q)
else
(Q (0 : Int32) gi1 gl2))
def f_X12_couldStand_18 (x1 : Int32) (x2 : Int32) (x3 : Int32) (x4 : Int32) (x5 : Int32) (gi : Gi) (gl : Gl) (Q : Int32 → Gi → Gl → Prop) : Prop :=
vp_in x1 40 ∧
if (((12 : Int32) * x1) + (gi 356 x1.toNatClampNeg)) ≤ x5 then
(Q (1 : Int32) gi gl)
else
(vp_in x5 480 ∧
if (gi 357 x5.toNatClampNeg) < (8 : Int32) then
(p_X12_couldStand_18 x1 x2 x3 x4 (x5 + (1 : Int32)) gi gl Q)
else
(p_X12_isSo x5 x2 x3 x4 gi gl (fun (r3 : Int32) (gi1 : Gi) (gl2 : Gl) =>
if ¬ r3 = 0 then
(p_X12_couldStand_18 x1 x2 x3 x4 (x5 + (1 : Int32)) gi1 gl2 Q)
else
(Q (0 : Int32) gi1 gl2))))
set_option maxRecDepth 100000 in
theorem v_X12_couldStand {x1 : Int32} {x2 : Int32} {x3 : Int32} {x4 : Int32} {gi : Gi} {gl : Gl} {Q : Int32 → Gi → Gl → Prop}  (h : f_X12_couldStand x1 x2 x3 x4 gi gl Q) : p_X12_couldStand x1 x2 x3 x4 gi gl Q := by
  unfold f_X12_couldStand at h
  show PAt mX12_couldStand NN NN κF 0 [some (.ref 329), some (.int x1), some (.int x2), some (.int x3), some (.int x4), none] [] gi gl _
  refine px_aload_n dX12_couldStand_0 rfl rfl ?_
  refine px_iload_n dX12_couldStand_1 rfl rfl ?_
  refine px_iload_n dX12_couldStand_2 rfl rfl ?_
  refine px_iload_n dX12_couldStand_3 rfl rfl ?_
  refine px_callV_I (As := [.int x1, .int x2, .int x3]) (st := []) dX12_couldStand_4 lk_X12_443.1 lk_X12_443.2 (b := 329) zl_329 zk_329 (by decide) rfl (by decide) rfl (Nat.le_of_ble_eq_true rfl) rfl rfl (Nat.le_of_ble_eq_true rfl) ⟨Nat.le_refl _, Nat.le_refl _, Nat.le_refl _⟩ ?_
  refine PAt.mono h (fun v κ gi1 gl2 hq => ?_)
  obtain ⟨rfl, r3, rfl, h⟩ := hq
  refine px_if_eq (tgt := 12) dX12_couldStand_7 (by decide) ?_
  by_cases hc : r3 = 0
  · rw [if_pos hc] at h ⊢
    refine px_bipush (v := (12 : Int32)) dX12_couldStand_12 (by decide) ?_
    refine px_iload_n dX12_couldStand_14 rfl rfl ?_
    refine px_imul dX12_couldStand_15 ?_
    obtain ⟨z4, hz4⟩ : ∃ y : Int32, y = (12 : Int32) * x1 := ⟨_, rfl⟩
    have h := h z4 hz4
    refine px_namei hz4 ?_
    refine px_istore (ls2 := [some (.ref 329), some (.int x1), some (.int x2), some (.int x3), some (.int x4), some (.int z4)]) dX12_couldStand_16 (by decide) rfl ?_
    exact PAt.forget h (lsub_at ⟨rfl, ⟨rfl, ⟨rfl, ⟨rfl, ⟨rfl, ⟨rfl, trivial⟩⟩⟩⟩⟩⟩)
  · rw [if_neg hc] at h ⊢
    refine px_iconst (v := (0 : Int32)) dX12_couldStand_10 (by decide) ?_
    exact px_ireturn dX12_couldStand_11 rfl ⟨.boolean, rfl, rfl, by decide⟩ ⟨rfl, _, rfl, h⟩
set_option maxRecDepth 100000 in
theorem v_X12_couldStand_18 {x1 : Int32} {x2 : Int32} {x3 : Int32} {x4 : Int32} {x5 : Int32} {gi : Gi} {gl : Gl} {Q : Int32 → Gi → Gl → Prop}  (h : f_X12_couldStand_18 x1 x2 x3 x4 x5 gi gl Q) : p_X12_couldStand_18 x1 x2 x3 x4 x5 gi gl Q := by
  unfold f_X12_couldStand_18 at h
  show PAt mX12_couldStand NN NN κF 18 [some (.ref 329), some (.int x1), some (.int x2), some (.int x3), some (.int x4), some (.int x5)] [] gi gl _
  refine px_iload dX12_couldStand_18 rfl ?_
  refine px_bipush (v := (12 : Int32)) dX12_couldStand_20 (by decide) ?_
  refine px_iload_n dX12_couldStand_22 rfl rfl ?_
  refine px_imul dX12_couldStand_23 ?_
  refine px_aload_n dX12_couldStand_24 rfl rfl ?_
  refine gf_X12_89 rfl dX12_couldStand_25 zl_329 zk_329 rfl zr_329_28 zl_356 ?_
  refine px_iload_n dX12_couldStand_28 rfl rfl ?_
  obtain ⟨hi, h⟩ := h
  refine px_iaload (n := 40) dX12_couldStand_29 zl_356 zk_356 zs_356 hi ?_
  refine px_iadd dX12_couldStand_30 ?_
  refine px_icmp_ge (tgt := 67) dX12_couldStand_31 (by decide) ?_
  by_cases hc : (((12 : Int32) * x1) + (gi 356 x1.toNatClampNeg)) ≤ x5
  · rw [if_pos hc] at h ⊢
    refine px_iconst (v := (1 : Int32)) dX12_couldStand_67 (by decide) ?_
    exact px_ireturn dX12_couldStand_68 rfl ⟨.boolean, rfl, rfl, by decide⟩ ⟨rfl, _, rfl, h⟩
  · rw [if_neg hc] at h ⊢
    refine px_aload_n dX12_couldStand_34 rfl rfl ?_
    refine gf_X12_92 rfl dX12_couldStand_35 zl_329 zk_329 rfl zr_329_29 zl_357 ?_
    refine px_iload dX12_couldStand_38 rfl ?_
    obtain ⟨hi, h⟩ := h
    refine px_iaload (n := 480) dX12_couldStand_40 zl_357 zk_357 zs_357 hi ?_
    refine px_bipush (v := (8 : Int32)) dX12_couldStand_41 (by decide) ?_
    refine px_icmp_lt (tgt := 61) dX12_couldStand_43 (by decide) ?_
    by_cases hc : (gi 357 x5.toNatClampNeg) < (8 : Int32)
    · rw [if_pos hc] at h ⊢
      refine px_iinc (v := x5 + (1 : Int32)) (ls2 := [some (.ref 329), some (.int x1), some (.int x2), some (.int x3), some (.int x4), some (.int (x5 + (1 : Int32)))]) dX12_couldStand_61 rfl rfl (by decide) rfl ?_
      refine px_goto (tgt := 18) dX12_couldStand_64 (by decide) ?_
      exact PAt.forget h (lsub_at ⟨rfl, ⟨rfl, ⟨rfl, ⟨rfl, ⟨rfl, ⟨rfl, trivial⟩⟩⟩⟩⟩⟩)
    · rw [if_neg hc] at h ⊢
      refine px_aload_n dX12_couldStand_46 rfl rfl ?_
      refine px_iload dX12_couldStand_47 rfl ?_
      refine px_iload_n dX12_couldStand_49 rfl rfl ?_
      refine px_iload_n dX12_couldStand_50 rfl rfl ?_
      refine px_iload dX12_couldStand_51 rfl ?_
      refine px_callV_I (As := [.int x5, .int x2, .int x3, .int x4]) (st := []) dX12_couldStand_53 lk_X12_446.1 lk_X12_446.2 (b := 329) zl_329 zk_329 (by decide) rfl (by decide) rfl (Nat.le_of_ble_eq_true rfl) rfl rfl (Nat.le_of_ble_eq_true rfl) ⟨Nat.le_refl _, Nat.le_refl _, Nat.le_refl _⟩ ?_
      refine PAt.mono h (fun v κ gi1 gl2 hq => ?_)
      obtain ⟨rfl, r3, rfl, h⟩ := hq
      refine px_if_ne (tgt := 61) dX12_couldStand_56 (by decide) ?_
      by_cases hc : ¬ r3 = 0
      · rw [if_pos hc] at h ⊢
        refine px_iinc (v := x5 + (1 : Int32)) (ls2 := [some (.ref 329), some (.int x1), some (.int x2), some (.int x3), some (.int x4), some (.int (x5 + (1 : Int32)))]) dX12_couldStand_61 rfl rfl (by decide) rfl ?_
        refine px_goto (tgt := 18) dX12_couldStand_64 (by decide) ?_
        exact PAt.forget h (lsub_at ⟨rfl, ⟨rfl, ⟨rfl, ⟨rfl, ⟨rfl, ⟨rfl, trivial⟩⟩⟩⟩⟩⟩)
      · rw [if_neg hc] at h ⊢
        refine px_iconst (v := (0 : Int32)) dX12_couldStand_59 (by decide) ?_
        exact px_ireturn dX12_couldStand_60 rfl ⟨.boolean, rfl, rfl, by decide⟩ ⟨rfl, _, rfl, h⟩
abbrev p_X12_stood_21 (x1 : Int32) (x2 : Int32) (x3 : Int32) (x4 : Int32) (x5 : Int32) (gi : Gi) (gl : Gl) (Q : Int32 → Gi → Gl → Prop) : Prop := PAt mX12_stood NN NN κF 21 [some (.ref 329), some (.int x1), some (.int x2), some (.int x3), some (.int x4), some (.int x5)] [] gi gl (RiQ Q)
def f_X12_stood (x1 : Int32) (x2 : Int32) (x3 : Int32) (gi : Gi) (gl : Gl) (Q : Int32 → Gi → Gl → Prop) : Prop :=
p_X12_isPicture x1 gi gl (fun (r3 : Int32) (gi1 : Gi) (gl2 : Gl) =>
if r3 = 0 then
(Q ((-1) : Int32) gi1 gl2)
else
(if ((-1) : Int32) ≤ x3 then
(p_X12_stood_21 x1 x2 x3 (0 : Int32) (0 : Int32) gi1 gl2 Q)
else
(Q ((-1) : Int32) gi1 gl2)))
def f_X12_stood_21 (x1 : Int32) (x2 : Int32) (x3 : Int32) (x4 : Int32) (x5 : Int32) (gi : Gi) (gl : Gl) (Q : Int32 → Gi → Gl → Prop) : Prop :=
if (1024 : Int32) ≤ x5 then
(if ¬ x3 = ((-1) : Int32) then
(Q ((-1) : Int32) gi gl)
else
(Q x4 gi gl))
else
(p_X12_couldStand x1 (jr x5 (32 : Int32)) (x5 / (32 : Int32)) x2 gi gl (fun (r3 : Int32) (gi1 : Gi) (gl2 : Gl) =>
if ¬ r3 = 0 then
(if ¬ x4 = x3 then
(p_X12_stood_21 x1 x2 x3 (x4 + (1 : Int32)) (x5 + (1 : Int32)) gi1 gl2 Q)
else
(Q x5 gi1 gl2))
else
(p_X12_stood_21 x1 x2 x3 x4 (x5 + (1 : Int32)) gi1 gl2 Q)))
set_option maxRecDepth 100000 in
theorem v_X12_stood {x1 : Int32} {x2 : Int32} {x3 : Int32} {gi : Gi} {gl : Gl} {Q : Int32 → Gi → Gl → Prop}  (h : f_X12_stood x1 x2 x3 gi gl Q) : p_X12_stood x1 x2 x3 gi gl Q := by
  unfold f_X12_stood at h
  show PAt mX12_stood NN NN κF 0 [some (.ref 329), some (.int x1), some (.int x2), some (.int x3), none, none] [] gi gl _
  refine px_aload_n dX12_stood_0 rfl rfl ?_
  refine px_iload_n dX12_stood_1 rfl rfl ?_
  refine px_callV_I (As := [.int x1]) (st := []) dX12_stood_2 lk_X12_347.1 lk_X12_347.2 (b := 329) zl_329 zk_329 (by decide) rfl (by decide) rfl (Nat.le_of_ble_eq_true rfl) rfl rfl (Nat.le_of_ble_eq_true rfl) ⟨Nat.le_refl _, Nat.le_refl _, Nat.le_refl _⟩ ?_
  refine PAt.mono h (fun v κ gi1 gl2 hq => ?_)
  obtain ⟨rfl, r3, rfl, h⟩ := hq
  refine px_if_eq (tgt := 13) dX12_stood_5 (by decide) ?_
  by_cases hc : r3 = 0
  · rw [if_pos hc] at h ⊢
    refine px_iconst (v := ((-1) : Int32)) dX12_stood_13 (by decide) ?_
    exact px_ireturn dX12_stood_14 rfl ⟨.int, rfl, rfl, rfl⟩ ⟨rfl, _, rfl, h⟩
  · rw [if_neg hc] at h ⊢
    refine px_iload_n dX12_stood_8 rfl rfl ?_
    refine px_iconst (v := ((-1) : Int32)) dX12_stood_9 (by decide) ?_
    refine px_icmp_ge (tgt := 15) dX12_stood_10 (by decide) ?_
    by_cases hc : ((-1) : Int32) ≤ x3
    · rw [if_pos hc] at h ⊢
      refine px_iconst (v := (0 : Int32)) dX12_stood_15 (by decide) ?_
      refine px_istore (ls2 := [some (.ref 329), some (.int x1), some (.int x2), some (.int x3), some (.int (0 : Int32)), none]) dX12_stood_16 (by decide) rfl ?_
      refine px_iconst (v := (0 : Int32)) dX12_stood_18 (by decide) ?_
      refine px_istore (ls2 := [some (.ref 329), some (.int x1), some (.int x2), some (.int x3), some (.int (0 : Int32)), some (.int (0 : Int32))]) dX12_stood_19 (by decide) rfl ?_
      exact PAt.forget h (lsub_at ⟨rfl, ⟨rfl, ⟨rfl, ⟨rfl, ⟨rfl, ⟨rfl, trivial⟩⟩⟩⟩⟩⟩)
    · rw [if_neg hc] at h ⊢
      refine px_iconst (v := ((-1) : Int32)) dX12_stood_13 (by decide) ?_
      exact px_ireturn dX12_stood_14 rfl ⟨.int, rfl, rfl, rfl⟩ ⟨rfl, _, rfl, h⟩
set_option maxRecDepth 100000 in
theorem v_X12_stood_21 {x1 : Int32} {x2 : Int32} {x3 : Int32} {x4 : Int32} {x5 : Int32} {gi : Gi} {gl : Gl} {Q : Int32 → Gi → Gl → Prop}  (h : f_X12_stood_21 x1 x2 x3 x4 x5 gi gl Q) : p_X12_stood_21 x1 x2 x3 x4 x5 gi gl Q := by
  unfold f_X12_stood_21 at h
  show PAt mX12_stood NN NN κF 21 [some (.ref 329), some (.int x1), some (.int x2), some (.int x3), some (.int x4), some (.int x5)] [] gi gl _
  refine px_iload dX12_stood_21 rfl ?_
  refine px_sipush (v := (1024 : Int32)) dX12_stood_23 (by decide) ?_
  refine px_icmp_ge (tgt := 69) dX12_stood_26 (by decide) ?_
  by_cases hc : (1024 : Int32) ≤ x5
  · rw [if_pos hc] at h ⊢
    refine px_iload_n dX12_stood_69 rfl rfl ?_
    refine px_iconst (v := ((-1) : Int32)) dX12_stood_70 (by decide) ?_
    refine px_icmp_ne (tgt := 79) dX12_stood_71 (by decide) ?_
    by_cases hc : ¬ x3 = ((-1) : Int32)
    · rw [if_pos hc] at h ⊢
      refine px_iconst (v := ((-1) : Int32)) dX12_stood_79 (by decide) ?_
      exact px_ireturn dX12_stood_80 rfl ⟨.int, rfl, rfl, rfl⟩ ⟨rfl, _, rfl, h⟩
    · rw [if_neg hc] at h ⊢
      refine px_iload dX12_stood_74 rfl ?_
      refine px_goto (tgt := 80) dX12_stood_76 (by decide) ?_
      exact px_ireturn dX12_stood_80 rfl ⟨.int, rfl, rfl, rfl⟩ ⟨rfl, _, rfl, h⟩
  · rw [if_neg hc] at h ⊢
    refine px_aload_n dX12_stood_29 rfl rfl ?_
    refine px_iload_n dX12_stood_30 rfl rfl ?_
    refine px_iload dX12_stood_31 rfl ?_
    refine px_bipush (v := (32 : Int32)) dX12_stood_33 (by decide) ?_
    refine px_irem dX12_stood_35 (by decide) ?_
    refine px_iload dX12_stood_36 rfl ?_
    refine px_bipush (v := (32 : Int32)) dX12_stood_38 (by decide) ?_
    refine px_idiv dX12_stood_40 (by decide) ?_
    refine px_iload_n dX12_stood_41 rfl rfl ?_
    refine px_callV_I (As := [.int x1, .int (jr x5 (32 : Int32)), .int (x5 / (32 : Int32)), .int x2]) (st := []) dX12_stood_42 lk_X12_450.1 lk_X12_450.2 (b := 329) zl_329 zk_329 (by decide) rfl (by decide) rfl (Nat.le_of_ble_eq_true rfl) rfl rfl (Nat.le_of_ble_eq_true rfl) ⟨Nat.le_refl _, Nat.le_refl _, Nat.le_refl _⟩ ?_
    refine PAt.mono h (fun v κ gi1 gl2 hq => ?_)
    obtain ⟨rfl, r3, rfl, h⟩ := hq
    refine px_if_ne (tgt := 51) dX12_stood_45 (by decide) ?_
    by_cases hc : ¬ r3 = 0
    · rw [if_pos hc] at h ⊢
      refine px_iload dX12_stood_51 rfl ?_
      refine px_iload_n dX12_stood_53 rfl rfl ?_
      refine px_icmp_ne (tgt := 60) dX12_stood_54 (by decide) ?_
      by_cases hc : ¬ x4 = x3
      · rw [if_pos hc] at h ⊢
        refine px_iinc (v := x4 + (1 : Int32)) (ls2 := [some (.ref 329), some (.int x1), some (.int x2), some (.int x3), some (.int (x4 + (1 : Int32))), some (.int x5)]) dX12_stood_60 rfl rfl (by decide) rfl ?_
        refine px_iinc (v := x5 + (1 : Int32)) (ls2 := [some (.ref 329), some (.int x1), some (.int x2), some (.int x3), some (.int (x4 + (1 : Int32))), some (.int (x5 + (1 : Int32)))]) dX12_stood_63 rfl rfl (by decide) rfl ?_
        refine px_goto (tgt := 21) dX12_stood_66 (by decide) ?_
        exact PAt.forget h (lsub_at ⟨rfl, ⟨rfl, ⟨rfl, ⟨rfl, ⟨rfl, ⟨rfl, trivial⟩⟩⟩⟩⟩⟩)
      · rw [if_neg hc] at h ⊢
        refine px_iload dX12_stood_57 rfl ?_
        exact px_ireturn dX12_stood_59 rfl ⟨.int, rfl, rfl, rfl⟩ ⟨rfl, _, rfl, h⟩
    · rw [if_neg hc] at h ⊢
      refine px_goto (tgt := 63) dX12_stood_48 (by decide) ?_
      refine px_iinc (v := x5 + (1 : Int32)) (ls2 := [some (.ref 329), some (.int x1), some (.int x2), some (.int x3), some (.int x4), some (.int (x5 + (1 : Int32)))]) dX12_stood_63 rfl rfl (by decide) rfl ?_
      refine px_goto (tgt := 21) dX12_stood_66 (by decide) ?_
      exact PAt.forget h (lsub_at ⟨rfl, ⟨rfl, ⟨rfl, ⟨rfl, ⟨rfl, ⟨rfl, trivial⟩⟩⟩⟩⟩⟩)
def f_X12_lateBy (x1 : Int32) (x2 : Int32) (gi : Gi) (gl : Gl) (Q : Int32 → Gi → Gl → Prop) : Prop :=
∀ gi1 : Gi, gi1 = uI gi 329 (upd (gi 329) 49 x2) →
p_X12_findDays x1 gi1 gl (fun (gi2 : Gi) (gl3 : Gl) =>
∀ gi4 : Gi, gi4 = uI gi2 329 (upd (gi2 329) 49 (0 : Int32)) →
p_X12_moments  gi4 gl3 (fun (r7 : Int32) (gi5 : Gi) (gl6 : Gl) =>
Q r7 gi5 gl6))
set_option maxRecDepth 100000 in
theorem v_X12_lateBy {x1 : Int32} {x2 : Int32} {gi : Gi} {gl : Gl} {Q : Int32 → Gi → Gl → Prop}  (h : f_X12_lateBy x1 x2 gi gl Q) : p_X12_lateBy x1 x2 gi gl Q := by
  unfold f_X12_lateBy at h
  show PAt mX12_lateBy NN NN κF 0 [some (.ref 329), some (.int x1), some (.int x2)] [] gi gl _
  refine px_aload_n dX12_lateBy_0 rfl rfl ?_
  refine px_iload_n dX12_lateBy_1 rfl rfl ?_
  refine pf_X12_377 rfl dX12_lateBy_2 zl_329 zk_329 ?_
  obtain ⟨gi1, hgi1⟩ : ∃ y : Gi, y = uI gi 329 (upd (gi 329) 49 x2) := ⟨_, rfl⟩
  have h := h gi1 hgi1
  refine px_namegi hgi1 ?_
  refine px_aload_n dX12_lateBy_5 rfl rfl ?_
  refine px_iload_n dX12_lateBy_6 rfl rfl ?_
  refine px_callV_V (As := [.int x1]) (st := []) dX12_lateBy_7 lk_X12_408.1 lk_X12_408.2 (b := 329) zl_329 zk_329 (by decide) rfl (by decide) rfl (Nat.le_of_ble_eq_true rfl) rfl rfl (Nat.le_of_ble_eq_true rfl) ⟨Nat.le_refl _, Nat.le_refl _, Nat.le_refl _⟩ ?_
  refine PAt.mono h (fun v κ gi2 gl3 hq => ?_)
  obtain ⟨rfl, -, h⟩ := hq
  refine px_aload_n dX12_lateBy_10 rfl rfl ?_
  refine px_iconst (v := (0 : Int32)) dX12_lateBy_11 (by decide) ?_
  refine pf_X12_377 rfl dX12_lateBy_12 zl_329 zk_329 ?_
  obtain ⟨gi4, hgi4⟩ : ∃ y : Gi, y = uI gi2 329 (upd (gi2 329) 49 (0 : Int32)) := ⟨_, rfl⟩
  have h := h gi4 hgi4
  refine px_namegi hgi4 ?_
  refine px_aload_n dX12_lateBy_15 rfl rfl ?_
  refine px_callV_I (As := []) (st := []) dX12_lateBy_16 lk_X12_417.1 lk_X12_417.2 (b := 329) zl_329 zk_329 (by decide) rfl (by decide) rfl (Nat.le_of_ble_eq_true rfl) rfl rfl (Nat.le_of_ble_eq_true rfl) ⟨Nat.le_refl _, Nat.le_refl _, Nat.le_refl _⟩ ?_
  refine PAt.mono h (fun v κ gi5 gl6 hq => ?_)
  obtain ⟨rfl, r7, rfl, h⟩ := hq
  exact px_ireturn dX12_lateBy_19 rfl ⟨.int, rfl, rfl, rfl⟩ ⟨rfl, _, rfl, h⟩
abbrev p_X12_late_38 (x1 : Int32) (x3 : Int32) (gi : Gi) (gl : Gl) (Q : Int32 → Gi → Gl → Prop) : Prop := PAt mX12_late NN NN κF 38 [some (.ref 329), some (.int x1), none, some (.int x3)] [] gi gl (RiQ Q)
def f_X12_late (x1 : Int32) (x2 : Int32) (gi : Gi) (gl : Gl) (Q : Int32 → Gi → Gl → Prop) : Prop :=
p_X12_isPicture x1 gi gl (fun (r3 : Int32) (gi1 : Gi) (gl2 : Gl) =>
if r3 = 0 then
(Q ((-1) : Int32) gi1 gl2)
else
(p_X12_within x2 ((-1) : Int32) (99 : Int32) gi1 gl2 (fun (r6 : Int32) (gi4 : Gi) (gl5 : Gl) =>
if ¬ r6 = 0 then
(p_X12_findMinutes x1 gi4 gl5 (fun (gi7 : Gi) (gl8 : Gl) =>
if x2 < 0 then
(p_X12_late_38 x1 (0 : Int32) gi7 gl8 Q)
else
(p_X12_lateBy x1 x2 gi7 gl8 (fun (r11 : Int32) (gi9 : Gi) (gl10 : Gl) =>
Q r11 gi9 gl10))))
else
(Q ((-1) : Int32) gi4 gl5))))
def f_X12_late_38 (x1 : Int32) (x3 : Int32) (gi : Gi) (gl : Gl) (Q : Int32 → Gi → Gl → Prop) : Prop :=
if (100 : Int32) ≤ x3 then
(Q ((-1) : Int32) gi gl)
else
(p_X12_lateBy x1 x3 gi gl (fun (r3 : Int32) (gi1 : Gi) (gl2 : Gl) =>
if r3 ≤ 0 then
(p_X12_late_38 x1 (x3 + (1 : Int32)) gi1 gl2 Q)
else
(Q x3 gi1 gl2)))
set_option maxRecDepth 100000 in
theorem v_X12_late {x1 : Int32} {x2 : Int32} {gi : Gi} {gl : Gl} {Q : Int32 → Gi → Gl → Prop}  (h : f_X12_late x1 x2 gi gl Q) : p_X12_late x1 x2 gi gl Q := by
  unfold f_X12_late at h
  show PAt mX12_late NN NN κF 0 [some (.ref 329), some (.int x1), some (.int x2), none] [] gi gl _
  refine px_aload_n dX12_late_0 rfl rfl ?_
  refine px_iload_n dX12_late_1 rfl rfl ?_
  refine px_callV_I (As := [.int x1]) (st := []) dX12_late_2 lk_X12_347.1 lk_X12_347.2 (b := 329) zl_329 zk_329 (by decide) rfl (by decide) rfl (Nat.le_of_ble_eq_true rfl) rfl rfl (Nat.le_of_ble_eq_true rfl) ⟨Nat.le_refl _, Nat.le_refl _, Nat.le_refl _⟩ ?_
  refine PAt.mono h (fun v κ gi1 gl2 hq => ?_)
  obtain ⟨rfl, r3, rfl, h⟩ := hq
  refine px_if_eq (tgt := 18) dX12_late_5 (by decide) ?_
  by_cases hc : r3 = 0
  · rw [if_pos hc] at h ⊢
    refine px_iconst (v := ((-1) : Int32)) dX12_late_18 (by decide) ?_
    exact px_ireturn dX12_late_19 rfl ⟨.int, rfl, rfl, rfl⟩ ⟨rfl, _, rfl, h⟩
  · rw [if_neg hc] at h ⊢
    refine px_iload_n dX12_late_8 rfl rfl ?_
    refine px_iconst (v := ((-1) : Int32)) dX12_late_9 (by decide) ?_
    refine px_bipush (v := (99 : Int32)) dX12_late_10 (by decide) ?_
    refine px_callS_I (As := [.int x2, .int ((-1) : Int32), .int (99 : Int32)]) (st := []) dX12_late_12 lk_X12_189.1 lk_X12_189.2 (by decide) rfl (Nat.le_of_ble_eq_true rfl) rfl rfl (Nat.le_of_ble_eq_true rfl) ⟨Nat.le_refl _, Nat.le_refl _, Nat.le_refl _⟩ ?_
    refine PAt.mono h (fun v κ gi4 gl5 hq => ?_)
    obtain ⟨rfl, r6, rfl, h⟩ := hq
    refine px_if_ne (tgt := 20) dX12_late_15 (by decide) ?_
    by_cases hc : ¬ r6 = 0
    · rw [if_pos hc] at h ⊢
      refine px_aload_n dX12_late_20 rfl rfl ?_
      refine px_iload_n dX12_late_21 rfl rfl ?_
      refine px_callV_V (As := [.int x1]) (st := []) dX12_late_22 lk_X12_411.1 lk_X12_411.2 (b := 329) zl_329 zk_329 (by decide) rfl (by decide) rfl (Nat.le_of_ble_eq_true rfl) rfl rfl (Nat.le_of_ble_eq_true rfl) ⟨Nat.le_refl _, Nat.le_refl _, Nat.le_refl _⟩ ?_
      refine PAt.mono h (fun v κ gi7 gl8 hq => ?_)
      obtain ⟨rfl, -, h⟩ := hq
      refine px_iload_n dX12_late_25 rfl rfl ?_
      refine px_if_lt (tgt := 36) dX12_late_26 (by decide) ?_
      by_cases hc : x2 < 0
      · rw [if_pos hc] at h ⊢
        refine px_iconst (v := (0 : Int32)) dX12_late_36 (by decide) ?_
        refine px_istore_n (ls2 := [some (.ref 329), some (.int x1), some (.int x2), some (.int (0 : Int32))]) (i := 3) rfl dX12_late_37 (by decide) rfl ?_
        exact PAt.forget h (lsub_at ⟨rfl, ⟨rfl, ⟨rfl, trivial⟩⟩⟩)
      · rw [if_neg hc] at h ⊢
        refine px_aload_n dX12_late_29 rfl rfl ?_
        refine px_iload_n dX12_late_30 rfl rfl ?_
        refine px_iload_n dX12_late_31 rfl rfl ?_
        refine px_callV_I (As := [.int x1, .int x2]) (st := []) dX12_late_32 lk_X12_453.1 lk_X12_453.2 (b := 329) zl_329 zk_329 (by decide) rfl (by decide) rfl (Nat.le_of_ble_eq_true rfl) rfl rfl (Nat.le_of_ble_eq_true rfl) ⟨Nat.le_refl _, Nat.le_refl _, Nat.le_refl _⟩ ?_
        refine PAt.mono h (fun v κ gi9 gl10 hq => ?_)
        obtain ⟨rfl, r11, rfl, h⟩ := hq
        exact px_ireturn dX12_late_35 rfl ⟨.int, rfl, rfl, rfl⟩ ⟨rfl, _, rfl, h⟩
    · rw [if_neg hc] at h ⊢
      refine px_iconst (v := ((-1) : Int32)) dX12_late_18 (by decide) ?_
      exact px_ireturn dX12_late_19 rfl ⟨.int, rfl, rfl, rfl⟩ ⟨rfl, _, rfl, h⟩
set_option maxRecDepth 100000 in
theorem v_X12_late_38 {x1 : Int32} {x3 : Int32} {gi : Gi} {gl : Gl} {Q : Int32 → Gi → Gl → Prop}  (h : f_X12_late_38 x1 x3 gi gl Q) : p_X12_late_38 x1 x3 gi gl Q := by
  unfold f_X12_late_38 at h
  show PAt mX12_late NN NN κF 38 [some (.ref 329), some (.int x1), none, some (.int x3)] [] gi gl _
  refine px_iload_n dX12_late_38 rfl rfl ?_
  refine px_bipush (v := (100 : Int32)) dX12_late_39 (by decide) ?_
  refine px_icmp_ge (tgt := 61) dX12_late_41 (by decide) ?_
  by_cases hc : (100 : Int32) ≤ x3
  · rw [if_pos hc] at h ⊢
    refine px_iconst (v := ((-1) : Int32)) dX12_late_61 (by decide) ?_
    exact px_ireturn dX12_late_62 rfl ⟨.int, rfl, rfl, rfl⟩ ⟨rfl, _, rfl, h⟩
  · rw [if_neg hc] at h ⊢
    refine px_aload_n dX12_late_44 rfl rfl ?_
    refine px_iload_n dX12_late_45 rfl rfl ?_
    refine px_iload_n dX12_late_46 rfl rfl ?_
    refine px_callV_I (As := [.int x1, .int x3]) (st := []) dX12_late_47 lk_X12_453.1 lk_X12_453.2 (b := 329) zl_329 zk_329 (by decide) rfl (by decide) rfl (Nat.le_of_ble_eq_true rfl) rfl rfl (Nat.le_of_ble_eq_true rfl) ⟨Nat.le_refl _, Nat.le_refl _, Nat.le_refl _⟩ ?_
    refine PAt.mono h (fun v κ gi1 gl2 hq => ?_)
    obtain ⟨rfl, r3, rfl, h⟩ := hq
    refine px_if_le (tgt := 55) dX12_late_50 (by decide) ?_
    by_cases hc : r3 ≤ 0
    · rw [if_pos hc] at h ⊢
      refine px_iinc (v := x3 + (1 : Int32)) (ls2 := [some (.ref 329), some (.int x1), none, some (.int (x3 + (1 : Int32)))]) dX12_late_55 rfl rfl (by decide) rfl ?_
      refine px_goto (tgt := 38) dX12_late_58 (by decide) ?_
      exact PAt.forget h (lsub_at ⟨rfl, ⟨rfl, ⟨rfl, trivial⟩⟩⟩)
    · rw [if_neg hc] at h ⊢
      refine px_iload_n dX12_late_53 rfl rfl ?_
      exact px_ireturn dX12_late_54 rfl ⟨.int, rfl, rfl, rfl⟩ ⟨rfl, _, rfl, h⟩
abbrev p_X12_keepsAside_2 (x1 : Int32) (gi : Gi) (gl : Gl) (Q : Gi → Gl → Prop) : Prop := PAt mX12_keepsAside NN NN κF 2 [some (.ref 329), some (.int x1)] [] gi gl (RvQ Q)
abbrev p_X12_keepsAside_29 (x1 : Int32) (gi : Gi) (gl : Gl) (Q : Gi → Gl → Prop) : Prop := PAt mX12_keepsAside NN NN κF 29 [some (.ref 329), some (.int x1)] [] gi gl (RvQ Q)
def f_X12_keepsAside  (gi : Gi) (gl : Gl) (Q : Gi → Gl → Prop) : Prop :=
p_X12_keepsAside_2 (0 : Int32) gi gl Q
def f_X12_keepsAside_2 (x1 : Int32) (gi : Gi) (gl : Gl) (Q : Gi → Gl → Prop) : Prop :=
if (3600 : Int32) ≤ x1 then
(p_X12_keepsAside_29 (0 : Int32) gi gl Q)
else
(vp_in x1 3600 ∧
vp_in x1 3600 ∧
∀ gi1 : Gi, gi1 = uI gi 371 (upd (gi 371) x1.toNatClampNeg (vp_nar .boolean (gi 364 x1.toNatClampNeg))) →
p_X12_keepsAside_2 (x1 + (1 : Int32)) gi1 gl Q)
def f_X12_keepsAside_29 (x1 : Int32) (gi : Gi) (gl : Gl) (Q : Gi → Gl → Prop) : Prop :=
if (8640 : Int32) ≤ x1 then
(Q gi gl)
else
(vp_in x1 8640 ∧
vp_in x1 8640 ∧
∀ gi1 : Gi, gi1 = uI gi 372 (upd (gi 372) x1.toNatClampNeg (vp_nar .boolean (gi 365 x1.toNatClampNeg))) →
p_X12_keepsAside_29 (x1 + (1 : Int32)) gi1 gl Q)
set_option maxRecDepth 100000 in
theorem v_X12_keepsAside  {gi : Gi} {gl : Gl} {Q : Gi → Gl → Prop}  (h : f_X12_keepsAside  gi gl Q) : p_X12_keepsAside  gi gl Q := by
  unfold f_X12_keepsAside at h
  show PAt mX12_keepsAside NN NN κF 0 [some (.ref 329), none] [] gi gl _
  refine px_iconst (v := (0 : Int32)) dX12_keepsAside_0 (by decide) ?_
  refine px_istore_n (ls2 := [some (.ref 329), some (.int (0 : Int32))]) (i := 1) rfl dX12_keepsAside_1 (by decide) rfl ?_
  exact PAt.forget h (lsub_at ⟨rfl, ⟨rfl, trivial⟩⟩)
set_option maxRecDepth 100000 in
theorem v_X12_keepsAside_2 {x1 : Int32} {gi : Gi} {gl : Gl} {Q : Gi → Gl → Prop}  (h : f_X12_keepsAside_2 x1 gi gl Q) : p_X12_keepsAside_2 x1 gi gl Q := by
  unfold f_X12_keepsAside_2 at h
  show PAt mX12_keepsAside NN NN κF 2 [some (.ref 329), some (.int x1)] [] gi gl _
  refine px_iload_n dX12_keepsAside_2 rfl rfl ?_
  refine px_sipush (v := (3600 : Int32)) dX12_keepsAside_3 (by decide) ?_
  refine px_icmp_ge (tgt := 27) dX12_keepsAside_6 (by decide) ?_
  by_cases hc : (3600 : Int32) ≤ x1
  · rw [if_pos hc] at h ⊢
    refine px_iconst (v := (0 : Int32)) dX12_keepsAside_27 (by decide) ?_
    refine px_istore_n (ls2 := [some (.ref 329), some (.int (0 : Int32))]) (i := 1) rfl dX12_keepsAside_28 (by decide) rfl ?_
    exact PAt.forget h (lsub_at ⟨rfl, ⟨rfl, trivial⟩⟩)
  · rw [if_neg hc] at h ⊢
    refine px_aload_n dX12_keepsAside_9 rfl rfl ?_
    refine gf_X12_143 rfl dX12_keepsAside_10 zl_329 zk_329 rfl zr_329_59 zl_371 ?_
    refine px_iload_n dX12_keepsAside_13 rfl rfl ?_
    refine px_aload_n dX12_keepsAside_14 rfl rfl ?_
    refine gf_X12_121 rfl dX12_keepsAside_15 zl_329 zk_329 rfl zr_329_52 zl_364 ?_
    refine px_iload_n dX12_keepsAside_18 rfl rfl ?_
    obtain ⟨hi, h⟩ := h
    refine px_zaload (n := 3600) dX12_keepsAside_19 zl_364 zk_364 zs_364 hi ?_
    obtain ⟨hi, h⟩ := h
    refine px_zastore (n := 3600) dX12_keepsAside_20 zl_371 zk_371 zs_371 hi ?_
    obtain ⟨gi1, hgi1⟩ : ∃ y : Gi, y = uI gi 371 (upd (gi 371) x1.toNatClampNeg (vp_nar .boolean (gi 364 x1.toNatClampNeg))) := ⟨_, rfl⟩
    have h := h gi1 hgi1
    refine px_namegi hgi1 ?_
    refine px_iinc (v := x1 + (1 : Int32)) (ls2 := [some (.ref 329), some (.int (x1 + (1 : Int32)))]) dX12_keepsAside_21 rfl rfl (by decide) rfl ?_
    refine px_goto (tgt := 2) dX12_keepsAside_24 (by decide) ?_
    exact PAt.forget h (lsub_at ⟨rfl, ⟨rfl, trivial⟩⟩)
set_option maxRecDepth 100000 in
theorem v_X12_keepsAside_29 {x1 : Int32} {gi : Gi} {gl : Gl} {Q : Gi → Gl → Prop}  (h : f_X12_keepsAside_29 x1 gi gl Q) : p_X12_keepsAside_29 x1 gi gl Q := by
  unfold f_X12_keepsAside_29 at h
  show PAt mX12_keepsAside NN NN κF 29 [some (.ref 329), some (.int x1)] [] gi gl _
  refine px_iload_n dX12_keepsAside_29 rfl rfl ?_
  refine px_sipush (v := (8640 : Int32)) dX12_keepsAside_30 (by decide) ?_
  refine px_icmp_ge (tgt := 54) dX12_keepsAside_33 (by decide) ?_
  by_cases hc : (8640 : Int32) ≤ x1
  · rw [if_pos hc] at h ⊢
    exact px_return dX12_keepsAside_54 rfl rfl ⟨rfl, rfl, h⟩
  · rw [if_neg hc] at h ⊢
    refine px_aload_n dX12_keepsAside_36 rfl rfl ?_
    refine gf_X12_146 rfl dX12_keepsAside_37 zl_329 zk_329 rfl zr_329_60 zl_372 ?_
    refine px_iload_n dX12_keepsAside_40 rfl rfl ?_
    refine px_aload_n dX12_keepsAside_41 rfl rfl ?_
    refine gf_X12_125 rfl dX12_keepsAside_42 zl_329 zk_329 rfl zr_329_53 zl_365 ?_
    refine px_iload_n dX12_keepsAside_45 rfl rfl ?_
    obtain ⟨hi, h⟩ := h
    refine px_zaload (n := 8640) dX12_keepsAside_46 zl_365 zk_365 zs_365 hi ?_
    obtain ⟨hi, h⟩ := h
    refine px_zastore (n := 8640) dX12_keepsAside_47 zl_372 zk_372 zs_372 hi ?_
    obtain ⟨gi1, hgi1⟩ : ∃ y : Gi, y = uI gi 372 (upd (gi 372) x1.toNatClampNeg (vp_nar .boolean (gi 365 x1.toNatClampNeg))) := ⟨_, rfl⟩
    have h := h gi1 hgi1
    refine px_namegi hgi1 ?_
    refine px_iinc (v := x1 + (1 : Int32)) (ls2 := [some (.ref 329), some (.int (x1 + (1 : Int32)))]) dX12_keepsAside_48 rfl rfl (by decide) rfl ?_
    refine px_goto (tgt := 29) dX12_keepsAside_51 (by decide) ?_
    exact PAt.forget h (lsub_at ⟨rfl, ⟨rfl, trivial⟩⟩)
abbrev p_X12_couplesIn_6 (x1 : Int32) (x2 : Int32) (x3 : Int32) (y4 : Int64) (x6 : Int32) (gi : Gi) (gl : Gl) (Q : Int64 → Gi → Gl → Prop) : Prop := PAt mX12_couplesIn NN NN κF 6 [some (.ref 329), some (.int x1), some (.int x2), some (.int x3), some (.long y4), none, some (.int x6), none, none, none] [] gi gl (RlQ Q)
abbrev p_X12_couplesIn_48 (x1 : Int32) (x2 : Int32) (x3 : Int32) (y4 : Int64) (x6 : Int32) (s0 : Int32) (gi : Gi) (gl : Gl) (Q : Int64 → Gi → Gl → Prop) : Prop := PAt mX12_couplesIn NN NN κF 48 [some (.ref 329), some (.int x1), some (.int x2), some (.int x3), some (.long y4), none, some (.int x6), none, none, none] [.int s0] gi gl (RlQ Q)
abbrev p_X12_couplesIn_76 (x1 : Int32) (x2 : Int32) (x3 : Int32) (y4 : Int64) (x6 : Int32) (x8 : Int32) (x9 : Int32) (gi : Gi) (gl : Gl) (Q : Int64 → Gi → Gl → Prop) : Prop := PAt mX12_couplesIn NN NN κF 76 [some (.ref 329), some (.int x1), some (.int x2), some (.int x3), some (.long y4), none, some (.int x6), none, some (.int x8), some (.int x9)] [] gi gl (RlQ Q)
def f_X12_couplesIn (x1 : Int32) (x2 : Int32) (x3 : Int32) (gi : Gi) (gl : Gl) (Q : Int64 → Gi → Gl → Prop) : Prop :=
p_X12_couplesIn_6 x1 x2 x3 (0 : Int64) (0 : Int32) gi gl Q
def f_X12_couplesIn_6 (x1 : Int32) (x2 : Int32) (x3 : Int32) (y4 : Int64) (x6 : Int32) (gi : Gi) (gl : Gl) (Q : Int64 → Gi → Gl → Prop) : Prop :=
if (720 : Int32) ≤ x6 then
(Q y4 gi gl)
else
(vp_in (((720 : Int32) * x1) + x6) 8640 ∧
if ¬ (gi 372 (((720 : Int32) * x1) + x6).toNatClampNeg) = 0 then
(if 0 ≤ (x6 + x2) then
(p_X12_couplesIn_48 x1 x2 x3 y4 x6 (x6 + x2) gi gl Q)
else
(p_X12_couplesIn_48 x1 x2 x3 y4 x6 (0 : Int32) gi gl Q))
else
(p_X12_couplesIn_6 x1 x2 x3 y4 (x6 + (1 : Int32)) gi gl Q))
def f_X12_couplesIn_48 (x1 : Int32) (x2 : Int32) (x3 : Int32) (y4 : Int64) (x6 : Int32) (s0 : Int32) (gi : Gi) (gl : Gl) (Q : Int64 → Gi → Gl → Prop) : Prop :=
if (x6 + x3) ≤ (719 : Int32) then
(∀ z1 : Int32, z1 = x6 + x3 →
p_X12_couplesIn_76 x1 x2 x3 y4 x6 z1 s0 gi gl Q)
else
(p_X12_couplesIn_76 x1 x2 x3 y4 x6 (719 : Int32) s0 gi gl Q)
def f_X12_couplesIn_76 (x1 : Int32) (x2 : Int32) (x3 : Int32) (y4 : Int64) (x6 : Int32) (x8 : Int32) (x9 : Int32) (gi : Gi) (gl : Gl) (Q : Int64 → Gi → Gl → Prop) : Prop :=
if x8 < x9 then
(p_X12_couplesIn_6 x1 x2 x3 y4 (x6 + (1 : Int32)) gi gl Q)
else
(vp_in (((720 : Int32) * x1) + x9) 8640 ∧
if (gi 365 (((720 : Int32) * x1) + x9).toNatClampNeg) = 0 then
(∀ z1 : Int64, z1 = y4 + (0 : Int64) →
p_X12_couplesIn_76 x1 x2 x3 z1 x6 x8 (x9 + (1 : Int32)) gi gl Q)
else
(∀ z2 : Int64, z2 = y4 + (1 : Int64) →
p_X12_couplesIn_76 x1 x2 x3 z2 x6 x8 (x9 + (1 : Int32)) gi gl Q))
set_option maxRecDepth 100000 in
theorem v_X12_couplesIn {x1 : Int32} {x2 : Int32} {x3 : Int32} {gi : Gi} {gl : Gl} {Q : Int64 → Gi → Gl → Prop}  (h : f_X12_couplesIn x1 x2 x3 gi gl Q) : p_X12_couplesIn x1 x2 x3 gi gl Q := by
  unfold f_X12_couplesIn at h
  show PAt mX12_couplesIn NN NN κF 0 [some (.ref 329), some (.int x1), some (.int x2), some (.int x3), none, none, none, none, none, none] [] gi gl _
  refine px_lconst (v := (0 : Int64)) dX12_couplesIn_0 (by decide) ?_
  refine px_lstore (ls2 := [some (.ref 329), some (.int x1), some (.int x2), some (.int x3), some (.long (0 : Int64)), none, none, none, none, none]) dX12_couplesIn_1 (by decide) rfl ?_
  refine px_iconst (v := (0 : Int32)) dX12_couplesIn_3 (by decide) ?_
  refine px_istore (ls2 := [some (.ref 329), some (.int x1), some (.int x2), some (.int x3), some (.long (0 : Int64)), none, some (.int (0 : Int32)), none, none, none]) dX12_couplesIn_4 (by decide) rfl ?_
  exact PAt.forget h (lsub_at ⟨rfl, ⟨rfl, ⟨rfl, ⟨rfl, ⟨rfl, ⟨rfl, trivial⟩⟩⟩⟩⟩⟩)
set_option maxRecDepth 100000 in
theorem v_X12_couplesIn_6 {x1 : Int32} {x2 : Int32} {x3 : Int32} {y4 : Int64} {x6 : Int32} {gi : Gi} {gl : Gl} {Q : Int64 → Gi → Gl → Prop}  (h : f_X12_couplesIn_6 x1 x2 x3 y4 x6 gi gl Q) : p_X12_couplesIn_6 x1 x2 x3 y4 x6 gi gl Q := by
  unfold f_X12_couplesIn_6 at h
  show PAt mX12_couplesIn NN NN κF 6 [some (.ref 329), some (.int x1), some (.int x2), some (.int x3), some (.long y4), none, some (.int x6), none, none, none] [] gi gl _
  refine px_iload dX12_couplesIn_6 rfl ?_
  refine px_sipush (v := (720 : Int32)) dX12_couplesIn_8 (by decide) ?_
  refine px_icmp_ge (tgt := 121) dX12_couplesIn_11 (by decide) ?_
  by_cases hc : (720 : Int32) ≤ x6
  · rw [if_pos hc] at h ⊢
    refine px_lload dX12_couplesIn_121 rfl ?_
    exact px_lreturn dX12_couplesIn_123 rfl rfl ⟨rfl, _, rfl, h⟩
  · rw [if_neg hc] at h ⊢
    refine px_aload_n dX12_couplesIn_14 rfl rfl ?_
    refine gf_X12_146 rfl dX12_couplesIn_15 zl_329 zk_329 rfl zr_329_60 zl_372 ?_
    refine px_sipush (v := (720 : Int32)) dX12_couplesIn_18 (by decide) ?_
    refine px_iload_n dX12_couplesIn_21 rfl rfl ?_
    refine px_imul dX12_couplesIn_22 ?_
    refine px_iload dX12_couplesIn_23 rfl ?_
    refine px_iadd dX12_couplesIn_25 ?_
    obtain ⟨hi, h⟩ := h
    refine px_zaload (n := 8640) dX12_couplesIn_26 zl_372 zk_372 zs_372 hi ?_
    refine px_if_ne (tgt := 33) dX12_couplesIn_27 (by decide) ?_
    by_cases hc : ¬ (gi 372 (((720 : Int32) * x1) + x6).toNatClampNeg) = 0
    · rw [if_pos hc] at h ⊢
      refine px_iload dX12_couplesIn_33 rfl ?_
      refine px_iload_n dX12_couplesIn_35 rfl rfl ?_
      refine px_iadd dX12_couplesIn_36 ?_
      refine px_if_ge (tgt := 44) dX12_couplesIn_37 (by decide) ?_
      by_cases hc : 0 ≤ (x6 + x2)
      · rw [if_pos hc] at h ⊢
        refine px_iload dX12_couplesIn_44 rfl ?_
        refine px_iload_n dX12_couplesIn_46 rfl rfl ?_
        refine px_iadd dX12_couplesIn_47 ?_
        exact PAt.forget h (lsub_at ⟨rfl, ⟨rfl, ⟨rfl, ⟨rfl, ⟨rfl, ⟨rfl, trivial⟩⟩⟩⟩⟩⟩)
      · rw [if_neg hc] at h ⊢
        refine px_iconst (v := (0 : Int32)) dX12_couplesIn_40 (by decide) ?_
        refine px_goto (tgt := 48) dX12_couplesIn_41 (by decide) ?_
        exact PAt.forget h (lsub_at ⟨rfl, ⟨rfl, ⟨rfl, ⟨rfl, ⟨rfl, ⟨rfl, trivial⟩⟩⟩⟩⟩⟩)
    · rw [if_neg hc] at h ⊢
      refine px_goto (tgt := 115) dX12_couplesIn_30 (by decide) ?_
      refine px_iinc (v := x6 + (1 : Int32)) (ls2 := [some (.ref 329), some (.int x1), some (.int x2), some (.int x3), some (.long y4), none, some (.int (x6 + (1 : Int32))), none, none, none]) dX12_couplesIn_115 rfl rfl (by decide) rfl ?_
      refine px_goto (tgt := 6) dX12_couplesIn_118 (by decide) ?_
      exact PAt.forget h (lsub_at ⟨rfl, ⟨rfl, ⟨rfl, ⟨rfl, ⟨rfl, ⟨rfl, trivial⟩⟩⟩⟩⟩⟩)
set_option maxRecDepth 100000 in
theorem v_X12_couplesIn_48 {x1 : Int32} {x2 : Int32} {x3 : Int32} {y4 : Int64} {x6 : Int32} {s0 : Int32} {gi : Gi} {gl : Gl} {Q : Int64 → Gi → Gl → Prop}  (h : f_X12_couplesIn_48 x1 x2 x3 y4 x6 s0 gi gl Q) : p_X12_couplesIn_48 x1 x2 x3 y4 x6 s0 gi gl Q := by
  unfold f_X12_couplesIn_48 at h
  show PAt mX12_couplesIn NN NN κF 48 [some (.ref 329), some (.int x1), some (.int x2), some (.int x3), some (.long y4), none, some (.int x6), none, none, none] [.int s0] gi gl _
  refine px_istore (ls2 := [some (.ref 329), some (.int x1), some (.int x2), some (.int x3), some (.long y4), none, some (.int x6), some (.int s0), none, none]) dX12_couplesIn_48 (by decide) rfl ?_
  refine px_iload dX12_couplesIn_50 rfl ?_
  refine px_iload_n dX12_couplesIn_52 rfl rfl ?_
  refine px_iadd dX12_couplesIn_53 ?_
  refine px_sipush (v := (719 : Int32)) dX12_couplesIn_54 (by decide) ?_
  refine px_icmp_le (tgt := 66) dX12_couplesIn_57 (by decide) ?_
  by_cases hc : (x6 + x3) ≤ (719 : Int32)
  · rw [if_pos hc] at h ⊢
    refine px_iload dX12_couplesIn_66 rfl ?_
    refine px_iload_n dX12_couplesIn_68 rfl rfl ?_
    refine px_iadd dX12_couplesIn_69 ?_
    obtain ⟨z1, hz1⟩ : ∃ y : Int32, y = x6 + x3 := ⟨_, rfl⟩
    have h := h z1 hz1
    refine px_namei hz1 ?_
    refine px_istore (ls2 := [some (.ref 329), some (.int x1), some (.int x2), some (.int x3), some (.long y4), none, some (.int x6), some (.int s0), some (.int z1), none]) dX12_couplesIn_70 (by decide) rfl ?_
    refine px_iload dX12_couplesIn_72 rfl ?_
    refine px_istore (ls2 := [some (.ref 329), some (.int x1), some (.int x2), some (.int x3), some (.long y4), none, some (.int x6), some (.int s0), some (.int z1), some (.int s0)]) dX12_couplesIn_74 (by decide) rfl ?_
    exact PAt.forget h (lsub_at ⟨rfl, ⟨rfl, ⟨rfl, ⟨rfl, ⟨rfl, ⟨rfl, ⟨rfl, ⟨rfl, trivial⟩⟩⟩⟩⟩⟩⟩⟩)
  · rw [if_neg hc] at h ⊢
    refine px_sipush (v := (719 : Int32)) dX12_couplesIn_60 (by decide) ?_
    refine px_goto (tgt := 70) dX12_couplesIn_63 (by decide) ?_
    refine px_istore (ls2 := [some (.ref 329), some (.int x1), some (.int x2), some (.int x3), some (.long y4), none, some (.int x6), some (.int s0), some (.int (719 : Int32)), none]) dX12_couplesIn_70 (by decide) rfl ?_
    refine px_iload dX12_couplesIn_72 rfl ?_
    refine px_istore (ls2 := [some (.ref 329), some (.int x1), some (.int x2), some (.int x3), some (.long y4), none, some (.int x6), some (.int s0), some (.int (719 : Int32)), some (.int s0)]) dX12_couplesIn_74 (by decide) rfl ?_
    exact PAt.forget h (lsub_at ⟨rfl, ⟨rfl, ⟨rfl, ⟨rfl, ⟨rfl, ⟨rfl, ⟨rfl, ⟨rfl, trivial⟩⟩⟩⟩⟩⟩⟩⟩)
set_option maxRecDepth 100000 in
theorem v_X12_couplesIn_76 {x1 : Int32} {x2 : Int32} {x3 : Int32} {y4 : Int64} {x6 : Int32} {x8 : Int32} {x9 : Int32} {gi : Gi} {gl : Gl} {Q : Int64 → Gi → Gl → Prop}  (h : f_X12_couplesIn_76 x1 x2 x3 y4 x6 x8 x9 gi gl Q) : p_X12_couplesIn_76 x1 x2 x3 y4 x6 x8 x9 gi gl Q := by
  unfold f_X12_couplesIn_76 at h
  show PAt mX12_couplesIn NN NN κF 76 [some (.ref 329), some (.int x1), some (.int x2), some (.int x3), some (.long y4), none, some (.int x6), none, some (.int x8), some (.int x9)] [] gi gl _
  refine px_iload dX12_couplesIn_76 rfl ?_
  refine px_iload dX12_couplesIn_78 rfl ?_
  refine px_icmp_gt (tgt := 115) dX12_couplesIn_80 (by decide) ?_
  by_cases hc : x8 < x9
  · rw [if_pos hc] at h ⊢
    refine px_iinc (v := x6 + (1 : Int32)) (ls2 := [some (.ref 329), some (.int x1), some (.int x2), some (.int x3), some (.long y4), none, some (.int (x6 + (1 : Int32))), none, some (.int x8), some (.int x9)]) dX12_couplesIn_115 rfl rfl (by decide) rfl ?_
    refine px_goto (tgt := 6) dX12_couplesIn_118 (by decide) ?_
    exact PAt.forget h (lsub_at ⟨rfl, ⟨rfl, ⟨rfl, ⟨rfl, ⟨rfl, ⟨rfl, trivial⟩⟩⟩⟩⟩⟩)
  · rw [if_neg hc] at h ⊢
    refine px_lload dX12_couplesIn_83 rfl ?_
    refine px_aload_n dX12_couplesIn_85 rfl rfl ?_
    refine gf_X12_125 rfl dX12_couplesIn_86 zl_329 zk_329 rfl zr_329_53 zl_365 ?_
    refine px_sipush (v := (720 : Int32)) dX12_couplesIn_89 (by decide) ?_
    refine px_iload_n dX12_couplesIn_92 rfl rfl ?_
    refine px_imul dX12_couplesIn_93 ?_
    refine px_iload dX12_couplesIn_94 rfl ?_
    refine px_iadd dX12_couplesIn_96 ?_
    obtain ⟨hi, h⟩ := h
    refine px_zaload (n := 8640) dX12_couplesIn_97 zl_365 zk_365 zs_365 hi ?_
    refine px_if_eq (tgt := 105) dX12_couplesIn_98 (by decide) ?_
    by_cases hc : (gi 365 (((720 : Int32) * x1) + x9).toNatClampNeg) = 0
    · rw [if_pos hc] at h ⊢
      refine px_lconst (v := (0 : Int64)) dX12_couplesIn_105 (by decide) ?_
      refine px_ladd dX12_couplesIn_106 ?_
      obtain ⟨z1, hz1⟩ : ∃ y : Int64, y = y4 + (0 : Int64) := ⟨_, rfl⟩
      have h := h z1 hz1
      refine px_namel hz1 ?_
      refine px_lstore (ls2 := [some (.ref 329), some (.int x1), some (.int x2), some (.int x3), some (.long z1), none, some (.int x6), none, some (.int x8), some (.int x9)]) dX12_couplesIn_107 (by decide) rfl ?_
      refine px_iinc (v := x9 + (1 : Int32)) (ls2 := [some (.ref 329), some (.int x1), some (.int x2), some (.int x3), some (.long z1), none, some (.int x6), none, some (.int x8), some (.int (x9 + (1 : Int32)))]) dX12_couplesIn_109 rfl rfl (by decide) rfl ?_
      refine px_goto (tgt := 76) dX12_couplesIn_112 (by decide) ?_
      exact PAt.forget h (lsub_at ⟨rfl, ⟨rfl, ⟨rfl, ⟨rfl, ⟨rfl, ⟨rfl, ⟨rfl, ⟨rfl, trivial⟩⟩⟩⟩⟩⟩⟩⟩)
    · rw [if_neg hc] at h ⊢
      refine px_lconst (v := (1 : Int64)) dX12_couplesIn_101 (by decide) ?_
      refine px_goto (tgt := 106) dX12_couplesIn_102 (by decide) ?_
      refine px_ladd dX12_couplesIn_106 ?_
      obtain ⟨z2, hz2⟩ : ∃ y : Int64, y = y4 + (1 : Int64) := ⟨_, rfl⟩
      have h := h z2 hz2
      refine px_namel hz2 ?_
      refine px_lstore (ls2 := [some (.ref 329), some (.int x1), some (.int x2), some (.int x3), some (.long z2), none, some (.int x6), none, some (.int x8), some (.int x9)]) dX12_couplesIn_107 (by decide) rfl ?_
      refine px_iinc (v := x9 + (1 : Int32)) (ls2 := [some (.ref 329), some (.int x1), some (.int x2), some (.int x3), some (.long z2), none, some (.int x6), none, some (.int x8), some (.int (x9 + (1 : Int32)))]) dX12_couplesIn_109 rfl rfl (by decide) rfl ?_
      refine px_goto (tgt := 76) dX12_couplesIn_112 (by decide) ?_
      exact PAt.forget h (lsub_at ⟨rfl, ⟨rfl, ⟨rfl, ⟨rfl, ⟨rfl, ⟨rfl, ⟨rfl, ⟨rfl, trivial⟩⟩⟩⟩⟩⟩⟩⟩)
abbrev p_X12_couples_67 (x3 : Int32) (x4 : Int32) (x5 : Int32) (x6 : Int32) (gi : Gi) (gl : Gl) (Q : Int64 → Gi → Gl → Prop) : Prop := PAt mX12_couples NN NN κF 67 [some (.ref 329), none, none, some (.int x3), some (.int x4), some (.int x5), some (.int x6), none, none, none, none, none, none] [] gi gl (RlQ Q)
abbrev p_X12_couples_108 (x5 : Int32) (y6 : Int64) (x8 : Int32) (x9 : Int32) (x10 : Int32) (gi : Gi) (gl : Gl) (Q : Int64 → Gi → Gl → Prop) : Prop := PAt mX12_couples NN NN κF 108 [some (.ref 329), none, none, none, none, some (.int x5), some (.long y6), none, some (.int x8), some (.int x9), some (.int x10), none, none] [] gi gl (RlQ Q)
abbrev p_X12_couples_154 (x5 : Int32) (y6 : Int64) (x8 : Int32) (x9 : Int32) (x10 : Int32) (t0 : Int64) (gi : Gi) (gl : Gl) (Q : Int64 → Gi → Gl → Prop) : Prop := PAt mX12_couples NN NN κF 154 [some (.ref 329), none, none, none, none, some (.int x5), some (.long y6), none, some (.int x8), some (.int x9), some (.int x10), none, none] [.long t0] gi gl (RlQ Q)
def f_X12_couples (x1 : Int32) (x2 : Int32) (x3 : Int32) (x4 : Int32) (x5 : Int32) (gi : Gi) (gl : Gl) (Q : Int64 → Gi → Gl → Prop) : Prop :=
p_X12_isPicture x1 gi gl (fun (r3 : Int32) (gi1 : Gi) (gl2 : Gl) =>
if r3 = 0 then
(Q ((-1) : Int64) gi1 gl2)
else
(p_X12_isPicture x2 gi1 gl2 (fun (r6 : Int32) (gi4 : Gi) (gl5 : Gl) =>
if r6 = 0 then
(Q ((-1) : Int64) gi4 gl5)
else
(p_X12_within x3 ((-719) : Int32) x4 gi4 gl5 (fun (r9 : Int32) (gi7 : Gi) (gl8 : Gl) =>
if r9 = 0 then
(Q ((-1) : Int64) gi7 gl8)
else
(if (719 : Int32) < x4 then
(Q ((-1) : Int64) gi7 gl8)
else
(p_X12_within x5 (0 : Int32) (2 : Int32) gi7 gl8 (fun (r12 : Int32) (gi10 : Gi) (gl11 : Gl) =>
if ¬ r12 = 0 then
(p_X12_finds x1 gi10 gl11 (fun (gi13 : Gi) (gl14 : Gl) =>
p_X12_keepsAside  gi13 gl14 (fun (gi15 : Gi) (gl16 : Gl) =>
p_X12_finds x2 gi15 gl16 (fun (gi17 : Gi) (gl18 : Gl) =>
p_X12_couples_67 x3 x4 x5 (0 : Int32) gi17 gl18 Q))))
else
(Q ((-1) : Int64) gi10 gl11)))))))))
def f_X12_couples_67 (x3 : Int32) (x4 : Int32) (x5 : Int32) (x6 : Int32) (gi : Gi) (gl : Gl) (Q : Int64 → Gi → Gl → Prop) : Prop :=
if (12 : Int32) ≤ x6 then
(p_X12_couples_108 x5 (0 : Int64) (0 : Int32) ((-1) : Int32) (0 : Int32) gi gl Q)
else
(p_X12_couplesIn x6 x3 x4 gi gl (fun (r3 : Int64) (gi1 : Gi) (gl2 : Gl) =>
vp_in x6 12 ∧
∀ gl4 : Gl, gl4 = uL gl2 373 (vp_updL (gl2 373) x6.toNatClampNeg r3) →
p_X12_couples_67 x3 x4 x5 (x6 + (1 : Int32)) gi1 gl4 Q))
def f_X12_couples_108 (x5 : Int32) (y6 : Int64) (x8 : Int32) (x9 : Int32) (x10 : Int32) (gi : Gi) (gl : Gl) (Q : Int64 → Gi → Gl → Prop) : Prop :=
if (3600 : Int32) ≤ x10 then
(if ¬ x5 = 0 then
(if ¬ x5 = (1 : Int32) then
(Q x9.toInt64 gi gl)
else
(Q x8.toInt64 gi gl))
else
(Q y6 gi gl))
else
(vp_in x10 3600 ∧
if (gi 371 x10.toNatClampNeg) = 0 then
(p_X12_couples_154 x5 y6 x8 x9 x10 (0 : Int64) gi gl Q)
else
(vp_in x10 3600 ∧
if (gi 364 x10.toNatClampNeg) = 0 then
(p_X12_couples_154 x5 y6 x8 x9 x10 (0 : Int64) gi gl Q)
else
(vp_in ((jr x10 (360 : Int32)) / (30 : Int32)) 12 ∧
p_X12_couples_154 x5 y6 x8 x9 x10 (gl 373 ((jr x10 (360 : Int32)) / (30 : Int32)).toNatClampNeg) gi gl Q)))
def f_X12_couples_154 (x5 : Int32) (y6 : Int64) (x8 : Int32) (x9 : Int32) (x10 : Int32) (t0 : Int64) (gi : Gi) (gl : Gl) (Q : Int64 → Gi → Gl → Prop) : Prop :=
if ¬ t0 = (0 : Int64) then
(∀ z1 : Int64, z1 = y6 + t0 →
if 0 ≤ x9 then
(p_X12_couples_108 x5 z1 (x8 + (1 : Int32)) x9 (x10 + (1 : Int32)) gi gl Q)
else
(p_X12_couples_108 x5 z1 (x8 + (1 : Int32)) x10 (x10 + (1 : Int32)) gi gl Q))
else
(p_X12_couples_108 x5 y6 x8 x9 (x10 + (1 : Int32)) gi gl Q)
set_option maxRecDepth 100000 in
theorem v_X12_couples {x1 : Int32} {x2 : Int32} {x3 : Int32} {x4 : Int32} {x5 : Int32} {gi : Gi} {gl : Gl} {Q : Int64 → Gi → Gl → Prop}  (h : f_X12_couples x1 x2 x3 x4 x5 gi gl Q) : p_X12_couples x1 x2 x3 x4 x5 gi gl Q := by
  unfold f_X12_couples at h
  show PAt mX12_couples NN NN κF 0 [some (.ref 329), some (.int x1), some (.int x2), some (.int x3), some (.int x4), some (.int x5), none, none, none, none, none, none, none] [] gi gl _
  refine px_aload_n dX12_couples_0 rfl rfl ?_
  refine px_iload_n dX12_couples_1 rfl rfl ?_
  refine px_callV_I (As := [.int x1]) (st := []) dX12_couples_2 lk_X12_347.1 lk_X12_347.2 (b := 329) zl_329 zk_329 (by decide) rfl (by decide) rfl (Nat.le_of_ble_eq_true rfl) rfl rfl (Nat.le_of_ble_eq_true rfl) ⟨Nat.le_refl _, Nat.le_refl _, Nat.le_refl _⟩ ?_
  refine PAt.mono h (fun v κ gi1 gl2 hq => ?_)
  obtain ⟨rfl, r3, rfl, h⟩ := hq
  refine px_if_eq (tgt := 46) dX12_couples_5 (by decide) ?_
  by_cases hc : r3 = 0
  · rw [if_pos hc] at h ⊢
    refine px_ldc2 (v := ((-1) : Int64)) dX12_couples_46 w_1408 ?_
    exact px_lreturn dX12_couples_49 rfl rfl ⟨rfl, _, rfl, h⟩
  · rw [if_neg hc] at h ⊢
    refine px_aload_n dX12_couples_8 rfl rfl ?_
    refine px_iload_n dX12_couples_9 rfl rfl ?_
    refine px_callV_I (As := [.int x2]) (st := []) dX12_couples_10 lk_X12_347.1 lk_X12_347.2 (b := 329) zl_329 zk_329 (by decide) rfl (by decide) rfl (Nat.le_of_ble_eq_true rfl) rfl rfl (Nat.le_of_ble_eq_true rfl) ⟨Nat.le_refl _, Nat.le_refl _, Nat.le_refl _⟩ ?_
    refine PAt.mono h (fun v κ gi4 gl5 hq => ?_)
    obtain ⟨rfl, r6, rfl, h⟩ := hq
    refine px_if_eq (tgt := 46) dX12_couples_13 (by decide) ?_
    by_cases hc : r6 = 0
    · rw [if_pos hc] at h ⊢
      refine px_ldc2 (v := ((-1) : Int64)) dX12_couples_46 w_1408 ?_
      exact px_lreturn dX12_couples_49 rfl rfl ⟨rfl, _, rfl, h⟩
    · rw [if_neg hc] at h ⊢
      refine px_iload_n dX12_couples_16 rfl rfl ?_
      refine px_sipush (v := ((-719) : Int32)) dX12_couples_17 (by decide) ?_
      refine px_iload dX12_couples_20 rfl ?_
      refine px_callS_I (As := [.int x3, .int ((-719) : Int32), .int x4]) (st := []) dX12_couples_22 lk_X12_189.1 lk_X12_189.2 (by decide) rfl (Nat.le_of_ble_eq_true rfl) rfl rfl (Nat.le_of_ble_eq_true rfl) ⟨Nat.le_refl _, Nat.le_refl _, Nat.le_refl _⟩ ?_
      refine PAt.mono h (fun v κ gi7 gl8 hq => ?_)
      obtain ⟨rfl, r9, rfl, h⟩ := hq
      refine px_if_eq (tgt := 46) dX12_couples_25 (by decide) ?_
      by_cases hc : r9 = 0
      · rw [if_pos hc] at h ⊢
        refine px_ldc2 (v := ((-1) : Int64)) dX12_couples_46 w_1408 ?_
        exact px_lreturn dX12_couples_49 rfl rfl ⟨rfl, _, rfl, h⟩
      · rw [if_neg hc] at h ⊢
        refine px_iload dX12_couples_28 rfl ?_
        refine px_sipush (v := (719 : Int32)) dX12_couples_30 (by decide) ?_
        refine px_icmp_gt (tgt := 46) dX12_couples_33 (by decide) ?_
        by_cases hc : (719 : Int32) < x4
        · rw [if_pos hc] at h ⊢
          refine px_ldc2 (v := ((-1) : Int64)) dX12_couples_46 w_1408 ?_
          exact px_lreturn dX12_couples_49 rfl rfl ⟨rfl, _, rfl, h⟩
        · rw [if_neg hc] at h ⊢
          refine px_iload dX12_couples_36 rfl ?_
          refine px_iconst (v := (0 : Int32)) dX12_couples_38 (by decide) ?_
          refine px_iconst (v := (2 : Int32)) dX12_couples_39 (by decide) ?_
          refine px_callS_I (As := [.int x5, .int (0 : Int32), .int (2 : Int32)]) (st := []) dX12_couples_40 lk_X12_189.1 lk_X12_189.2 (by decide) rfl (Nat.le_of_ble_eq_true rfl) rfl rfl (Nat.le_of_ble_eq_true rfl) ⟨Nat.le_refl _, Nat.le_refl _, Nat.le_refl _⟩ ?_
          refine PAt.mono h (fun v κ gi10 gl11 hq => ?_)
          obtain ⟨rfl, r12, rfl, h⟩ := hq
          refine px_if_ne (tgt := 50) dX12_couples_43 (by decide) ?_
          by_cases hc : ¬ r12 = 0
          · rw [if_pos hc] at h ⊢
            refine px_aload_n dX12_couples_50 rfl rfl ?_
            refine px_iload_n dX12_couples_51 rfl rfl ?_
            refine px_callV_V (As := [.int x1]) (st := []) dX12_couples_52 lk_X12_414.1 lk_X12_414.2 (b := 329) zl_329 zk_329 (by decide) rfl (by decide) rfl (Nat.le_of_ble_eq_true rfl) rfl rfl (Nat.le_of_ble_eq_true rfl) ⟨Nat.le_refl _, Nat.le_refl _, Nat.le_refl _⟩ ?_
            refine PAt.mono h (fun v κ gi13 gl14 hq => ?_)
            obtain ⟨rfl, -, h⟩ := hq
            refine px_aload_n dX12_couples_55 rfl rfl ?_
            refine px_callV_V (As := []) (st := []) dX12_couples_56 lk_X12_456.1 lk_X12_456.2 (b := 329) zl_329 zk_329 (by decide) rfl (by decide) rfl (Nat.le_of_ble_eq_true rfl) rfl rfl (Nat.le_of_ble_eq_true rfl) ⟨Nat.le_refl _, Nat.le_refl _, Nat.le_refl _⟩ ?_
            refine PAt.mono h (fun v κ gi15 gl16 hq => ?_)
            obtain ⟨rfl, -, h⟩ := hq
            refine px_aload_n dX12_couples_59 rfl rfl ?_
            refine px_iload_n dX12_couples_60 rfl rfl ?_
            refine px_callV_V (As := [.int x2]) (st := []) dX12_couples_61 lk_X12_414.1 lk_X12_414.2 (b := 329) zl_329 zk_329 (by decide) rfl (by decide) rfl (Nat.le_of_ble_eq_true rfl) rfl rfl (Nat.le_of_ble_eq_true rfl) ⟨Nat.le_refl _, Nat.le_refl _, Nat.le_refl _⟩ ?_
            refine PAt.mono h (fun v κ gi17 gl18 hq => ?_)
            obtain ⟨rfl, -, h⟩ := hq
            refine px_iconst (v := (0 : Int32)) dX12_couples_64 (by decide) ?_
            refine px_istore (ls2 := [some (.ref 329), some (.int x1), some (.int x2), some (.int x3), some (.int x4), some (.int x5), some (.int (0 : Int32)), none, none, none, none, none, none]) dX12_couples_65 (by decide) rfl ?_
            exact PAt.forget h (lsub_at ⟨rfl, ⟨rfl, ⟨rfl, ⟨rfl, ⟨rfl, trivial⟩⟩⟩⟩⟩)
          · rw [if_neg hc] at h ⊢
            refine px_ldc2 (v := ((-1) : Int64)) dX12_couples_46 w_1408 ?_
            exact px_lreturn dX12_couples_49 rfl rfl ⟨rfl, _, rfl, h⟩
set_option maxRecDepth 100000 in
theorem v_X12_couples_67 {x3 : Int32} {x4 : Int32} {x5 : Int32} {x6 : Int32} {gi : Gi} {gl : Gl} {Q : Int64 → Gi → Gl → Prop}  (h : f_X12_couples_67 x3 x4 x5 x6 gi gl Q) : p_X12_couples_67 x3 x4 x5 x6 gi gl Q := by
  unfold f_X12_couples_67 at h
  show PAt mX12_couples NN NN κF 67 [some (.ref 329), none, none, some (.int x3), some (.int x4), some (.int x5), some (.int x6), none, none, none, none, none, none] [] gi gl _
  refine px_iload dX12_couples_67 rfl ?_
  refine px_bipush (v := (12 : Int32)) dX12_couples_69 (by decide) ?_
  refine px_icmp_ge (tgt := 96) dX12_couples_71 (by decide) ?_
  by_cases hc : (12 : Int32) ≤ x6
  · rw [if_pos hc] at h ⊢
    refine px_lconst (v := (0 : Int64)) dX12_couples_96 (by decide) ?_
    refine px_lstore (ls2 := [some (.ref 329), none, none, some (.int x3), some (.int x4), some (.int x5), some (.long (0 : Int64)), none, none, none, none, none, none]) dX12_couples_97 (by decide) rfl ?_
    refine px_iconst (v := (0 : Int32)) dX12_couples_99 (by decide) ?_
    refine px_istore (ls2 := [some (.ref 329), none, none, some (.int x3), some (.int x4), some (.int x5), some (.long (0 : Int64)), none, some (.int (0 : Int32)), none, none, none, none]) dX12_couples_100 (by decide) rfl ?_
    refine px_iconst (v := ((-1) : Int32)) dX12_couples_102 (by decide) ?_
    refine px_istore (ls2 := [some (.ref 329), none, none, some (.int x3), some (.int x4), some (.int x5), some (.long (0 : Int64)), none, some (.int (0 : Int32)), some (.int ((-1) : Int32)), none, none, none]) dX12_couples_103 (by decide) rfl ?_
    refine px_iconst (v := (0 : Int32)) dX12_couples_105 (by decide) ?_
    refine px_istore (ls2 := [some (.ref 329), none, none, some (.int x3), some (.int x4), some (.int x5), some (.long (0 : Int64)), none, some (.int (0 : Int32)), some (.int ((-1) : Int32)), some (.int (0 : Int32)), none, none]) dX12_couples_106 (by decide) rfl ?_
    exact PAt.forget h (lsub_at ⟨rfl, ⟨rfl, ⟨rfl, ⟨rfl, ⟨rfl, ⟨rfl, trivial⟩⟩⟩⟩⟩⟩)
  · rw [if_neg hc] at h ⊢
    refine px_aload_n dX12_couples_74 rfl rfl ?_
    refine gf_X12_149 rfl dX12_couples_75 zl_329 zk_329 rfl zr_329_61 zl_373 ?_
    refine px_iload dX12_couples_78 rfl ?_
    refine px_aload_n dX12_couples_80 rfl rfl ?_
    refine px_iload dX12_couples_81 rfl ?_
    refine px_iload_n dX12_couples_83 rfl rfl ?_
    refine px_iload dX12_couples_84 rfl ?_
    refine px_callV_L (As := [.int x6, .int x3, .int x4]) (st := [.int x6, .ref 373]) dX12_couples_86 lk_X12_459.1 lk_X12_459.2 (b := 329) zl_329 zk_329 (by decide) rfl (by decide) rfl (Nat.le_of_ble_eq_true rfl) rfl rfl (Nat.le_of_ble_eq_true rfl) ⟨Nat.le_refl _, Nat.le_refl _, Nat.le_refl _⟩ ?_
    refine PAt.mono h (fun v κ gi1 gl2 hq => ?_)
    obtain ⟨rfl, r3, rfl, h⟩ := hq
    obtain ⟨hi, h⟩ := h
    refine px_lastore (n := 12) dX12_couples_89 zl_373 zk_373 zs_373 hi ?_
    obtain ⟨gl4, hgl4⟩ : ∃ y : Gl, y = uL gl2 373 (vp_updL (gl2 373) x6.toNatClampNeg r3) := ⟨_, rfl⟩
    have h := h gl4 hgl4
    refine px_namegl hgl4 ?_
    refine px_iinc (v := x6 + (1 : Int32)) (ls2 := [some (.ref 329), none, none, some (.int x3), some (.int x4), some (.int x5), some (.int (x6 + (1 : Int32))), none, none, none, none, none, none]) dX12_couples_90 rfl rfl (by decide) rfl ?_
    refine px_goto (tgt := 67) dX12_couples_93 (by decide) ?_
    exact PAt.forget h (lsub_at ⟨rfl, ⟨rfl, ⟨rfl, ⟨rfl, ⟨rfl, trivial⟩⟩⟩⟩⟩)
set_option maxRecDepth 100000 in
theorem v_X12_couples_108 {x5 : Int32} {y6 : Int64} {x8 : Int32} {x9 : Int32} {x10 : Int32} {gi : Gi} {gl : Gl} {Q : Int64 → Gi → Gl → Prop}  (h : f_X12_couples_108 x5 y6 x8 x9 x10 gi gl Q) : p_X12_couples_108 x5 y6 x8 x9 x10 gi gl Q := by
  unfold f_X12_couples_108 at h
  show PAt mX12_couples NN NN κF 108 [some (.ref 329), none, none, none, none, some (.int x5), some (.long y6), none, some (.int x8), some (.int x9), some (.int x10), none, none] [] gi gl _
  refine px_iload dX12_couples_108 rfl ?_
  refine px_sipush (v := (3600 : Int32)) dX12_couples_110 (by decide) ?_
  refine px_icmp_ge (tgt := 191) dX12_couples_113 (by decide) ?_
  by_cases hc : (3600 : Int32) ≤ x10
  · rw [if_pos hc] at h ⊢
    refine px_iload dX12_couples_191 rfl ?_
    refine px_if_ne (tgt := 201) dX12_couples_193 (by decide) ?_
    by_cases hc : ¬ x5 = 0
    · rw [if_pos hc] at h ⊢
      refine px_iload dX12_couples_201 rfl ?_
      refine px_iconst (v := (1 : Int32)) dX12_couples_203 (by decide) ?_
      refine px_icmp_ne (tgt := 213) dX12_couples_204 (by decide) ?_
      by_cases hc : ¬ x5 = (1 : Int32)
      · rw [if_pos hc] at h ⊢
        refine px_iload dX12_couples_213 rfl ?_
        refine px_i2l dX12_couples_215 ?_
        exact px_lreturn dX12_couples_216 rfl rfl ⟨rfl, _, rfl, h⟩
      · rw [if_neg hc] at h ⊢
        refine px_iload dX12_couples_207 rfl ?_
        refine px_i2l dX12_couples_209 ?_
        refine px_goto (tgt := 216) dX12_couples_210 (by decide) ?_
        exact px_lreturn dX12_couples_216 rfl rfl ⟨rfl, _, rfl, h⟩
    · rw [if_neg hc] at h ⊢
      refine px_lload dX12_couples_196 rfl ?_
      refine px_goto (tgt := 216) dX12_couples_198 (by decide) ?_
      exact px_lreturn dX12_couples_216 rfl rfl ⟨rfl, _, rfl, h⟩
  · rw [if_neg hc] at h ⊢
    refine px_aload_n dX12_couples_116 rfl rfl ?_
    refine gf_X12_143 rfl dX12_couples_117 zl_329 zk_329 rfl zr_329_59 zl_371 ?_
    refine px_iload dX12_couples_120 rfl ?_
    obtain ⟨hi, h⟩ := h
    refine px_zaload (n := 3600) dX12_couples_122 zl_371 zk_371 zs_371 hi ?_
    refine px_if_eq (tgt := 153) dX12_couples_123 (by decide) ?_
    by_cases hc : (gi 371 x10.toNatClampNeg) = 0
    · rw [if_pos hc] at h ⊢
      refine px_lconst (v := (0 : Int64)) dX12_couples_153 (by decide) ?_
      exact PAt.forget h (lsub_at ⟨rfl, ⟨rfl, ⟨rfl, ⟨rfl, ⟨rfl, ⟨rfl, trivial⟩⟩⟩⟩⟩⟩)
    · rw [if_neg hc] at h ⊢
      refine px_aload_n dX12_couples_126 rfl rfl ?_
      refine gf_X12_121 rfl dX12_couples_127 zl_329 zk_329 rfl zr_329_52 zl_364 ?_
      refine px_iload dX12_couples_130 rfl ?_
      obtain ⟨hi, h⟩ := h
      refine px_zaload (n := 3600) dX12_couples_132 zl_364 zk_364 zs_364 hi ?_
      refine px_if_eq (tgt := 153) dX12_couples_133 (by decide) ?_
      by_cases hc : (gi 364 x10.toNatClampNeg) = 0
      · rw [if_pos hc] at h ⊢
        refine px_lconst (v := (0 : Int64)) dX12_couples_153 (by decide) ?_
        exact PAt.forget h (lsub_at ⟨rfl, ⟨rfl, ⟨rfl, ⟨rfl, ⟨rfl, ⟨rfl, trivial⟩⟩⟩⟩⟩⟩)
      · rw [if_neg hc] at h ⊢
        refine px_aload_n dX12_couples_136 rfl rfl ?_
        refine gf_X12_149 rfl dX12_couples_137 zl_329 zk_329 rfl zr_329_61 zl_373 ?_
        refine px_iload dX12_couples_140 rfl ?_
        refine px_sipush (v := (360 : Int32)) dX12_couples_142 (by decide) ?_
        refine px_irem dX12_couples_145 (by decide) ?_
        refine px_bipush (v := (30 : Int32)) dX12_couples_146 (by decide) ?_
        refine px_idiv dX12_couples_148 (by decide) ?_
        obtain ⟨hi, h⟩ := h
        refine px_laload (n := 12) dX12_couples_149 zl_373 zk_373 zs_373 hi ?_
        refine px_goto (tgt := 154) dX12_couples_150 (by decide) ?_
        exact PAt.forget h (lsub_at ⟨rfl, ⟨rfl, ⟨rfl, ⟨rfl, ⟨rfl, ⟨rfl, trivial⟩⟩⟩⟩⟩⟩)
set_option maxRecDepth 100000 in
theorem v_X12_couples_154 {x5 : Int32} {y6 : Int64} {x8 : Int32} {x9 : Int32} {x10 : Int32} {t0 : Int64} {gi : Gi} {gl : Gl} {Q : Int64 → Gi → Gl → Prop}  (h : f_X12_couples_154 x5 y6 x8 x9 x10 t0 gi gl Q) : p_X12_couples_154 x5 y6 x8 x9 x10 t0 gi gl Q := by
  unfold f_X12_couples_154 at h
  show PAt mX12_couples NN NN κF 154 [some (.ref 329), none, none, none, none, some (.int x5), some (.long y6), none, some (.int x8), some (.int x9), some (.int x10), none, none] [.long t0] gi gl _
  refine px_lstore (ls2 := [some (.ref 329), none, none, none, none, some (.int x5), some (.long y6), none, some (.int x8), some (.int x9), some (.int x10), some (.long t0), none]) dX12_couples_154 (by decide) rfl ?_
  refine px_lload dX12_couples_156 rfl ?_
  refine px_lconst (v := (0 : Int64)) dX12_couples_158 (by decide) ?_
  refine px_lc_ne (tgt := 166) dX12_couples_159 dX12_couples_160 (by decide) ?_
  by_cases hc : ¬ t0 = (0 : Int64)
  · rw [if_pos hc] at h ⊢
    refine px_lload dX12_couples_166 rfl ?_
    refine px_lload dX12_couples_168 rfl ?_
    refine px_ladd dX12_couples_170 ?_
    obtain ⟨z1, hz1⟩ : ∃ y : Int64, y = y6 + t0 := ⟨_, rfl⟩
    have h := h z1 hz1
    refine px_namel hz1 ?_
    refine px_lstore (ls2 := [some (.ref 329), none, none, none, none, some (.int x5), some (.long z1), none, some (.int x8), some (.int x9), some (.int x10), some (.long t0), none]) dX12_couples_171 (by decide) rfl ?_
    refine px_iinc (v := x8 + (1 : Int32)) (ls2 := [some (.ref 329), none, none, none, none, some (.int x5), some (.long z1), none, some (.int (x8 + (1 : Int32))), some (.int x9), some (.int x10), some (.long t0), none]) dX12_couples_173 rfl rfl (by decide) rfl ?_
    refine px_iload dX12_couples_176 rfl ?_
    refine px_if_ge (tgt := 185) dX12_couples_178 (by decide) ?_
    by_cases hc : 0 ≤ x9
    · rw [if_pos hc] at h ⊢
      refine px_iinc (v := x10 + (1 : Int32)) (ls2 := [some (.ref 329), none, none, none, none, some (.int x5), some (.long z1), none, some (.int (x8 + (1 : Int32))), some (.int x9), some (.int (x10 + (1 : Int32))), some (.long t0), none]) dX12_couples_185 rfl rfl (by decide) rfl ?_
      refine px_goto (tgt := 108) dX12_couples_188 (by decide) ?_
      exact PAt.forget h (lsub_at ⟨rfl, ⟨rfl, ⟨rfl, ⟨rfl, ⟨rfl, ⟨rfl, trivial⟩⟩⟩⟩⟩⟩)
    · rw [if_neg hc] at h ⊢
      refine px_iload dX12_couples_181 rfl ?_
      refine px_istore (ls2 := [some (.ref 329), none, none, none, none, some (.int x5), some (.long z1), none, some (.int (x8 + (1 : Int32))), some (.int x10), some (.int x10), some (.long t0), none]) dX12_couples_183 (by decide) rfl ?_
      refine px_iinc (v := x10 + (1 : Int32)) (ls2 := [some (.ref 329), none, none, none, none, some (.int x5), some (.long z1), none, some (.int (x8 + (1 : Int32))), some (.int x10), some (.int (x10 + (1 : Int32))), some (.long t0), none]) dX12_couples_185 rfl rfl (by decide) rfl ?_
      refine px_goto (tgt := 108) dX12_couples_188 (by decide) ?_
      exact PAt.forget h (lsub_at ⟨rfl, ⟨rfl, ⟨rfl, ⟨rfl, ⟨rfl, ⟨rfl, trivial⟩⟩⟩⟩⟩⟩)
  · rw [if_neg hc] at h ⊢
    refine px_goto (tgt := 185) dX12_couples_163 (by decide) ?_
    refine px_iinc (v := x10 + (1 : Int32)) (ls2 := [some (.ref 329), none, none, none, none, some (.int x5), some (.long y6), none, some (.int x8), some (.int x9), some (.int (x10 + (1 : Int32))), some (.long t0), none]) dX12_couples_185 rfl rfl (by decide) rfl ?_
    refine px_goto (tgt := 108) dX12_couples_188 (by decide) ?_
    exact PAt.forget h (lsub_at ⟨rfl, ⟨rfl, ⟨rfl, ⟨rfl, ⟨rfl, ⟨rfl, trivial⟩⟩⟩⟩⟩⟩)
def f_X12_weight (x1 : Int32) (x2 : Int32) (gi : Gi) (gl : Gl) (Q : Int32 → Gi → Gl → Prop) : Prop :=
p_X12_within x1 (0 : Int32) (11 : Int32) gi gl (fun (r3 : Int32) (gi1 : Gi) (gl2 : Gl) =>
if r3 = 0 then
(Q (0 : Int32) gi1 gl2)
else
(p_X12_within x2 (0 : Int32) (99 : Int32) gi1 gl2 (fun (r6 : Int32) (gi4 : Gi) (gl5 : Gl) =>
if ¬ r6 = 0 then
(vp_in x1 60 ∧
∀ gi7 : Gi, gi7 = uI gi4 362 (upd (gi4 362) x1.toNatClampNeg x2) →
Q (1 : Int32) gi7 gl5)
else
(Q (0 : Int32) gi4 gl5))))
set_option maxRecDepth 100000 in
theorem v_X12_weight {x1 : Int32} {x2 : Int32} {gi : Gi} {gl : Gl} {Q : Int32 → Gi → Gl → Prop}  (h : f_X12_weight x1 x2 gi gl Q) : p_X12_weight x1 x2 gi gl Q := by
  unfold f_X12_weight at h
  show PAt mX12_weight NN NN κF 0 [some (.ref 329), some (.int x1), some (.int x2)] [] gi gl _
  refine px_iload_n dX12_weight_0 rfl rfl ?_
  refine px_iconst (v := (0 : Int32)) dX12_weight_1 (by decide) ?_
  refine px_bipush (v := (11 : Int32)) dX12_weight_2 (by decide) ?_
  refine px_callS_I (As := [.int x1, .int (0 : Int32), .int (11 : Int32)]) (st := []) dX12_weight_4 lk_X12_189.1 lk_X12_189.2 (by decide) rfl (Nat.le_of_ble_eq_true rfl) rfl rfl (Nat.le_of_ble_eq_true rfl) ⟨Nat.le_refl _, Nat.le_refl _, Nat.le_refl _⟩ ?_
  refine PAt.mono h (fun v κ gi1 gl2 hq => ?_)
  obtain ⟨rfl, r3, rfl, h⟩ := hq
  refine px_if_eq (tgt := 20) dX12_weight_7 (by decide) ?_
  by_cases hc : r3 = 0
  · rw [if_pos hc] at h ⊢
    refine px_iconst (v := (0 : Int32)) dX12_weight_20 (by decide) ?_
    exact px_ireturn dX12_weight_21 rfl ⟨.boolean, rfl, rfl, by decide⟩ ⟨rfl, _, rfl, h⟩
  · rw [if_neg hc] at h ⊢
    refine px_iload_n dX12_weight_10 rfl rfl ?_
    refine px_iconst (v := (0 : Int32)) dX12_weight_11 (by decide) ?_
    refine px_bipush (v := (99 : Int32)) dX12_weight_12 (by decide) ?_
    refine px_callS_I (As := [.int x2, .int (0 : Int32), .int (99 : Int32)]) (st := []) dX12_weight_14 lk_X12_189.1 lk_X12_189.2 (by decide) rfl (Nat.le_of_ble_eq_true rfl) rfl rfl (Nat.le_of_ble_eq_true rfl) ⟨Nat.le_refl _, Nat.le_refl _, Nat.le_refl _⟩ ?_
    refine PAt.mono h (fun v κ gi4 gl5 hq => ?_)
    obtain ⟨rfl, r6, rfl, h⟩ := hq
    refine px_if_ne (tgt := 22) dX12_weight_17 (by decide) ?_
    by_cases hc : ¬ r6 = 0
    · rw [if_pos hc] at h ⊢
      refine px_aload_n dX12_weight_22 rfl rfl ?_
      refine gf_X12_107 rfl dX12_weight_23 zl_329 zk_329 rfl zr_329_34 zl_362 ?_
      refine px_iload_n dX12_weight_26 rfl rfl ?_
      refine px_iload_n dX12_weight_27 rfl rfl ?_
      obtain ⟨hi, h⟩ := h
      refine px_iastore (n := 60) dX12_weight_28 zl_362 zk_362 zs_362 hi ?_
      obtain ⟨gi7, hgi7⟩ : ∃ y : Gi, y = uI gi4 362 (upd (gi4 362) x1.toNatClampNeg x2) := ⟨_, rfl⟩
      have h := h gi7 hgi7
      refine px_namegi hgi7 ?_
      refine px_iconst (v := (1 : Int32)) dX12_weight_29 (by decide) ?_
      exact px_ireturn dX12_weight_30 rfl ⟨.boolean, rfl, rfl, by decide⟩ ⟨rfl, _, rfl, h⟩
    · rw [if_neg hc] at h ⊢
      refine px_iconst (v := (0 : Int32)) dX12_weight_20 (by decide) ?_
      exact px_ireturn dX12_weight_21 rfl ⟨.boolean, rfl, rfl, by decide⟩ ⟨rfl, _, rfl, h⟩
abbrev p_X12_likely_37 (x2 : Int32) (y3 : Int64) (y5 : Int64) (x7 : Int32) (x8 : Int32) (gi : Gi) (gl : Gl) (Q : Int64 → Gi → Gl → Prop) : Prop := PAt mX12_likely NN NN κF 37 [some (.ref 329), none, some (.int x2), some (.long y3), none, some (.long y5), none, some (.int x7), some (.int x8), none, none] [] gi gl (RlQ Q)
def f_X12_likely (x1 : Int32) (x2 : Int32) (gi : Gi) (gl : Gl) (Q : Int64 → Gi → Gl → Prop) : Prop :=
p_X12_isPicture x1 gi gl (fun (r3 : Int32) (gi1 : Gi) (gl2 : Gl) =>
if r3 = 0 then
(Q ((-1) : Int64) gi1 gl2)
else
(p_X12_within x2 (0 : Int32) (2 : Int32) gi1 gl2 (fun (r6 : Int32) (gi4 : Gi) (gl5 : Gl) =>
if ¬ r6 = 0 then
(p_X12_finds x1 gi4 gl5 (fun (gi7 : Gi) (gl8 : Gl) =>
p_X12_likely_37 x2 (0 : Int64) (0 : Int64) ((-1) : Int32) (0 : Int32) gi7 gl8 Q))
else
(Q ((-1) : Int64) gi4 gl5))))
def f_X12_likely_37 (x2 : Int32) (y3 : Int64) (y5 : Int64) (x7 : Int32) (x8 : Int32) (gi : Gi) (gl : Gl) (Q : Int64 → Gi → Gl → Prop) : Prop :=
if (3600 : Int32) ≤ x8 then
(if 0 ≤ x7 then
(p_X12_divisor y5 y3 gi gl (fun (r3 : Int64) (gi1 : Gi) (gl2 : Gl) =>
if ¬ x2 = 0 then
(if ¬ x2 = (1 : Int32) then
(¬ r3 = 0 ∧
Q (y3 / r3) gi1 gl2)
else
(¬ r3 = 0 ∧
Q (y5 / r3) gi1 gl2))
else
(Q x7.toInt64 gi1 gl2)))
else
(Q ((-1) : Int64) gi gl))
else
(p_X12_minutesOn x8 gi gl (fun (r6 : Int32) (gi4 : Gi) (gl5 : Gl) =>
vp_in ((jr x8 (360 : Int32)) / (30 : Int32)) 60 ∧
∀ z7 : Int64, z7 = r6.toInt64 * ((gi4 362 ((jr x8 (360 : Int32)) / (30 : Int32)).toNatClampNeg).toInt64) →
∀ z8 : Int64, z8 = y3 + z7 →
if y5 < z7 then
(p_X12_likely_37 x2 z8 z7 x8 (x8 + (1 : Int32)) gi4 gl5 Q)
else
(p_X12_likely_37 x2 z8 y5 x7 (x8 + (1 : Int32)) gi4 gl5 Q)))
set_option maxRecDepth 100000 in
theorem v_X12_likely {x1 : Int32} {x2 : Int32} {gi : Gi} {gl : Gl} {Q : Int64 → Gi → Gl → Prop}  (h : f_X12_likely x1 x2 gi gl Q) : p_X12_likely x1 x2 gi gl Q := by
  unfold f_X12_likely at h
  show PAt mX12_likely NN NN κF 0 [some (.ref 329), some (.int x1), some (.int x2), none, none, none, none, none, none, none, none] [] gi gl _
  refine px_aload_n dX12_likely_0 rfl rfl ?_
  refine px_iload_n dX12_likely_1 rfl rfl ?_
  refine px_callV_I (As := [.int x1]) (st := []) dX12_likely_2 lk_X12_347.1 lk_X12_347.2 (b := 329) zl_329 zk_329 (by decide) rfl (by decide) rfl (Nat.le_of_ble_eq_true rfl) rfl rfl (Nat.le_of_ble_eq_true rfl) ⟨Nat.le_refl _, Nat.le_refl _, Nat.le_refl _⟩ ?_
  refine PAt.mono h (fun v κ gi1 gl2 hq => ?_)
  obtain ⟨rfl, r3, rfl, h⟩ := hq
  refine px_if_eq (tgt := 17) dX12_likely_5 (by decide) ?_
  by_cases hc : r3 = 0
  · rw [if_pos hc] at h ⊢
    refine px_ldc2 (v := ((-1) : Int64)) dX12_likely_17 w_1408 ?_
    exact px_lreturn dX12_likely_20 rfl rfl ⟨rfl, _, rfl, h⟩
  · rw [if_neg hc] at h ⊢
    refine px_iload_n dX12_likely_8 rfl rfl ?_
    refine px_iconst (v := (0 : Int32)) dX12_likely_9 (by decide) ?_
    refine px_iconst (v := (2 : Int32)) dX12_likely_10 (by decide) ?_
    refine px_callS_I (As := [.int x2, .int (0 : Int32), .int (2 : Int32)]) (st := []) dX12_likely_11 lk_X12_189.1 lk_X12_189.2 (by decide) rfl (Nat.le_of_ble_eq_true rfl) rfl rfl (Nat.le_of_ble_eq_true rfl) ⟨Nat.le_refl _, Nat.le_refl _, Nat.le_refl _⟩ ?_
    refine PAt.mono h (fun v κ gi4 gl5 hq => ?_)
    obtain ⟨rfl, r6, rfl, h⟩ := hq
    refine px_if_ne (tgt := 21) dX12_likely_14 (by decide) ?_
    by_cases hc : ¬ r6 = 0
    · rw [if_pos hc] at h ⊢
      refine px_aload_n dX12_likely_21 rfl rfl ?_
      refine px_iload_n dX12_likely_22 rfl rfl ?_
      refine px_callV_V (As := [.int x1]) (st := []) dX12_likely_23 lk_X12_414.1 lk_X12_414.2 (b := 329) zl_329 zk_329 (by decide) rfl (by decide) rfl (Nat.le_of_ble_eq_true rfl) rfl rfl (Nat.le_of_ble_eq_true rfl) ⟨Nat.le_refl _, Nat.le_refl _, Nat.le_refl _⟩ ?_
      refine PAt.mono h (fun v κ gi7 gl8 hq => ?_)
      obtain ⟨rfl, -, h⟩ := hq
      refine px_lconst (v := (0 : Int64)) dX12_likely_26 (by decide) ?_
      refine px_lstore_n (ls2 := [some (.ref 329), some (.int x1), some (.int x2), some (.long (0 : Int64)), none, none, none, none, none, none, none]) (i := 3) rfl dX12_likely_27 (by decide) rfl ?_
      refine px_lconst (v := (0 : Int64)) dX12_likely_28 (by decide) ?_
      refine px_lstore (ls2 := [some (.ref 329), some (.int x1), some (.int x2), some (.long (0 : Int64)), none, some (.long (0 : Int64)), none, none, none, none, none]) dX12_likely_29 (by decide) rfl ?_
      refine px_iconst (v := ((-1) : Int32)) dX12_likely_31 (by decide) ?_
      refine px_istore (ls2 := [some (.ref 329), some (.int x1), some (.int x2), some (.long (0 : Int64)), none, some (.long (0 : Int64)), none, some (.int ((-1) : Int32)), none, none, none]) dX12_likely_32 (by decide) rfl ?_
      refine px_iconst (v := (0 : Int32)) dX12_likely_34 (by decide) ?_
      refine px_istore (ls2 := [some (.ref 329), some (.int x1), some (.int x2), some (.long (0 : Int64)), none, some (.long (0 : Int64)), none, some (.int ((-1) : Int32)), some (.int (0 : Int32)), none, none]) dX12_likely_35 (by decide) rfl ?_
      exact PAt.forget h (lsub_at ⟨rfl, ⟨rfl, ⟨rfl, ⟨rfl, ⟨rfl, ⟨rfl, trivial⟩⟩⟩⟩⟩⟩)
    · rw [if_neg hc] at h ⊢
      refine px_ldc2 (v := ((-1) : Int64)) dX12_likely_17 w_1408 ?_
      exact px_lreturn dX12_likely_20 rfl rfl ⟨rfl, _, rfl, h⟩
set_option maxRecDepth 100000 in
theorem v_X12_likely_37 {x2 : Int32} {y3 : Int64} {y5 : Int64} {x7 : Int32} {x8 : Int32} {gi : Gi} {gl : Gl} {Q : Int64 → Gi → Gl → Prop}  (h : f_X12_likely_37 x2 y3 y5 x7 x8 gi gl Q) : p_X12_likely_37 x2 y3 y5 x7 x8 gi gl Q := by
  unfold f_X12_likely_37 at h
  show PAt mX12_likely NN NN κF 37 [some (.ref 329), none, some (.int x2), some (.long y3), none, some (.long y5), none, some (.int x7), some (.int x8), none, none] [] gi gl _
  refine px_iload dX12_likely_37 rfl ?_
  refine px_sipush (v := (3600 : Int32)) dX12_likely_39 (by decide) ?_
  refine px_icmp_ge (tgt := 100) dX12_likely_42 (by decide) ?_
  by_cases hc : (3600 : Int32) ≤ x8
  · rw [if_pos hc] at h ⊢
    refine px_iload dX12_likely_100 rfl ?_
    refine px_if_ge (tgt := 109) dX12_likely_102 (by decide) ?_
    by_cases hc : 0 ≤ x7
    · rw [if_pos hc] at h ⊢
      refine px_lload dX12_likely_109 rfl ?_
      refine px_lload_n dX12_likely_111 rfl rfl ?_
      refine px_callS_L (As := [.long y5, .long y3]) (st := []) dX12_likely_112 lk_X12_370.1 lk_X12_370.2 (by decide) rfl (Nat.le_of_ble_eq_true rfl) rfl rfl (Nat.le_of_ble_eq_true rfl) ⟨Nat.le_refl _, Nat.le_refl _, Nat.le_refl _⟩ ?_
      refine PAt.mono h (fun v κ gi1 gl2 hq => ?_)
      obtain ⟨rfl, r3, rfl, h⟩ := hq
      refine px_lstore (ls2 := [some (.ref 329), none, some (.int x2), some (.long y3), none, some (.long y5), none, some (.int x7), some (.long r3), none, none]) dX12_likely_115 (by decide) rfl ?_
      refine px_iload_n dX12_likely_117 rfl rfl ?_
      refine px_if_ne (tgt := 127) dX12_likely_118 (by decide) ?_
      by_cases hc : ¬ x2 = 0
      · rw [if_pos hc] at h ⊢
        refine px_iload_n dX12_likely_127 rfl rfl ?_
        refine px_iconst (v := (1 : Int32)) dX12_likely_128 (by decide) ?_
        refine px_icmp_ne (tgt := 140) dX12_likely_129 (by decide) ?_
        by_cases hc : ¬ x2 = (1 : Int32)
        · rw [if_pos hc] at h ⊢
          refine px_lload_n dX12_likely_140 rfl rfl ?_
          refine px_lload dX12_likely_141 rfl ?_
          obtain ⟨hne, h⟩ := h
          refine px_ldiv dX12_likely_143 hne ?_
          exact px_lreturn dX12_likely_144 rfl rfl ⟨rfl, _, rfl, h⟩
        · rw [if_neg hc] at h ⊢
          refine px_lload dX12_likely_132 rfl ?_
          refine px_lload dX12_likely_134 rfl ?_
          obtain ⟨hne, h⟩ := h
          refine px_ldiv dX12_likely_136 hne ?_
          refine px_goto (tgt := 144) dX12_likely_137 (by decide) ?_
          exact px_lreturn dX12_likely_144 rfl rfl ⟨rfl, _, rfl, h⟩
      · rw [if_neg hc] at h ⊢
        refine px_iload dX12_likely_121 rfl ?_
        refine px_i2l dX12_likely_123 ?_
        refine px_goto (tgt := 144) dX12_likely_124 (by decide) ?_
        exact px_lreturn dX12_likely_144 rfl rfl ⟨rfl, _, rfl, h⟩
    · rw [if_neg hc] at h ⊢
      refine px_ldc2 (v := ((-1) : Int64)) dX12_likely_105 w_1408 ?_
      exact px_lreturn dX12_likely_108 rfl rfl ⟨rfl, _, rfl, h⟩
  · rw [if_neg hc] at h ⊢
    refine px_aload_n dX12_likely_45 rfl rfl ?_
    refine px_iload dX12_likely_46 rfl ?_
    refine px_callV_I (As := [.int x8]) (st := []) dX12_likely_48 lk_X12_405.1 lk_X12_405.2 (b := 329) zl_329 zk_329 (by decide) rfl (by decide) rfl (Nat.le_of_ble_eq_true rfl) rfl rfl (Nat.le_of_ble_eq_true rfl) ⟨Nat.le_refl _, Nat.le_refl _, Nat.le_refl _⟩ ?_
    refine PAt.mono h (fun v κ gi4 gl5 hq => ?_)
    obtain ⟨rfl, r6, rfl, h⟩ := hq
    refine px_i2l dX12_likely_51 ?_
    refine px_aload_n dX12_likely_52 rfl rfl ?_
    refine gf_X12_107 rfl dX12_likely_53 zl_329 zk_329 rfl zr_329_34 zl_362 ?_
    refine px_iload dX12_likely_56 rfl ?_
    refine px_sipush (v := (360 : Int32)) dX12_likely_58 (by decide) ?_
    refine px_irem dX12_likely_61 (by decide) ?_
    refine px_bipush (v := (30 : Int32)) dX12_likely_62 (by decide) ?_
    refine px_idiv dX12_likely_64 (by decide) ?_
    obtain ⟨hi, h⟩ := h
    refine px_iaload (n := 60) dX12_likely_65 zl_362 zk_362 zs_362 hi ?_
    refine px_i2l dX12_likely_66 ?_
    refine px_lmul dX12_likely_67 ?_
    obtain ⟨z7, hz7⟩ : ∃ y : Int64, y = r6.toInt64 * ((gi4 362 ((jr x8 (360 : Int32)) / (30 : Int32)).toNatClampNeg).toInt64) := ⟨_, rfl⟩
    have h := h z7 hz7
    refine px_namel hz7 ?_
    refine px_lstore (ls2 := [some (.ref 329), none, some (.int x2), some (.long y3), none, some (.long y5), none, some (.int x7), some (.int x8), some (.long z7), none]) dX12_likely_68 (by decide) rfl ?_
    refine px_lload_n dX12_likely_70 rfl rfl ?_
    refine px_lload dX12_likely_71 rfl ?_
    refine px_ladd dX12_likely_73 ?_
    obtain ⟨z8, hz8⟩ : ∃ y : Int64, y = y3 + z7 := ⟨_, rfl⟩
    have h := h z8 hz8
    refine px_namel hz8 ?_
    refine px_lstore_n (ls2 := [some (.ref 329), none, some (.int x2), some (.long z8), none, some (.long y5), none, some (.int x7), some (.int x8), some (.long z7), none]) (i := 3) rfl dX12_likely_74 (by decide) rfl ?_
    refine px_lload dX12_likely_75 rfl ?_
    refine px_lload dX12_likely_77 rfl ?_
    refine px_lc_gt (tgt := 86) dX12_likely_79 dX12_likely_80 (by decide) ?_
    by_cases hc : y5 < z7
    · rw [if_pos hc] at h ⊢
      refine px_lload dX12_likely_86 rfl ?_
      refine px_lstore (ls2 := [some (.ref 329), none, some (.int x2), some (.long z8), none, some (.long z7), none, some (.int x7), some (.int x8), some (.long z7), none]) dX12_likely_88 (by decide) rfl ?_
      refine px_iload dX12_likely_90 rfl ?_
      refine px_istore (ls2 := [some (.ref 329), none, some (.int x2), some (.long z8), none, some (.long z7), none, some (.int x8), some (.int x8), some (.long z7), none]) dX12_likely_92 (by decide) rfl ?_
      refine px_iinc (v := x8 + (1 : Int32)) (ls2 := [some (.ref 329), none, some (.int x2), some (.long z8), none, some (.long z7), none, some (.int x8), some (.int (x8 + (1 : Int32))), some (.long z7), none]) dX12_likely_94 rfl rfl (by decide) rfl ?_
      refine px_goto (tgt := 37) dX12_likely_97 (by decide) ?_
      exact PAt.forget h (lsub_at ⟨rfl, ⟨rfl, ⟨rfl, ⟨rfl, ⟨rfl, ⟨rfl, trivial⟩⟩⟩⟩⟩⟩)
    · rw [if_neg hc] at h ⊢
      refine px_goto (tgt := 94) dX12_likely_83 (by decide) ?_
      refine px_iinc (v := x8 + (1 : Int32)) (ls2 := [some (.ref 329), none, some (.int x2), some (.long z8), none, some (.long y5), none, some (.int x7), some (.int (x8 + (1 : Int32))), some (.long z7), none]) dX12_likely_94 rfl rfl (by decide) rfl ?_
      refine px_goto (tgt := 37) dX12_likely_97 (by decide) ?_
      exact PAt.forget h (lsub_at ⟨rfl, ⟨rfl, ⟨rfl, ⟨rfl, ⟨rfl, ⟨rfl, trivial⟩⟩⟩⟩⟩⟩)
abbrev p_X12_looks_61 (x1 : Int32) (x2 : Int32) (x3 : Int32) (x4 : Int32) (x5 : Int32) (gi : Gi) (gl : Gl) (Q : Gi → Gl → Prop) : Prop := PAt mX12_looks NN NN κF 61 [some (.ref 329), some (.int x1), some (.int x2), some (.int x3), some (.int x4), some (.int x5), none] [] gi gl (RvQ Q)
abbrev p_X12_looks_108 (x1 : Int32) (x5 : Int32) (x6 : Int32) (gi : Gi) (gl : Gl) (Q : Gi → Gl → Prop) : Prop := PAt mX12_looks NN NN κF 108 [some (.ref 329), some (.int x1), none, none, none, some (.int x5), some (.int x6)] [] gi gl (RvQ Q)
def f_X12_looks (x1 : Int32) (x2 : Int32) (gi : Gi) (gl : Gl) (Q : Gi → Gl → Prop) : Prop :=
∀ z1 : Int32, z1 = ((12 : Int32) * (gi 329 0)) + x2 →
vp_in z1 24 ∧
vp_in z1 24 ∧
∀ z2 : Int32, z2 = (gi 340 z1.toNatClampNeg) - (gi 341 z1.toNatClampNeg) →
vp_in z1 24 ∧
vp_in z1 24 ∧
∀ z3 : Int32, z3 = (gi 340 z1.toNatClampNeg) + (gi 341 z1.toNatClampNeg) →
if 0 ≤ z2 then
(if z3 ≤ (3599 : Int32) then
(p_X12_looks_61 x1 x2 z1 z2 z3 gi gl Q)
else
(p_X12_looks_61 x1 x2 z1 z2 (3599 : Int32) gi gl Q))
else
(if z3 ≤ (3599 : Int32) then
(p_X12_looks_61 x1 x2 z1 (0 : Int32) z3 gi gl Q)
else
(p_X12_looks_61 x1 x2 z1 (0 : Int32) (3599 : Int32) gi gl Q))
def f_X12_looks_61 (x1 : Int32) (x2 : Int32) (x3 : Int32) (x4 : Int32) (x5 : Int32) (gi : Gi) (gl : Gl) (Q : Gi → Gl → Prop) : Prop :=
vp_in x3 24 ∧
if (gi 342 x3.toNatClampNeg) < 0 then
(∀ gl1 : Gl, gl1 = uL gl 329 (vp_updL (gl 329) 62 (0 : Int64)) →
∀ gi2 : Gi, gi2 = uI gi 329 (upd (gi 329) 63 (0 : Int32)) →
∀ gi3 : Gi, gi3 = uI gi2 329 (upd (gi2 329) 50 x2) →
p_X12_looks_108 x1 x5 x4 gi3 gl1 Q)
else
(vp_in x3 24 ∧
if x5 ≤ (gi 342 x3.toNatClampNeg) then
(∀ gl4 : Gl, gl4 = uL gl 329 (vp_updL (gl 329) 62 (0 : Int64)) →
∀ gi5 : Gi, gi5 = uI gi 329 (upd (gi 329) 63 (0 : Int32)) →
∀ gi6 : Gi, gi6 = uI gi5 329 (upd (gi5 329) 50 x2) →
p_X12_looks_108 x1 x5 x4 gi6 gl4 Q)
else
(vp_in x3 24 ∧
∀ z7 : Int32, z7 = gi 342 x3.toNatClampNeg →
∀ gl8 : Gl, gl8 = uL gl 329 (vp_updL (gl 329) 62 (0 : Int64)) →
∀ gi9 : Gi, gi9 = uI gi 329 (upd (gi 329) 63 (0 : Int32)) →
∀ gi10 : Gi, gi10 = uI gi9 329 (upd (gi9 329) 50 x2) →
p_X12_looks_108 x1 z7 x4 gi10 gl8 Q))
def f_X12_looks_108 (x1 : Int32) (x5 : Int32) (x6 : Int32) (gi : Gi) (gl : Gl) (Q : Gi → Gl → Prop) : Prop :=
if x5 < x6 then
(∀ gi1 : Gi, gi1 = uI gi 329 (upd (gi 329) 50 ((-1) : Int32)) →
Q gi1 gl)
else
(∀ gi2 : Gi, gi2 = uI gi 329 (upd (gi 329) 51 x6) →
p_X12_findDays x1 gi2 gl (fun (gi3 : Gi) (gl4 : Gl) =>
p_X12_moments  gi3 gl4 (fun (r7 : Int32) (gi5 : Gi) (gl6 : Gl) =>
∀ gl8 : Gl, gl8 = uL gl6 329 (vp_updL (gl6 329) 62 ((gl4 329 62) + r7.toInt64)) →
∀ gi9 : Gi, gi9 = uI gi5 329 (upd (gi5 329) 63 ((gi5 329 63) + (1 : Int32))) →
p_X12_looks_108 x1 x5 (x6 + (1 : Int32)) gi9 gl8 Q)))
set_option maxRecDepth 100000 in
theorem v_X12_looks {x1 : Int32} {x2 : Int32} {gi : Gi} {gl : Gl} {Q : Gi → Gl → Prop}  (h : f_X12_looks x1 x2 gi gl Q) : p_X12_looks x1 x2 gi gl Q := by
  unfold f_X12_looks at h
  show PAt mX12_looks NN NN κF 0 [some (.ref 329), some (.int x1), some (.int x2), none, none, none, none] [] gi gl _
  refine px_bipush (v := (12 : Int32)) dX12_looks_0 (by decide) ?_
  refine px_aload_n dX12_looks_2 rfl rfl ?_
  refine gf_X12_312 rfl dX12_looks_3 zl_329 zk_329 ?_
  refine px_imul dX12_looks_6 ?_
  refine px_iload_n dX12_looks_7 rfl rfl ?_
  refine px_iadd dX12_looks_8 ?_
  obtain ⟨z1, hz1⟩ : ∃ y : Int32, y = ((12 : Int32) * (gi 329 0)) + x2 := ⟨_, rfl⟩
  have h := h z1 hz1
  refine px_namei hz1 ?_
  refine px_istore_n (ls2 := [some (.ref 329), some (.int x1), some (.int x2), some (.int z1), none, none, none]) (i := 3) rfl dX12_looks_9 (by decide) rfl ?_
  refine px_aload_n dX12_looks_10 rfl rfl ?_
  refine gf_X12_41 rfl dX12_looks_11 zl_329 zk_329 rfl zr_329_12 zl_340 ?_
  refine px_iload_n dX12_looks_14 rfl rfl ?_
  obtain ⟨hi, h⟩ := h
  refine px_iaload (n := 24) dX12_looks_15 zl_340 zk_340 zs_340 hi ?_
  refine px_aload_n dX12_looks_16 rfl rfl ?_
  refine gf_X12_44 rfl dX12_looks_17 zl_329 zk_329 rfl zr_329_13 zl_341 ?_
  refine px_iload_n dX12_looks_20 rfl rfl ?_
  obtain ⟨hi, h⟩ := h
  refine px_iaload (n := 24) dX12_looks_21 zl_341 zk_341 zs_341 hi ?_
  refine px_isub dX12_looks_22 ?_
  obtain ⟨z2, hz2⟩ : ∃ y : Int32, y = (gi 340 z1.toNatClampNeg) - (gi 341 z1.toNatClampNeg) := ⟨_, rfl⟩
  have h := h z2 hz2
  refine px_namei hz2 ?_
  refine px_istore (ls2 := [some (.ref 329), some (.int x1), some (.int x2), some (.int z1), some (.int z2), none, none]) dX12_looks_23 (by decide) rfl ?_
  refine px_aload_n dX12_looks_25 rfl rfl ?_
  refine gf_X12_41 rfl dX12_looks_26 zl_329 zk_329 rfl zr_329_12 zl_340 ?_
  refine px_iload_n dX12_looks_29 rfl rfl ?_
  obtain ⟨hi, h⟩ := h
  refine px_iaload (n := 24) dX12_looks_30 zl_340 zk_340 zs_340 hi ?_
  refine px_aload_n dX12_looks_31 rfl rfl ?_
  refine gf_X12_44 rfl dX12_looks_32 zl_329 zk_329 rfl zr_329_13 zl_341 ?_
  refine px_iload_n dX12_looks_35 rfl rfl ?_
  obtain ⟨hi, h⟩ := h
  refine px_iaload (n := 24) dX12_looks_36 zl_341 zk_341 zs_341 hi ?_
  refine px_iadd dX12_looks_37 ?_
  obtain ⟨z3, hz3⟩ : ∃ y : Int32, y = (gi 340 z1.toNatClampNeg) + (gi 341 z1.toNatClampNeg) := ⟨_, rfl⟩
  have h := h z3 hz3
  refine px_namei hz3 ?_
  refine px_istore (ls2 := [some (.ref 329), some (.int x1), some (.int x2), some (.int z1), some (.int z2), some (.int z3), none]) dX12_looks_38 (by decide) rfl ?_
  refine px_iload dX12_looks_40 rfl ?_
  refine px_if_ge (tgt := 48) dX12_looks_42 (by decide) ?_
  by_cases hc : 0 ≤ z2
  · rw [if_pos hc] at h ⊢
    refine px_iload dX12_looks_48 rfl ?_
    refine px_sipush (v := (3599 : Int32)) dX12_looks_50 (by decide) ?_
    refine px_icmp_le (tgt := 61) dX12_looks_53 (by decide) ?_
    by_cases hc : z3 ≤ (3599 : Int32)
    · rw [if_pos hc] at h ⊢
      exact PAt.forget h (lsub_at ⟨rfl, ⟨rfl, ⟨rfl, ⟨rfl, ⟨rfl, ⟨rfl, trivial⟩⟩⟩⟩⟩⟩)
    · rw [if_neg hc] at h ⊢
      refine px_sipush (v := (3599 : Int32)) dX12_looks_56 (by decide) ?_
      refine px_istore (ls2 := [some (.ref 329), some (.int x1), some (.int x2), some (.int z1), some (.int z2), some (.int (3599 : Int32)), none]) dX12_looks_59 (by decide) rfl ?_
      exact PAt.forget h (lsub_at ⟨rfl, ⟨rfl, ⟨rfl, ⟨rfl, ⟨rfl, ⟨rfl, trivial⟩⟩⟩⟩⟩⟩)
  · rw [if_neg hc] at h ⊢
    refine px_iconst (v := (0 : Int32)) dX12_looks_45 (by decide) ?_
    refine px_istore (ls2 := [some (.ref 329), some (.int x1), some (.int x2), some (.int z1), some (.int (0 : Int32)), some (.int z3), none]) dX12_looks_46 (by decide) rfl ?_
    refine px_iload dX12_looks_48 rfl ?_
    refine px_sipush (v := (3599 : Int32)) dX12_looks_50 (by decide) ?_
    refine px_icmp_le (tgt := 61) dX12_looks_53 (by decide) ?_
    by_cases hc : z3 ≤ (3599 : Int32)
    · rw [if_pos hc] at h ⊢
      exact PAt.forget h (lsub_at ⟨rfl, ⟨rfl, ⟨rfl, ⟨rfl, ⟨rfl, ⟨rfl, trivial⟩⟩⟩⟩⟩⟩)
    · rw [if_neg hc] at h ⊢
      refine px_sipush (v := (3599 : Int32)) dX12_looks_56 (by decide) ?_
      refine px_istore (ls2 := [some (.ref 329), some (.int x1), some (.int x2), some (.int z1), some (.int (0 : Int32)), some (.int (3599 : Int32)), none]) dX12_looks_59 (by decide) rfl ?_
      exact PAt.forget h (lsub_at ⟨rfl, ⟨rfl, ⟨rfl, ⟨rfl, ⟨rfl, ⟨rfl, trivial⟩⟩⟩⟩⟩⟩)
set_option maxRecDepth 100000 in
theorem v_X12_looks_61 {x1 : Int32} {x2 : Int32} {x3 : Int32} {x4 : Int32} {x5 : Int32} {gi : Gi} {gl : Gl} {Q : Gi → Gl → Prop}  (h : f_X12_looks_61 x1 x2 x3 x4 x5 gi gl Q) : p_X12_looks_61 x1 x2 x3 x4 x5 gi gl Q := by
  unfold f_X12_looks_61 at h
  show PAt mX12_looks NN NN κF 61 [some (.ref 329), some (.int x1), some (.int x2), some (.int x3), some (.int x4), some (.int x5), none] [] gi gl _
  refine px_aload_n dX12_looks_61 rfl rfl ?_
  refine gf_X12_47 rfl dX12_looks_62 zl_329 zk_329 rfl zr_329_14 zl_342 ?_
  refine px_iload_n dX12_looks_65 rfl rfl ?_
  obtain ⟨hi, h⟩ := h
  refine px_iaload (n := 24) dX12_looks_66 zl_342 zk_342 zs_342 hi ?_
  refine px_if_lt (tgt := 89) dX12_looks_67 (by decide) ?_
  by_cases hc : (gi 342 x3.toNatClampNeg) < 0
  · rw [if_pos hc] at h ⊢
    refine px_aload_n dX12_looks_89 rfl rfl ?_
    refine px_lconst (v := (0 : Int64)) dX12_looks_90 (by decide) ?_
    refine pf_X12_463 rfl dX12_looks_91 zl_329 zk_329 ?_
    obtain ⟨gl1, hgl1⟩ : ∃ y : Gl, y = uL gl 329 (vp_updL (gl 329) 62 (0 : Int64)) := ⟨_, rfl⟩
    have h := h gl1 hgl1
    refine px_namegl hgl1 ?_
    refine px_aload_n dX12_looks_94 rfl rfl ?_
    refine px_iconst (v := (0 : Int32)) dX12_looks_95 (by decide) ?_
    refine pf_X12_466 rfl dX12_looks_96 zl_329 zk_329 ?_
    obtain ⟨gi2, hgi2⟩ : ∃ y : Gi, y = uI gi 329 (upd (gi 329) 63 (0 : Int32)) := ⟨_, rfl⟩
    have h := h gi2 hgi2
    refine px_namegi hgi2 ?_
    refine px_aload_n dX12_looks_99 rfl rfl ?_
    refine px_iload_n dX12_looks_100 rfl rfl ?_
    refine pf_X12_118 rfl dX12_looks_101 zl_329 zk_329 ?_
    obtain ⟨gi3, hgi3⟩ : ∃ y : Gi, y = uI gi2 329 (upd (gi2 329) 50 x2) := ⟨_, rfl⟩
    have h := h gi3 hgi3
    refine px_namegi hgi3 ?_
    refine px_iload dX12_looks_104 rfl ?_
    refine px_istore (ls2 := [some (.ref 329), some (.int x1), some (.int x2), some (.int x3), some (.int x4), some (.int x5), some (.int x4)]) dX12_looks_106 (by decide) rfl ?_
    exact PAt.forget h (lsub_at ⟨rfl, ⟨rfl, ⟨rfl, ⟨rfl, trivial⟩⟩⟩⟩)
  · rw [if_neg hc] at h ⊢
    refine px_iload dX12_looks_70 rfl ?_
    refine px_aload_n dX12_looks_72 rfl rfl ?_
    refine gf_X12_47 rfl dX12_looks_73 zl_329 zk_329 rfl zr_329_14 zl_342 ?_
    refine px_iload_n dX12_looks_76 rfl rfl ?_
    obtain ⟨hi, h⟩ := h
    refine px_iaload (n := 24) dX12_looks_77 zl_342 zk_342 zs_342 hi ?_
    refine px_icmp_le (tgt := 89) dX12_looks_78 (by decide) ?_
    by_cases hc : x5 ≤ (gi 342 x3.toNatClampNeg)
    · rw [if_pos hc] at h ⊢
      refine px_aload_n dX12_looks_89 rfl rfl ?_
      refine px_lconst (v := (0 : Int64)) dX12_looks_90 (by decide) ?_
      refine pf_X12_463 rfl dX12_looks_91 zl_329 zk_329 ?_
      obtain ⟨gl4, hgl4⟩ : ∃ y : Gl, y = uL gl 329 (vp_updL (gl 329) 62 (0 : Int64)) := ⟨_, rfl⟩
      have h := h gl4 hgl4
      refine px_namegl hgl4 ?_
      refine px_aload_n dX12_looks_94 rfl rfl ?_
      refine px_iconst (v := (0 : Int32)) dX12_looks_95 (by decide) ?_
      refine pf_X12_466 rfl dX12_looks_96 zl_329 zk_329 ?_
      obtain ⟨gi5, hgi5⟩ : ∃ y : Gi, y = uI gi 329 (upd (gi 329) 63 (0 : Int32)) := ⟨_, rfl⟩
      have h := h gi5 hgi5
      refine px_namegi hgi5 ?_
      refine px_aload_n dX12_looks_99 rfl rfl ?_
      refine px_iload_n dX12_looks_100 rfl rfl ?_
      refine pf_X12_118 rfl dX12_looks_101 zl_329 zk_329 ?_
      obtain ⟨gi6, hgi6⟩ : ∃ y : Gi, y = uI gi5 329 (upd (gi5 329) 50 x2) := ⟨_, rfl⟩
      have h := h gi6 hgi6
      refine px_namegi hgi6 ?_
      refine px_iload dX12_looks_104 rfl ?_
      refine px_istore (ls2 := [some (.ref 329), some (.int x1), some (.int x2), some (.int x3), some (.int x4), some (.int x5), some (.int x4)]) dX12_looks_106 (by decide) rfl ?_
      exact PAt.forget h (lsub_at ⟨rfl, ⟨rfl, ⟨rfl, ⟨rfl, trivial⟩⟩⟩⟩)
    · rw [if_neg hc] at h ⊢
      refine px_aload_n dX12_looks_81 rfl rfl ?_
      refine gf_X12_47 rfl dX12_looks_82 zl_329 zk_329 rfl zr_329_14 zl_342 ?_
      refine px_iload_n dX12_looks_85 rfl rfl ?_
      obtain ⟨hi, h⟩ := h
      refine px_iaload (n := 24) dX12_looks_86 zl_342 zk_342 zs_342 hi ?_
      obtain ⟨z7, hz7⟩ : ∃ y : Int32, y = gi 342 x3.toNatClampNeg := ⟨_, rfl⟩
      have h := h z7 hz7
      refine px_namei hz7 ?_
      refine px_istore (ls2 := [some (.ref 329), some (.int x1), some (.int x2), some (.int x3), some (.int x4), some (.int z7), none]) dX12_looks_87 (by decide) rfl ?_
      refine px_aload_n dX12_looks_89 rfl rfl ?_
      refine px_lconst (v := (0 : Int64)) dX12_looks_90 (by decide) ?_
      refine pf_X12_463 rfl dX12_looks_91 zl_329 zk_329 ?_
      obtain ⟨gl8, hgl8⟩ : ∃ y : Gl, y = uL gl 329 (vp_updL (gl 329) 62 (0 : Int64)) := ⟨_, rfl⟩
      have h := h gl8 hgl8
      refine px_namegl hgl8 ?_
      refine px_aload_n dX12_looks_94 rfl rfl ?_
      refine px_iconst (v := (0 : Int32)) dX12_looks_95 (by decide) ?_
      refine pf_X12_466 rfl dX12_looks_96 zl_329 zk_329 ?_
      obtain ⟨gi9, hgi9⟩ : ∃ y : Gi, y = uI gi 329 (upd (gi 329) 63 (0 : Int32)) := ⟨_, rfl⟩
      have h := h gi9 hgi9
      refine px_namegi hgi9 ?_
      refine px_aload_n dX12_looks_99 rfl rfl ?_
      refine px_iload_n dX12_looks_100 rfl rfl ?_
      refine pf_X12_118 rfl dX12_looks_101 zl_329 zk_329 ?_
      obtain ⟨gi10, hgi10⟩ : ∃ y : Gi, y = uI gi9 329 (upd (gi9 329) 50 x2) := ⟨_, rfl⟩
      have h := h gi10 hgi10
      refine px_namegi hgi10 ?_
      refine px_iload dX12_looks_104 rfl ?_
      refine px_istore (ls2 := [some (.ref 329), some (.int x1), some (.int x2), some (.int x3), some (.int x4), some (.int z7), some (.int x4)]) dX12_looks_106 (by decide) rfl ?_
      exact PAt.forget h (lsub_at ⟨rfl, ⟨rfl, ⟨rfl, ⟨rfl, trivial⟩⟩⟩⟩)
set_option maxRecDepth 100000 in
theorem v_X12_looks_108 {x1 : Int32} {x5 : Int32} {x6 : Int32} {gi : Gi} {gl : Gl} {Q : Gi → Gl → Prop}  (h : f_X12_looks_108 x1 x5 x6 gi gl Q) : p_X12_looks_108 x1 x5 x6 gi gl Q := by
  unfold f_X12_looks_108 at h
  show PAt mX12_looks NN NN κF 108 [some (.ref 329), some (.int x1), none, none, none, some (.int x5), some (.int x6)] [] gi gl _
  refine px_iload dX12_looks_108 rfl ?_
  refine px_iload dX12_looks_110 rfl ?_
  refine px_icmp_gt (tgt := 156) dX12_looks_112 (by decide) ?_
  by_cases hc : x5 < x6
  · rw [if_pos hc] at h ⊢
    refine px_aload_n dX12_looks_156 rfl rfl ?_
    refine px_iconst (v := ((-1) : Int32)) dX12_looks_157 (by decide) ?_
    refine pf_X12_118 rfl dX12_looks_158 zl_329 zk_329 ?_
    obtain ⟨gi1, hgi1⟩ : ∃ y : Gi, y = uI gi 329 (upd (gi 329) 50 ((-1) : Int32)) := ⟨_, rfl⟩
    have h := h gi1 hgi1
    refine px_namegi hgi1 ?_
    exact px_return dX12_looks_161 rfl rfl ⟨rfl, rfl, h⟩
  · rw [if_neg hc] at h ⊢
    refine px_aload_n dX12_looks_115 rfl rfl ?_
    refine px_iload dX12_looks_116 rfl ?_
    refine pf_X12_374 rfl dX12_looks_118 zl_329 zk_329 ?_
    obtain ⟨gi2, hgi2⟩ : ∃ y : Gi, y = uI gi 329 (upd (gi 329) 51 x6) := ⟨_, rfl⟩
    have h := h gi2 hgi2
    refine px_namegi hgi2 ?_
    refine px_aload_n dX12_looks_121 rfl rfl ?_
    refine px_iload_n dX12_looks_122 rfl rfl ?_
    refine px_callV_V (As := [.int x1]) (st := []) dX12_looks_123 lk_X12_408.1 lk_X12_408.2 (b := 329) zl_329 zk_329 (by decide) rfl (by decide) rfl (Nat.le_of_ble_eq_true rfl) rfl rfl (Nat.le_of_ble_eq_true rfl) ⟨Nat.le_refl _, Nat.le_refl _, Nat.le_refl _⟩ ?_
    refine PAt.mono h (fun v κ gi3 gl4 hq => ?_)
    obtain ⟨rfl, -, h⟩ := hq
    refine px_aload_n dX12_looks_126 rfl rfl ?_
    refine px_dup dX12_looks_127 rfl ?_
    refine gf_X12_463 rfl dX12_looks_128 zl_329 zk_329 ?_
    refine px_aload_n dX12_looks_131 rfl rfl ?_
    refine px_callV_I (As := []) (st := [.long (gl4 329 62), .ref 329]) dX12_looks_132 lk_X12_417.1 lk_X12_417.2 (b := 329) zl_329 zk_329 (by decide) rfl (by decide) rfl (Nat.le_of_ble_eq_true rfl) rfl rfl (Nat.le_of_ble_eq_true rfl) ⟨Nat.le_refl _, Nat.le_refl _, Nat.le_refl _⟩ ?_
    refine PAt.mono h (fun v κ gi5 gl6 hq => ?_)
    obtain ⟨rfl, r7, rfl, h⟩ := hq
    refine px_i2l dX12_looks_135 ?_
    refine px_ladd dX12_looks_136 ?_
    refine pf_X12_463 rfl dX12_looks_137 zl_329 zk_329 ?_
    obtain ⟨gl8, hgl8⟩ : ∃ y : Gl, y = uL gl6 329 (vp_updL (gl6 329) 62 ((gl4 329 62) + r7.toInt64)) := ⟨_, rfl⟩
    have h := h gl8 hgl8
    refine px_namegl hgl8 ?_
    refine px_aload_n dX12_looks_140 rfl rfl ?_
    refine px_dup dX12_looks_141 rfl ?_
    refine gf_X12_466 rfl dX12_looks_142 zl_329 zk_329 ?_
    refine px_iconst (v := (1 : Int32)) dX12_looks_145 (by decide) ?_
    refine px_iadd dX12_looks_146 ?_
    refine pf_X12_466 rfl dX12_looks_147 zl_329 zk_329 ?_
    obtain ⟨gi9, hgi9⟩ : ∃ y : Gi, y = uI gi5 329 (upd (gi5 329) 63 ((gi5 329 63) + (1 : Int32))) := ⟨_, rfl⟩
    have h := h gi9 hgi9
    refine px_namegi hgi9 ?_
    refine px_iinc (v := x6 + (1 : Int32)) (ls2 := [some (.ref 329), some (.int x1), none, none, none, some (.int x5), some (.int (x6 + (1 : Int32)))]) dX12_looks_150 rfl rfl (by decide) rfl ?_
    refine px_goto (tgt := 108) dX12_looks_153 (by decide) ?_
    exact PAt.forget h (lsub_at ⟨rfl, ⟨rfl, ⟨rfl, ⟨rfl, trivial⟩⟩⟩⟩)
def f_X12_look (x1 : Int32) (x2 : Int32) (x3 : Int32) (gi : Gi) (gl : Gl) (Q : Int64 → Gi → Gl → Prop) : Prop :=
p_X12_isPicture x1 gi gl (fun (r3 : Int32) (gi1 : Gi) (gl2 : Gl) =>
if r3 = 0 then
(Q ((-1) : Int64) gi1 gl2)
else
(vp_in (gi1 329 0) 2 ∧
p_X12_within x2 (0 : Int32) ((gi1 330 (gi1 329 0).toNatClampNeg) - (1 : Int32)) gi1 gl2 (fun (r6 : Int32) (gi4 : Gi) (gl5 : Gl) =>
if r6 = 0 then
(Q ((-1) : Int64) gi4 gl5)
else
(p_X12_within x3 (0 : Int32) (1 : Int32) gi4 gl5 (fun (r9 : Int32) (gi7 : Gi) (gl8 : Gl) =>
if r9 = 0 then
(Q ((-1) : Int64) gi7 gl8)
else
(vp_in (((12 : Int32) * (gi7 329 0)) + x2) 24 ∧
if ¬ (gi7 341 (((12 : Int32) * (gi7 329 0)) + x2).toNatClampNeg) = 0 then
(p_X12_findMinutes x1 gi7 gl8 (fun (gi10 : Gi) (gl11 : Gl) =>
p_X12_looks x1 x2 gi10 gl11 (fun (gi12 : Gi) (gl13 : Gl) =>
if ¬ x3 = 0 then
(Q ((gi12 329 63).toInt64) gi12 gl13)
else
(Q (gl13 329 62) gi12 gl13))))
else
(Q ((-1) : Int64) gi7 gl8)))))))
set_option maxRecDepth 100000 in
theorem v_X12_look {x1 : Int32} {x2 : Int32} {x3 : Int32} {gi : Gi} {gl : Gl} {Q : Int64 → Gi → Gl → Prop}  (h : f_X12_look x1 x2 x3 gi gl Q) : p_X12_look x1 x2 x3 gi gl Q := by
  unfold f_X12_look at h
  show PAt mX12_look NN NN κF 0 [some (.ref 329), some (.int x1), some (.int x2), some (.int x3)] [] gi gl _
  refine px_aload_n dX12_look_0 rfl rfl ?_
  refine px_iload_n dX12_look_1 rfl rfl ?_
  refine px_callV_I (As := [.int x1]) (st := []) dX12_look_2 lk_X12_347.1 lk_X12_347.2 (b := 329) zl_329 zk_329 (by decide) rfl (by decide) rfl (Nat.le_of_ble_eq_true rfl) rfl rfl (Nat.le_of_ble_eq_true rfl) ⟨Nat.le_refl _, Nat.le_refl _, Nat.le_refl _⟩ ?_
  refine PAt.mono h (fun v κ gi1 gl2 hq => ?_)
  obtain ⟨rfl, r3, rfl, h⟩ := hq
  refine px_if_eq (tgt := 53) dX12_look_5 (by decide) ?_
  by_cases hc : r3 = 0
  · rw [if_pos hc] at h ⊢
    refine px_ldc2 (v := ((-1) : Int64)) dX12_look_53 w_1408 ?_
    exact px_lreturn dX12_look_56 rfl rfl ⟨rfl, _, rfl, h⟩
  · rw [if_neg hc] at h ⊢
    refine px_iload_n dX12_look_8 rfl rfl ?_
    refine px_iconst (v := (0 : Int32)) dX12_look_9 (by decide) ?_
    refine px_aload_n dX12_look_10 rfl rfl ?_
    refine gf_X12_7 rfl dX12_look_11 zl_329 zk_329 rfl zr_329_2 zl_330 ?_
    refine px_aload_n dX12_look_14 rfl rfl ?_
    refine gf_X12_312 rfl dX12_look_15 zl_329 zk_329 ?_
    obtain ⟨hi, h⟩ := h
    refine px_iaload (n := 2) dX12_look_18 zl_330 zk_330 zs_330 hi ?_
    refine px_iconst (v := (1 : Int32)) dX12_look_19 (by decide) ?_
    refine px_isub dX12_look_20 ?_
    refine px_callS_I (As := [.int x2, .int (0 : Int32), .int ((gi1 330 (gi1 329 0).toNatClampNeg) - (1 : Int32))]) (st := []) dX12_look_21 lk_X12_189.1 lk_X12_189.2 (by decide) rfl (Nat.le_of_ble_eq_true rfl) rfl rfl (Nat.le_of_ble_eq_true rfl) ⟨Nat.le_refl _, Nat.le_refl _, Nat.le_refl _⟩ ?_
    refine PAt.mono h (fun v κ gi4 gl5 hq => ?_)
    obtain ⟨rfl, r6, rfl, h⟩ := hq
    refine px_if_eq (tgt := 53) dX12_look_24 (by decide) ?_
    by_cases hc : r6 = 0
    · rw [if_pos hc] at h ⊢
      refine px_ldc2 (v := ((-1) : Int64)) dX12_look_53 w_1408 ?_
      exact px_lreturn dX12_look_56 rfl rfl ⟨rfl, _, rfl, h⟩
    · rw [if_neg hc] at h ⊢
      refine px_iload_n dX12_look_27 rfl rfl ?_
      refine px_iconst (v := (0 : Int32)) dX12_look_28 (by decide) ?_
      refine px_iconst (v := (1 : Int32)) dX12_look_29 (by decide) ?_
      refine px_callS_I (As := [.int x3, .int (0 : Int32), .int (1 : Int32)]) (st := []) dX12_look_30 lk_X12_189.1 lk_X12_189.2 (by decide) rfl (Nat.le_of_ble_eq_true rfl) rfl rfl (Nat.le_of_ble_eq_true rfl) ⟨Nat.le_refl _, Nat.le_refl _, Nat.le_refl _⟩ ?_
      refine PAt.mono h (fun v κ gi7 gl8 hq => ?_)
      obtain ⟨rfl, r9, rfl, h⟩ := hq
      refine px_if_eq (tgt := 53) dX12_look_33 (by decide) ?_
      by_cases hc : r9 = 0
      · rw [if_pos hc] at h ⊢
        refine px_ldc2 (v := ((-1) : Int64)) dX12_look_53 w_1408 ?_
        exact px_lreturn dX12_look_56 rfl rfl ⟨rfl, _, rfl, h⟩
      · rw [if_neg hc] at h ⊢
        refine px_aload_n dX12_look_36 rfl rfl ?_
        refine gf_X12_44 rfl dX12_look_37 zl_329 zk_329 rfl zr_329_13 zl_341 ?_
        refine px_bipush (v := (12 : Int32)) dX12_look_40 (by decide) ?_
        refine px_aload_n dX12_look_42 rfl rfl ?_
        refine gf_X12_312 rfl dX12_look_43 zl_329 zk_329 ?_
        refine px_imul dX12_look_46 ?_
        refine px_iload_n dX12_look_47 rfl rfl ?_
        refine px_iadd dX12_look_48 ?_
        obtain ⟨hi, h⟩ := h
        refine px_iaload (n := 24) dX12_look_49 zl_341 zk_341 zs_341 hi ?_
        refine px_if_ne (tgt := 57) dX12_look_50 (by decide) ?_
        by_cases hc : ¬ (gi7 341 (((12 : Int32) * (gi7 329 0)) + x2).toNatClampNeg) = 0
        · rw [if_pos hc] at h ⊢
          refine px_aload_n dX12_look_57 rfl rfl ?_
          refine px_iload_n dX12_look_58 rfl rfl ?_
          refine px_callV_V (As := [.int x1]) (st := []) dX12_look_59 lk_X12_411.1 lk_X12_411.2 (b := 329) zl_329 zk_329 (by decide) rfl (by decide) rfl (Nat.le_of_ble_eq_true rfl) rfl rfl (Nat.le_of_ble_eq_true rfl) ⟨Nat.le_refl _, Nat.le_refl _, Nat.le_refl _⟩ ?_
          refine PAt.mono h (fun v κ gi10 gl11 hq => ?_)
          obtain ⟨rfl, -, h⟩ := hq
          refine px_aload_n dX12_look_62 rfl rfl ?_
          refine px_iload_n dX12_look_63 rfl rfl ?_
          refine px_iload_n dX12_look_64 rfl rfl ?_
          refine px_callV_V (As := [.int x1, .int x2]) (st := []) dX12_look_65 lk_X12_469.1 lk_X12_469.2 (b := 329) zl_329 zk_329 (by decide) rfl (by decide) rfl (Nat.le_of_ble_eq_true rfl) rfl rfl (Nat.le_of_ble_eq_true rfl) ⟨Nat.le_refl _, Nat.le_refl _, Nat.le_refl _⟩ ?_
          refine PAt.mono h (fun v κ gi12 gl13 hq => ?_)
          obtain ⟨rfl, -, h⟩ := hq
          refine px_iload_n dX12_look_68 rfl rfl ?_
          refine px_if_ne (tgt := 79) dX12_look_69 (by decide) ?_
          by_cases hc : ¬ x3 = 0
          · rw [if_pos hc] at h ⊢
            refine px_aload_n dX12_look_79 rfl rfl ?_
            refine gf_X12_466 rfl dX12_look_80 zl_329 zk_329 ?_
            refine px_i2l dX12_look_83 ?_
            exact px_lreturn dX12_look_84 rfl rfl ⟨rfl, _, rfl, h⟩
          · rw [if_neg hc] at h ⊢
            refine px_aload_n dX12_look_72 rfl rfl ?_
            refine gf_X12_463 rfl dX12_look_73 zl_329 zk_329 ?_
            refine px_goto (tgt := 84) dX12_look_76 (by decide) ?_
            exact px_lreturn dX12_look_84 rfl rfl ⟨rfl, _, rfl, h⟩
        · rw [if_neg hc] at h ⊢
          refine px_ldc2 (v := ((-1) : Int64)) dX12_look_53 w_1408 ?_
          exact px_lreturn dX12_look_56 rfl rfl ⟨rfl, _, rfl, h⟩
abbrev p_X12_names_5 (x1 : Int32) (x2 : Int32) (x3 : Int32) (gi : Gi) (gl : Gl) (Q : Int32 → Gi → Gl → Prop) : Prop := PAt mX12_names NN NN κF 5 [some (.ref 329), some (.int x1), some (.int x2), some (.int x3)] [] gi gl (RiQ Q)
def f_X12_names (x1 : Int32) (x2 : Int32) (gi : Gi) (gl : Gl) (Q : Int32 → Gi → Gl → Prop) : Prop :=
∀ z1 : Int32, z1 = (12 : Int32) * x1 →
p_X12_names_5 x1 x2 z1 gi gl Q
def f_X12_names_5 (x1 : Int32) (x2 : Int32) (x3 : Int32) (gi : Gi) (gl : Gl) (Q : Int32 → Gi → Gl → Prop) : Prop :=
vp_in x1 40 ∧
if (((12 : Int32) * x1) + (gi 356 x1.toNatClampNeg)) ≤ x3 then
(Q (0 : Int32) gi gl)
else
(vp_in x3 480 ∧
if (1 : Int32) < (gi 357 x3.toNatClampNeg) then
(p_X12_names_5 x1 x2 (x3 + (1 : Int32)) gi gl Q)
else
(vp_in x3 480 ∧
if ¬ (gi 358 x3.toNatClampNeg) = x2 then
(p_X12_names_5 x1 x2 (x3 + (1 : Int32)) gi gl Q)
else
(Q (1 : Int32) gi gl)))
set_option maxRecDepth 100000 in
theorem v_X12_names {x1 : Int32} {x2 : Int32} {gi : Gi} {gl : Gl} {Q : Int32 → Gi → Gl → Prop}  (h : f_X12_names x1 x2 gi gl Q) : p_X12_names x1 x2 gi gl Q := by
  unfold f_X12_names at h
  show PAt mX12_names NN NN κF 0 [some (.ref 329), some (.int x1), some (.int x2), none] [] gi gl _
  refine px_bipush (v := (12 : Int32)) dX12_names_0 (by decide) ?_
  refine px_iload_n dX12_names_2 rfl rfl ?_
  refine px_imul dX12_names_3 ?_
  obtain ⟨z1, hz1⟩ : ∃ y : Int32, y = (12 : Int32) * x1 := ⟨_, rfl⟩
  have h := h z1 hz1
  refine px_namei hz1 ?_
  refine px_istore_n (ls2 := [some (.ref 329), some (.int x1), some (.int x2), some (.int z1)]) (i := 3) rfl dX12_names_4 (by decide) rfl ?_
  exact PAt.forget h (lsub_at ⟨rfl, ⟨rfl, ⟨rfl, ⟨rfl, trivial⟩⟩⟩⟩)
set_option maxRecDepth 100000 in
theorem v_X12_names_5 {x1 : Int32} {x2 : Int32} {x3 : Int32} {gi : Gi} {gl : Gl} {Q : Int32 → Gi → Gl → Prop}  (h : f_X12_names_5 x1 x2 x3 gi gl Q) : p_X12_names_5 x1 x2 x3 gi gl Q := by
  unfold f_X12_names_5 at h
  show PAt mX12_names NN NN κF 5 [some (.ref 329), some (.int x1), some (.int x2), some (.int x3)] [] gi gl _
  refine px_iload_n dX12_names_5 rfl rfl ?_
  refine px_bipush (v := (12 : Int32)) dX12_names_6 (by decide) ?_
  refine px_iload_n dX12_names_8 rfl rfl ?_
  refine px_imul dX12_names_9 ?_
  refine px_aload_n dX12_names_10 rfl rfl ?_
  refine gf_X12_89 rfl dX12_names_11 zl_329 zk_329 rfl zr_329_28 zl_356 ?_
  refine px_iload_n dX12_names_14 rfl rfl ?_
  obtain ⟨hi, h⟩ := h
  refine px_iaload (n := 40) dX12_names_15 zl_356 zk_356 zs_356 hi ?_
  refine px_iadd dX12_names_16 ?_
  refine px_icmp_ge (tgt := 48) dX12_names_17 (by decide) ?_
  by_cases hc : (((12 : Int32) * x1) + (gi 356 x1.toNatClampNeg)) ≤ x3
  · rw [if_pos hc] at h ⊢
    refine px_iconst (v := (0 : Int32)) dX12_names_48 (by decide) ?_
    exact px_ireturn dX12_names_49 rfl ⟨.boolean, rfl, rfl, by decide⟩ ⟨rfl, _, rfl, h⟩
  · rw [if_neg hc] at h ⊢
    refine px_aload_n dX12_names_20 rfl rfl ?_
    refine gf_X12_92 rfl dX12_names_21 zl_329 zk_329 rfl zr_329_29 zl_357 ?_
    refine px_iload_n dX12_names_24 rfl rfl ?_
    obtain ⟨hi, h⟩ := h
    refine px_iaload (n := 480) dX12_names_25 zl_357 zk_357 zs_357 hi ?_
    refine px_iconst (v := (1 : Int32)) dX12_names_26 (by decide) ?_
    refine px_icmp_gt (tgt := 42) dX12_names_27 (by decide) ?_
    by_cases hc : (1 : Int32) < (gi 357 x3.toNatClampNeg)
    · rw [if_pos hc] at h ⊢
      refine px_iinc (v := x3 + (1 : Int32)) (ls2 := [some (.ref 329), some (.int x1), some (.int x2), some (.int (x3 + (1 : Int32)))]) dX12_names_42 rfl rfl (by decide) rfl ?_
      refine px_goto (tgt := 5) dX12_names_45 (by decide) ?_
      exact PAt.forget h (lsub_at ⟨rfl, ⟨rfl, ⟨rfl, ⟨rfl, trivial⟩⟩⟩⟩)
    · rw [if_neg hc] at h ⊢
      refine px_aload_n dX12_names_30 rfl rfl ?_
      refine gf_X12_95 rfl dX12_names_31 zl_329 zk_329 rfl zr_329_30 zl_358 ?_
      refine px_iload_n dX12_names_34 rfl rfl ?_
      obtain ⟨hi, h⟩ := h
      refine px_iaload (n := 480) dX12_names_35 zl_358 zk_358 zs_358 hi ?_
      refine px_iload_n dX12_names_36 rfl rfl ?_
      refine px_icmp_ne (tgt := 42) dX12_names_37 (by decide) ?_
      by_cases hc : ¬ (gi 358 x3.toNatClampNeg) = x2
      · rw [if_pos hc] at h ⊢
        refine px_iinc (v := x3 + (1 : Int32)) (ls2 := [some (.ref 329), some (.int x1), some (.int x2), some (.int (x3 + (1 : Int32)))]) dX12_names_42 rfl rfl (by decide) rfl ?_
        refine px_goto (tgt := 5) dX12_names_45 (by decide) ?_
        exact PAt.forget h (lsub_at ⟨rfl, ⟨rfl, ⟨rfl, ⟨rfl, trivial⟩⟩⟩⟩)
      · rw [if_neg hc] at h ⊢
        refine px_iconst (v := (1 : Int32)) dX12_names_40 (by decide) ?_
        exact px_ireturn dX12_names_41 rfl ⟨.boolean, rfl, rfl, by decide⟩ ⟨rfl, _, rfl, h⟩
abbrev p_X12_next__25 (x1 : Int32) (x2 : Int32) (y3 : Int64) (y5 : Int64) (x7 : Int32) (gi : Gi) (gl : Gl) (Q : Int32 → Gi → Gl → Prop) : Prop := PAt mX12_next_ NN NN κF 25 [some (.ref 329), some (.int x1), some (.int x2), some (.long y3), none, some (.long y5), none, some (.int x7)] [] gi gl (RiQ Q)
def f_X12_next_ (x1 : Int32) (gi : Gi) (gl : Gl) (Q : Int32 → Gi → Gl → Prop) : Prop :=
p_X12_isPicture x1 gi gl (fun (r3 : Int32) (gi1 : Gi) (gl2 : Gl) =>
if ¬ r3 = 0 then
(p_X12_findMinutes x1 gi1 gl2 (fun (gi4 : Gi) (gl5 : Gl) =>
p_X12_next__25 x1 ((-1) : Int32) (0 : Int64) (1 : Int64) (0 : Int32) gi4 gl5 Q))
else
(Q ((-1) : Int32) gi1 gl2))
def f_X12_next__25 (x1 : Int32) (x2 : Int32) (y3 : Int64) (y5 : Int64) (x7 : Int32) (gi : Gi) (gl : Gl) (Q : Int32 → Gi → Gl → Prop) : Prop :=
vp_in (gi 329 0) 2 ∧
if (gi 330 (gi 329 0).toNatClampNeg) ≤ x7 then
(Q x2 gi gl)
else
(vp_in (((12 : Int32) * (gi 329 0)) + x7) 24 ∧
if (gi 341 (((12 : Int32) * (gi 329 0)) + x7).toNatClampNeg) = 0 then
(p_X12_next__25 x1 x2 y3 y5 (x7 + (1 : Int32)) gi gl Q)
else
(p_X12_names x1 x7 gi gl (fun (r3 : Int32) (gi1 : Gi) (gl2 : Gl) =>
if ¬ r3 = 0 then
(p_X12_looks x1 x7 gi1 gl2 (fun (gi4 : Gi) (gl5 : Gl) =>
if x2 < 0 then
(∀ z6 : Int64, z6 = gl5 329 62 →
∀ z7 : Int64, z7 = (gi4 329 63).toInt64 →
p_X12_next__25 x1 x7 z6 z7 (x7 + (1 : Int32)) gi4 gl5 Q)
else
(if ((gl5 329 62) * y5) < (y3 * ((gi4 329 63).toInt64)) then
(∀ z8 : Int64, z8 = gl5 329 62 →
∀ z9 : Int64, z9 = (gi4 329 63).toInt64 →
p_X12_next__25 x1 x7 z8 z9 (x7 + (1 : Int32)) gi4 gl5 Q)
else
(p_X12_next__25 x1 x2 y3 y5 (x7 + (1 : Int32)) gi4 gl5 Q))))
else
(p_X12_next__25 x1 x2 y3 y5 (x7 + (1 : Int32)) gi1 gl2 Q))))
set_option maxRecDepth 100000 in
theorem v_X12_next_ {x1 : Int32} {gi : Gi} {gl : Gl} {Q : Int32 → Gi → Gl → Prop}  (h : f_X12_next_ x1 gi gl Q) : p_X12_next_ x1 gi gl Q := by
  unfold f_X12_next_ at h
  show PAt mX12_next_ NN NN κF 0 [some (.ref 329), some (.int x1), none, none, none, none, none, none] [] gi gl _
  refine px_aload_n dX12_next__0 rfl rfl ?_
  refine px_iload_n dX12_next__1 rfl rfl ?_
  refine px_callV_I (As := [.int x1]) (st := []) dX12_next__2 lk_X12_347.1 lk_X12_347.2 (b := 329) zl_329 zk_329 (by decide) rfl (by decide) rfl (Nat.le_of_ble_eq_true rfl) rfl rfl (Nat.le_of_ble_eq_true rfl) ⟨Nat.le_refl _, Nat.le_refl _, Nat.le_refl _⟩ ?_
  refine PAt.mono h (fun v κ gi1 gl2 hq => ?_)
  obtain ⟨rfl, r3, rfl, h⟩ := hq
  refine px_if_ne (tgt := 10) dX12_next__5 (by decide) ?_
  by_cases hc : ¬ r3 = 0
  · rw [if_pos hc] at h ⊢
    refine px_aload_n dX12_next__10 rfl rfl ?_
    refine px_iload_n dX12_next__11 rfl rfl ?_
    refine px_callV_V (As := [.int x1]) (st := []) dX12_next__12 lk_X12_411.1 lk_X12_411.2 (b := 329) zl_329 zk_329 (by decide) rfl (by decide) rfl (Nat.le_of_ble_eq_true rfl) rfl rfl (Nat.le_of_ble_eq_true rfl) ⟨Nat.le_refl _, Nat.le_refl _, Nat.le_refl _⟩ ?_
    refine PAt.mono h (fun v κ gi4 gl5 hq => ?_)
    obtain ⟨rfl, -, h⟩ := hq
    refine px_iconst (v := ((-1) : Int32)) dX12_next__15 (by decide) ?_
    refine px_istore_n (ls2 := [some (.ref 329), some (.int x1), some (.int ((-1) : Int32)), none, none, none, none, none]) (i := 2) rfl dX12_next__16 (by decide) rfl ?_
    refine px_lconst (v := (0 : Int64)) dX12_next__17 (by decide) ?_
    refine px_lstore_n (ls2 := [some (.ref 329), some (.int x1), some (.int ((-1) : Int32)), some (.long (0 : Int64)), none, none, none, none]) (i := 3) rfl dX12_next__18 (by decide) rfl ?_
    refine px_lconst (v := (1 : Int64)) dX12_next__19 (by decide) ?_
    refine px_lstore (ls2 := [some (.ref 329), some (.int x1), some (.int ((-1) : Int32)), some (.long (0 : Int64)), none, some (.long (1 : Int64)), none, none]) dX12_next__20 (by decide) rfl ?_
    refine px_iconst (v := (0 : Int32)) dX12_next__22 (by decide) ?_
    refine px_istore (ls2 := [some (.ref 329), some (.int x1), some (.int ((-1) : Int32)), some (.long (0 : Int64)), none, some (.long (1 : Int64)), none, some (.int (0 : Int32))]) dX12_next__23 (by decide) rfl ?_
    exact PAt.forget h (lsub_at ⟨rfl, ⟨rfl, ⟨rfl, ⟨rfl, ⟨rfl, ⟨rfl, trivial⟩⟩⟩⟩⟩⟩)
  · rw [if_neg hc] at h ⊢
    refine px_iconst (v := ((-1) : Int32)) dX12_next__8 (by decide) ?_
    exact px_ireturn dX12_next__9 rfl ⟨.int, rfl, rfl, rfl⟩ ⟨rfl, _, rfl, h⟩
set_option maxRecDepth 100000 in
theorem v_X12_next__25 {x1 : Int32} {x2 : Int32} {y3 : Int64} {y5 : Int64} {x7 : Int32} {gi : Gi} {gl : Gl} {Q : Int32 → Gi → Gl → Prop}  (h : f_X12_next__25 x1 x2 y3 y5 x7 gi gl Q) : p_X12_next__25 x1 x2 y3 y5 x7 gi gl Q := by
  unfold f_X12_next__25 at h
  show PAt mX12_next_ NN NN κF 25 [some (.ref 329), some (.int x1), some (.int x2), some (.long y3), none, some (.long y5), none, some (.int x7)] [] gi gl _
  refine px_iload dX12_next__25 rfl ?_
  refine px_aload_n dX12_next__27 rfl rfl ?_
  refine gf_X12_7 rfl dX12_next__28 zl_329 zk_329 rfl zr_329_2 zl_330 ?_
  refine px_aload_n dX12_next__31 rfl rfl ?_
  refine gf_X12_312 rfl dX12_next__32 zl_329 zk_329 ?_
  obtain ⟨hi, h⟩ := h
  refine px_iaload (n := 2) dX12_next__35 zl_330 zk_330 zs_330 hi ?_
  refine px_icmp_ge (tgt := 123) dX12_next__36 (by decide) ?_
  by_cases hc : (gi 330 (gi 329 0).toNatClampNeg) ≤ x7
  · rw [if_pos hc] at h ⊢
    refine px_iload_n dX12_next__123 rfl rfl ?_
    exact px_ireturn dX12_next__124 rfl ⟨.int, rfl, rfl, rfl⟩ ⟨rfl, _, rfl, h⟩
  · rw [if_neg hc] at h ⊢
    refine px_aload_n dX12_next__39 rfl rfl ?_
    refine gf_X12_44 rfl dX12_next__40 zl_329 zk_329 rfl zr_329_13 zl_341 ?_
    refine px_bipush (v := (12 : Int32)) dX12_next__43 (by decide) ?_
    refine px_aload_n dX12_next__45 rfl rfl ?_
    refine gf_X12_312 rfl dX12_next__46 zl_329 zk_329 ?_
    refine px_imul dX12_next__49 ?_
    refine px_iload dX12_next__50 rfl ?_
    refine px_iadd dX12_next__52 ?_
    obtain ⟨hi, h⟩ := h
    refine px_iaload (n := 24) dX12_next__53 zl_341 zk_341 zs_341 hi ?_
    refine px_if_eq (tgt := 117) dX12_next__54 (by decide) ?_
    by_cases hc : (gi 341 (((12 : Int32) * (gi 329 0)) + x7).toNatClampNeg) = 0
    · rw [if_pos hc] at h ⊢
      refine px_iinc (v := x7 + (1 : Int32)) (ls2 := [some (.ref 329), some (.int x1), some (.int x2), some (.long y3), none, some (.long y5), none, some (.int (x7 + (1 : Int32)))]) dX12_next__117 rfl rfl (by decide) rfl ?_
      refine px_goto (tgt := 25) dX12_next__120 (by decide) ?_
      exact PAt.forget h (lsub_at ⟨rfl, ⟨rfl, ⟨rfl, ⟨rfl, ⟨rfl, ⟨rfl, trivial⟩⟩⟩⟩⟩⟩)
    · rw [if_neg hc] at h ⊢
      refine px_aload_n dX12_next__57 rfl rfl ?_
      refine px_iload_n dX12_next__58 rfl rfl ?_
      refine px_iload dX12_next__59 rfl ?_
      refine px_callV_I (As := [.int x1, .int x7]) (st := []) dX12_next__61 lk_X12_472.1 lk_X12_472.2 (b := 329) zl_329 zk_329 (by decide) rfl (by decide) rfl (Nat.le_of_ble_eq_true rfl) rfl rfl (Nat.le_of_ble_eq_true rfl) ⟨Nat.le_refl _, Nat.le_refl _, Nat.le_refl _⟩ ?_
      refine PAt.mono h (fun v κ gi1 gl2 hq => ?_)
      obtain ⟨rfl, r3, rfl, h⟩ := hq
      refine px_if_ne (tgt := 70) dX12_next__64 (by decide) ?_
      by_cases hc : ¬ r3 = 0
      · rw [if_pos hc] at h ⊢
        refine px_aload_n dX12_next__70 rfl rfl ?_
        refine px_iload_n dX12_next__71 rfl rfl ?_
        refine px_iload dX12_next__72 rfl ?_
        refine px_callV_V (As := [.int x1, .int x7]) (st := []) dX12_next__74 lk_X12_469.1 lk_X12_469.2 (b := 329) zl_329 zk_329 (by decide) rfl (by decide) rfl (Nat.le_of_ble_eq_true rfl) rfl rfl (Nat.le_of_ble_eq_true rfl) ⟨Nat.le_refl _, Nat.le_refl _, Nat.le_refl _⟩ ?_
        refine PAt.mono h (fun v κ gi4 gl5 hq => ?_)
        obtain ⟨rfl, -, h⟩ := hq
        refine px_iload_n dX12_next__77 rfl rfl ?_
        refine px_if_lt (tgt := 102) dX12_next__78 (by decide) ?_
        by_cases hc : x2 < 0
        · rw [if_pos hc] at h ⊢
          refine px_iload dX12_next__102 rfl ?_
          refine px_istore_n (ls2 := [some (.ref 329), some (.int x1), some (.int x7), some (.long y3), none, some (.long y5), none, some (.int x7)]) (i := 2) rfl dX12_next__104 (by decide) rfl ?_
          refine px_aload_n dX12_next__105 rfl rfl ?_
          refine gf_X12_463 rfl dX12_next__106 zl_329 zk_329 ?_
          obtain ⟨z6, hz6⟩ : ∃ y : Int64, y = gl5 329 62 := ⟨_, rfl⟩
          have h := h z6 hz6
          refine px_namel hz6 ?_
          refine px_lstore_n (ls2 := [some (.ref 329), some (.int x1), some (.int x7), some (.long z6), none, some (.long y5), none, some (.int x7)]) (i := 3) rfl dX12_next__109 (by decide) rfl ?_
          refine px_aload_n dX12_next__110 rfl rfl ?_
          refine gf_X12_466 rfl dX12_next__111 zl_329 zk_329 ?_
          refine px_i2l dX12_next__114 ?_
          obtain ⟨z7, hz7⟩ : ∃ y : Int64, y = (gi4 329 63).toInt64 := ⟨_, rfl⟩
          have h := h z7 hz7
          refine px_namel hz7 ?_
          refine px_lstore (ls2 := [some (.ref 329), some (.int x1), some (.int x7), some (.long z6), none, some (.long z7), none, some (.int x7)]) dX12_next__115 (by decide) rfl ?_
          refine px_iinc (v := x7 + (1 : Int32)) (ls2 := [some (.ref 329), some (.int x1), some (.int x7), some (.long z6), none, some (.long z7), none, some (.int (x7 + (1 : Int32)))]) dX12_next__117 rfl rfl (by decide) rfl ?_
          refine px_goto (tgt := 25) dX12_next__120 (by decide) ?_
          exact PAt.forget h (lsub_at ⟨rfl, ⟨rfl, ⟨rfl, ⟨rfl, ⟨rfl, ⟨rfl, trivial⟩⟩⟩⟩⟩⟩)
        · rw [if_neg hc] at h ⊢
          refine px_aload_n dX12_next__81 rfl rfl ?_
          refine gf_X12_463 rfl dX12_next__82 zl_329 zk_329 ?_
          refine px_lload dX12_next__85 rfl ?_
          refine px_lmul dX12_next__87 ?_
          refine px_lload_n dX12_next__88 rfl rfl ?_
          refine px_aload_n dX12_next__89 rfl rfl ?_
          refine gf_X12_466 rfl dX12_next__90 zl_329 zk_329 ?_
          refine px_i2l dX12_next__93 ?_
          refine px_lmul dX12_next__94 ?_
          refine px_lc_lt (tgt := 102) dX12_next__95 dX12_next__96 (by decide) ?_
          by_cases hc : ((gl5 329 62) * y5) < (y3 * ((gi4 329 63).toInt64))
          · rw [if_pos hc] at h ⊢
            refine px_iload dX12_next__102 rfl ?_
            refine px_istore_n (ls2 := [some (.ref 329), some (.int x1), some (.int x7), some (.long y3), none, some (.long y5), none, some (.int x7)]) (i := 2) rfl dX12_next__104 (by decide) rfl ?_
            refine px_aload_n dX12_next__105 rfl rfl ?_
            refine gf_X12_463 rfl dX12_next__106 zl_329 zk_329 ?_
            obtain ⟨z8, hz8⟩ : ∃ y : Int64, y = gl5 329 62 := ⟨_, rfl⟩
            have h := h z8 hz8
            refine px_namel hz8 ?_
            refine px_lstore_n (ls2 := [some (.ref 329), some (.int x1), some (.int x7), some (.long z8), none, some (.long y5), none, some (.int x7)]) (i := 3) rfl dX12_next__109 (by decide) rfl ?_
            refine px_aload_n dX12_next__110 rfl rfl ?_
            refine gf_X12_466 rfl dX12_next__111 zl_329 zk_329 ?_
            refine px_i2l dX12_next__114 ?_
            obtain ⟨z9, hz9⟩ : ∃ y : Int64, y = (gi4 329 63).toInt64 := ⟨_, rfl⟩
            have h := h z9 hz9
            refine px_namel hz9 ?_
            refine px_lstore (ls2 := [some (.ref 329), some (.int x1), some (.int x7), some (.long z8), none, some (.long z9), none, some (.int x7)]) dX12_next__115 (by decide) rfl ?_
            refine px_iinc (v := x7 + (1 : Int32)) (ls2 := [some (.ref 329), some (.int x1), some (.int x7), some (.long z8), none, some (.long z9), none, some (.int (x7 + (1 : Int32)))]) dX12_next__117 rfl rfl (by decide) rfl ?_
            refine px_goto (tgt := 25) dX12_next__120 (by decide) ?_
            exact PAt.forget h (lsub_at ⟨rfl, ⟨rfl, ⟨rfl, ⟨rfl, ⟨rfl, ⟨rfl, trivial⟩⟩⟩⟩⟩⟩)
          · rw [if_neg hc] at h ⊢
            refine px_goto (tgt := 117) dX12_next__99 (by decide) ?_
            refine px_iinc (v := x7 + (1 : Int32)) (ls2 := [some (.ref 329), some (.int x1), some (.int x2), some (.long y3), none, some (.long y5), none, some (.int (x7 + (1 : Int32)))]) dX12_next__117 rfl rfl (by decide) rfl ?_
            refine px_goto (tgt := 25) dX12_next__120 (by decide) ?_
            exact PAt.forget h (lsub_at ⟨rfl, ⟨rfl, ⟨rfl, ⟨rfl, ⟨rfl, ⟨rfl, trivial⟩⟩⟩⟩⟩⟩)
      · rw [if_neg hc] at h ⊢
        refine px_goto (tgt := 117) dX12_next__67 (by decide) ?_
        refine px_iinc (v := x7 + (1 : Int32)) (ls2 := [some (.ref 329), some (.int x1), some (.int x2), some (.long y3), none, some (.long y5), none, some (.int (x7 + (1 : Int32)))]) dX12_next__117 rfl rfl (by decide) rfl ?_
        refine px_goto (tgt := 25) dX12_next__120 (by decide) ?_
        exact PAt.forget h (lsub_at ⟨rfl, ⟨rfl, ⟨rfl, ⟨rfl, ⟨rfl, ⟨rfl, trivial⟩⟩⟩⟩⟩⟩)
abbrev p_X12_findClouds_2 (x1 : Int32) (gi : Gi) (gl : Gl) (Q : Gi → Gl → Prop) : Prop := PAt mX12_findClouds NN NN κF 2 [some (.ref 329), some (.int x1), none] [] gi gl (RvQ Q)
abbrev p_X12_findClouds_24 (x1 : Int32) (gi : Gi) (gl : Gl) (Q : Gi → Gl → Prop) : Prop := PAt mX12_findClouds NN NN κF 24 [some (.ref 329), some (.int x1), none] [] gi gl (RvQ Q)
abbrev p_X12_findClouds_46 (x1 : Int32) (gi : Gi) (gl : Gl) (Q : Gi → Gl → Prop) : Prop := PAt mX12_findClouds NN NN κF 46 [some (.ref 329), some (.int x1), none] [] gi gl (RvQ Q)
abbrev p_X12_findClouds_63 (x1 : Int32) (x2 : Int32) (gi : Gi) (gl : Gl) (Q : Gi → Gl → Prop) : Prop := PAt mX12_findClouds NN NN κF 63 [some (.ref 329), some (.int x1), some (.int x2)] [] gi gl (RvQ Q)
abbrev p_X12_findClouds_103 (x1 : Int32) (x2 : Int32) (gi : Gi) (gl : Gl) (Q : Gi → Gl → Prop) : Prop := PAt mX12_findClouds NN NN κF 103 [some (.ref 329), some (.int x1), some (.int x2)] [] gi gl (RvQ Q)
def f_X12_findClouds  (gi : Gi) (gl : Gl) (Q : Gi → Gl → Prop) : Prop :=
p_X12_findClouds_2 (0 : Int32) gi gl Q
def f_X12_findClouds_2 (x1 : Int32) (gi : Gi) (gl : Gl) (Q : Gi → Gl → Prop) : Prop :=
if (3600 : Int32) ≤ x1 then
(p_X12_findClouds_24 (0 : Int32) gi gl Q)
else
(vp_in x1 3600 ∧
∀ gi1 : Gi, gi1 = uI gi 374 (upd (gi 374) x1.toNatClampNeg (0 : Int32)) →
p_X12_findClouds_2 (x1 + (1 : Int32)) gi1 gl Q)
def f_X12_findClouds_24 (x1 : Int32) (gi : Gi) (gl : Gl) (Q : Gi → Gl → Prop) : Prop :=
if (8640 : Int32) ≤ x1 then
(p_X12_findClouds_46 (0 : Int32) gi gl Q)
else
(vp_in x1 8640 ∧
∀ gi1 : Gi, gi1 = uI gi 375 (upd (gi 375) x1.toNatClampNeg (0 : Int32)) →
p_X12_findClouds_24 (x1 + (1 : Int32)) gi1 gl Q)
def f_X12_findClouds_46 (x1 : Int32) (gi : Gi) (gl : Gl) (Q : Gi → Gl → Prop) : Prop :=
if (gi 355 (0 : Int32).toNatClampNeg) ≤ x1 then
(Q gi gl)
else
(p_X12_finds x1 gi gl (fun (gi1 : Gi) (gl2 : Gl) =>
p_X12_findClouds_63 x1 (0 : Int32) gi1 gl2 Q))
def f_X12_findClouds_63 (x1 : Int32) (x2 : Int32) (gi : Gi) (gl : Gl) (Q : Gi → Gl → Prop) : Prop :=
if (3600 : Int32) ≤ x2 then
(p_X12_findClouds_103 x1 (0 : Int32) gi gl Q)
else
(vp_in x2 3600 ∧
vp_in x2 3600 ∧
if (gi 364 x2.toNatClampNeg) = 0 then
(vp_in x2 3600 ∧
∀ gi1 : Gi, gi1 = uI gi 374 (upd (gi 374) x2.toNatClampNeg ((gi 374 x2.toNatClampNeg) ||| (0 : Int32))) →
p_X12_findClouds_63 x1 (x2 + (1 : Int32)) gi1 gl Q)
else
(vp_in x2 3600 ∧
∀ gi2 : Gi, gi2 = uI gi 374 (upd (gi 374) x2.toNatClampNeg ((gi 374 x2.toNatClampNeg) ||| (jl (1 : Int32) x1))) →
p_X12_findClouds_63 x1 (x2 + (1 : Int32)) gi2 gl Q))
def f_X12_findClouds_103 (x1 : Int32) (x2 : Int32) (gi : Gi) (gl : Gl) (Q : Gi → Gl → Prop) : Prop :=
if (8640 : Int32) ≤ x2 then
(p_X12_findClouds_46 (x1 + (1 : Int32)) gi gl Q)
else
(vp_in x2 8640 ∧
vp_in x2 8640 ∧
if (gi 365 x2.toNatClampNeg) = 0 then
(vp_in x2 8640 ∧
∀ gi1 : Gi, gi1 = uI gi 375 (upd (gi 375) x2.toNatClampNeg ((gi 375 x2.toNatClampNeg) ||| (0 : Int32))) →
p_X12_findClouds_103 x1 (x2 + (1 : Int32)) gi1 gl Q)
else
(vp_in x2 8640 ∧
∀ gi2 : Gi, gi2 = uI gi 375 (upd (gi 375) x2.toNatClampNeg ((gi 375 x2.toNatClampNeg) ||| (jl (1 : Int32) x1))) →
p_X12_findClouds_103 x1 (x2 + (1 : Int32)) gi2 gl Q))
set_option maxRecDepth 100000 in
theorem v_X12_findClouds  {gi : Gi} {gl : Gl} {Q : Gi → Gl → Prop}  (h : f_X12_findClouds  gi gl Q) : p_X12_findClouds  gi gl Q := by
  unfold f_X12_findClouds at h
  show PAt mX12_findClouds NN NN κF 0 [some (.ref 329), none, none] [] gi gl _
  refine px_iconst (v := (0 : Int32)) dX12_findClouds_0 (by decide) ?_
  refine px_istore_n (ls2 := [some (.ref 329), some (.int (0 : Int32)), none]) (i := 1) rfl dX12_findClouds_1 (by decide) rfl ?_
  exact PAt.forget h (lsub_at ⟨rfl, ⟨rfl, trivial⟩⟩)
set_option maxRecDepth 100000 in
theorem v_X12_findClouds_2 {x1 : Int32} {gi : Gi} {gl : Gl} {Q : Gi → Gl → Prop}  (h : f_X12_findClouds_2 x1 gi gl Q) : p_X12_findClouds_2 x1 gi gl Q := by
  unfold f_X12_findClouds_2 at h
  show PAt mX12_findClouds NN NN κF 2 [some (.ref 329), some (.int x1), none] [] gi gl _
  refine px_iload_n dX12_findClouds_2 rfl rfl ?_
  refine px_sipush (v := (3600 : Int32)) dX12_findClouds_3 (by decide) ?_
  refine px_icmp_ge (tgt := 22) dX12_findClouds_6 (by decide) ?_
  by_cases hc : (3600 : Int32) ≤ x1
  · rw [if_pos hc] at h ⊢
    refine px_iconst (v := (0 : Int32)) dX12_findClouds_22 (by decide) ?_
    refine px_istore_n (ls2 := [some (.ref 329), some (.int (0 : Int32)), none]) (i := 1) rfl dX12_findClouds_23 (by decide) rfl ?_
    exact PAt.forget h (lsub_at ⟨rfl, ⟨rfl, trivial⟩⟩)
  · rw [if_neg hc] at h ⊢
    refine px_aload_n dX12_findClouds_9 rfl rfl ?_
    refine gf_X12_152 rfl dX12_findClouds_10 zl_329 zk_329 rfl zr_329_64 zl_374 ?_
    refine px_iload_n dX12_findClouds_13 rfl rfl ?_
    refine px_iconst (v := (0 : Int32)) dX12_findClouds_14 (by decide) ?_
    obtain ⟨hi, h⟩ := h
    refine px_iastore (n := 3600) dX12_findClouds_15 zl_374 zk_374 zs_374 hi ?_
    obtain ⟨gi1, hgi1⟩ : ∃ y : Gi, y = uI gi 374 (upd (gi 374) x1.toNatClampNeg (0 : Int32)) := ⟨_, rfl⟩
    have h := h gi1 hgi1
    refine px_namegi hgi1 ?_
    refine px_iinc (v := x1 + (1 : Int32)) (ls2 := [some (.ref 329), some (.int (x1 + (1 : Int32))), none]) dX12_findClouds_16 rfl rfl (by decide) rfl ?_
    refine px_goto (tgt := 2) dX12_findClouds_19 (by decide) ?_
    exact PAt.forget h (lsub_at ⟨rfl, ⟨rfl, trivial⟩⟩)
set_option maxRecDepth 100000 in
theorem v_X12_findClouds_24 {x1 : Int32} {gi : Gi} {gl : Gl} {Q : Gi → Gl → Prop}  (h : f_X12_findClouds_24 x1 gi gl Q) : p_X12_findClouds_24 x1 gi gl Q := by
  unfold f_X12_findClouds_24 at h
  show PAt mX12_findClouds NN NN κF 24 [some (.ref 329), some (.int x1), none] [] gi gl _
  refine px_iload_n dX12_findClouds_24 rfl rfl ?_
  refine px_sipush (v := (8640 : Int32)) dX12_findClouds_25 (by decide) ?_
  refine px_icmp_ge (tgt := 44) dX12_findClouds_28 (by decide) ?_
  by_cases hc : (8640 : Int32) ≤ x1
  · rw [if_pos hc] at h ⊢
    refine px_iconst (v := (0 : Int32)) dX12_findClouds_44 (by decide) ?_
    refine px_istore_n (ls2 := [some (.ref 329), some (.int (0 : Int32)), none]) (i := 1) rfl dX12_findClouds_45 (by decide) rfl ?_
    exact PAt.forget h (lsub_at ⟨rfl, ⟨rfl, trivial⟩⟩)
  · rw [if_neg hc] at h ⊢
    refine px_aload_n dX12_findClouds_31 rfl rfl ?_
    refine gf_X12_155 rfl dX12_findClouds_32 zl_329 zk_329 rfl zr_329_65 zl_375 ?_
    refine px_iload_n dX12_findClouds_35 rfl rfl ?_
    refine px_iconst (v := (0 : Int32)) dX12_findClouds_36 (by decide) ?_
    obtain ⟨hi, h⟩ := h
    refine px_iastore (n := 8640) dX12_findClouds_37 zl_375 zk_375 zs_375 hi ?_
    obtain ⟨gi1, hgi1⟩ : ∃ y : Gi, y = uI gi 375 (upd (gi 375) x1.toNatClampNeg (0 : Int32)) := ⟨_, rfl⟩
    have h := h gi1 hgi1
    refine px_namegi hgi1 ?_
    refine px_iinc (v := x1 + (1 : Int32)) (ls2 := [some (.ref 329), some (.int (x1 + (1 : Int32))), none]) dX12_findClouds_38 rfl rfl (by decide) rfl ?_
    refine px_goto (tgt := 24) dX12_findClouds_41 (by decide) ?_
    exact PAt.forget h (lsub_at ⟨rfl, ⟨rfl, trivial⟩⟩)
set_option maxRecDepth 100000 in
theorem v_X12_findClouds_46 {x1 : Int32} {gi : Gi} {gl : Gl} {Q : Gi → Gl → Prop}  (h : f_X12_findClouds_46 x1 gi gl Q) : p_X12_findClouds_46 x1 gi gl Q := by
  unfold f_X12_findClouds_46 at h
  show PAt mX12_findClouds NN NN κF 46 [some (.ref 329), some (.int x1), none] [] gi gl _
  refine px_iload_n dX12_findClouds_46 rfl rfl ?_
  refine px_aload_n dX12_findClouds_47 rfl rfl ?_
  refine gf_X12_86 rfl dX12_findClouds_48 zl_329 zk_329 rfl zr_329_27 zl_355 ?_
  refine px_iconst (v := (0 : Int32)) dX12_findClouds_51 (by decide) ?_
  refine px_iaload (n := 5) dX12_findClouds_52 zl_355 zk_355 zs_355 (vp_lit (by decide)) ?_
  refine px_icmp_ge (tgt := 147) dX12_findClouds_53 (by decide) ?_
  by_cases hc : (gi 355 (0 : Int32).toNatClampNeg) ≤ x1
  · rw [if_pos hc] at h ⊢
    exact px_return dX12_findClouds_147 rfl rfl ⟨rfl, rfl, h⟩
  · rw [if_neg hc] at h ⊢
    refine px_aload_n dX12_findClouds_56 rfl rfl ?_
    refine px_iload_n dX12_findClouds_57 rfl rfl ?_
    refine px_callV_V (As := [.int x1]) (st := []) dX12_findClouds_58 lk_X12_414.1 lk_X12_414.2 (b := 329) zl_329 zk_329 (by decide) rfl (by decide) rfl (Nat.le_of_ble_eq_true rfl) rfl rfl (Nat.le_of_ble_eq_true rfl) ⟨Nat.le_refl _, Nat.le_refl _, Nat.le_refl _⟩ ?_
    refine PAt.mono h (fun v κ gi1 gl2 hq => ?_)
    obtain ⟨rfl, -, h⟩ := hq
    refine px_iconst (v := (0 : Int32)) dX12_findClouds_61 (by decide) ?_
    refine px_istore_n (ls2 := [some (.ref 329), some (.int x1), some (.int (0 : Int32))]) (i := 2) rfl dX12_findClouds_62 (by decide) rfl ?_
    exact PAt.forget h (lsub_at ⟨rfl, ⟨rfl, ⟨rfl, trivial⟩⟩⟩)
set_option maxRecDepth 100000 in
theorem v_X12_findClouds_63 {x1 : Int32} {x2 : Int32} {gi : Gi} {gl : Gl} {Q : Gi → Gl → Prop}  (h : f_X12_findClouds_63 x1 x2 gi gl Q) : p_X12_findClouds_63 x1 x2 gi gl Q := by
  unfold f_X12_findClouds_63 at h
  show PAt mX12_findClouds NN NN κF 63 [some (.ref 329), some (.int x1), some (.int x2)] [] gi gl _
  refine px_iload_n dX12_findClouds_63 rfl rfl ?_
  refine px_sipush (v := (3600 : Int32)) dX12_findClouds_64 (by decide) ?_
  refine px_icmp_ge (tgt := 101) dX12_findClouds_67 (by decide) ?_
  by_cases hc : (3600 : Int32) ≤ x2
  · rw [if_pos hc] at h ⊢
    refine px_iconst (v := (0 : Int32)) dX12_findClouds_101 (by decide) ?_
    refine px_istore_n (ls2 := [some (.ref 329), some (.int x1), some (.int (0 : Int32))]) (i := 2) rfl dX12_findClouds_102 (by decide) rfl ?_
    exact PAt.forget h (lsub_at ⟨rfl, ⟨rfl, ⟨rfl, trivial⟩⟩⟩)
  · rw [if_neg hc] at h ⊢
    refine px_aload_n dX12_findClouds_70 rfl rfl ?_
    refine gf_X12_152 rfl dX12_findClouds_71 zl_329 zk_329 rfl zr_329_64 zl_374 ?_
    refine px_iload_n dX12_findClouds_74 rfl rfl ?_
    refine px_dup2 dX12_findClouds_75 rfl rfl ?_
    obtain ⟨hi, h⟩ := h
    refine px_iaload (n := 3600) dX12_findClouds_76 zl_374 zk_374 zs_374 hi ?_
    refine px_aload_n dX12_findClouds_77 rfl rfl ?_
    refine gf_X12_121 rfl dX12_findClouds_78 zl_329 zk_329 rfl zr_329_52 zl_364 ?_
    refine px_iload_n dX12_findClouds_81 rfl rfl ?_
    obtain ⟨hi, h⟩ := h
    refine px_zaload (n := 3600) dX12_findClouds_82 zl_364 zk_364 zs_364 hi ?_
    refine px_if_eq (tgt := 92) dX12_findClouds_83 (by decide) ?_
    by_cases hc : (gi 364 x2.toNatClampNeg) = 0
    · rw [if_pos hc] at h ⊢
      refine px_iconst (v := (0 : Int32)) dX12_findClouds_92 (by decide) ?_
      refine px_ior dX12_findClouds_93 ?_
      obtain ⟨hi, h⟩ := h
      refine px_iastore (n := 3600) dX12_findClouds_94 zl_374 zk_374 zs_374 hi ?_
      obtain ⟨gi1, hgi1⟩ : ∃ y : Gi, y = uI gi 374 (upd (gi 374) x2.toNatClampNeg ((gi 374 x2.toNatClampNeg) ||| (0 : Int32))) := ⟨_, rfl⟩
      have h := h gi1 hgi1
      refine px_namegi hgi1 ?_
      refine px_iinc (v := x2 + (1 : Int32)) (ls2 := [some (.ref 329), some (.int x1), some (.int (x2 + (1 : Int32)))]) dX12_findClouds_95 rfl rfl (by decide) rfl ?_
      refine px_goto (tgt := 63) dX12_findClouds_98 (by decide) ?_
      exact PAt.forget h (lsub_at ⟨rfl, ⟨rfl, ⟨rfl, trivial⟩⟩⟩)
    · rw [if_neg hc] at h ⊢
      refine px_iconst (v := (1 : Int32)) dX12_findClouds_86 (by decide) ?_
      refine px_iload_n dX12_findClouds_87 rfl rfl ?_
      refine px_ishl dX12_findClouds_88 ?_
      refine px_goto (tgt := 93) dX12_findClouds_89 (by decide) ?_
      refine px_ior dX12_findClouds_93 ?_
      obtain ⟨hi, h⟩ := h
      refine px_iastore (n := 3600) dX12_findClouds_94 zl_374 zk_374 zs_374 hi ?_
      obtain ⟨gi2, hgi2⟩ : ∃ y : Gi, y = uI gi 374 (upd (gi 374) x2.toNatClampNeg ((gi 374 x2.toNatClampNeg) ||| (jl (1 : Int32) x1))) := ⟨_, rfl⟩
      have h := h gi2 hgi2
      refine px_namegi hgi2 ?_
      refine px_iinc (v := x2 + (1 : Int32)) (ls2 := [some (.ref 329), some (.int x1), some (.int (x2 + (1 : Int32)))]) dX12_findClouds_95 rfl rfl (by decide) rfl ?_
      refine px_goto (tgt := 63) dX12_findClouds_98 (by decide) ?_
      exact PAt.forget h (lsub_at ⟨rfl, ⟨rfl, ⟨rfl, trivial⟩⟩⟩)
set_option maxRecDepth 100000 in
theorem v_X12_findClouds_103 {x1 : Int32} {x2 : Int32} {gi : Gi} {gl : Gl} {Q : Gi → Gl → Prop}  (h : f_X12_findClouds_103 x1 x2 gi gl Q) : p_X12_findClouds_103 x1 x2 gi gl Q := by
  unfold f_X12_findClouds_103 at h
  show PAt mX12_findClouds NN NN κF 103 [some (.ref 329), some (.int x1), some (.int x2)] [] gi gl _
  refine px_iload_n dX12_findClouds_103 rfl rfl ?_
  refine px_sipush (v := (8640 : Int32)) dX12_findClouds_104 (by decide) ?_
  refine px_icmp_ge (tgt := 141) dX12_findClouds_107 (by decide) ?_
  by_cases hc : (8640 : Int32) ≤ x2
  · rw [if_pos hc] at h ⊢
    refine px_iinc (v := x1 + (1 : Int32)) (ls2 := [some (.ref 329), some (.int (x1 + (1 : Int32))), some (.int x2)]) dX12_findClouds_141 rfl rfl (by decide) rfl ?_
    refine px_goto (tgt := 46) dX12_findClouds_144 (by decide) ?_
    exact PAt.forget h (lsub_at ⟨rfl, ⟨rfl, trivial⟩⟩)
  · rw [if_neg hc] at h ⊢
    refine px_aload_n dX12_findClouds_110 rfl rfl ?_
    refine gf_X12_155 rfl dX12_findClouds_111 zl_329 zk_329 rfl zr_329_65 zl_375 ?_
    refine px_iload_n dX12_findClouds_114 rfl rfl ?_
    refine px_dup2 dX12_findClouds_115 rfl rfl ?_
    obtain ⟨hi, h⟩ := h
    refine px_iaload (n := 8640) dX12_findClouds_116 zl_375 zk_375 zs_375 hi ?_
    refine px_aload_n dX12_findClouds_117 rfl rfl ?_
    refine gf_X12_125 rfl dX12_findClouds_118 zl_329 zk_329 rfl zr_329_53 zl_365 ?_
    refine px_iload_n dX12_findClouds_121 rfl rfl ?_
    obtain ⟨hi, h⟩ := h
    refine px_zaload (n := 8640) dX12_findClouds_122 zl_365 zk_365 zs_365 hi ?_
    refine px_if_eq (tgt := 132) dX12_findClouds_123 (by decide) ?_
    by_cases hc : (gi 365 x2.toNatClampNeg) = 0
    · rw [if_pos hc] at h ⊢
      refine px_iconst (v := (0 : Int32)) dX12_findClouds_132 (by decide) ?_
      refine px_ior dX12_findClouds_133 ?_
      obtain ⟨hi, h⟩ := h
      refine px_iastore (n := 8640) dX12_findClouds_134 zl_375 zk_375 zs_375 hi ?_
      obtain ⟨gi1, hgi1⟩ : ∃ y : Gi, y = uI gi 375 (upd (gi 375) x2.toNatClampNeg ((gi 375 x2.toNatClampNeg) ||| (0 : Int32))) := ⟨_, rfl⟩
      have h := h gi1 hgi1
      refine px_namegi hgi1 ?_
      refine px_iinc (v := x2 + (1 : Int32)) (ls2 := [some (.ref 329), some (.int x1), some (.int (x2 + (1 : Int32)))]) dX12_findClouds_135 rfl rfl (by decide) rfl ?_
      refine px_goto (tgt := 103) dX12_findClouds_138 (by decide) ?_
      exact PAt.forget h (lsub_at ⟨rfl, ⟨rfl, ⟨rfl, trivial⟩⟩⟩)
    · rw [if_neg hc] at h ⊢
      refine px_iconst (v := (1 : Int32)) dX12_findClouds_126 (by decide) ?_
      refine px_iload_n dX12_findClouds_127 rfl rfl ?_
      refine px_ishl dX12_findClouds_128 ?_
      refine px_goto (tgt := 133) dX12_findClouds_129 (by decide) ?_
      refine px_ior dX12_findClouds_133 ?_
      obtain ⟨hi, h⟩ := h
      refine px_iastore (n := 8640) dX12_findClouds_134 zl_375 zk_375 zs_375 hi ?_
      obtain ⟨gi2, hgi2⟩ : ∃ y : Gi, y = uI gi 375 (upd (gi 375) x2.toNatClampNeg ((gi 375 x2.toNatClampNeg) ||| (jl (1 : Int32) x1))) := ⟨_, rfl⟩
      have h := h gi2 hgi2
      refine px_namegi hgi2 ?_
      refine px_iinc (v := x2 + (1 : Int32)) (ls2 := [some (.ref 329), some (.int x1), some (.int (x2 + (1 : Int32)))]) dX12_findClouds_135 rfl rfl (by decide) rfl ?_
      refine px_goto (tgt := 103) dX12_findClouds_138 (by decide) ?_
      exact PAt.forget h (lsub_at ⟨rfl, ⟨rfl, ⟨rfl, trivial⟩⟩⟩)
