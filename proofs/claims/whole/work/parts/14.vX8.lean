/-! laid by program: X8 -/
def f_X8_begin (x1 : Int32) (gi : Gi) (gl : Gl) (Q : Gi → Gl → Prop) : Prop :=
∀ gi1 : Gi, gi1 = uI gi 22 (upd (gi 22) 1 (jmax (0 : Int32) (jmin x1 (1200 : Int32)))) →
∀ gi2 : Gi, gi2 = uI gi1 22 (upd (gi1 22) 3 (0 : Int32)) →
p_X8_step  gi2 gl (fun (gi3 : Gi) (gl4 : Gl) =>
Q gi3 gl4)
set_option maxRecDepth 100000 in
theorem v_X8_begin {x1 : Int32} {gi : Gi} {gl : Gl} {Q : Gi → Gl → Prop}  (h : f_X8_begin x1 gi gl Q) : p_X8_begin x1 gi gl Q := by
  unfold f_X8_begin at h
  show PAt mX8_begin NN NN κF 0 [some (.ref 22), some (.int x1)] [] gi gl _
  refine px_aload_n dX8_begin_0 rfl rfl ?_
  refine px_iconst (v := (0 : Int32)) dX8_begin_1 (by decide) ?_
  refine px_iload_n dX8_begin_2 rfl rfl ?_
  refine px_aload_n dX8_begin_3 rfl rfl ?_
  refine gf_X8_9 rfl dX8_begin_4 zl_22 zk_22 rfl zr_22_0 zl_1 ?_
  refine px_alen (n := 1200) (t0 := 2) (v := (1200 : Int32)) dX8_begin_7 zl_1 zk_1 zs_1 (by decide) (fun _ => rfl) (by decide) ?_
  refine px_mmin dX8_begin_8 w_435 w_436 w_112 w_437 (by decide) (Nat.le_of_ble_eq_true rfl) ⟨Nat.le_refl _, Nat.le_refl _⟩ ?_
  refine px_mmax dX8_begin_11 w_438 w_439 w_112 w_440 (by decide) (Nat.le_of_ble_eq_true rfl) ⟨Nat.le_refl _, Nat.le_refl _⟩ ?_
  refine pf_X8_24 rfl dX8_begin_14 zl_22 zk_22 ?_
  obtain ⟨gi1, hgi1⟩ : ∃ y : Gi, y = uI gi 22 (upd (gi 22) 1 (jmax (0 : Int32) (jmin x1 (1200 : Int32)))) := ⟨_, rfl⟩
  have h := h gi1 hgi1
  refine px_namegi hgi1 ?_
  refine px_aload_n dX8_begin_17 rfl rfl ?_
  refine px_iconst (v := (0 : Int32)) dX8_begin_18 (by decide) ?_
  refine pf_X8_28 rfl dX8_begin_19 zl_22 zk_22 ?_
  obtain ⟨gi2, hgi2⟩ : ∃ y : Gi, y = uI gi1 22 (upd (gi1 22) 3 (0 : Int32)) := ⟨_, rfl⟩
  have h := h gi2 hgi2
  refine px_namegi hgi2 ?_
  refine px_aload_n dX8_begin_22 rfl rfl ?_
  refine px_callV_V (As := []) (st := []) dX8_begin_23 lk_X8_31.1 lk_X8_31.2 (b := 22) zl_22 zk_22 (by decide) rfl (by decide) rfl (Nat.le_of_ble_eq_true rfl) rfl rfl (Nat.le_of_ble_eq_true rfl) ⟨Nat.le_refl _, Nat.le_refl _, Nat.le_refl _⟩ ?_
  refine PAt.mono h (fun v κ gi3 gl4 hq => ?_)
  obtain ⟨rfl, -, h⟩ := hq
  exact px_return dX8_begin_26 rfl rfl ⟨rfl, rfl, h⟩
def f_X8_placeOfToken  (gi : Gi) (gl : Gl) (Q : Int32 → Gi → Gl → Prop) : Prop :=
Q (gi 22 2) gi gl
set_option maxRecDepth 100000 in
theorem v_X8_placeOfToken  {gi : Gi} {gl : Gl} {Q : Int32 → Gi → Gl → Prop}  (h : f_X8_placeOfToken  gi gl Q) : p_X8_placeOfToken  gi gl Q := by
  unfold f_X8_placeOfToken at h
  show PAt mX8_placeOfToken NN NN κF 0 [some (.ref 22)] [] gi gl _
  refine px_aload_n dX8_placeOfToken_0 rfl rfl ?_
  refine gf_X8_34 rfl dX8_placeOfToken_1 zl_22 zk_22 ?_
  exact px_ireturn dX8_placeOfToken_4 rfl ⟨.int, rfl, rfl, rfl⟩ ⟨rfl, _, rfl, h⟩
def f_X8_ended  (gi : Gi) (gl : Gl) (Q : Int32 → Gi → Gl → Prop) : Prop :=
if ¬ (gi 22 4) = 0 then
(Q (0 : Int32) gi gl)
else
(Q (1 : Int32) gi gl)
set_option maxRecDepth 100000 in
theorem v_X8_ended  {gi : Gi} {gl : Gl} {Q : Int32 → Gi → Gl → Prop}  (h : f_X8_ended  gi gl Q) : p_X8_ended  gi gl Q := by
  unfold f_X8_ended at h
  show PAt mX8_ended NN NN κF 0 [some (.ref 22)] [] gi gl _
  refine px_aload_n dX8_ended_0 rfl rfl ?_
  refine gf_X8_37 rfl dX8_ended_1 zl_22 zk_22 ?_
  refine px_if_ne (tgt := 11) dX8_ended_4 (by decide) ?_
  by_cases hc : ¬ (gi 22 4) = 0
  · rw [if_pos hc] at h ⊢
    refine px_iconst (v := (0 : Int32)) dX8_ended_11 (by decide) ?_
    exact px_ireturn dX8_ended_12 rfl ⟨.boolean, rfl, rfl, by decide⟩ ⟨rfl, _, rfl, h⟩
  · rw [if_neg hc] at h ⊢
    refine px_iconst (v := (1 : Int32)) dX8_ended_7 (by decide) ?_
    refine px_goto (tgt := 12) dX8_ended_8 (by decide) ?_
    exact px_ireturn dX8_ended_12 rfl ⟨.boolean, rfl, rfl, by decide⟩ ⟨rfl, _, rfl, h⟩
abbrev p_X8_step_8  (gi : Gi) (gl : Gl) (Q : Gi → Gl → Prop) : Prop := PAt mX8_step NN NN κF 8 [some (.ref 22), none, none, none, none, none] [] gi gl (RvQ Q)
abbrev p_X8_step_60  (gi : Gi) (gl : Gl) (Q : Gi → Gl → Prop) : Prop := PAt mX8_step NN NN κF 60 [some (.ref 22), none, none, none, none, none] [] gi gl (RvQ Q)
abbrev p_X8_step_103 (x1 : Int32) (gi : Gi) (gl : Gl) (Q : Gi → Gl → Prop) : Prop := PAt mX8_step NN NN κF 103 [some (.ref 22), some (.int x1), none, none, none, none] [] gi gl (RvQ Q)
abbrev p_X8_step_122 (x1 : Int32) (x2 : Int32) (s0 : Int32) (gi : Gi) (gl : Gl) (Q : Gi → Gl → Prop) : Prop := PAt mX8_step NN NN κF 122 [some (.ref 22), some (.int x1), some (.int x2), none, none, none] [.int s0] gi gl (RvQ Q)
abbrev p_X8_step_167 (x2 : Int32) (s0 : Int32) (gi : Gi) (gl : Gl) (Q : Gi → Gl → Prop) : Prop := PAt mX8_step NN NN κF 167 [some (.ref 22), none, some (.int x2), none, none, none] [.int s0, .ref 22] gi gl (RvQ Q)
abbrev p_X8_step_196 (x4 : Int32) (x5 : Int32) (gi : Gi) (gl : Gl) (Q : Gi → Gl → Prop) : Prop := PAt mX8_step NN NN κF 196 [some (.ref 22), none, none, none, some (.int x4), some (.int x5)] [] gi gl (RvQ Q)
def f_X8_step  (gi : Gi) (gl : Gl) (Q : Gi → Gl → Prop) : Prop :=
∀ gi1 : Gi, gi1 = uI gi 22 (upd (gi 22) 2 (gi 22 3)) →
p_X8_step_8  gi1 gl Q
def f_X8_step_8  (gi : Gi) (gl : Gl) (Q : Gi → Gl → Prop) : Prop :=
if (gi 22 1) ≤ (gi 22 2) then
(p_X8_step_60  gi gl Q)
else
(vp_in (gi 22 2) 1200 ∧
if (gi 1 (gi 22 2).toNatClampNeg) = (32 : Int32) then
(∀ gi1 : Gi, gi1 = uI gi 22 (upd (gi 22) 2 ((gi 22 2) + (1 : Int32))) →
p_X8_step_8  gi1 gl Q)
else
(vp_in (gi 22 2) 1200 ∧
if ¬ (gi 1 (gi 22 2).toNatClampNeg) = (10 : Int32) then
(p_X8_step_60  gi gl Q)
else
(∀ gi2 : Gi, gi2 = uI gi 22 (upd (gi 22) 2 ((gi 22 2) + (1 : Int32))) →
p_X8_step_8  gi2 gl Q)))
def f_X8_step_60  (gi : Gi) (gl : Gl) (Q : Gi → Gl → Prop) : Prop :=
if (gi 22 2) < (gi 22 1) then
(vp_in (gi 22 2) 1200 ∧
∀ z1 : Int32, z1 = gi 1 (gi 22 2).toNatClampNeg →
if z1 < (97 : Int32) then
(p_X8_step_103 z1 gi gl Q)
else
(if (122 : Int32) < z1 then
(p_X8_step_103 z1 gi gl Q)
else
(if z1 < (48 : Int32) then
(p_X8_step_122 z1 (1 : Int32) (0 : Int32) gi gl Q)
else
(if (57 : Int32) < z1 then
(p_X8_step_122 z1 (1 : Int32) (0 : Int32) gi gl Q)
else
(p_X8_step_122 z1 (1 : Int32) (1 : Int32) gi gl Q)))))
else
(∀ gi2 : Gi, gi2 = uI gi 22 (upd (gi 22) 4 (0 : Int32)) →
Q gi2 gl)
def f_X8_step_103 (x1 : Int32) (gi : Gi) (gl : Gl) (Q : Gi → Gl → Prop) : Prop :=
if x1 < (48 : Int32) then
(p_X8_step_122 x1 (0 : Int32) (0 : Int32) gi gl Q)
else
(if (57 : Int32) < x1 then
(p_X8_step_122 x1 (0 : Int32) (0 : Int32) gi gl Q)
else
(p_X8_step_122 x1 (0 : Int32) (1 : Int32) gi gl Q))
def f_X8_step_122 (x1 : Int32) (x2 : Int32) (s0 : Int32) (gi : Gi) (gl : Gl) (Q : Gi → Gl → Prop) : Prop :=
∀ gi1 : Gi, gi1 = uI gi 22 (upd (gi 22) 3 ((gi 22 2) + (1 : Int32))) →
if ¬ x2 = 0 then
(if x2 = 0 then
(p_X8_step_167 x2 (2 : Int32) gi1 gl Q)
else
(p_X8_step_167 x2 (1 : Int32) gi1 gl Q))
else
(if ¬ s0 = 0 then
(if x2 = 0 then
(p_X8_step_167 x2 (2 : Int32) gi1 gl Q)
else
(p_X8_step_167 x2 (1 : Int32) gi1 gl Q))
else
(if ¬ x1 = (59 : Int32) then
(∀ gi2 : Gi, gi2 = uI gi1 22 (upd (gi1 22) 4 (4 : Int32)) →
Q gi2 gl)
else
(∀ gi3 : Gi, gi3 = uI gi1 22 (upd (gi1 22) 4 (3 : Int32)) →
Q gi3 gl)))
def f_X8_step_167 (x2 : Int32) (s0 : Int32) (gi : Gi) (gl : Gl) (Q : Gi → Gl → Prop) : Prop :=
∀ gi1 : Gi, gi1 = uI gi 22 (upd (gi 22) 4 s0) →
if x2 = 0 then
(if x2 = 0 then
(p_X8_step_196 (48 : Int32) (57 : Int32) gi1 gl Q)
else
(p_X8_step_196 (48 : Int32) (122 : Int32) gi1 gl Q))
else
(if x2 = 0 then
(p_X8_step_196 (97 : Int32) (57 : Int32) gi1 gl Q)
else
(p_X8_step_196 (97 : Int32) (122 : Int32) gi1 gl Q))
def f_X8_step_196 (x4 : Int32) (x5 : Int32) (gi : Gi) (gl : Gl) (Q : Gi → Gl → Prop) : Prop :=
if (gi 22 1) ≤ (gi 22 3) then
(Q gi gl)
else
(vp_in (gi 22 3) 1200 ∧
if (gi 1 (gi 22 3).toNatClampNeg) < x4 then
(Q gi gl)
else
(vp_in (gi 22 3) 1200 ∧
if x5 < (gi 1 (gi 22 3).toNatClampNeg) then
(Q gi gl)
else
(∀ gi1 : Gi, gi1 = uI gi 22 (upd (gi 22) 3 ((gi 22 3) + (1 : Int32))) →
p_X8_step_196 x4 x5 gi1 gl Q)))
set_option maxRecDepth 100000 in
theorem v_X8_step  {gi : Gi} {gl : Gl} {Q : Gi → Gl → Prop}  (h : f_X8_step  gi gl Q) : p_X8_step  gi gl Q := by
  unfold f_X8_step at h
  show PAt mX8_step NN NN κF 0 [some (.ref 22), none, none, none, none, none] [] gi gl _
  refine px_aload_n dX8_step_0 rfl rfl ?_
  refine px_aload_n dX8_step_1 rfl rfl ?_
  refine gf_X8_28 rfl dX8_step_2 zl_22 zk_22 ?_
  refine pf_X8_34 rfl dX8_step_5 zl_22 zk_22 ?_
  obtain ⟨gi1, hgi1⟩ : ∃ y : Gi, y = uI gi 22 (upd (gi 22) 2 (gi 22 3)) := ⟨_, rfl⟩
  have h := h gi1 hgi1
  refine px_namegi hgi1 ?_
  exact PAt.forget h (lsub_at ⟨rfl, trivial⟩)
set_option maxRecDepth 100000 in
theorem v_X8_step_8  {gi : Gi} {gl : Gl} {Q : Gi → Gl → Prop}  (h : f_X8_step_8  gi gl Q) : p_X8_step_8  gi gl Q := by
  unfold f_X8_step_8 at h
  show PAt mX8_step NN NN κF 8 [some (.ref 22), none, none, none, none, none] [] gi gl _
  refine px_aload_n dX8_step_8 rfl rfl ?_
  refine gf_X8_34 rfl dX8_step_9 zl_22 zk_22 ?_
  refine px_aload_n dX8_step_12 rfl rfl ?_
  refine gf_X8_24 rfl dX8_step_13 zl_22 zk_22 ?_
  refine px_icmp_ge (tgt := 60) dX8_step_16 (by decide) ?_
  by_cases hc : (gi 22 1) ≤ (gi 22 2)
  · rw [if_pos hc] at h ⊢
    exact PAt.forget h (lsub_at ⟨rfl, trivial⟩)
  · rw [if_neg hc] at h ⊢
    refine px_aload_n dX8_step_19 rfl rfl ?_
    refine gf_X8_9 rfl dX8_step_20 zl_22 zk_22 rfl zr_22_0 zl_1 ?_
    refine px_aload_n dX8_step_23 rfl rfl ?_
    refine gf_X8_34 rfl dX8_step_24 zl_22 zk_22 ?_
    obtain ⟨hi, h⟩ := h
    refine px_baload (n := 1200) dX8_step_27 zl_1 zk_1 zs_1 hi ?_
    refine px_bipush (v := (32 : Int32)) dX8_step_28 (by decide) ?_
    refine px_icmp_eq (tgt := 47) dX8_step_30 (by decide) ?_
    by_cases hc : (gi 1 (gi 22 2).toNatClampNeg) = (32 : Int32)
    · rw [if_pos hc] at h ⊢
      refine px_aload_n dX8_step_47 rfl rfl ?_
      refine px_dup dX8_step_48 rfl ?_
      refine gf_X8_34 rfl dX8_step_49 zl_22 zk_22 ?_
      refine px_iconst (v := (1 : Int32)) dX8_step_52 (by decide) ?_
      refine px_iadd dX8_step_53 ?_
      refine pf_X8_34 rfl dX8_step_54 zl_22 zk_22 ?_
      obtain ⟨gi1, hgi1⟩ : ∃ y : Gi, y = uI gi 22 (upd (gi 22) 2 ((gi 22 2) + (1 : Int32))) := ⟨_, rfl⟩
      have h := h gi1 hgi1
      refine px_namegi hgi1 ?_
      refine px_goto (tgt := 8) dX8_step_57 (by decide) ?_
      exact PAt.forget h (lsub_at ⟨rfl, trivial⟩)
    · rw [if_neg hc] at h ⊢
      refine px_aload_n dX8_step_33 rfl rfl ?_
      refine gf_X8_9 rfl dX8_step_34 zl_22 zk_22 rfl zr_22_0 zl_1 ?_
      refine px_aload_n dX8_step_37 rfl rfl ?_
      refine gf_X8_34 rfl dX8_step_38 zl_22 zk_22 ?_
      obtain ⟨hi, h⟩ := h
      refine px_baload (n := 1200) dX8_step_41 zl_1 zk_1 zs_1 hi ?_
      refine px_bipush (v := (10 : Int32)) dX8_step_42 (by decide) ?_
      refine px_icmp_ne (tgt := 60) dX8_step_44 (by decide) ?_
      by_cases hc : ¬ (gi 1 (gi 22 2).toNatClampNeg) = (10 : Int32)
      · rw [if_pos hc] at h ⊢
        exact PAt.forget h (lsub_at ⟨rfl, trivial⟩)
      · rw [if_neg hc] at h ⊢
        refine px_aload_n dX8_step_47 rfl rfl ?_
        refine px_dup dX8_step_48 rfl ?_
        refine gf_X8_34 rfl dX8_step_49 zl_22 zk_22 ?_
        refine px_iconst (v := (1 : Int32)) dX8_step_52 (by decide) ?_
        refine px_iadd dX8_step_53 ?_
        refine pf_X8_34 rfl dX8_step_54 zl_22 zk_22 ?_
        obtain ⟨gi2, hgi2⟩ : ∃ y : Gi, y = uI gi 22 (upd (gi 22) 2 ((gi 22 2) + (1 : Int32))) := ⟨_, rfl⟩
        have h := h gi2 hgi2
        refine px_namegi hgi2 ?_
        refine px_goto (tgt := 8) dX8_step_57 (by decide) ?_
        exact PAt.forget h (lsub_at ⟨rfl, trivial⟩)
set_option maxRecDepth 100000 in
theorem v_X8_step_60  {gi : Gi} {gl : Gl} {Q : Gi → Gl → Prop}  (h : f_X8_step_60  gi gl Q) : p_X8_step_60  gi gl Q := by
  unfold f_X8_step_60 at h
  show PAt mX8_step NN NN κF 60 [some (.ref 22), none, none, none, none, none] [] gi gl _
  refine px_aload_n dX8_step_60 rfl rfl ?_
  refine gf_X8_34 rfl dX8_step_61 zl_22 zk_22 ?_
  refine px_aload_n dX8_step_64 rfl rfl ?_
  refine gf_X8_24 rfl dX8_step_65 zl_22 zk_22 ?_
  refine px_icmp_lt (tgt := 77) dX8_step_68 (by decide) ?_
  by_cases hc : (gi 22 2) < (gi 22 1)
  · rw [if_pos hc] at h ⊢
    refine px_aload_n dX8_step_77 rfl rfl ?_
    refine gf_X8_9 rfl dX8_step_78 zl_22 zk_22 rfl zr_22_0 zl_1 ?_
    refine px_aload_n dX8_step_81 rfl rfl ?_
    refine gf_X8_34 rfl dX8_step_82 zl_22 zk_22 ?_
    obtain ⟨hi, h⟩ := h
    refine px_baload (n := 1200) dX8_step_85 zl_1 zk_1 zs_1 hi ?_
    obtain ⟨z1, hz1⟩ : ∃ y : Int32, y = gi 1 (gi 22 2).toNatClampNeg := ⟨_, rfl⟩
    have h := h z1 hz1
    refine px_namei hz1 ?_
    refine px_istore_n (ls2 := [some (.ref 22), some (.int z1), none, none, none, none]) (i := 1) rfl dX8_step_86 (by decide) rfl ?_
    refine px_iload_n dX8_step_87 rfl rfl ?_
    refine px_bipush (v := (97 : Int32)) dX8_step_88 (by decide) ?_
    refine px_icmp_lt (tgt := 103) dX8_step_90 (by decide) ?_
    by_cases hc : z1 < (97 : Int32)
    · rw [if_pos hc] at h ⊢
      exact PAt.forget h (lsub_at ⟨rfl, ⟨rfl, trivial⟩⟩)
    · rw [if_neg hc] at h ⊢
      refine px_iload_n dX8_step_93 rfl rfl ?_
      refine px_bipush (v := (122 : Int32)) dX8_step_94 (by decide) ?_
      refine px_icmp_gt (tgt := 103) dX8_step_96 (by decide) ?_
      by_cases hc : (122 : Int32) < z1
      · rw [if_pos hc] at h ⊢
        exact PAt.forget h (lsub_at ⟨rfl, ⟨rfl, trivial⟩⟩)
      · rw [if_neg hc] at h ⊢
        refine px_iconst (v := (1 : Int32)) dX8_step_99 (by decide) ?_
        refine px_goto (tgt := 104) dX8_step_100 (by decide) ?_
        refine px_istore_n (ls2 := [some (.ref 22), some (.int z1), some (.int (1 : Int32)), none, none, none]) (i := 2) rfl dX8_step_104 (by decide) rfl ?_
        refine px_iload_n dX8_step_105 rfl rfl ?_
        refine px_bipush (v := (48 : Int32)) dX8_step_106 (by decide) ?_
        refine px_icmp_lt (tgt := 121) dX8_step_108 (by decide) ?_
        by_cases hc : z1 < (48 : Int32)
        · rw [if_pos hc] at h ⊢
          refine px_iconst (v := (0 : Int32)) dX8_step_121 (by decide) ?_
          exact PAt.forget h (lsub_at ⟨rfl, ⟨rfl, ⟨rfl, trivial⟩⟩⟩)
        · rw [if_neg hc] at h ⊢
          refine px_iload_n dX8_step_111 rfl rfl ?_
          refine px_bipush (v := (57 : Int32)) dX8_step_112 (by decide) ?_
          refine px_icmp_gt (tgt := 121) dX8_step_114 (by decide) ?_
          by_cases hc : (57 : Int32) < z1
          · rw [if_pos hc] at h ⊢
            refine px_iconst (v := (0 : Int32)) dX8_step_121 (by decide) ?_
            exact PAt.forget h (lsub_at ⟨rfl, ⟨rfl, ⟨rfl, trivial⟩⟩⟩)
          · rw [if_neg hc] at h ⊢
            refine px_iconst (v := (1 : Int32)) dX8_step_117 (by decide) ?_
            refine px_goto (tgt := 122) dX8_step_118 (by decide) ?_
            exact PAt.forget h (lsub_at ⟨rfl, ⟨rfl, ⟨rfl, trivial⟩⟩⟩)
  · rw [if_neg hc] at h ⊢
    refine px_aload_n dX8_step_71 rfl rfl ?_
    refine px_iconst (v := (0 : Int32)) dX8_step_72 (by decide) ?_
    refine pf_X8_37 rfl dX8_step_73 zl_22 zk_22 ?_
    obtain ⟨gi2, hgi2⟩ : ∃ y : Gi, y = uI gi 22 (upd (gi 22) 4 (0 : Int32)) := ⟨_, rfl⟩
    have h := h gi2 hgi2
    refine px_namegi hgi2 ?_
    exact px_return dX8_step_76 rfl rfl ⟨rfl, rfl, h⟩
set_option maxRecDepth 100000 in
theorem v_X8_step_103 {x1 : Int32} {gi : Gi} {gl : Gl} {Q : Gi → Gl → Prop}  (h : f_X8_step_103 x1 gi gl Q) : p_X8_step_103 x1 gi gl Q := by
  unfold f_X8_step_103 at h
  show PAt mX8_step NN NN κF 103 [some (.ref 22), some (.int x1), none, none, none, none] [] gi gl _
  refine px_iconst (v := (0 : Int32)) dX8_step_103 (by decide) ?_
  refine px_istore_n (ls2 := [some (.ref 22), some (.int x1), some (.int (0 : Int32)), none, none, none]) (i := 2) rfl dX8_step_104 (by decide) rfl ?_
  refine px_iload_n dX8_step_105 rfl rfl ?_
  refine px_bipush (v := (48 : Int32)) dX8_step_106 (by decide) ?_
  refine px_icmp_lt (tgt := 121) dX8_step_108 (by decide) ?_
  by_cases hc : x1 < (48 : Int32)
  · rw [if_pos hc] at h ⊢
    refine px_iconst (v := (0 : Int32)) dX8_step_121 (by decide) ?_
    exact PAt.forget h (lsub_at ⟨rfl, ⟨rfl, ⟨rfl, trivial⟩⟩⟩)
  · rw [if_neg hc] at h ⊢
    refine px_iload_n dX8_step_111 rfl rfl ?_
    refine px_bipush (v := (57 : Int32)) dX8_step_112 (by decide) ?_
    refine px_icmp_gt (tgt := 121) dX8_step_114 (by decide) ?_
    by_cases hc : (57 : Int32) < x1
    · rw [if_pos hc] at h ⊢
      refine px_iconst (v := (0 : Int32)) dX8_step_121 (by decide) ?_
      exact PAt.forget h (lsub_at ⟨rfl, ⟨rfl, ⟨rfl, trivial⟩⟩⟩)
    · rw [if_neg hc] at h ⊢
      refine px_iconst (v := (1 : Int32)) dX8_step_117 (by decide) ?_
      refine px_goto (tgt := 122) dX8_step_118 (by decide) ?_
      exact PAt.forget h (lsub_at ⟨rfl, ⟨rfl, ⟨rfl, trivial⟩⟩⟩)
set_option maxRecDepth 100000 in
theorem v_X8_step_122 {x1 : Int32} {x2 : Int32} {s0 : Int32} {gi : Gi} {gl : Gl} {Q : Gi → Gl → Prop}  (h : f_X8_step_122 x1 x2 s0 gi gl Q) : p_X8_step_122 x1 x2 s0 gi gl Q := by
  unfold f_X8_step_122 at h
  show PAt mX8_step NN NN κF 122 [some (.ref 22), some (.int x1), some (.int x2), none, none, none] [.int s0] gi gl _
  refine px_istore_n (ls2 := [some (.ref 22), some (.int x1), some (.int x2), some (.int s0), none, none]) (i := 3) rfl dX8_step_122 (by decide) rfl ?_
  refine px_aload_n dX8_step_123 rfl rfl ?_
  refine px_aload_n dX8_step_124 rfl rfl ?_
  refine gf_X8_34 rfl dX8_step_125 zl_22 zk_22 ?_
  refine px_iconst (v := (1 : Int32)) dX8_step_128 (by decide) ?_
  refine px_iadd dX8_step_129 ?_
  refine pf_X8_28 rfl dX8_step_130 zl_22 zk_22 ?_
  obtain ⟨gi1, hgi1⟩ : ∃ y : Gi, y = uI gi 22 (upd (gi 22) 3 ((gi 22 2) + (1 : Int32))) := ⟨_, rfl⟩
  have h := h gi1 hgi1
  refine px_namegi hgi1 ?_
  refine px_iload_n dX8_step_133 rfl rfl ?_
  refine px_if_ne (tgt := 157) dX8_step_134 (by decide) ?_
  by_cases hc : ¬ x2 = 0
  · rw [if_pos hc] at h ⊢
    refine px_aload_n dX8_step_157 rfl rfl ?_
    refine px_iload_n dX8_step_158 rfl rfl ?_
    refine px_if_eq (tgt := 166) dX8_step_159 (by decide) ?_
    by_cases hc : x2 = 0
    · rw [if_pos hc] at h ⊢
      refine px_iconst (v := (2 : Int32)) dX8_step_166 (by decide) ?_
      exact PAt.forget h (lsub_at ⟨rfl, ⟨rfl, trivial⟩⟩)
    · rw [if_neg hc] at h ⊢
      refine px_iconst (v := (1 : Int32)) dX8_step_162 (by decide) ?_
      refine px_goto (tgt := 167) dX8_step_163 (by decide) ?_
      exact PAt.forget h (lsub_at ⟨rfl, ⟨rfl, trivial⟩⟩)
  · rw [if_neg hc] at h ⊢
    refine px_iload_n dX8_step_137 rfl rfl ?_
    refine px_if_ne (tgt := 157) dX8_step_138 (by decide) ?_
    by_cases hc : ¬ s0 = 0
    · rw [if_pos hc] at h ⊢
      refine px_aload_n dX8_step_157 rfl rfl ?_
      refine px_iload_n dX8_step_158 rfl rfl ?_
      refine px_if_eq (tgt := 166) dX8_step_159 (by decide) ?_
      by_cases hc : x2 = 0
      · rw [if_pos hc] at h ⊢
        refine px_iconst (v := (2 : Int32)) dX8_step_166 (by decide) ?_
        exact PAt.forget h (lsub_at ⟨rfl, ⟨rfl, trivial⟩⟩)
      · rw [if_neg hc] at h ⊢
        refine px_iconst (v := (1 : Int32)) dX8_step_162 (by decide) ?_
        refine px_goto (tgt := 167) dX8_step_163 (by decide) ?_
        exact PAt.forget h (lsub_at ⟨rfl, ⟨rfl, trivial⟩⟩)
    · rw [if_neg hc] at h ⊢
      refine px_aload_n dX8_step_141 rfl rfl ?_
      refine px_iload_n dX8_step_142 rfl rfl ?_
      refine px_bipush (v := (59 : Int32)) dX8_step_143 (by decide) ?_
      refine px_icmp_ne (tgt := 152) dX8_step_145 (by decide) ?_
      by_cases hc : ¬ x1 = (59 : Int32)
      · rw [if_pos hc] at h ⊢
        refine px_iconst (v := (4 : Int32)) dX8_step_152 (by decide) ?_
        refine pf_X8_37 rfl dX8_step_153 zl_22 zk_22 ?_
        obtain ⟨gi2, hgi2⟩ : ∃ y : Gi, y = uI gi1 22 (upd (gi1 22) 4 (4 : Int32)) := ⟨_, rfl⟩
        have h := h gi2 hgi2
        refine px_namegi hgi2 ?_
        exact px_return dX8_step_156 rfl rfl ⟨rfl, rfl, h⟩
      · rw [if_neg hc] at h ⊢
        refine px_iconst (v := (3 : Int32)) dX8_step_148 (by decide) ?_
        refine px_goto (tgt := 153) dX8_step_149 (by decide) ?_
        refine pf_X8_37 rfl dX8_step_153 zl_22 zk_22 ?_
        obtain ⟨gi3, hgi3⟩ : ∃ y : Gi, y = uI gi1 22 (upd (gi1 22) 4 (3 : Int32)) := ⟨_, rfl⟩
        have h := h gi3 hgi3
        refine px_namegi hgi3 ?_
        exact px_return dX8_step_156 rfl rfl ⟨rfl, rfl, h⟩
set_option maxRecDepth 100000 in
theorem v_X8_step_167 {x2 : Int32} {s0 : Int32} {gi : Gi} {gl : Gl} {Q : Gi → Gl → Prop}  (h : f_X8_step_167 x2 s0 gi gl Q) : p_X8_step_167 x2 s0 gi gl Q := by
  unfold f_X8_step_167 at h
  show PAt mX8_step NN NN κF 167 [some (.ref 22), none, some (.int x2), none, none, none] [.int s0, .ref 22] gi gl _
  refine pf_X8_37 rfl dX8_step_167 zl_22 zk_22 ?_
  obtain ⟨gi1, hgi1⟩ : ∃ y : Gi, y = uI gi 22 (upd (gi 22) 4 s0) := ⟨_, rfl⟩
  have h := h gi1 hgi1
  refine px_namegi hgi1 ?_
  refine px_iload_n dX8_step_170 rfl rfl ?_
  refine px_if_eq (tgt := 179) dX8_step_171 (by decide) ?_
  by_cases hc : x2 = 0
  · rw [if_pos hc] at h ⊢
    refine px_bipush (v := (48 : Int32)) dX8_step_179 (by decide) ?_
    refine px_istore (ls2 := [some (.ref 22), none, some (.int x2), none, some (.int (48 : Int32)), none]) dX8_step_181 (by decide) rfl ?_
    refine px_iload_n dX8_step_183 rfl rfl ?_
    refine px_if_eq (tgt := 192) dX8_step_184 (by decide) ?_
    by_cases hc : x2 = 0
    · rw [if_pos hc] at h ⊢
      refine px_bipush (v := (57 : Int32)) dX8_step_192 (by decide) ?_
      refine px_istore (ls2 := [some (.ref 22), none, some (.int x2), none, some (.int (48 : Int32)), some (.int (57 : Int32))]) dX8_step_194 (by decide) rfl ?_
      exact PAt.forget h (lsub_at ⟨rfl, ⟨rfl, ⟨rfl, trivial⟩⟩⟩)
    · rw [if_neg hc] at h ⊢
      refine px_bipush (v := (122 : Int32)) dX8_step_187 (by decide) ?_
      refine px_goto (tgt := 194) dX8_step_189 (by decide) ?_
      refine px_istore (ls2 := [some (.ref 22), none, some (.int x2), none, some (.int (48 : Int32)), some (.int (122 : Int32))]) dX8_step_194 (by decide) rfl ?_
      exact PAt.forget h (lsub_at ⟨rfl, ⟨rfl, ⟨rfl, trivial⟩⟩⟩)
  · rw [if_neg hc] at h ⊢
    refine px_bipush (v := (97 : Int32)) dX8_step_174 (by decide) ?_
    refine px_goto (tgt := 181) dX8_step_176 (by decide) ?_
    refine px_istore (ls2 := [some (.ref 22), none, some (.int x2), none, some (.int (97 : Int32)), none]) dX8_step_181 (by decide) rfl ?_
    refine px_iload_n dX8_step_183 rfl rfl ?_
    refine px_if_eq (tgt := 192) dX8_step_184 (by decide) ?_
    by_cases hc : x2 = 0
    · rw [if_pos hc] at h ⊢
      refine px_bipush (v := (57 : Int32)) dX8_step_192 (by decide) ?_
      refine px_istore (ls2 := [some (.ref 22), none, some (.int x2), none, some (.int (97 : Int32)), some (.int (57 : Int32))]) dX8_step_194 (by decide) rfl ?_
      exact PAt.forget h (lsub_at ⟨rfl, ⟨rfl, ⟨rfl, trivial⟩⟩⟩)
    · rw [if_neg hc] at h ⊢
      refine px_bipush (v := (122 : Int32)) dX8_step_187 (by decide) ?_
      refine px_goto (tgt := 194) dX8_step_189 (by decide) ?_
      refine px_istore (ls2 := [some (.ref 22), none, some (.int x2), none, some (.int (97 : Int32)), some (.int (122 : Int32))]) dX8_step_194 (by decide) rfl ?_
      exact PAt.forget h (lsub_at ⟨rfl, ⟨rfl, ⟨rfl, trivial⟩⟩⟩)
set_option maxRecDepth 100000 in
theorem v_X8_step_196 {x4 : Int32} {x5 : Int32} {gi : Gi} {gl : Gl} {Q : Gi → Gl → Prop}  (h : f_X8_step_196 x4 x5 gi gl Q) : p_X8_step_196 x4 x5 gi gl Q := by
  unfold f_X8_step_196 at h
  show PAt mX8_step NN NN κF 196 [some (.ref 22), none, none, none, some (.int x4), some (.int x5)] [] gi gl _
  refine px_aload_n dX8_step_196 rfl rfl ?_
  refine gf_X8_28 rfl dX8_step_197 zl_22 zk_22 ?_
  refine px_aload_n dX8_step_200 rfl rfl ?_
  refine gf_X8_24 rfl dX8_step_201 zl_22 zk_22 ?_
  refine px_icmp_ge (tgt := 248) dX8_step_204 (by decide) ?_
  by_cases hc : (gi 22 1) ≤ (gi 22 3)
  · rw [if_pos hc] at h ⊢
    exact px_return dX8_step_248 rfl rfl ⟨rfl, rfl, h⟩
  · rw [if_neg hc] at h ⊢
    refine px_aload_n dX8_step_207 rfl rfl ?_
    refine gf_X8_9 rfl dX8_step_208 zl_22 zk_22 rfl zr_22_0 zl_1 ?_
    refine px_aload_n dX8_step_211 rfl rfl ?_
    refine gf_X8_28 rfl dX8_step_212 zl_22 zk_22 ?_
    obtain ⟨hi, h⟩ := h
    refine px_baload (n := 1200) dX8_step_215 zl_1 zk_1 zs_1 hi ?_
    refine px_iload dX8_step_216 rfl ?_
    refine px_icmp_lt (tgt := 248) dX8_step_218 (by decide) ?_
    by_cases hc : (gi 1 (gi 22 3).toNatClampNeg) < x4
    · rw [if_pos hc] at h ⊢
      exact px_return dX8_step_248 rfl rfl ⟨rfl, rfl, h⟩
    · rw [if_neg hc] at h ⊢
      refine px_aload_n dX8_step_221 rfl rfl ?_
      refine gf_X8_9 rfl dX8_step_222 zl_22 zk_22 rfl zr_22_0 zl_1 ?_
      refine px_aload_n dX8_step_225 rfl rfl ?_
      refine gf_X8_28 rfl dX8_step_226 zl_22 zk_22 ?_
      obtain ⟨hi, h⟩ := h
      refine px_baload (n := 1200) dX8_step_229 zl_1 zk_1 zs_1 hi ?_
      refine px_iload dX8_step_230 rfl ?_
      refine px_icmp_gt (tgt := 248) dX8_step_232 (by decide) ?_
      by_cases hc : x5 < (gi 1 (gi 22 3).toNatClampNeg)
      · rw [if_pos hc] at h ⊢
        exact px_return dX8_step_248 rfl rfl ⟨rfl, rfl, h⟩
      · rw [if_neg hc] at h ⊢
        refine px_aload_n dX8_step_235 rfl rfl ?_
        refine px_dup dX8_step_236 rfl ?_
        refine gf_X8_28 rfl dX8_step_237 zl_22 zk_22 ?_
        refine px_iconst (v := (1 : Int32)) dX8_step_240 (by decide) ?_
        refine px_iadd dX8_step_241 ?_
        refine pf_X8_28 rfl dX8_step_242 zl_22 zk_22 ?_
        obtain ⟨gi1, hgi1⟩ : ∃ y : Gi, y = uI gi 22 (upd (gi 22) 3 ((gi 22 3) + (1 : Int32))) := ⟨_, rfl⟩
        have h := h gi1 hgi1
        refine px_namegi hgi1 ?_
        refine px_goto (tgt := 196) dX8_step_245 (by decide) ?_
        exact PAt.forget h (lsub_at ⟨rfl, ⟨rfl, ⟨rfl, trivial⟩⟩⟩)
def f_X8_takes (p : Nat) (gi : Gi) (gl : Gl) (Q : Int32 → Gi → Gl → Prop) : Prop :=
p_X8_isWord p gi gl (fun (r3 : Int32) (gi1 : Gi) (gl2 : Gl) =>
if ¬ r3 = 0 then
(p_X8_step  gi1 gl2 (fun (gi4 : Gi) (gl5 : Gl) =>
Q (1 : Int32) gi4 gl5))
else
(Q (0 : Int32) gi1 gl2))
set_option maxRecDepth 100000 in
theorem v_X8_takes {p : Nat} {gi : Gi} {gl : Gl} {Q : Int32 → Gi → Gl → Prop} (hpN : p < nJt) (h : f_X8_takes p gi gl Q) : p_X8_takes p gi gl Q := by
  unfold f_X8_takes at h
  show PAt mX8_takes NN NN κF 0 [some (.ref 22), some (.ref (ROB + p))] [] gi gl _
  refine px_aload_n dX8_takes_0 rfl rfl ?_
  refine px_aload_n dX8_takes_1 rfl rfl ?_
  refine px_callV_I (As := [.ref (ROB + p)]) (st := []) dX8_takes_2 lk_X8_40.1 lk_X8_40.2 (b := 22) zl_22 zk_22 (by decide) rfl (by decide) rfl (Nat.le_of_ble_eq_true rfl) rfl rfl (Nat.le_of_ble_eq_true rfl) ⟨Nat.le_refl _, Nat.le_refl _, Nat.le_refl _⟩ ?_
  refine PAt.mono h (fun v κ gi1 gl2 hq => ?_)
  obtain ⟨rfl, r3, rfl, h⟩ := hq
  refine px_if_ne (tgt := 10) dX8_takes_5 (by decide) ?_
  by_cases hc : ¬ r3 = 0
  · rw [if_pos hc] at h ⊢
    refine px_aload_n dX8_takes_10 rfl rfl ?_
    refine px_callV_V (As := []) (st := []) dX8_takes_11 lk_X8_31.1 lk_X8_31.2 (b := 22) zl_22 zk_22 (by decide) rfl (by decide) rfl (Nat.le_of_ble_eq_true rfl) rfl rfl (Nat.le_of_ble_eq_true rfl) ⟨Nat.le_refl _, Nat.le_refl _, Nat.le_refl _⟩ ?_
    refine PAt.mono h (fun v κ gi4 gl5 hq => ?_)
    obtain ⟨rfl, -, h⟩ := hq
    refine px_iconst (v := (1 : Int32)) dX8_takes_14 (by decide) ?_
    exact px_ireturn dX8_takes_15 rfl ⟨.boolean, rfl, rfl, by decide⟩ ⟨rfl, _, rfl, h⟩
  · rw [if_neg hc] at h ⊢
    refine px_iconst (v := (0 : Int32)) dX8_takes_8 (by decide) ?_
    exact px_ireturn dX8_takes_9 rfl ⟨.boolean, rfl, rfl, by decide⟩ ⟨rfl, _, rfl, h⟩
def f_X8_takesSemicolon  (gi : Gi) (gl : Gl) (Q : Int32 → Gi → Gl → Prop) : Prop :=
if (gi 22 4) = (3 : Int32) then
(p_X8_step  gi gl (fun (gi1 : Gi) (gl2 : Gl) =>
Q (1 : Int32) gi1 gl2))
else
(Q (0 : Int32) gi gl)
set_option maxRecDepth 100000 in
theorem v_X8_takesSemicolon  {gi : Gi} {gl : Gl} {Q : Int32 → Gi → Gl → Prop}  (h : f_X8_takesSemicolon  gi gl Q) : p_X8_takesSemicolon  gi gl Q := by
  unfold f_X8_takesSemicolon at h
  show PAt mX8_takesSemicolon NN NN κF 0 [some (.ref 22)] [] gi gl _
  refine px_aload_n dX8_takesSemicolon_0 rfl rfl ?_
  refine gf_X8_37 rfl dX8_takesSemicolon_1 zl_22 zk_22 ?_
  refine px_iconst (v := (3 : Int32)) dX8_takesSemicolon_4 (by decide) ?_
  refine px_icmp_eq (tgt := 10) dX8_takesSemicolon_5 (by decide) ?_
  by_cases hc : (gi 22 4) = (3 : Int32)
  · rw [if_pos hc] at h ⊢
    refine px_aload_n dX8_takesSemicolon_10 rfl rfl ?_
    refine px_callV_V (As := []) (st := []) dX8_takesSemicolon_11 lk_X8_31.1 lk_X8_31.2 (b := 22) zl_22 zk_22 (by decide) rfl (by decide) rfl (Nat.le_of_ble_eq_true rfl) rfl rfl (Nat.le_of_ble_eq_true rfl) ⟨Nat.le_refl _, Nat.le_refl _, Nat.le_refl _⟩ ?_
    refine PAt.mono h (fun v κ gi1 gl2 hq => ?_)
    obtain ⟨rfl, -, h⟩ := hq
    refine px_iconst (v := (1 : Int32)) dX8_takesSemicolon_14 (by decide) ?_
    exact px_ireturn dX8_takesSemicolon_15 rfl ⟨.boolean, rfl, rfl, by decide⟩ ⟨rfl, _, rfl, h⟩
  · rw [if_neg hc] at h ⊢
    refine px_iconst (v := (0 : Int32)) dX8_takesSemicolon_8 (by decide) ?_
    exact px_ireturn dX8_takesSemicolon_9 rfl ⟨.boolean, rfl, rfl, by decide⟩ ⟨rfl, _, rfl, h⟩
abbrev p_X8_numberHere_30 (x1 : Int32) (x2 : Int32) (gi : Gi) (gl : Gl) (Q : Int32 → Gi → Gl → Prop) : Prop := PAt mX8_numberHere NN NN κF 30 [some (.ref 22), some (.int x1), some (.int x2)] [] gi gl (RiQ Q)
def f_X8_numberHere  (gi : Gi) (gl : Gl) (Q : Int32 → Gi → Gl → Prop) : Prop :=
if ¬ (gi 22 4) = (2 : Int32) then
(Q ((-1) : Int32) gi gl)
else
(if ((gi 22 3) - (gi 22 2)) ≤ (4 : Int32) then
(∀ z1 : Int32, z1 = gi 22 2 →
p_X8_numberHere_30 (0 : Int32) z1 gi gl Q)
else
(Q ((-1) : Int32) gi gl))
def f_X8_numberHere_30 (x1 : Int32) (x2 : Int32) (gi : Gi) (gl : Gl) (Q : Int32 → Gi → Gl → Prop) : Prop :=
if (gi 22 3) ≤ x2 then
(Q x1 gi gl)
else
(if (1200 : Int32) ≤ x2 then
(Q x1 gi gl)
else
(vp_in x2 1200 ∧
∀ z1 : Int32, z1 = ((x1 * (10 : Int32)) + (gi 1 x2.toNatClampNeg)) - (48 : Int32) →
p_X8_numberHere_30 z1 (x2 + (1 : Int32)) gi gl Q))
set_option maxRecDepth 100000 in
theorem v_X8_numberHere  {gi : Gi} {gl : Gl} {Q : Int32 → Gi → Gl → Prop}  (h : f_X8_numberHere  gi gl Q) : p_X8_numberHere  gi gl Q := by
  unfold f_X8_numberHere at h
  show PAt mX8_numberHere NN NN κF 0 [some (.ref 22), none, none] [] gi gl _
  refine px_aload_n dX8_numberHere_0 rfl rfl ?_
  refine gf_X8_37 rfl dX8_numberHere_1 zl_22 zk_22 ?_
  refine px_iconst (v := (2 : Int32)) dX8_numberHere_4 (by decide) ?_
  refine px_icmp_ne (tgt := 21) dX8_numberHere_5 (by decide) ?_
  by_cases hc : ¬ (gi 22 4) = (2 : Int32)
  · rw [if_pos hc] at h ⊢
    refine px_iconst (v := ((-1) : Int32)) dX8_numberHere_21 (by decide) ?_
    exact px_ireturn dX8_numberHere_22 rfl ⟨.int, rfl, rfl, rfl⟩ ⟨rfl, _, rfl, h⟩
  · rw [if_neg hc] at h ⊢
    refine px_aload_n dX8_numberHere_8 rfl rfl ?_
    refine gf_X8_28 rfl dX8_numberHere_9 zl_22 zk_22 ?_
    refine px_aload_n dX8_numberHere_12 rfl rfl ?_
    refine gf_X8_34 rfl dX8_numberHere_13 zl_22 zk_22 ?_
    refine px_isub dX8_numberHere_16 ?_
    refine px_iconst (v := (4 : Int32)) dX8_numberHere_17 (by decide) ?_
    refine px_icmp_le (tgt := 23) dX8_numberHere_18 (by decide) ?_
    by_cases hc : ((gi 22 3) - (gi 22 2)) ≤ (4 : Int32)
    · rw [if_pos hc] at h ⊢
      refine px_iconst (v := (0 : Int32)) dX8_numberHere_23 (by decide) ?_
      refine px_istore_n (ls2 := [some (.ref 22), some (.int (0 : Int32)), none]) (i := 1) rfl dX8_numberHere_24 (by decide) rfl ?_
      refine px_aload_n dX8_numberHere_25 rfl rfl ?_
      refine gf_X8_34 rfl dX8_numberHere_26 zl_22 zk_22 ?_
      obtain ⟨z1, hz1⟩ : ∃ y : Int32, y = gi 22 2 := ⟨_, rfl⟩
      have h := h z1 hz1
      refine px_namei hz1 ?_
      refine px_istore_n (ls2 := [some (.ref 22), some (.int (0 : Int32)), some (.int z1)]) (i := 2) rfl dX8_numberHere_29 (by decide) rfl ?_
      exact PAt.forget h (lsub_at ⟨rfl, ⟨rfl, ⟨rfl, trivial⟩⟩⟩)
    · rw [if_neg hc] at h ⊢
      refine px_iconst (v := ((-1) : Int32)) dX8_numberHere_21 (by decide) ?_
      exact px_ireturn dX8_numberHere_22 rfl ⟨.int, rfl, rfl, rfl⟩ ⟨rfl, _, rfl, h⟩
set_option maxRecDepth 100000 in
theorem v_X8_numberHere_30 {x1 : Int32} {x2 : Int32} {gi : Gi} {gl : Gl} {Q : Int32 → Gi → Gl → Prop}  (h : f_X8_numberHere_30 x1 x2 gi gl Q) : p_X8_numberHere_30 x1 x2 gi gl Q := by
  unfold f_X8_numberHere_30 at h
  show PAt mX8_numberHere NN NN κF 30 [some (.ref 22), some (.int x1), some (.int x2)] [] gi gl _
  refine px_iload_n dX8_numberHere_30 rfl rfl ?_
  refine px_aload_n dX8_numberHere_31 rfl rfl ?_
  refine gf_X8_28 rfl dX8_numberHere_32 zl_22 zk_22 ?_
  refine px_icmp_ge (tgt := 68) dX8_numberHere_35 (by decide) ?_
  by_cases hc : (gi 22 3) ≤ x2
  · rw [if_pos hc] at h ⊢
    refine px_iload_n dX8_numberHere_68 rfl rfl ?_
    exact px_ireturn dX8_numberHere_69 rfl ⟨.int, rfl, rfl, rfl⟩ ⟨rfl, _, rfl, h⟩
  · rw [if_neg hc] at h ⊢
    refine px_iload_n dX8_numberHere_38 rfl rfl ?_
    refine px_aload_n dX8_numberHere_39 rfl rfl ?_
    refine gf_X8_9 rfl dX8_numberHere_40 zl_22 zk_22 rfl zr_22_0 zl_1 ?_
    refine px_alen (n := 1200) (t0 := 2) (v := (1200 : Int32)) dX8_numberHere_43 zl_1 zk_1 zs_1 (by decide) (fun _ => rfl) (by decide) ?_
    refine px_icmp_ge (tgt := 68) dX8_numberHere_44 (by decide) ?_
    by_cases hc : (1200 : Int32) ≤ x2
    · rw [if_pos hc] at h ⊢
      refine px_iload_n dX8_numberHere_68 rfl rfl ?_
      exact px_ireturn dX8_numberHere_69 rfl ⟨.int, rfl, rfl, rfl⟩ ⟨rfl, _, rfl, h⟩
    · rw [if_neg hc] at h ⊢
      refine px_iload_n dX8_numberHere_47 rfl rfl ?_
      refine px_bipush (v := (10 : Int32)) dX8_numberHere_48 (by decide) ?_
      refine px_imul dX8_numberHere_50 ?_
      refine px_aload_n dX8_numberHere_51 rfl rfl ?_
      refine gf_X8_9 rfl dX8_numberHere_52 zl_22 zk_22 rfl zr_22_0 zl_1 ?_
      refine px_iload_n dX8_numberHere_55 rfl rfl ?_
      obtain ⟨hi, h⟩ := h
      refine px_baload (n := 1200) dX8_numberHere_56 zl_1 zk_1 zs_1 hi ?_
      refine px_iadd dX8_numberHere_57 ?_
      refine px_bipush (v := (48 : Int32)) dX8_numberHere_58 (by decide) ?_
      refine px_isub dX8_numberHere_60 ?_
      obtain ⟨z1, hz1⟩ : ∃ y : Int32, y = ((x1 * (10 : Int32)) + (gi 1 x2.toNatClampNeg)) - (48 : Int32) := ⟨_, rfl⟩
      have h := h z1 hz1
      refine px_namei hz1 ?_
      refine px_istore_n (ls2 := [some (.ref 22), some (.int z1), some (.int x2)]) (i := 1) rfl dX8_numberHere_61 (by decide) rfl ?_
      refine px_iinc (v := x2 + (1 : Int32)) (ls2 := [some (.ref 22), some (.int z1), some (.int (x2 + (1 : Int32)))]) dX8_numberHere_62 rfl rfl (by decide) rfl ?_
      refine px_goto (tgt := 30) dX8_numberHere_65 (by decide) ?_
      exact PAt.forget h (lsub_at ⟨rfl, ⟨rfl, ⟨rfl, trivial⟩⟩⟩)
def f_X8_takeNumber (x1 : Int32) (x2 : Int32) (gi : Gi) (gl : Gl) (Q : Int32 → Gi → Gl → Prop) : Prop :=
p_X8_numberHere  gi gl (fun (r3 : Int32) (gi1 : Gi) (gl2 : Gl) =>
if r3 = ((-1) : Int32) then
(Q ((-1) : Int32) gi1 gl2)
else
(if r3 < x1 then
(Q ((-1) : Int32) gi1 gl2)
else
(if r3 ≤ x2 then
(p_X8_step  gi1 gl2 (fun (gi4 : Gi) (gl5 : Gl) =>
Q r3 gi4 gl5))
else
(Q ((-1) : Int32) gi1 gl2))))
set_option maxRecDepth 100000 in
theorem v_X8_takeNumber {x1 : Int32} {x2 : Int32} {gi : Gi} {gl : Gl} {Q : Int32 → Gi → Gl → Prop}  (h : f_X8_takeNumber x1 x2 gi gl Q) : p_X8_takeNumber x1 x2 gi gl Q := by
  unfold f_X8_takeNumber at h
  show PAt mX8_takeNumber NN NN κF 0 [some (.ref 22), some (.int x1), some (.int x2), none] [] gi gl _
  refine px_aload_n dX8_takeNumber_0 rfl rfl ?_
  refine px_callV_I (As := []) (st := []) dX8_takeNumber_1 lk_X8_44.1 lk_X8_44.2 (b := 22) zl_22 zk_22 (by decide) rfl (by decide) rfl (Nat.le_of_ble_eq_true rfl) rfl rfl (Nat.le_of_ble_eq_true rfl) ⟨Nat.le_refl _, Nat.le_refl _, Nat.le_refl _⟩ ?_
  refine PAt.mono h (fun v κ gi1 gl2 hq => ?_)
  obtain ⟨rfl, r3, rfl, h⟩ := hq
  refine px_istore_n (ls2 := [some (.ref 22), some (.int x1), some (.int x2), some (.int r3)]) (i := 3) rfl dX8_takeNumber_4 (by decide) rfl ?_
  refine px_iload_n dX8_takeNumber_5 rfl rfl ?_
  refine px_iconst (v := ((-1) : Int32)) dX8_takeNumber_6 (by decide) ?_
  refine px_icmp_eq (tgt := 20) dX8_takeNumber_7 (by decide) ?_
  by_cases hc : r3 = ((-1) : Int32)
  · rw [if_pos hc] at h ⊢
    refine px_iconst (v := ((-1) : Int32)) dX8_takeNumber_20 (by decide) ?_
    exact px_ireturn dX8_takeNumber_21 rfl ⟨.int, rfl, rfl, rfl⟩ ⟨rfl, _, rfl, h⟩
  · rw [if_neg hc] at h ⊢
    refine px_iload_n dX8_takeNumber_10 rfl rfl ?_
    refine px_iload_n dX8_takeNumber_11 rfl rfl ?_
    refine px_icmp_lt (tgt := 20) dX8_takeNumber_12 (by decide) ?_
    by_cases hc : r3 < x1
    · rw [if_pos hc] at h ⊢
      refine px_iconst (v := ((-1) : Int32)) dX8_takeNumber_20 (by decide) ?_
      exact px_ireturn dX8_takeNumber_21 rfl ⟨.int, rfl, rfl, rfl⟩ ⟨rfl, _, rfl, h⟩
    · rw [if_neg hc] at h ⊢
      refine px_iload_n dX8_takeNumber_15 rfl rfl ?_
      refine px_iload_n dX8_takeNumber_16 rfl rfl ?_
      refine px_icmp_le (tgt := 22) dX8_takeNumber_17 (by decide) ?_
      by_cases hc : r3 ≤ x2
      · rw [if_pos hc] at h ⊢
        refine px_aload_n dX8_takeNumber_22 rfl rfl ?_
        refine px_callV_V (As := []) (st := []) dX8_takeNumber_23 lk_X8_31.1 lk_X8_31.2 (b := 22) zl_22 zk_22 (by decide) rfl (by decide) rfl (Nat.le_of_ble_eq_true rfl) rfl rfl (Nat.le_of_ble_eq_true rfl) ⟨Nat.le_refl _, Nat.le_refl _, Nat.le_refl _⟩ ?_
        refine PAt.mono h (fun v κ gi4 gl5 hq => ?_)
        obtain ⟨rfl, -, h⟩ := hq
        refine px_iload_n dX8_takeNumber_26 rfl rfl ?_
        exact px_ireturn dX8_takeNumber_27 rfl ⟨.int, rfl, rfl, rfl⟩ ⟨rfl, _, rfl, h⟩
      · rw [if_neg hc] at h ⊢
        refine px_iconst (v := ((-1) : Int32)) dX8_takeNumber_20 (by decide) ?_
        exact px_ireturn dX8_takeNumber_21 rfl ⟨.int, rfl, rfl, rfl⟩ ⟨rfl, _, rfl, h⟩
def f_X8_takeGive  (gi : Gi) (gl : Gl) (Q : Int32 → Gi → Gl → Prop) : Prop :=
p_X8_takes 3 gi gl (fun (r3 : Int32) (gi1 : Gi) (gl2 : Gl) =>
if r3 = 0 then
(Q (0 : Int32) gi1 gl2)
else
(p_X8_takeNumber (0 : Int32) (99 : Int32) gi1 gl2 (fun (r6 : Int32) (gi4 : Gi) (gl5 : Gl) =>
Q r6 gi4 gl5)))
set_option maxRecDepth 100000 in
theorem v_X8_takeGive  {gi : Gi} {gl : Gl} {Q : Int32 → Gi → Gl → Prop}  (h : f_X8_takeGive  gi gl Q) : p_X8_takeGive  gi gl Q := by
  unfold f_X8_takeGive at h
  show PAt mX8_takeGive NN NN κF 0 [some (.ref 22)] [] gi gl _
  refine px_aload_n dX8_takeGive_0 rfl rfl ?_
  refine px_ldcS (i := 3) dX8_takeGive_1 (by decide) rfl rfl ?_
  refine px_callV_I (As := [.ref (ROB + 3)]) (st := []) dX8_takeGive_3 lk_X8_50.1 lk_X8_50.2 (b := 22) zl_22 zk_22 (by decide) rfl (by decide) rfl (Nat.le_of_ble_eq_true rfl) rfl rfl (Nat.le_of_ble_eq_true rfl) ⟨Nat.le_refl _, Nat.le_refl _, Nat.le_refl _⟩ ?_
  refine PAt.mono h (fun v κ gi1 gl2 hq => ?_)
  obtain ⟨rfl, r3, rfl, h⟩ := hq
  refine px_if_eq (tgt := 19) dX8_takeGive_6 (by decide) ?_
  by_cases hc : r3 = 0
  · rw [if_pos hc] at h ⊢
    refine px_iconst (v := (0 : Int32)) dX8_takeGive_19 (by decide) ?_
    exact px_ireturn dX8_takeGive_20 rfl ⟨.int, rfl, rfl, rfl⟩ ⟨rfl, _, rfl, h⟩
  · rw [if_neg hc] at h ⊢
    refine px_aload_n dX8_takeGive_9 rfl rfl ?_
    refine px_iconst (v := (0 : Int32)) dX8_takeGive_10 (by decide) ?_
    refine px_bipush (v := (99 : Int32)) dX8_takeGive_11 (by decide) ?_
    refine px_callV_I (As := [.int (0 : Int32), .int (99 : Int32)]) (st := []) dX8_takeGive_13 lk_X8_53.1 lk_X8_53.2 (b := 22) zl_22 zk_22 (by decide) rfl (by decide) rfl (Nat.le_of_ble_eq_true rfl) rfl rfl (Nat.le_of_ble_eq_true rfl) ⟨Nat.le_refl _, Nat.le_refl _, Nat.le_refl _⟩ ?_
    refine PAt.mono h (fun v κ gi4 gl5 hq => ?_)
    obtain ⟨rfl, r6, rfl, h⟩ := hq
    refine px_goto (tgt := 20) dX8_takeGive_16 (by decide) ?_
    exact px_ireturn dX8_takeGive_20 rfl ⟨.int, rfl, rfl, rfl⟩ ⟨rfl, _, rfl, h⟩
abbrev p_X8_wordHere_31 (y1 : Int64) (x3 : Int32) (gi : Gi) (gl : Gl) (Q : Int64 → Gi → Gl → Prop) : Prop := PAt mX8_wordHere NN NN κF 31 [some (.ref 22), some (.long y1), none, some (.int x3)] [] gi gl (RlQ Q)
def f_X8_wordHere  (gi : Gi) (gl : Gl) (Q : Int64 → Gi → Gl → Prop) : Prop :=
if ¬ (gi 22 4) = (1 : Int32) then
(Q (0 : Int64) gi gl)
else
(if ((gi 22 3) - (gi 22 2)) ≤ (8 : Int32) then
(∀ z1 : Int32, z1 = gi 22 2 →
p_X8_wordHere_31 (0 : Int64) z1 gi gl Q)
else
(Q (0 : Int64) gi gl))
def f_X8_wordHere_31 (y1 : Int64) (x3 : Int32) (gi : Gi) (gl : Gl) (Q : Int64 → Gi → Gl → Prop) : Prop :=
if (gi 22 3) ≤ x3 then
(Q y1 gi gl)
else
(if (1200 : Int32) ≤ x3 then
(Q y1 gi gl)
else
(vp_in x3 1200 ∧
∀ z1 : Int64, z1 = (((y1 * (32 : Int64)) + ((gi 1 x3.toNatClampNeg).toInt64)) - (97 : Int64)) + (1 : Int64) →
p_X8_wordHere_31 z1 (x3 + (1 : Int32)) gi gl Q))
set_option maxRecDepth 100000 in
theorem v_X8_wordHere  {gi : Gi} {gl : Gl} {Q : Int64 → Gi → Gl → Prop}  (h : f_X8_wordHere  gi gl Q) : p_X8_wordHere  gi gl Q := by
  unfold f_X8_wordHere at h
  show PAt mX8_wordHere NN NN κF 0 [some (.ref 22), none, none, none] [] gi gl _
  refine px_aload_n dX8_wordHere_0 rfl rfl ?_
  refine gf_X8_37 rfl dX8_wordHere_1 zl_22 zk_22 ?_
  refine px_iconst (v := (1 : Int32)) dX8_wordHere_4 (by decide) ?_
  refine px_icmp_ne (tgt := 22) dX8_wordHere_5 (by decide) ?_
  by_cases hc : ¬ (gi 22 4) = (1 : Int32)
  · rw [if_pos hc] at h ⊢
    refine px_lconst (v := (0 : Int64)) dX8_wordHere_22 (by decide) ?_
    exact px_lreturn dX8_wordHere_23 rfl rfl ⟨rfl, _, rfl, h⟩
  · rw [if_neg hc] at h ⊢
    refine px_aload_n dX8_wordHere_8 rfl rfl ?_
    refine gf_X8_28 rfl dX8_wordHere_9 zl_22 zk_22 ?_
    refine px_aload_n dX8_wordHere_12 rfl rfl ?_
    refine gf_X8_34 rfl dX8_wordHere_13 zl_22 zk_22 ?_
    refine px_isub dX8_wordHere_16 ?_
    refine px_bipush (v := (8 : Int32)) dX8_wordHere_17 (by decide) ?_
    refine px_icmp_le (tgt := 24) dX8_wordHere_19 (by decide) ?_
    by_cases hc : ((gi 22 3) - (gi 22 2)) ≤ (8 : Int32)
    · rw [if_pos hc] at h ⊢
      refine px_lconst (v := (0 : Int64)) dX8_wordHere_24 (by decide) ?_
      refine px_lstore_n (ls2 := [some (.ref 22), some (.long (0 : Int64)), none, none]) (i := 1) rfl dX8_wordHere_25 (by decide) rfl ?_
      refine px_aload_n dX8_wordHere_26 rfl rfl ?_
      refine gf_X8_34 rfl dX8_wordHere_27 zl_22 zk_22 ?_
      obtain ⟨z1, hz1⟩ : ∃ y : Int32, y = gi 22 2 := ⟨_, rfl⟩
      have h := h z1 hz1
      refine px_namei hz1 ?_
      refine px_istore_n (ls2 := [some (.ref 22), some (.long (0 : Int64)), none, some (.int z1)]) (i := 3) rfl dX8_wordHere_30 (by decide) rfl ?_
      exact PAt.forget h (lsub_at ⟨rfl, ⟨rfl, ⟨rfl, trivial⟩⟩⟩)
    · rw [if_neg hc] at h ⊢
      refine px_lconst (v := (0 : Int64)) dX8_wordHere_22 (by decide) ?_
      exact px_lreturn dX8_wordHere_23 rfl rfl ⟨rfl, _, rfl, h⟩
set_option maxRecDepth 100000 in
theorem v_X8_wordHere_31 {y1 : Int64} {x3 : Int32} {gi : Gi} {gl : Gl} {Q : Int64 → Gi → Gl → Prop}  (h : f_X8_wordHere_31 y1 x3 gi gl Q) : p_X8_wordHere_31 y1 x3 gi gl Q := by
  unfold f_X8_wordHere_31 at h
  show PAt mX8_wordHere NN NN κF 31 [some (.ref 22), some (.long y1), none, some (.int x3)] [] gi gl _
  refine px_iload_n dX8_wordHere_31 rfl rfl ?_
  refine px_aload_n dX8_wordHere_32 rfl rfl ?_
  refine gf_X8_28 rfl dX8_wordHere_33 zl_22 zk_22 ?_
  refine px_icmp_ge (tgt := 74) dX8_wordHere_36 (by decide) ?_
  by_cases hc : (gi 22 3) ≤ x3
  · rw [if_pos hc] at h ⊢
    refine px_lload_n dX8_wordHere_74 rfl rfl ?_
    exact px_lreturn dX8_wordHere_75 rfl rfl ⟨rfl, _, rfl, h⟩
  · rw [if_neg hc] at h ⊢
    refine px_iload_n dX8_wordHere_39 rfl rfl ?_
    refine px_aload_n dX8_wordHere_40 rfl rfl ?_
    refine gf_X8_9 rfl dX8_wordHere_41 zl_22 zk_22 rfl zr_22_0 zl_1 ?_
    refine px_alen (n := 1200) (t0 := 2) (v := (1200 : Int32)) dX8_wordHere_44 zl_1 zk_1 zs_1 (by decide) (fun _ => rfl) (by decide) ?_
    refine px_icmp_ge (tgt := 74) dX8_wordHere_45 (by decide) ?_
    by_cases hc : (1200 : Int32) ≤ x3
    · rw [if_pos hc] at h ⊢
      refine px_lload_n dX8_wordHere_74 rfl rfl ?_
      exact px_lreturn dX8_wordHere_75 rfl rfl ⟨rfl, _, rfl, h⟩
    · rw [if_neg hc] at h ⊢
      refine px_lload_n dX8_wordHere_48 rfl rfl ?_
      refine px_ldc2 (v := (32 : Int64)) dX8_wordHere_49 w_522 ?_
      refine px_lmul dX8_wordHere_52 ?_
      refine px_aload_n dX8_wordHere_53 rfl rfl ?_
      refine gf_X8_9 rfl dX8_wordHere_54 zl_22 zk_22 rfl zr_22_0 zl_1 ?_
      refine px_iload_n dX8_wordHere_57 rfl rfl ?_
      obtain ⟨hi, h⟩ := h
      refine px_baload (n := 1200) dX8_wordHere_58 zl_1 zk_1 zs_1 hi ?_
      refine px_i2l dX8_wordHere_59 ?_
      refine px_ladd dX8_wordHere_60 ?_
      refine px_ldc2 (v := (97 : Int64)) dX8_wordHere_61 w_523 ?_
      refine px_lsub dX8_wordHere_64 ?_
      refine px_lconst (v := (1 : Int64)) dX8_wordHere_65 (by decide) ?_
      refine px_ladd dX8_wordHere_66 ?_
      obtain ⟨z1, hz1⟩ : ∃ y : Int64, y = (((y1 * (32 : Int64)) + ((gi 1 x3.toNatClampNeg).toInt64)) - (97 : Int64)) + (1 : Int64) := ⟨_, rfl⟩
      have h := h z1 hz1
      refine px_namel hz1 ?_
      refine px_lstore_n (ls2 := [some (.ref 22), some (.long z1), none, some (.int x3)]) (i := 1) rfl dX8_wordHere_67 (by decide) rfl ?_
      refine px_iinc (v := x3 + (1 : Int32)) (ls2 := [some (.ref 22), some (.long z1), none, some (.int (x3 + (1 : Int32)))]) dX8_wordHere_68 rfl rfl (by decide) rfl ?_
      refine px_goto (tgt := 31) dX8_wordHere_71 (by decide) ?_
      exact PAt.forget h (lsub_at ⟨rfl, ⟨rfl, ⟨rfl, trivial⟩⟩⟩)
abbrev p_X8_isReserved_4 (x1 : Int32) (x2 : Int32) (gi : Gi) (gl : Gl) (Q : Int32 → Gi → Gl → Prop) : Prop := PAt mX8_isReserved NN NN κF 4 [some (.ref 22), some (.int x1), some (.int x2), none, none] [] gi gl (RiQ Q)
abbrev p_X8_isReserved_57 (x1 : Int32) (x2 : Int32) (x3 : Int32) (s0 : Int32) (gi : Gi) (gl : Gl) (Q : Int32 → Gi → Gl → Prop) : Prop := PAt mX8_isReserved NN NN κF 57 [some (.ref 22), some (.int x1), some (.int x2), some (.int x3), none] [.int s0] gi gl (RiQ Q)
def f_X8_isReserved  (gi : Gi) (gl : Gl) (Q : Int32 → Gi → Gl → Prop) : Prop :=
p_X8_isReserved_4 (0 : Int32) (0 : Int32) gi gl Q
def f_X8_isReserved_4 (x1 : Int32) (x2 : Int32) (gi : Gi) (gl : Gl) (Q : Int32 → Gi → Gl → Prop) : Prop :=
p_J0_length_8abf5 1 gi gl (fun (r3 : Int32) (gi1 : Gi) (gl2 : Gl) =>
if r3 ≤ x2 then
(Q (0 : Int32) gi1 gl2)
else
(p_J0_charAt_5068e 1 x2 gi1 gl2 (fun (r6 : Int32) (gi4 : Gi) (gl5 : Gl) =>
if x1 = ((-1) : Int32) then
(p_X8_isReserved_57 x1 x2 r6 (0 : Int32) gi4 gl5 Q)
else
(if (gi4 22 3) ≤ ((gi4 22 2) + x1) then
(p_X8_isReserved_57 x1 x2 r6 (0 : Int32) gi4 gl5 Q)
else
(if (1200 : Int32) ≤ ((gi4 22 2) + x1) then
(p_X8_isReserved_57 x1 x2 r6 (0 : Int32) gi4 gl5 Q)
else
(p_X8_isReserved_57 x1 x2 r6 (1 : Int32) gi4 gl5 Q))))))
def f_X8_isReserved_57 (x1 : Int32) (x2 : Int32) (x3 : Int32) (s0 : Int32) (gi : Gi) (gl : Gl) (Q : Int32 → Gi → Gl → Prop) : Prop :=
if x3 = (32 : Int32) then
(if x1 = ((-1) : Int32) then
(p_X8_isReserved_4 (0 : Int32) (x2 + (1 : Int32)) gi gl Q)
else
(if ¬ s0 = 0 then
(p_X8_isReserved_4 (0 : Int32) (x2 + (1 : Int32)) gi gl Q)
else
(Q (1 : Int32) gi gl)))
else
(if s0 = 0 then
(p_X8_isReserved_4 ((-1) : Int32) (x2 + (1 : Int32)) gi gl Q)
else
(vp_in ((gi 22 2) + x1) 1200 ∧
if ¬ (gi 1 ((gi 22 2) + x1).toNatClampNeg) = x3 then
(p_X8_isReserved_4 ((-1) : Int32) (x2 + (1 : Int32)) gi gl Q)
else
(∀ z1 : Int32, z1 = x1 + (1 : Int32) →
p_X8_isReserved_4 z1 (x2 + (1 : Int32)) gi gl Q)))
set_option maxRecDepth 100000 in
theorem v_X8_isReserved  {gi : Gi} {gl : Gl} {Q : Int32 → Gi → Gl → Prop}  (h : f_X8_isReserved  gi gl Q) : p_X8_isReserved  gi gl Q := by
  unfold f_X8_isReserved at h
  show PAt mX8_isReserved NN NN κF 0 [some (.ref 22), none, none, none, none] [] gi gl _
  refine px_iconst (v := (0 : Int32)) dX8_isReserved_0 (by decide) ?_
  refine px_istore_n (ls2 := [some (.ref 22), some (.int (0 : Int32)), none, none, none]) (i := 1) rfl dX8_isReserved_1 (by decide) rfl ?_
  refine px_iconst (v := (0 : Int32)) dX8_isReserved_2 (by decide) ?_
  refine px_istore_n (ls2 := [some (.ref 22), some (.int (0 : Int32)), some (.int (0 : Int32)), none, none]) (i := 2) rfl dX8_isReserved_3 (by decide) rfl ?_
  exact PAt.forget h (lsub_at ⟨rfl, ⟨rfl, ⟨rfl, trivial⟩⟩⟩)
set_option maxRecDepth 100000 in
theorem v_X8_isReserved_4 {x1 : Int32} {x2 : Int32} {gi : Gi} {gl : Gl} {Q : Int32 → Gi → Gl → Prop}  (h : f_X8_isReserved_4 x1 x2 gi gl Q) : p_X8_isReserved_4 x1 x2 gi gl Q := by
  unfold f_X8_isReserved_4 at h
  show PAt mX8_isReserved NN NN κF 4 [some (.ref 22), some (.int x1), some (.int x2), none, none] [] gi gl _
  refine px_iload_n dX8_isReserved_4 rfl rfl ?_
  refine px_ldcS (i := 1) dX8_isReserved_5 (by decide) rfl rfl ?_
  refine px_callVS_I (As := []) (st := [.int x2]) dX8_isReserved_7 lk_X8_62.1 lk_X8_62.2 (b := 1) (by decide) rfl (by decide) rfl (Nat.le_of_ble_eq_true rfl) rfl rfl (Nat.le_of_ble_eq_true rfl) ⟨Nat.le_refl _, Nat.le_refl _, Nat.le_refl _⟩ ?_
  refine PAt.mono h (fun v κ gi1 gl2 hq => ?_)
  obtain ⟨rfl, r3, rfl, h⟩ := hq
  refine px_icmp_ge (tgt := 116) dX8_isReserved_10 (by decide) ?_
  by_cases hc : r3 ≤ x2
  · rw [if_pos hc] at h ⊢
    refine px_iconst (v := (0 : Int32)) dX8_isReserved_116 (by decide) ?_
    exact px_ireturn dX8_isReserved_117 rfl ⟨.boolean, rfl, rfl, by decide⟩ ⟨rfl, _, rfl, h⟩
  · rw [if_neg hc] at h ⊢
    refine px_ldcS (i := 1) dX8_isReserved_13 (by decide) rfl rfl ?_
    refine px_iload_n dX8_isReserved_15 rfl rfl ?_
    refine px_callVS_I (As := [.int x2]) (st := []) dX8_isReserved_16 lk_X8_66.1 lk_X8_66.2 (b := 1) (by decide) rfl (by decide) rfl (Nat.le_of_ble_eq_true rfl) rfl rfl (Nat.le_of_ble_eq_true rfl) ⟨Nat.le_refl _, Nat.le_refl _, Nat.le_refl _⟩ ?_
    refine PAt.mono h (fun v κ gi4 gl5 hq => ?_)
    obtain ⟨rfl, r6, rfl, h⟩ := hq
    refine px_istore_n (ls2 := [some (.ref 22), some (.int x1), some (.int x2), some (.int r6), none]) (i := 3) rfl dX8_isReserved_19 (by decide) rfl ?_
    refine px_iload_n dX8_isReserved_20 rfl rfl ?_
    refine px_iconst (v := ((-1) : Int32)) dX8_isReserved_21 (by decide) ?_
    refine px_icmp_eq (tgt := 56) dX8_isReserved_22 (by decide) ?_
    by_cases hc : x1 = ((-1) : Int32)
    · rw [if_pos hc] at h ⊢
      refine px_iconst (v := (0 : Int32)) dX8_isReserved_56 (by decide) ?_
      exact PAt.forget h (lsub_at ⟨rfl, ⟨rfl, ⟨rfl, ⟨rfl, trivial⟩⟩⟩⟩)
    · rw [if_neg hc] at h ⊢
      refine px_aload_n dX8_isReserved_25 rfl rfl ?_
      refine gf_X8_34 rfl dX8_isReserved_26 zl_22 zk_22 ?_
      refine px_iload_n dX8_isReserved_29 rfl rfl ?_
      refine px_iadd dX8_isReserved_30 ?_
      refine px_aload_n dX8_isReserved_31 rfl rfl ?_
      refine gf_X8_28 rfl dX8_isReserved_32 zl_22 zk_22 ?_
      refine px_icmp_ge (tgt := 56) dX8_isReserved_35 (by decide) ?_
      by_cases hc : (gi4 22 3) ≤ ((gi4 22 2) + x1)
      · rw [if_pos hc] at h ⊢
        refine px_iconst (v := (0 : Int32)) dX8_isReserved_56 (by decide) ?_
        exact PAt.forget h (lsub_at ⟨rfl, ⟨rfl, ⟨rfl, ⟨rfl, trivial⟩⟩⟩⟩)
      · rw [if_neg hc] at h ⊢
        refine px_aload_n dX8_isReserved_38 rfl rfl ?_
        refine gf_X8_34 rfl dX8_isReserved_39 zl_22 zk_22 ?_
        refine px_iload_n dX8_isReserved_42 rfl rfl ?_
        refine px_iadd dX8_isReserved_43 ?_
        refine px_aload_n dX8_isReserved_44 rfl rfl ?_
        refine gf_X8_9 rfl dX8_isReserved_45 zl_22 zk_22 rfl zr_22_0 zl_1 ?_
        refine px_alen (n := 1200) (t0 := 2) (v := (1200 : Int32)) dX8_isReserved_48 zl_1 zk_1 zs_1 (by decide) (fun _ => rfl) (by decide) ?_
        refine px_icmp_ge (tgt := 56) dX8_isReserved_49 (by decide) ?_
        by_cases hc : (1200 : Int32) ≤ ((gi4 22 2) + x1)
        · rw [if_pos hc] at h ⊢
          refine px_iconst (v := (0 : Int32)) dX8_isReserved_56 (by decide) ?_
          exact PAt.forget h (lsub_at ⟨rfl, ⟨rfl, ⟨rfl, ⟨rfl, trivial⟩⟩⟩⟩)
        · rw [if_neg hc] at h ⊢
          refine px_iconst (v := (1 : Int32)) dX8_isReserved_52 (by decide) ?_
          refine px_goto (tgt := 57) dX8_isReserved_53 (by decide) ?_
          exact PAt.forget h (lsub_at ⟨rfl, ⟨rfl, ⟨rfl, ⟨rfl, trivial⟩⟩⟩⟩)
set_option maxRecDepth 100000 in
theorem v_X8_isReserved_57 {x1 : Int32} {x2 : Int32} {x3 : Int32} {s0 : Int32} {gi : Gi} {gl : Gl} {Q : Int32 → Gi → Gl → Prop}  (h : f_X8_isReserved_57 x1 x2 x3 s0 gi gl Q) : p_X8_isReserved_57 x1 x2 x3 s0 gi gl Q := by
  unfold f_X8_isReserved_57 at h
  show PAt mX8_isReserved NN NN κF 57 [some (.ref 22), some (.int x1), some (.int x2), some (.int x3), none] [.int s0] gi gl _
  refine px_istore (ls2 := [some (.ref 22), some (.int x1), some (.int x2), some (.int x3), some (.int s0)]) dX8_isReserved_57 (by decide) rfl ?_
  refine px_iload_n dX8_isReserved_59 rfl rfl ?_
  refine px_bipush (v := (32 : Int32)) dX8_isReserved_60 (by decide) ?_
  refine px_icmp_eq (tgt := 96) dX8_isReserved_62 (by decide) ?_
  by_cases hc : x3 = (32 : Int32)
  · rw [if_pos hc] at h ⊢
    refine px_iload_n dX8_isReserved_96 rfl rfl ?_
    refine px_iconst (v := ((-1) : Int32)) dX8_isReserved_97 (by decide) ?_
    refine px_icmp_eq (tgt := 108) dX8_isReserved_98 (by decide) ?_
    by_cases hc : x1 = ((-1) : Int32)
    · rw [if_pos hc] at h ⊢
      refine px_iconst (v := (0 : Int32)) dX8_isReserved_108 (by decide) ?_
      refine px_istore_n (ls2 := [some (.ref 22), some (.int (0 : Int32)), some (.int x2), some (.int x3), some (.int s0)]) (i := 1) rfl dX8_isReserved_109 (by decide) rfl ?_
      refine px_iinc (v := x2 + (1 : Int32)) (ls2 := [some (.ref 22), some (.int (0 : Int32)), some (.int (x2 + (1 : Int32))), some (.int x3), some (.int s0)]) dX8_isReserved_110 rfl rfl (by decide) rfl ?_
      refine px_goto (tgt := 4) dX8_isReserved_113 (by decide) ?_
      exact PAt.forget h (lsub_at ⟨rfl, ⟨rfl, ⟨rfl, trivial⟩⟩⟩)
    · rw [if_neg hc] at h ⊢
      refine px_iload dX8_isReserved_101 rfl ?_
      refine px_if_ne (tgt := 108) dX8_isReserved_103 (by decide) ?_
      by_cases hc : ¬ s0 = 0
      · rw [if_pos hc] at h ⊢
        refine px_iconst (v := (0 : Int32)) dX8_isReserved_108 (by decide) ?_
        refine px_istore_n (ls2 := [some (.ref 22), some (.int (0 : Int32)), some (.int x2), some (.int x3), some (.int s0)]) (i := 1) rfl dX8_isReserved_109 (by decide) rfl ?_
        refine px_iinc (v := x2 + (1 : Int32)) (ls2 := [some (.ref 22), some (.int (0 : Int32)), some (.int (x2 + (1 : Int32))), some (.int x3), some (.int s0)]) dX8_isReserved_110 rfl rfl (by decide) rfl ?_
        refine px_goto (tgt := 4) dX8_isReserved_113 (by decide) ?_
        exact PAt.forget h (lsub_at ⟨rfl, ⟨rfl, ⟨rfl, trivial⟩⟩⟩)
      · rw [if_neg hc] at h ⊢
        refine px_iconst (v := (1 : Int32)) dX8_isReserved_106 (by decide) ?_
        exact px_ireturn dX8_isReserved_107 rfl ⟨.boolean, rfl, rfl, by decide⟩ ⟨rfl, _, rfl, h⟩
  · rw [if_neg hc] at h ⊢
    refine px_iload dX8_isReserved_65 rfl ?_
    refine px_if_eq (tgt := 91) dX8_isReserved_67 (by decide) ?_
    by_cases hc : s0 = 0
    · rw [if_pos hc] at h ⊢
      refine px_iconst (v := ((-1) : Int32)) dX8_isReserved_91 (by decide) ?_
      refine px_istore_n (ls2 := [some (.ref 22), some (.int ((-1) : Int32)), some (.int x2), some (.int x3), some (.int s0)]) (i := 1) rfl dX8_isReserved_92 (by decide) rfl ?_
      refine px_goto (tgt := 110) dX8_isReserved_93 (by decide) ?_
      refine px_iinc (v := x2 + (1 : Int32)) (ls2 := [some (.ref 22), some (.int ((-1) : Int32)), some (.int (x2 + (1 : Int32))), some (.int x3), some (.int s0)]) dX8_isReserved_110 rfl rfl (by decide) rfl ?_
      refine px_goto (tgt := 4) dX8_isReserved_113 (by decide) ?_
      exact PAt.forget h (lsub_at ⟨rfl, ⟨rfl, ⟨rfl, trivial⟩⟩⟩)
    · rw [if_neg hc] at h ⊢
      refine px_aload_n dX8_isReserved_70 rfl rfl ?_
      refine gf_X8_9 rfl dX8_isReserved_71 zl_22 zk_22 rfl zr_22_0 zl_1 ?_
      refine px_aload_n dX8_isReserved_74 rfl rfl ?_
      refine gf_X8_34 rfl dX8_isReserved_75 zl_22 zk_22 ?_
      refine px_iload_n dX8_isReserved_78 rfl rfl ?_
      refine px_iadd dX8_isReserved_79 ?_
      obtain ⟨hi, h⟩ := h
      refine px_baload (n := 1200) dX8_isReserved_80 zl_1 zk_1 zs_1 hi ?_
      refine px_iload_n dX8_isReserved_81 rfl rfl ?_
      refine px_icmp_ne (tgt := 91) dX8_isReserved_82 (by decide) ?_
      by_cases hc : ¬ (gi 1 ((gi 22 2) + x1).toNatClampNeg) = x3
      · rw [if_pos hc] at h ⊢
        refine px_iconst (v := ((-1) : Int32)) dX8_isReserved_91 (by decide) ?_
        refine px_istore_n (ls2 := [some (.ref 22), some (.int ((-1) : Int32)), some (.int x2), some (.int x3), some (.int s0)]) (i := 1) rfl dX8_isReserved_92 (by decide) rfl ?_
        refine px_goto (tgt := 110) dX8_isReserved_93 (by decide) ?_
        refine px_iinc (v := x2 + (1 : Int32)) (ls2 := [some (.ref 22), some (.int ((-1) : Int32)), some (.int (x2 + (1 : Int32))), some (.int x3), some (.int s0)]) dX8_isReserved_110 rfl rfl (by decide) rfl ?_
        refine px_goto (tgt := 4) dX8_isReserved_113 (by decide) ?_
        exact PAt.forget h (lsub_at ⟨rfl, ⟨rfl, ⟨rfl, trivial⟩⟩⟩)
      · rw [if_neg hc] at h ⊢
        refine px_iload_n dX8_isReserved_85 rfl rfl ?_
        refine px_iconst (v := (1 : Int32)) dX8_isReserved_86 (by decide) ?_
        refine px_iadd dX8_isReserved_87 ?_
        refine px_goto (tgt := 92) dX8_isReserved_88 (by decide) ?_
        obtain ⟨z1, hz1⟩ : ∃ y : Int32, y = x1 + (1 : Int32) := ⟨_, rfl⟩
        have h := h z1 hz1
        refine px_namei hz1 ?_
        refine px_istore_n (ls2 := [some (.ref 22), some (.int z1), some (.int x2), some (.int x3), some (.int s0)]) (i := 1) rfl dX8_isReserved_92 (by decide) rfl ?_
        refine px_goto (tgt := 110) dX8_isReserved_93 (by decide) ?_
        refine px_iinc (v := x2 + (1 : Int32)) (ls2 := [some (.ref 22), some (.int z1), some (.int (x2 + (1 : Int32))), some (.int x3), some (.int s0)]) dX8_isReserved_110 rfl rfl (by decide) rfl ?_
        refine px_goto (tgt := 4) dX8_isReserved_113 (by decide) ?_
        exact PAt.forget h (lsub_at ⟨rfl, ⟨rfl, ⟨rfl, trivial⟩⟩⟩)
abbrev p_X8_isWord_40 (p : Nat) (x2 : Int32) (gi : Gi) (gl : Gl) (Q : Int32 → Gi → Gl → Prop) : Prop := PAt mX8_isWord NN NN κF 40 [some (.ref 22), some (.ref (ROB + p)), some (.int x2)] [] gi gl (RiQ Q)
def f_X8_isWord (p : Nat) (gi : Gi) (gl : Gl) (Q : Int32 → Gi → Gl → Prop) : Prop :=
if ¬ (gi 22 4) = (1 : Int32) then
(Q (0 : Int32) gi gl)
else
(p_J0_length_8abf5 p gi gl (fun (r3 : Int32) (gi1 : Gi) (gl2 : Gl) =>
if ¬ ((gi 22 3) - (gi 22 2)) = r3 then
(Q (0 : Int32) gi1 gl2)
else
(if (gi1 22 3) ≤ (1200 : Int32) then
(p_X8_isWord_40 p (0 : Int32) gi1 gl2 Q)
else
(Q (0 : Int32) gi1 gl2))))
def f_X8_isWord_40 (p : Nat) (x2 : Int32) (gi : Gi) (gl : Gl) (Q : Int32 → Gi → Gl → Prop) : Prop :=
p_J0_length_8abf5 p gi gl (fun (r3 : Int32) (gi1 : Gi) (gl2 : Gl) =>
if r3 ≤ x2 then
(Q (1 : Int32) gi1 gl2)
else
(vp_in ((gi1 22 2) + x2) 1200 ∧
p_J0_charAt_5068e p x2 gi1 gl2 (fun (r6 : Int32) (gi4 : Gi) (gl5 : Gl) =>
if (gi1 1 ((gi1 22 2) + x2).toNatClampNeg) = r6 then
(p_X8_isWord_40 p (x2 + (1 : Int32)) gi4 gl5 Q)
else
(Q (0 : Int32) gi4 gl5))))
set_option maxRecDepth 100000 in
theorem v_X8_isWord {p : Nat} {gi : Gi} {gl : Gl} {Q : Int32 → Gi → Gl → Prop} (hpN : p < nJt) (h : f_X8_isWord p gi gl Q) : p_X8_isWord p gi gl Q := by
  unfold f_X8_isWord at h
  show PAt mX8_isWord NN NN κF 0 [some (.ref 22), some (.ref (ROB + p)), none] [] gi gl _
  refine px_aload_n dX8_isWord_0 rfl rfl ?_
  refine gf_X8_37 rfl dX8_isWord_1 zl_22 zk_22 ?_
  refine px_iconst (v := (1 : Int32)) dX8_isWord_4 (by decide) ?_
  refine px_icmp_ne (tgt := 36) dX8_isWord_5 (by decide) ?_
  by_cases hc : ¬ (gi 22 4) = (1 : Int32)
  · rw [if_pos hc] at h ⊢
    refine px_iconst (v := (0 : Int32)) dX8_isWord_36 (by decide) ?_
    exact px_ireturn dX8_isWord_37 rfl ⟨.boolean, rfl, rfl, by decide⟩ ⟨rfl, _, rfl, h⟩
  · rw [if_neg hc] at h ⊢
    refine px_aload_n dX8_isWord_8 rfl rfl ?_
    refine gf_X8_28 rfl dX8_isWord_9 zl_22 zk_22 ?_
    refine px_aload_n dX8_isWord_12 rfl rfl ?_
    refine gf_X8_34 rfl dX8_isWord_13 zl_22 zk_22 ?_
    refine px_isub dX8_isWord_16 ?_
    refine px_aload_n dX8_isWord_17 rfl rfl ?_
    refine px_callVS_I (As := []) (st := [.int ((gi 22 3) - (gi 22 2))]) dX8_isWord_18 lk_X8_62.1 lk_X8_62.2 (b := p) hpN rfl (by decide) rfl (Nat.le_of_ble_eq_true rfl) rfl rfl (Nat.le_of_ble_eq_true rfl) ⟨Nat.le_refl _, Nat.le_refl _, Nat.le_refl _⟩ ?_
    refine PAt.mono h (fun v κ gi1 gl2 hq => ?_)
    obtain ⟨rfl, r3, rfl, h⟩ := hq
    refine px_icmp_ne (tgt := 36) dX8_isWord_21 (by decide) ?_
    by_cases hc : ¬ ((gi 22 3) - (gi 22 2)) = r3
    · rw [if_pos hc] at h ⊢
      refine px_iconst (v := (0 : Int32)) dX8_isWord_36 (by decide) ?_
      exact px_ireturn dX8_isWord_37 rfl ⟨.boolean, rfl, rfl, by decide⟩ ⟨rfl, _, rfl, h⟩
    · rw [if_neg hc] at h ⊢
      refine px_aload_n dX8_isWord_24 rfl rfl ?_
      refine gf_X8_28 rfl dX8_isWord_25 zl_22 zk_22 ?_
      refine px_aload_n dX8_isWord_28 rfl rfl ?_
      refine gf_X8_9 rfl dX8_isWord_29 zl_22 zk_22 rfl zr_22_0 zl_1 ?_
      refine px_alen (n := 1200) (t0 := 2) (v := (1200 : Int32)) dX8_isWord_32 zl_1 zk_1 zs_1 (by decide) (fun _ => rfl) (by decide) ?_
      refine px_icmp_le (tgt := 38) dX8_isWord_33 (by decide) ?_
      by_cases hc : (gi1 22 3) ≤ (1200 : Int32)
      · rw [if_pos hc] at h ⊢
        refine px_iconst (v := (0 : Int32)) dX8_isWord_38 (by decide) ?_
        refine px_istore_n (ls2 := [some (.ref 22), some (.ref (ROB + p)), some (.int (0 : Int32))]) (i := 2) rfl dX8_isWord_39 (by decide) rfl ?_
        exact PAt.forget h (lsub_at ⟨rfl, ⟨rfl, ⟨rfl, trivial⟩⟩⟩)
      · rw [if_neg hc] at h ⊢
        refine px_iconst (v := (0 : Int32)) dX8_isWord_36 (by decide) ?_
        exact px_ireturn dX8_isWord_37 rfl ⟨.boolean, rfl, rfl, by decide⟩ ⟨rfl, _, rfl, h⟩
set_option maxRecDepth 100000 in
theorem v_X8_isWord_40 {p : Nat} {x2 : Int32} {gi : Gi} {gl : Gl} {Q : Int32 → Gi → Gl → Prop} (hpN : p < nJt) (h : f_X8_isWord_40 p x2 gi gl Q) : p_X8_isWord_40 p x2 gi gl Q := by
  unfold f_X8_isWord_40 at h
  show PAt mX8_isWord NN NN κF 40 [some (.ref 22), some (.ref (ROB + p)), some (.int x2)] [] gi gl _
  refine px_iload_n dX8_isWord_40 rfl rfl ?_
  refine px_aload_n dX8_isWord_41 rfl rfl ?_
  refine px_callVS_I (As := []) (st := [.int x2]) dX8_isWord_42 lk_X8_62.1 lk_X8_62.2 (b := p) hpN rfl (by decide) rfl (Nat.le_of_ble_eq_true rfl) rfl rfl (Nat.le_of_ble_eq_true rfl) ⟨Nat.le_refl _, Nat.le_refl _, Nat.le_refl _⟩ ?_
  refine PAt.mono h (fun v κ gi1 gl2 hq => ?_)
  obtain ⟨rfl, r3, rfl, h⟩ := hq
  refine px_icmp_ge (tgt := 75) dX8_isWord_45 (by decide) ?_
  by_cases hc : r3 ≤ x2
  · rw [if_pos hc] at h ⊢
    refine px_iconst (v := (1 : Int32)) dX8_isWord_75 (by decide) ?_
    exact px_ireturn dX8_isWord_76 rfl ⟨.boolean, rfl, rfl, by decide⟩ ⟨rfl, _, rfl, h⟩
  · rw [if_neg hc] at h ⊢
    refine px_aload_n dX8_isWord_48 rfl rfl ?_
    refine gf_X8_9 rfl dX8_isWord_49 zl_22 zk_22 rfl zr_22_0 zl_1 ?_
    refine px_aload_n dX8_isWord_52 rfl rfl ?_
    refine gf_X8_34 rfl dX8_isWord_53 zl_22 zk_22 ?_
    refine px_iload_n dX8_isWord_56 rfl rfl ?_
    refine px_iadd dX8_isWord_57 ?_
    obtain ⟨hi, h⟩ := h
    refine px_baload (n := 1200) dX8_isWord_58 zl_1 zk_1 zs_1 hi ?_
    refine px_aload_n dX8_isWord_59 rfl rfl ?_
    refine px_iload_n dX8_isWord_60 rfl rfl ?_
    refine px_callVS_I (As := [.int x2]) (st := [.int (gi1 1 ((gi1 22 2) + x2).toNatClampNeg)]) dX8_isWord_61 lk_X8_66.1 lk_X8_66.2 (b := p) hpN rfl (by decide) rfl (Nat.le_of_ble_eq_true rfl) rfl rfl (Nat.le_of_ble_eq_true rfl) ⟨Nat.le_refl _, Nat.le_refl _, Nat.le_refl _⟩ ?_
    refine PAt.mono h (fun v κ gi4 gl5 hq => ?_)
    obtain ⟨rfl, r6, rfl, h⟩ := hq
    refine px_icmp_eq (tgt := 69) dX8_isWord_64 (by decide) ?_
    by_cases hc : (gi1 1 ((gi1 22 2) + x2).toNatClampNeg) = r6
    · rw [if_pos hc] at h ⊢
      refine px_iinc (v := x2 + (1 : Int32)) (ls2 := [some (.ref 22), some (.ref (ROB + p)), some (.int (x2 + (1 : Int32)))]) dX8_isWord_69 rfl rfl (by decide) rfl ?_
      refine px_goto (tgt := 40) dX8_isWord_72 (by decide) ?_
      exact PAt.forget h (lsub_at ⟨rfl, ⟨rfl, ⟨rfl, trivial⟩⟩⟩)
    · rw [if_neg hc] at h ⊢
      refine px_iconst (v := (0 : Int32)) dX8_isWord_67 (by decide) ?_
      exact px_ireturn dX8_isWord_68 rfl ⟨.boolean, rfl, rfl, by decide⟩ ⟨rfl, _, rfl, h⟩
