/-! laid by program: X12 -/
def f_X12_within (x0 : Int32) (x1 : Int32) (x2 : Int32) (gi : Gi) (gl : Gl) (Q : Int32 → Gi → Gl → Prop) : Prop :=
if x0 < x1 then
(Q (0 : Int32) gi gl)
else
(if x2 < x0 then
(Q (0 : Int32) gi gl)
else
(Q (1 : Int32) gi gl))
set_option maxRecDepth 100000 in
theorem v_X12_within {x0 : Int32} {x1 : Int32} {x2 : Int32} {gi : Gi} {gl : Gl} {Q : Int32 → Gi → Gl → Prop}  (h : f_X12_within x0 x1 x2 gi gl Q) : p_X12_within x0 x1 x2 gi gl Q := by
  unfold f_X12_within at h
  show PAt mX12_within NN NN κF 0 [some (.int x0), some (.int x1), some (.int x2)] [] gi gl _
  refine px_iload_n dX12_within_0 rfl rfl ?_
  refine px_iload_n dX12_within_1 rfl rfl ?_
  refine px_icmp_lt (tgt := 14) dX12_within_2 (by decide) ?_
  by_cases hc : x0 < x1
  · rw [if_pos hc] at h ⊢
    refine px_iconst (v := (0 : Int32)) dX12_within_14 (by decide) ?_
    exact px_ireturn dX12_within_15 rfl ⟨.boolean, rfl, rfl, by decide⟩ ⟨rfl, _, rfl, h⟩
  · rw [if_neg hc] at h ⊢
    refine px_iload_n dX12_within_5 rfl rfl ?_
    refine px_iload_n dX12_within_6 rfl rfl ?_
    refine px_icmp_gt (tgt := 14) dX12_within_7 (by decide) ?_
    by_cases hc : x2 < x0
    · rw [if_pos hc] at h ⊢
      refine px_iconst (v := (0 : Int32)) dX12_within_14 (by decide) ?_
      exact px_ireturn dX12_within_15 rfl ⟨.boolean, rfl, rfl, by decide⟩ ⟨rfl, _, rfl, h⟩
    · rw [if_neg hc] at h ⊢
      refine px_iconst (v := (1 : Int32)) dX12_within_10 (by decide) ?_
      refine px_goto (tgt := 15) dX12_within_11 (by decide) ?_
      exact px_ireturn dX12_within_15 rfl ⟨.boolean, rfl, rfl, by decide⟩ ⟨rfl, _, rfl, h⟩
abbrev p_X12_feed_18 (x1 : Int32) (x2 : Int32) (x3 : Int32) (x4 : Int32) (x5 : Int32) (x6 : Int32) (gi : Gi) (gl : Gl) (Q : Int32 → Gi → Gl → Prop) : Prop := PAt mX12_feed NN NN κF 18 [some (.ref 329), some (.int x1), some (.int x2), some (.int x3), some (.int x4), some (.int x5), some (.int x6), none] [] gi gl (RiQ Q)
abbrev p_X12_feed_71 (x1 : Int32) (x2 : Int32) (x3 : Int32) (x4 : Int32) (x5 : Int32) (x6 : Int32) (s0 : Int32) (gi : Gi) (gl : Gl) (Q : Int32 → Gi → Gl → Prop) : Prop := PAt mX12_feed NN NN κF 71 [some (.ref 329), some (.int x1), some (.int x2), some (.int x3), some (.int x4), some (.int x5), some (.int x6), none] [.int s0] gi gl (RiQ Q)
def f_X12_feed (x1 : Int32) (x2 : Int32) (x3 : Int32) (x4 : Int32) (x5 : Int32) (gi : Gi) (gl : Gl) (Q : Int32 → Gi → Gl → Prop) : Prop :=
if ((gi 329 36) + (20 : Int32)) ≤ (1200 : Int32) then
(p_X12_feed_18 x1 x2 x3 x4 x5 (0 : Int32) gi gl Q)
else
(Q ((-1) : Int32) gi gl)
def f_X12_feed_18 (x1 : Int32) (x2 : Int32) (x3 : Int32) (x4 : Int32) (x5 : Int32) (x6 : Int32) (gi : Gi) (gl : Gl) (Q : Int32 → Gi → Gl → Prop) : Prop :=
if (20 : Int32) ≤ x6 then
(Q (gi 329 36) gi gl)
else
(if (4 : Int32) ≤ x6 then
(if (8 : Int32) ≤ x6 then
(if (12 : Int32) ≤ x6 then
(if (16 : Int32) ≤ x6 then
(p_X12_feed_71 x1 x2 x3 x4 x5 x6 x5 gi gl Q)
else
(p_X12_feed_71 x1 x2 x3 x4 x5 x6 x4 gi gl Q))
else
(p_X12_feed_71 x1 x2 x3 x4 x5 x6 x3 gi gl Q))
else
(p_X12_feed_71 x1 x2 x3 x4 x5 x6 x2 gi gl Q))
else
(p_X12_feed_71 x1 x2 x3 x4 x5 x6 x1 gi gl Q))
def f_X12_feed_71 (x1 : Int32) (x2 : Int32) (x3 : Int32) (x4 : Int32) (x5 : Int32) (x6 : Int32) (s0 : Int32) (gi : Gi) (gl : Gl) (Q : Int32 → Gi → Gl → Prop) : Prop :=
vp_in (gi 329 36) 1200 ∧
∀ gi1 : Gi, gi1 = uI gi 363 (upd (gi 363) (gi 329 36).toNatClampNeg (vp_nar .byte ((ja s0 ((24 : Int32) - ((8 : Int32) * (jr x6 (4 : Int32))))).toInt8.toInt32))) →
∀ gi2 : Gi, gi2 = uI gi1 329 (upd (gi1 329) 36 ((gi1 329 36) + (1 : Int32))) →
p_X12_feed_18 x1 x2 x3 x4 x5 (x6 + (1 : Int32)) gi2 gl Q
set_option maxRecDepth 100000 in
theorem v_X12_feed {x1 : Int32} {x2 : Int32} {x3 : Int32} {x4 : Int32} {x5 : Int32} {gi : Gi} {gl : Gl} {Q : Int32 → Gi → Gl → Prop}  (h : f_X12_feed x1 x2 x3 x4 x5 gi gl Q) : p_X12_feed x1 x2 x3 x4 x5 gi gl Q := by
  unfold f_X12_feed at h
  show PAt mX12_feed NN NN κF 0 [some (.ref 329), some (.int x1), some (.int x2), some (.int x3), some (.int x4), some (.int x5), none, none] [] gi gl _
  refine px_aload_n dX12_feed_0 rfl rfl ?_
  refine gf_X12_161 rfl dX12_feed_1 zl_329 zk_329 ?_
  refine px_bipush (v := (20 : Int32)) dX12_feed_4 (by decide) ?_
  refine px_iadd dX12_feed_6 ?_
  refine px_sipush (v := (1200 : Int32)) dX12_feed_7 (by decide) ?_
  refine px_icmp_le (tgt := 15) dX12_feed_10 (by decide) ?_
  by_cases hc : ((gi 329 36) + (20 : Int32)) ≤ (1200 : Int32)
  · rw [if_pos hc] at h ⊢
    refine px_iconst (v := (0 : Int32)) dX12_feed_15 (by decide) ?_
    refine px_istore (ls2 := [some (.ref 329), some (.int x1), some (.int x2), some (.int x3), some (.int x4), some (.int x5), some (.int (0 : Int32)), none]) dX12_feed_16 (by decide) rfl ?_
    exact PAt.forget h (lsub_at ⟨rfl, ⟨rfl, ⟨rfl, ⟨rfl, ⟨rfl, ⟨rfl, ⟨rfl, trivial⟩⟩⟩⟩⟩⟩⟩)
  · rw [if_neg hc] at h ⊢
    refine px_iconst (v := ((-1) : Int32)) dX12_feed_13 (by decide) ?_
    exact px_ireturn dX12_feed_14 rfl ⟨.int, rfl, rfl, rfl⟩ ⟨rfl, _, rfl, h⟩
set_option maxRecDepth 100000 in
theorem v_X12_feed_18 {x1 : Int32} {x2 : Int32} {x3 : Int32} {x4 : Int32} {x5 : Int32} {x6 : Int32} {gi : Gi} {gl : Gl} {Q : Int32 → Gi → Gl → Prop}  (h : f_X12_feed_18 x1 x2 x3 x4 x5 x6 gi gl Q) : p_X12_feed_18 x1 x2 x3 x4 x5 x6 gi gl Q := by
  unfold f_X12_feed_18 at h
  show PAt mX12_feed NN NN κF 18 [some (.ref 329), some (.int x1), some (.int x2), some (.int x3), some (.int x4), some (.int x5), some (.int x6), none] [] gi gl _
  refine px_iload dX12_feed_18 rfl ?_
  refine px_bipush (v := (20 : Int32)) dX12_feed_20 (by decide) ?_
  refine px_icmp_ge (tgt := 112) dX12_feed_22 (by decide) ?_
  by_cases hc : (20 : Int32) ≤ x6
  · rw [if_pos hc] at h ⊢
    refine px_aload_n dX12_feed_112 rfl rfl ?_
    refine gf_X12_161 rfl dX12_feed_113 zl_329 zk_329 ?_
    exact px_ireturn dX12_feed_116 rfl ⟨.int, rfl, rfl, rfl⟩ ⟨rfl, _, rfl, h⟩
  · rw [if_neg hc] at h ⊢
    refine px_iload dX12_feed_25 rfl ?_
    refine px_iconst (v := (4 : Int32)) dX12_feed_27 (by decide) ?_
    refine px_icmp_ge (tgt := 35) dX12_feed_28 (by decide) ?_
    by_cases hc : (4 : Int32) ≤ x6
    · rw [if_pos hc] at h ⊢
      refine px_iload dX12_feed_35 rfl ?_
      refine px_bipush (v := (8 : Int32)) dX12_feed_37 (by decide) ?_
      refine px_icmp_ge (tgt := 46) dX12_feed_39 (by decide) ?_
      by_cases hc : (8 : Int32) ≤ x6
      · rw [if_pos hc] at h ⊢
        refine px_iload dX12_feed_46 rfl ?_
        refine px_bipush (v := (12 : Int32)) dX12_feed_48 (by decide) ?_
        refine px_icmp_ge (tgt := 57) dX12_feed_50 (by decide) ?_
        by_cases hc : (12 : Int32) ≤ x6
        · rw [if_pos hc] at h ⊢
          refine px_iload dX12_feed_57 rfl ?_
          refine px_bipush (v := (16 : Int32)) dX12_feed_59 (by decide) ?_
          refine px_icmp_ge (tgt := 69) dX12_feed_61 (by decide) ?_
          by_cases hc : (16 : Int32) ≤ x6
          · rw [if_pos hc] at h ⊢
            refine px_iload dX12_feed_69 rfl ?_
            exact PAt.forget h (lsub_at ⟨rfl, ⟨rfl, ⟨rfl, ⟨rfl, ⟨rfl, ⟨rfl, ⟨rfl, trivial⟩⟩⟩⟩⟩⟩⟩)
          · rw [if_neg hc] at h ⊢
            refine px_iload dX12_feed_64 rfl ?_
            refine px_goto (tgt := 71) dX12_feed_66 (by decide) ?_
            exact PAt.forget h (lsub_at ⟨rfl, ⟨rfl, ⟨rfl, ⟨rfl, ⟨rfl, ⟨rfl, ⟨rfl, trivial⟩⟩⟩⟩⟩⟩⟩)
        · rw [if_neg hc] at h ⊢
          refine px_iload_n dX12_feed_53 rfl rfl ?_
          refine px_goto (tgt := 71) dX12_feed_54 (by decide) ?_
          exact PAt.forget h (lsub_at ⟨rfl, ⟨rfl, ⟨rfl, ⟨rfl, ⟨rfl, ⟨rfl, ⟨rfl, trivial⟩⟩⟩⟩⟩⟩⟩)
      · rw [if_neg hc] at h ⊢
        refine px_iload_n dX12_feed_42 rfl rfl ?_
        refine px_goto (tgt := 71) dX12_feed_43 (by decide) ?_
        exact PAt.forget h (lsub_at ⟨rfl, ⟨rfl, ⟨rfl, ⟨rfl, ⟨rfl, ⟨rfl, ⟨rfl, trivial⟩⟩⟩⟩⟩⟩⟩)
    · rw [if_neg hc] at h ⊢
      refine px_iload_n dX12_feed_31 rfl rfl ?_
      refine px_goto (tgt := 71) dX12_feed_32 (by decide) ?_
      exact PAt.forget h (lsub_at ⟨rfl, ⟨rfl, ⟨rfl, ⟨rfl, ⟨rfl, ⟨rfl, ⟨rfl, trivial⟩⟩⟩⟩⟩⟩⟩)
set_option maxRecDepth 100000 in
theorem v_X12_feed_71 {x1 : Int32} {x2 : Int32} {x3 : Int32} {x4 : Int32} {x5 : Int32} {x6 : Int32} {s0 : Int32} {gi : Gi} {gl : Gl} {Q : Int32 → Gi → Gl → Prop}  (h : f_X12_feed_71 x1 x2 x3 x4 x5 x6 s0 gi gl Q) : p_X12_feed_71 x1 x2 x3 x4 x5 x6 s0 gi gl Q := by
  unfold f_X12_feed_71 at h
  show PAt mX12_feed NN NN κF 71 [some (.ref 329), some (.int x1), some (.int x2), some (.int x3), some (.int x4), some (.int x5), some (.int x6), none] [.int s0] gi gl _
  refine px_istore (ls2 := [some (.ref 329), some (.int x1), some (.int x2), some (.int x3), some (.int x4), some (.int x5), some (.int x6), some (.int s0)]) dX12_feed_71 (by decide) rfl ?_
  refine px_aload_n dX12_feed_73 rfl rfl ?_
  refine gf_X12_110 rfl dX12_feed_74 zl_329 zk_329 rfl zr_329_35 zl_363 ?_
  refine px_aload_n dX12_feed_77 rfl rfl ?_
  refine gf_X12_161 rfl dX12_feed_78 zl_329 zk_329 ?_
  refine px_iload dX12_feed_81 rfl ?_
  refine px_bipush (v := (24 : Int32)) dX12_feed_83 (by decide) ?_
  refine px_bipush (v := (8 : Int32)) dX12_feed_85 (by decide) ?_
  refine px_iload dX12_feed_87 rfl ?_
  refine px_iconst (v := (4 : Int32)) dX12_feed_89 (by decide) ?_
  refine px_irem dX12_feed_90 (by decide) ?_
  refine px_imul dX12_feed_91 ?_
  refine px_isub dX12_feed_92 ?_
  refine px_ishr dX12_feed_93 ?_
  refine px_i2b dX12_feed_94 ?_
  obtain ⟨hi, h⟩ := h
  refine px_bastore (n := 1200) dX12_feed_95 zl_363 zk_363 zs_363 hi ?_
  obtain ⟨gi1, hgi1⟩ : ∃ y : Gi, y = uI gi 363 (upd (gi 363) (gi 329 36).toNatClampNeg (vp_nar .byte ((ja s0 ((24 : Int32) - ((8 : Int32) * (jr x6 (4 : Int32))))).toInt8.toInt32))) := ⟨_, rfl⟩
  have h := h gi1 hgi1
  refine px_namegi hgi1 ?_
  refine px_aload_n dX12_feed_96 rfl rfl ?_
  refine px_dup dX12_feed_97 rfl ?_
  refine gf_X12_161 rfl dX12_feed_98 zl_329 zk_329 ?_
  refine px_iconst (v := (1 : Int32)) dX12_feed_101 (by decide) ?_
  refine px_iadd dX12_feed_102 ?_
  refine pf_X12_161 rfl dX12_feed_103 zl_329 zk_329 ?_
  obtain ⟨gi2, hgi2⟩ : ∃ y : Gi, y = uI gi1 329 (upd (gi1 329) 36 ((gi1 329 36) + (1 : Int32))) := ⟨_, rfl⟩
  have h := h gi2 hgi2
  refine px_namegi hgi2 ?_
  refine px_iinc (v := x6 + (1 : Int32)) (ls2 := [some (.ref 329), some (.int x1), some (.int x2), some (.int x3), some (.int x4), some (.int x5), some (.int (x6 + (1 : Int32))), some (.int s0)]) dX12_feed_106 rfl rfl (by decide) rfl ?_
  refine px_goto (tgt := 18) dX12_feed_109 (by decide) ?_
  exact PAt.forget h (lsub_at ⟨rfl, ⟨rfl, ⟨rfl, ⟨rfl, ⟨rfl, ⟨rfl, ⟨rfl, trivial⟩⟩⟩⟩⟩⟩⟩)
def f_X12_here  (gi : Gi) (gl : Gl) (Q : Int32 → Gi → Gl → Prop) : Prop :=
if (gi 329 38) ≤ (gi 329 39) then
(Q ((-1) : Int32) gi gl)
else
(vp_in (gi 329 39) 1200 ∧
Q ((gi 363 (gi 329 39).toNatClampNeg) &&& (255 : Int32)) gi gl)
set_option maxRecDepth 100000 in
theorem v_X12_here  {gi : Gi} {gl : Gl} {Q : Int32 → Gi → Gl → Prop}  (h : f_X12_here  gi gl Q) : p_X12_here  gi gl Q := by
  unfold f_X12_here at h
  show PAt mX12_here NN NN κF 0 [some (.ref 329)] [] gi gl _
  refine px_aload_n dX12_here_0 rfl rfl ?_
  refine gf_X12_164 rfl dX12_here_1 zl_329 zk_329 ?_
  refine px_aload_n dX12_here_4 rfl rfl ?_
  refine gf_X12_167 rfl dX12_here_5 zl_329 zk_329 ?_
  refine px_icmp_ge (tgt := 27) dX12_here_8 (by decide) ?_
  by_cases hc : (gi 329 38) ≤ (gi 329 39)
  · rw [if_pos hc] at h ⊢
    refine px_iconst (v := ((-1) : Int32)) dX12_here_27 (by decide) ?_
    exact px_ireturn dX12_here_28 rfl ⟨.int, rfl, rfl, rfl⟩ ⟨rfl, _, rfl, h⟩
  · rw [if_neg hc] at h ⊢
    refine px_aload_n dX12_here_11 rfl rfl ?_
    refine gf_X12_110 rfl dX12_here_12 zl_329 zk_329 rfl zr_329_35 zl_363 ?_
    refine px_aload_n dX12_here_15 rfl rfl ?_
    refine gf_X12_164 rfl dX12_here_16 zl_329 zk_329 ?_
    obtain ⟨hi, h⟩ := h
    refine px_baload (n := 1200) dX12_here_19 zl_363 zk_363 zs_363 hi ?_
    refine px_sipush (v := (255 : Int32)) dX12_here_20 (by decide) ?_
    refine px_iand dX12_here_23 ?_
    refine px_goto (tgt := 28) dX12_here_24 (by decide) ?_
    exact px_ireturn dX12_here_28 rfl ⟨.int, rfl, rfl, rfl⟩ ⟨rfl, _, rfl, h⟩
abbrev p_X12_next_0  (gi : Gi) (gl : Gl) (Q : Gi → Gl → Prop) : Prop := PAt mX12_next NN NN κF 0 [some (.ref 329), none] [] gi gl (RvQ Q)
abbrev p_X12_next_89  (gi : Gi) (gl : Gl) (Q : Gi → Gl → Prop) : Prop := PAt mX12_next NN NN κF 89 [some (.ref 329), none] [] gi gl (RvQ Q)
abbrev p_X12_next_168  (gi : Gi) (gl : Gl) (Q : Gi → Gl → Prop) : Prop := PAt mX12_next NN NN κF 168 [some (.ref 329), none] [] gi gl (RvQ Q)
def f_X12_next  (gi : Gi) (gl : Gl) (Q : Gi → Gl → Prop) : Prop :=
p_X12_here  gi gl (fun (r3 : Int32) (gi1 : Gi) (gl2 : Gl) =>
if r3 = (32 : Int32) then
(∀ gi4 : Gi, gi4 = uI gi1 329 (upd (gi1 329) 39 ((gi1 329 39) + (1 : Int32))) →
p_X12_next_0  gi4 gl2 Q)
else
(p_X12_here  gi1 gl2 (fun (r7 : Int32) (gi5 : Gi) (gl6 : Gl) =>
if ¬ r7 = (10 : Int32) then
(∀ gi8 : Gi, gi8 = uI gi5 329 (upd (gi5 329) 40 (gi5 329 39)) →
p_X12_here  gi8 gl6 (fun (r11 : Int32) (gi9 : Gi) (gl10 : Gl) =>
∀ gl12 : Gl, gl12 = uL gl10 329 (vp_updL (gl10 329) 43 ((-1) : Int64)) →
∀ gi13 : Gi, gi13 = uI gi9 329 (upd (gi9 329) 42 (0 : Int32)) →
if 0 ≤ r11 then
(p_X12_within r11 (97 : Int32) (122 : Int32) gi13 gl12 (fun (r16 : Int32) (gi14 : Gi) (gl15 : Gl) =>
if r16 = 0 then
(p_X12_within r11 (48 : Int32) (57 : Int32) gi14 gl15 (fun (r19 : Int32) (gi17 : Gi) (gl18 : Gl) =>
if r19 = 0 then
(if ¬ r11 = (59 : Int32) then
(∀ gi20 : Gi, gi20 = uI gi17 329 (upd (gi17 329) 41 (3 : Int32)) →
∀ gi21 : Gi, gi21 = uI gi20 329 (upd (gi20 329) 39 ((gi20 329 39) + (1 : Int32))) →
Q gi21 gl18)
else
(∀ gi22 : Gi, gi22 = uI gi17 329 (upd (gi17 329) 41 (59 : Int32)) →
∀ gi23 : Gi, gi23 = uI gi22 329 (upd (gi22 329) 39 ((gi22 329 39) + (1 : Int32))) →
Q gi23 gl18))
else
(p_X12_next_168  gi17 gl18 Q)))
else
(∀ gi24 : Gi, gi24 = uI gi14 329 (upd (gi14 329) 41 (1 : Int32)) →
∀ gl25 : Gl, gl25 = uL gl15 329 (vp_updL (gl15 329) 43 (0 : Int64)) →
p_X12_next_89  gi24 gl25 Q)))
else
(∀ gi26 : Gi, gi26 = uI gi13 329 (upd (gi13 329) 41 (0 : Int32)) →
Q gi26 gl12)))
else
(∀ gi27 : Gi, gi27 = uI gi5 329 (upd (gi5 329) 39 ((gi5 329 39) + (1 : Int32))) →
p_X12_next_0  gi27 gl6 Q))))
def f_X12_next_0  (gi : Gi) (gl : Gl) (Q : Gi → Gl → Prop) : Prop :=
p_X12_here  gi gl (fun (r3 : Int32) (gi1 : Gi) (gl2 : Gl) =>
if r3 = (32 : Int32) then
(∀ gi4 : Gi, gi4 = uI gi1 329 (upd (gi1 329) 39 ((gi1 329 39) + (1 : Int32))) →
p_X12_next_0  gi4 gl2 Q)
else
(p_X12_here  gi1 gl2 (fun (r7 : Int32) (gi5 : Gi) (gl6 : Gl) =>
if ¬ r7 = (10 : Int32) then
(∀ gi8 : Gi, gi8 = uI gi5 329 (upd (gi5 329) 40 (gi5 329 39)) →
p_X12_here  gi8 gl6 (fun (r11 : Int32) (gi9 : Gi) (gl10 : Gl) =>
∀ gl12 : Gl, gl12 = uL gl10 329 (vp_updL (gl10 329) 43 ((-1) : Int64)) →
∀ gi13 : Gi, gi13 = uI gi9 329 (upd (gi9 329) 42 (0 : Int32)) →
if 0 ≤ r11 then
(p_X12_within r11 (97 : Int32) (122 : Int32) gi13 gl12 (fun (r16 : Int32) (gi14 : Gi) (gl15 : Gl) =>
if r16 = 0 then
(p_X12_within r11 (48 : Int32) (57 : Int32) gi14 gl15 (fun (r19 : Int32) (gi17 : Gi) (gl18 : Gl) =>
if r19 = 0 then
(if ¬ r11 = (59 : Int32) then
(∀ gi20 : Gi, gi20 = uI gi17 329 (upd (gi17 329) 41 (3 : Int32)) →
∀ gi21 : Gi, gi21 = uI gi20 329 (upd (gi20 329) 39 ((gi20 329 39) + (1 : Int32))) →
Q gi21 gl18)
else
(∀ gi22 : Gi, gi22 = uI gi17 329 (upd (gi17 329) 41 (59 : Int32)) →
∀ gi23 : Gi, gi23 = uI gi22 329 (upd (gi22 329) 39 ((gi22 329 39) + (1 : Int32))) →
Q gi23 gl18))
else
(p_X12_next_168  gi17 gl18 Q)))
else
(∀ gi24 : Gi, gi24 = uI gi14 329 (upd (gi14 329) 41 (1 : Int32)) →
∀ gl25 : Gl, gl25 = uL gl15 329 (vp_updL (gl15 329) 43 (0 : Int64)) →
p_X12_next_89  gi24 gl25 Q)))
else
(∀ gi26 : Gi, gi26 = uI gi13 329 (upd (gi13 329) 41 (0 : Int32)) →
Q gi26 gl12)))
else
(∀ gi27 : Gi, gi27 = uI gi5 329 (upd (gi5 329) 39 ((gi5 329 39) + (1 : Int32))) →
p_X12_next_0  gi27 gl6 Q))))
def f_X12_next_168  (gi : Gi) (gl : Gl) (Q : Gi → Gl → Prop) : Prop :=
p_X12_here  gi gl (fun (r3 : Int32) (gi1 : Gi) (gl2 : Gl) =>
p_X12_within r3 (48 : Int32) (57 : Int32) gi1 gl2 (fun (r6 : Int32) (gi4 : Gi) (gl5 : Gl) =>
if r6 = 0 then
(if (4 : Int32) < ((gi4 329 39) - (gi4 329 40)) then
(∀ gi7 : Gi, gi7 = uI gi4 329 (upd (gi4 329) 41 (3 : Int32)) →
Q gi7 gl5)
else
(∀ gi8 : Gi, gi8 = uI gi4 329 (upd (gi4 329) 41 (2 : Int32)) →
Q gi8 gl5))
else
(if (1000000 : Int32) ≤ (gi4 329 42) then
(∀ gi9 : Gi, gi9 = uI gi4 329 (upd (gi4 329) 39 ((gi4 329 39) + (1 : Int32))) →
p_X12_next_168  gi9 gl5 Q)
else
(p_X12_here  gi4 gl5 (fun (r12 : Int32) (gi10 : Gi) (gl11 : Gl) =>
∀ gi13 : Gi, gi13 = uI gi10 329 (upd (gi10 329) 42 ((((10 : Int32) * (gi4 329 42)) + r12) - (48 : Int32))) →
∀ gi14 : Gi, gi14 = uI gi13 329 (upd (gi13 329) 39 ((gi13 329 39) + (1 : Int32))) →
p_X12_next_168  gi14 gl11 Q)))))
def f_X12_next_89  (gi : Gi) (gl : Gl) (Q : Gi → Gl → Prop) : Prop :=
p_X12_here  gi gl (fun (r3 : Int32) (gi1 : Gi) (gl2 : Gl) =>
p_X12_within r3 (97 : Int32) (122 : Int32) gi1 gl2 (fun (r6 : Int32) (gi4 : Gi) (gl5 : Gl) =>
if r6 = 0 then
(Q gi4 gl5)
else
(if (8 : Int32) ≤ ((gi4 329 39) - (gi4 329 40)) then
(∀ gl7 : Gl, gl7 = uL gl5 329 (vp_updL (gl5 329) 43 ((-1) : Int64)) →
∀ gi8 : Gi, gi8 = uI gi4 329 (upd (gi4 329) 39 ((gi4 329 39) + (1 : Int32))) →
p_X12_next_89  gi8 gl7 Q)
else
(p_X12_here  gi4 gl5 (fun (r11 : Int32) (gi9 : Gi) (gl10 : Gl) =>
∀ gl12 : Gl, gl12 = uL gl10 329 (vp_updL (gl10 329) 43 (((gl5 329 43) * (27 : Int64)) + ((r11 - (96 : Int32)).toInt64))) →
∀ gi13 : Gi, gi13 = uI gi9 329 (upd (gi9 329) 39 ((gi9 329 39) + (1 : Int32))) →
p_X12_next_89  gi13 gl12 Q)))))
set_option maxRecDepth 100000 in
theorem v_X12_next  {gi : Gi} {gl : Gl} {Q : Gi → Gl → Prop}  (h : f_X12_next  gi gl Q) : p_X12_next  gi gl Q := by
  unfold f_X12_next at h
  show PAt mX12_next NN NN κF 0 [some (.ref 329), none] [] gi gl _
  refine px_aload_n dX12_next_0 rfl rfl ?_
  refine px_callV_I (As := []) (st := []) dX12_next_1 lk_X12_170.1 lk_X12_170.2 (b := 329) zl_329 zk_329 (by decide) rfl (by decide) rfl (Nat.le_of_ble_eq_true rfl) rfl rfl (Nat.le_of_ble_eq_true rfl) ⟨Nat.le_refl _, Nat.le_refl _, Nat.le_refl _⟩ ?_
  refine PAt.mono h (fun v κ gi1 gl2 hq => ?_)
  obtain ⟨rfl, r3, rfl, h⟩ := hq
  refine px_bipush (v := (32 : Int32)) dX12_next_4 (by decide) ?_
  refine px_icmp_eq (tgt := 18) dX12_next_6 (by decide) ?_
  by_cases hc : r3 = (32 : Int32)
  · rw [if_pos hc] at h ⊢
    refine px_aload_n dX12_next_18 rfl rfl ?_
    refine px_dup dX12_next_19 rfl ?_
    refine gf_X12_164 rfl dX12_next_20 zl_329 zk_329 ?_
    refine px_iconst (v := (1 : Int32)) dX12_next_23 (by decide) ?_
    refine px_iadd dX12_next_24 ?_
    refine pf_X12_164 rfl dX12_next_25 zl_329 zk_329 ?_
    obtain ⟨gi4, hgi4⟩ : ∃ y : Gi, y = uI gi1 329 (upd (gi1 329) 39 ((gi1 329 39) + (1 : Int32))) := ⟨_, rfl⟩
    have h := h gi4 hgi4
    refine px_namegi hgi4 ?_
    refine px_goto (tgt := 0) dX12_next_28 (by decide) ?_
    exact PAt.forget h (lsub_at ⟨rfl, trivial⟩)
  · rw [if_neg hc] at h ⊢
    refine px_aload_n dX12_next_9 rfl rfl ?_
    refine px_callV_I (As := []) (st := []) dX12_next_10 lk_X12_170.1 lk_X12_170.2 (b := 329) zl_329 zk_329 (by decide) rfl (by decide) rfl (Nat.le_of_ble_eq_true rfl) rfl rfl (Nat.le_of_ble_eq_true rfl) ⟨Nat.le_refl _, Nat.le_refl _, Nat.le_refl _⟩ ?_
    refine PAt.mono h (fun v κ gi5 gl6 hq => ?_)
    obtain ⟨rfl, r7, rfl, h⟩ := hq
    refine px_bipush (v := (10 : Int32)) dX12_next_13 (by decide) ?_
    refine px_icmp_ne (tgt := 31) dX12_next_15 (by decide) ?_
    by_cases hc : ¬ r7 = (10 : Int32)
    · rw [if_pos hc] at h ⊢
      refine px_aload_n dX12_next_31 rfl rfl ?_
      refine px_aload_n dX12_next_32 rfl rfl ?_
      refine gf_X12_164 rfl dX12_next_33 zl_329 zk_329 ?_
      refine pf_X12_174 rfl dX12_next_36 zl_329 zk_329 ?_
      obtain ⟨gi8, hgi8⟩ : ∃ y : Gi, y = uI gi5 329 (upd (gi5 329) 40 (gi5 329 39)) := ⟨_, rfl⟩
      have h := h gi8 hgi8
      refine px_namegi hgi8 ?_
      refine px_aload_n dX12_next_39 rfl rfl ?_
      refine px_callV_I (As := []) (st := []) dX12_next_40 lk_X12_170.1 lk_X12_170.2 (b := 329) zl_329 zk_329 (by decide) rfl (by decide) rfl (Nat.le_of_ble_eq_true rfl) rfl rfl (Nat.le_of_ble_eq_true rfl) ⟨Nat.le_refl _, Nat.le_refl _, Nat.le_refl _⟩ ?_
      refine PAt.mono h (fun v κ gi9 gl10 hq => ?_)
      obtain ⟨rfl, r11, rfl, h⟩ := hq
      refine px_istore_n (ls2 := [some (.ref 329), some (.int r11)]) (i := 1) rfl dX12_next_43 (by decide) rfl ?_
      refine px_aload_n dX12_next_44 rfl rfl ?_
      refine px_ldc2 (v := ((-1) : Int64)) dX12_next_45 w_1408 ?_
      refine pf_X12_179 rfl dX12_next_48 zl_329 zk_329 ?_
      obtain ⟨gl12, hgl12⟩ : ∃ y : Gl, y = uL gl10 329 (vp_updL (gl10 329) 43 ((-1) : Int64)) := ⟨_, rfl⟩
      have h := h gl12 hgl12
      refine px_namegl hgl12 ?_
      refine px_aload_n dX12_next_51 rfl rfl ?_
      refine px_iconst (v := (0 : Int32)) dX12_next_52 (by decide) ?_
      refine pf_X12_183 rfl dX12_next_53 zl_329 zk_329 ?_
      obtain ⟨gi13, hgi13⟩ : ∃ y : Gi, y = uI gi9 329 (upd (gi9 329) 42 (0 : Int32)) := ⟨_, rfl⟩
      have h := h gi13 hgi13
      refine px_namegi hgi13 ?_
      refine px_iload_n dX12_next_56 rfl rfl ?_
      refine px_if_ge (tgt := 68) dX12_next_57 (by decide) ?_
      by_cases hc : 0 ≤ r11
      · rw [if_pos hc] at h ⊢
        refine px_iload_n dX12_next_68 rfl rfl ?_
        refine px_bipush (v := (97 : Int32)) dX12_next_69 (by decide) ?_
        refine px_bipush (v := (122 : Int32)) dX12_next_71 (by decide) ?_
        refine px_callS_I (As := [.int r11, .int (97 : Int32), .int (122 : Int32)]) (st := []) dX12_next_73 lk_X12_189.1 lk_X12_189.2 (by decide) rfl (Nat.le_of_ble_eq_true rfl) rfl rfl (Nat.le_of_ble_eq_true rfl) ⟨Nat.le_refl _, Nat.le_refl _, Nat.le_refl _⟩ ?_
        refine PAt.mono h (fun v κ gi14 gl15 hq => ?_)
        obtain ⟨rfl, r16, rfl, h⟩ := hq
        refine px_if_eq (tgt := 157) dX12_next_76 (by decide) ?_
        by_cases hc : r16 = 0
        · rw [if_pos hc] at h ⊢
          refine px_iload_n dX12_next_157 rfl rfl ?_
          refine px_bipush (v := (48 : Int32)) dX12_next_158 (by decide) ?_
          refine px_bipush (v := (57 : Int32)) dX12_next_160 (by decide) ?_
          refine px_callS_I (As := [.int r11, .int (48 : Int32), .int (57 : Int32)]) (st := []) dX12_next_162 lk_X12_189.1 lk_X12_189.2 (by decide) rfl (Nat.le_of_ble_eq_true rfl) rfl rfl (Nat.le_of_ble_eq_true rfl) ⟨Nat.le_refl _, Nat.le_refl _, Nat.le_refl _⟩ ?_
          refine PAt.mono h (fun v κ gi17 gl18 hq => ?_)
          obtain ⟨rfl, r19, rfl, h⟩ := hq
          refine px_if_eq (tgt := 248) dX12_next_165 (by decide) ?_
          by_cases hc : r19 = 0
          · rw [if_pos hc] at h ⊢
            refine px_aload_n dX12_next_248 rfl rfl ?_
            refine px_iload_n dX12_next_249 rfl rfl ?_
            refine px_bipush (v := (59 : Int32)) dX12_next_250 (by decide) ?_
            refine px_icmp_ne (tgt := 260) dX12_next_252 (by decide) ?_
            by_cases hc : ¬ r11 = (59 : Int32)
            · rw [if_pos hc] at h ⊢
              refine px_iconst (v := (3 : Int32)) dX12_next_260 (by decide) ?_
              refine pf_X12_186 rfl dX12_next_261 zl_329 zk_329 ?_
              obtain ⟨gi20, hgi20⟩ : ∃ y : Gi, y = uI gi17 329 (upd (gi17 329) 41 (3 : Int32)) := ⟨_, rfl⟩
              have h := h gi20 hgi20
              refine px_namegi hgi20 ?_
              refine px_aload_n dX12_next_264 rfl rfl ?_
              refine px_dup dX12_next_265 rfl ?_
              refine gf_X12_164 rfl dX12_next_266 zl_329 zk_329 ?_
              refine px_iconst (v := (1 : Int32)) dX12_next_269 (by decide) ?_
              refine px_iadd dX12_next_270 ?_
              refine pf_X12_164 rfl dX12_next_271 zl_329 zk_329 ?_
              obtain ⟨gi21, hgi21⟩ : ∃ y : Gi, y = uI gi20 329 (upd (gi20 329) 39 ((gi20 329 39) + (1 : Int32))) := ⟨_, rfl⟩
              have h := h gi21 hgi21
              refine px_namegi hgi21 ?_
              exact px_return dX12_next_274 rfl rfl ⟨rfl, rfl, h⟩
            · rw [if_neg hc] at h ⊢
              refine px_bipush (v := (59 : Int32)) dX12_next_255 (by decide) ?_
              refine px_goto (tgt := 261) dX12_next_257 (by decide) ?_
              refine pf_X12_186 rfl dX12_next_261 zl_329 zk_329 ?_
              obtain ⟨gi22, hgi22⟩ : ∃ y : Gi, y = uI gi17 329 (upd (gi17 329) 41 (59 : Int32)) := ⟨_, rfl⟩
              have h := h gi22 hgi22
              refine px_namegi hgi22 ?_
              refine px_aload_n dX12_next_264 rfl rfl ?_
              refine px_dup dX12_next_265 rfl ?_
              refine gf_X12_164 rfl dX12_next_266 zl_329 zk_329 ?_
              refine px_iconst (v := (1 : Int32)) dX12_next_269 (by decide) ?_
              refine px_iadd dX12_next_270 ?_
              refine pf_X12_164 rfl dX12_next_271 zl_329 zk_329 ?_
              obtain ⟨gi23, hgi23⟩ : ∃ y : Gi, y = uI gi22 329 (upd (gi22 329) 39 ((gi22 329 39) + (1 : Int32))) := ⟨_, rfl⟩
              have h := h gi23 hgi23
              refine px_namegi hgi23 ?_
              exact px_return dX12_next_274 rfl rfl ⟨rfl, rfl, h⟩
          · rw [if_neg hc] at h ⊢
            exact PAt.forget h (lsub_at ⟨rfl, trivial⟩)
        · rw [if_neg hc] at h ⊢
          refine px_aload_n dX12_next_79 rfl rfl ?_
          refine px_iconst (v := (1 : Int32)) dX12_next_80 (by decide) ?_
          refine pf_X12_186 rfl dX12_next_81 zl_329 zk_329 ?_
          obtain ⟨gi24, hgi24⟩ : ∃ y : Gi, y = uI gi14 329 (upd (gi14 329) 41 (1 : Int32)) := ⟨_, rfl⟩
          have h := h gi24 hgi24
          refine px_namegi hgi24 ?_
          refine px_aload_n dX12_next_84 rfl rfl ?_
          refine px_lconst (v := (0 : Int64)) dX12_next_85 (by decide) ?_
          refine pf_X12_179 rfl dX12_next_86 zl_329 zk_329 ?_
          obtain ⟨gl25, hgl25⟩ : ∃ y : Gl, y = uL gl15 329 (vp_updL (gl15 329) 43 (0 : Int64)) := ⟨_, rfl⟩
          have h := h gl25 hgl25
          refine px_namegl hgl25 ?_
          exact PAt.forget h (lsub_at ⟨rfl, trivial⟩)
      · rw [if_neg hc] at h ⊢
        refine px_aload_n dX12_next_60 rfl rfl ?_
        refine px_iconst (v := (0 : Int32)) dX12_next_61 (by decide) ?_
        refine pf_X12_186 rfl dX12_next_62 zl_329 zk_329 ?_
        obtain ⟨gi26, hgi26⟩ : ∃ y : Gi, y = uI gi13 329 (upd (gi13 329) 41 (0 : Int32)) := ⟨_, rfl⟩
        have h := h gi26 hgi26
        refine px_namegi hgi26 ?_
        refine px_goto (tgt := 274) dX12_next_65 (by decide) ?_
        exact px_return dX12_next_274 rfl rfl ⟨rfl, rfl, h⟩
    · rw [if_neg hc] at h ⊢
      refine px_aload_n dX12_next_18 rfl rfl ?_
      refine px_dup dX12_next_19 rfl ?_
      refine gf_X12_164 rfl dX12_next_20 zl_329 zk_329 ?_
      refine px_iconst (v := (1 : Int32)) dX12_next_23 (by decide) ?_
      refine px_iadd dX12_next_24 ?_
      refine pf_X12_164 rfl dX12_next_25 zl_329 zk_329 ?_
      obtain ⟨gi27, hgi27⟩ : ∃ y : Gi, y = uI gi5 329 (upd (gi5 329) 39 ((gi5 329 39) + (1 : Int32))) := ⟨_, rfl⟩
      have h := h gi27 hgi27
      refine px_namegi hgi27 ?_
      refine px_goto (tgt := 0) dX12_next_28 (by decide) ?_
      exact PAt.forget h (lsub_at ⟨rfl, trivial⟩)
set_option maxRecDepth 100000 in
theorem v_X12_next_0  {gi : Gi} {gl : Gl} {Q : Gi → Gl → Prop}  (h : f_X12_next_0  gi gl Q) : p_X12_next_0  gi gl Q := by
  unfold f_X12_next_0 at h
  show PAt mX12_next NN NN κF 0 [some (.ref 329), none] [] gi gl _
  refine px_aload_n dX12_next_0 rfl rfl ?_
  refine px_callV_I (As := []) (st := []) dX12_next_1 lk_X12_170.1 lk_X12_170.2 (b := 329) zl_329 zk_329 (by decide) rfl (by decide) rfl (Nat.le_of_ble_eq_true rfl) rfl rfl (Nat.le_of_ble_eq_true rfl) ⟨Nat.le_refl _, Nat.le_refl _, Nat.le_refl _⟩ ?_
  refine PAt.mono h (fun v κ gi1 gl2 hq => ?_)
  obtain ⟨rfl, r3, rfl, h⟩ := hq
  refine px_bipush (v := (32 : Int32)) dX12_next_4 (by decide) ?_
  refine px_icmp_eq (tgt := 18) dX12_next_6 (by decide) ?_
  by_cases hc : r3 = (32 : Int32)
  · rw [if_pos hc] at h ⊢
    refine px_aload_n dX12_next_18 rfl rfl ?_
    refine px_dup dX12_next_19 rfl ?_
    refine gf_X12_164 rfl dX12_next_20 zl_329 zk_329 ?_
    refine px_iconst (v := (1 : Int32)) dX12_next_23 (by decide) ?_
    refine px_iadd dX12_next_24 ?_
    refine pf_X12_164 rfl dX12_next_25 zl_329 zk_329 ?_
    obtain ⟨gi4, hgi4⟩ : ∃ y : Gi, y = uI gi1 329 (upd (gi1 329) 39 ((gi1 329 39) + (1 : Int32))) := ⟨_, rfl⟩
    have h := h gi4 hgi4
    refine px_namegi hgi4 ?_
    refine px_goto (tgt := 0) dX12_next_28 (by decide) ?_
    exact PAt.forget h (lsub_at ⟨rfl, trivial⟩)
  · rw [if_neg hc] at h ⊢
    refine px_aload_n dX12_next_9 rfl rfl ?_
    refine px_callV_I (As := []) (st := []) dX12_next_10 lk_X12_170.1 lk_X12_170.2 (b := 329) zl_329 zk_329 (by decide) rfl (by decide) rfl (Nat.le_of_ble_eq_true rfl) rfl rfl (Nat.le_of_ble_eq_true rfl) ⟨Nat.le_refl _, Nat.le_refl _, Nat.le_refl _⟩ ?_
    refine PAt.mono h (fun v κ gi5 gl6 hq => ?_)
    obtain ⟨rfl, r7, rfl, h⟩ := hq
    refine px_bipush (v := (10 : Int32)) dX12_next_13 (by decide) ?_
    refine px_icmp_ne (tgt := 31) dX12_next_15 (by decide) ?_
    by_cases hc : ¬ r7 = (10 : Int32)
    · rw [if_pos hc] at h ⊢
      refine px_aload_n dX12_next_31 rfl rfl ?_
      refine px_aload_n dX12_next_32 rfl rfl ?_
      refine gf_X12_164 rfl dX12_next_33 zl_329 zk_329 ?_
      refine pf_X12_174 rfl dX12_next_36 zl_329 zk_329 ?_
      obtain ⟨gi8, hgi8⟩ : ∃ y : Gi, y = uI gi5 329 (upd (gi5 329) 40 (gi5 329 39)) := ⟨_, rfl⟩
      have h := h gi8 hgi8
      refine px_namegi hgi8 ?_
      refine px_aload_n dX12_next_39 rfl rfl ?_
      refine px_callV_I (As := []) (st := []) dX12_next_40 lk_X12_170.1 lk_X12_170.2 (b := 329) zl_329 zk_329 (by decide) rfl (by decide) rfl (Nat.le_of_ble_eq_true rfl) rfl rfl (Nat.le_of_ble_eq_true rfl) ⟨Nat.le_refl _, Nat.le_refl _, Nat.le_refl _⟩ ?_
      refine PAt.mono h (fun v κ gi9 gl10 hq => ?_)
      obtain ⟨rfl, r11, rfl, h⟩ := hq
      refine px_istore_n (ls2 := [some (.ref 329), some (.int r11)]) (i := 1) rfl dX12_next_43 (by decide) rfl ?_
      refine px_aload_n dX12_next_44 rfl rfl ?_
      refine px_ldc2 (v := ((-1) : Int64)) dX12_next_45 w_1408 ?_
      refine pf_X12_179 rfl dX12_next_48 zl_329 zk_329 ?_
      obtain ⟨gl12, hgl12⟩ : ∃ y : Gl, y = uL gl10 329 (vp_updL (gl10 329) 43 ((-1) : Int64)) := ⟨_, rfl⟩
      have h := h gl12 hgl12
      refine px_namegl hgl12 ?_
      refine px_aload_n dX12_next_51 rfl rfl ?_
      refine px_iconst (v := (0 : Int32)) dX12_next_52 (by decide) ?_
      refine pf_X12_183 rfl dX12_next_53 zl_329 zk_329 ?_
      obtain ⟨gi13, hgi13⟩ : ∃ y : Gi, y = uI gi9 329 (upd (gi9 329) 42 (0 : Int32)) := ⟨_, rfl⟩
      have h := h gi13 hgi13
      refine px_namegi hgi13 ?_
      refine px_iload_n dX12_next_56 rfl rfl ?_
      refine px_if_ge (tgt := 68) dX12_next_57 (by decide) ?_
      by_cases hc : 0 ≤ r11
      · rw [if_pos hc] at h ⊢
        refine px_iload_n dX12_next_68 rfl rfl ?_
        refine px_bipush (v := (97 : Int32)) dX12_next_69 (by decide) ?_
        refine px_bipush (v := (122 : Int32)) dX12_next_71 (by decide) ?_
        refine px_callS_I (As := [.int r11, .int (97 : Int32), .int (122 : Int32)]) (st := []) dX12_next_73 lk_X12_189.1 lk_X12_189.2 (by decide) rfl (Nat.le_of_ble_eq_true rfl) rfl rfl (Nat.le_of_ble_eq_true rfl) ⟨Nat.le_refl _, Nat.le_refl _, Nat.le_refl _⟩ ?_
        refine PAt.mono h (fun v κ gi14 gl15 hq => ?_)
        obtain ⟨rfl, r16, rfl, h⟩ := hq
        refine px_if_eq (tgt := 157) dX12_next_76 (by decide) ?_
        by_cases hc : r16 = 0
        · rw [if_pos hc] at h ⊢
          refine px_iload_n dX12_next_157 rfl rfl ?_
          refine px_bipush (v := (48 : Int32)) dX12_next_158 (by decide) ?_
          refine px_bipush (v := (57 : Int32)) dX12_next_160 (by decide) ?_
          refine px_callS_I (As := [.int r11, .int (48 : Int32), .int (57 : Int32)]) (st := []) dX12_next_162 lk_X12_189.1 lk_X12_189.2 (by decide) rfl (Nat.le_of_ble_eq_true rfl) rfl rfl (Nat.le_of_ble_eq_true rfl) ⟨Nat.le_refl _, Nat.le_refl _, Nat.le_refl _⟩ ?_
          refine PAt.mono h (fun v κ gi17 gl18 hq => ?_)
          obtain ⟨rfl, r19, rfl, h⟩ := hq
          refine px_if_eq (tgt := 248) dX12_next_165 (by decide) ?_
          by_cases hc : r19 = 0
          · rw [if_pos hc] at h ⊢
            refine px_aload_n dX12_next_248 rfl rfl ?_
            refine px_iload_n dX12_next_249 rfl rfl ?_
            refine px_bipush (v := (59 : Int32)) dX12_next_250 (by decide) ?_
            refine px_icmp_ne (tgt := 260) dX12_next_252 (by decide) ?_
            by_cases hc : ¬ r11 = (59 : Int32)
            · rw [if_pos hc] at h ⊢
              refine px_iconst (v := (3 : Int32)) dX12_next_260 (by decide) ?_
              refine pf_X12_186 rfl dX12_next_261 zl_329 zk_329 ?_
              obtain ⟨gi20, hgi20⟩ : ∃ y : Gi, y = uI gi17 329 (upd (gi17 329) 41 (3 : Int32)) := ⟨_, rfl⟩
              have h := h gi20 hgi20
              refine px_namegi hgi20 ?_
              refine px_aload_n dX12_next_264 rfl rfl ?_
              refine px_dup dX12_next_265 rfl ?_
              refine gf_X12_164 rfl dX12_next_266 zl_329 zk_329 ?_
              refine px_iconst (v := (1 : Int32)) dX12_next_269 (by decide) ?_
              refine px_iadd dX12_next_270 ?_
              refine pf_X12_164 rfl dX12_next_271 zl_329 zk_329 ?_
              obtain ⟨gi21, hgi21⟩ : ∃ y : Gi, y = uI gi20 329 (upd (gi20 329) 39 ((gi20 329 39) + (1 : Int32))) := ⟨_, rfl⟩
              have h := h gi21 hgi21
              refine px_namegi hgi21 ?_
              exact px_return dX12_next_274 rfl rfl ⟨rfl, rfl, h⟩
            · rw [if_neg hc] at h ⊢
              refine px_bipush (v := (59 : Int32)) dX12_next_255 (by decide) ?_
              refine px_goto (tgt := 261) dX12_next_257 (by decide) ?_
              refine pf_X12_186 rfl dX12_next_261 zl_329 zk_329 ?_
              obtain ⟨gi22, hgi22⟩ : ∃ y : Gi, y = uI gi17 329 (upd (gi17 329) 41 (59 : Int32)) := ⟨_, rfl⟩
              have h := h gi22 hgi22
              refine px_namegi hgi22 ?_
              refine px_aload_n dX12_next_264 rfl rfl ?_
              refine px_dup dX12_next_265 rfl ?_
              refine gf_X12_164 rfl dX12_next_266 zl_329 zk_329 ?_
              refine px_iconst (v := (1 : Int32)) dX12_next_269 (by decide) ?_
              refine px_iadd dX12_next_270 ?_
              refine pf_X12_164 rfl dX12_next_271 zl_329 zk_329 ?_
              obtain ⟨gi23, hgi23⟩ : ∃ y : Gi, y = uI gi22 329 (upd (gi22 329) 39 ((gi22 329 39) + (1 : Int32))) := ⟨_, rfl⟩
              have h := h gi23 hgi23
              refine px_namegi hgi23 ?_
              exact px_return dX12_next_274 rfl rfl ⟨rfl, rfl, h⟩
          · rw [if_neg hc] at h ⊢
            exact PAt.forget h (lsub_at ⟨rfl, trivial⟩)
        · rw [if_neg hc] at h ⊢
          refine px_aload_n dX12_next_79 rfl rfl ?_
          refine px_iconst (v := (1 : Int32)) dX12_next_80 (by decide) ?_
          refine pf_X12_186 rfl dX12_next_81 zl_329 zk_329 ?_
          obtain ⟨gi24, hgi24⟩ : ∃ y : Gi, y = uI gi14 329 (upd (gi14 329) 41 (1 : Int32)) := ⟨_, rfl⟩
          have h := h gi24 hgi24
          refine px_namegi hgi24 ?_
          refine px_aload_n dX12_next_84 rfl rfl ?_
          refine px_lconst (v := (0 : Int64)) dX12_next_85 (by decide) ?_
          refine pf_X12_179 rfl dX12_next_86 zl_329 zk_329 ?_
          obtain ⟨gl25, hgl25⟩ : ∃ y : Gl, y = uL gl15 329 (vp_updL (gl15 329) 43 (0 : Int64)) := ⟨_, rfl⟩
          have h := h gl25 hgl25
          refine px_namegl hgl25 ?_
          exact PAt.forget h (lsub_at ⟨rfl, trivial⟩)
      · rw [if_neg hc] at h ⊢
        refine px_aload_n dX12_next_60 rfl rfl ?_
        refine px_iconst (v := (0 : Int32)) dX12_next_61 (by decide) ?_
        refine pf_X12_186 rfl dX12_next_62 zl_329 zk_329 ?_
        obtain ⟨gi26, hgi26⟩ : ∃ y : Gi, y = uI gi13 329 (upd (gi13 329) 41 (0 : Int32)) := ⟨_, rfl⟩
        have h := h gi26 hgi26
        refine px_namegi hgi26 ?_
        refine px_goto (tgt := 274) dX12_next_65 (by decide) ?_
        exact px_return dX12_next_274 rfl rfl ⟨rfl, rfl, h⟩
    · rw [if_neg hc] at h ⊢
      refine px_aload_n dX12_next_18 rfl rfl ?_
      refine px_dup dX12_next_19 rfl ?_
      refine gf_X12_164 rfl dX12_next_20 zl_329 zk_329 ?_
      refine px_iconst (v := (1 : Int32)) dX12_next_23 (by decide) ?_
      refine px_iadd dX12_next_24 ?_
      refine pf_X12_164 rfl dX12_next_25 zl_329 zk_329 ?_
      obtain ⟨gi27, hgi27⟩ : ∃ y : Gi, y = uI gi5 329 (upd (gi5 329) 39 ((gi5 329 39) + (1 : Int32))) := ⟨_, rfl⟩
      have h := h gi27 hgi27
      refine px_namegi hgi27 ?_
      refine px_goto (tgt := 0) dX12_next_28 (by decide) ?_
      exact PAt.forget h (lsub_at ⟨rfl, trivial⟩)
set_option maxRecDepth 100000 in
theorem v_X12_next_168  {gi : Gi} {gl : Gl} {Q : Gi → Gl → Prop}  (h : f_X12_next_168  gi gl Q) : p_X12_next_168  gi gl Q := by
  unfold f_X12_next_168 at h
  show PAt mX12_next NN NN κF 168 [some (.ref 329), none] [] gi gl _
  refine px_aload_n dX12_next_168 rfl rfl ?_
  refine px_callV_I (As := []) (st := []) dX12_next_169 lk_X12_170.1 lk_X12_170.2 (b := 329) zl_329 zk_329 (by decide) rfl (by decide) rfl (Nat.le_of_ble_eq_true rfl) rfl rfl (Nat.le_of_ble_eq_true rfl) ⟨Nat.le_refl _, Nat.le_refl _, Nat.le_refl _⟩ ?_
  refine PAt.mono h (fun v κ gi1 gl2 hq => ?_)
  obtain ⟨rfl, r3, rfl, h⟩ := hq
  refine px_bipush (v := (48 : Int32)) dX12_next_172 (by decide) ?_
  refine px_bipush (v := (57 : Int32)) dX12_next_174 (by decide) ?_
  refine px_callS_I (As := [.int r3, .int (48 : Int32), .int (57 : Int32)]) (st := []) dX12_next_176 lk_X12_189.1 lk_X12_189.2 (by decide) rfl (Nat.le_of_ble_eq_true rfl) rfl rfl (Nat.le_of_ble_eq_true rfl) ⟨Nat.le_refl _, Nat.le_refl _, Nat.le_refl _⟩ ?_
  refine PAt.mono h (fun v κ gi4 gl5 hq => ?_)
  obtain ⟨rfl, r6, rfl, h⟩ := hq
  refine px_if_eq (tgt := 223) dX12_next_179 (by decide) ?_
  by_cases hc : r6 = 0
  · rw [if_pos hc] at h ⊢
    refine px_aload_n dX12_next_223 rfl rfl ?_
    refine px_aload_n dX12_next_224 rfl rfl ?_
    refine gf_X12_164 rfl dX12_next_225 zl_329 zk_329 ?_
    refine px_aload_n dX12_next_228 rfl rfl ?_
    refine gf_X12_174 rfl dX12_next_229 zl_329 zk_329 ?_
    refine px_isub dX12_next_232 ?_
    refine px_iconst (v := (4 : Int32)) dX12_next_233 (by decide) ?_
    refine px_icmp_gt (tgt := 241) dX12_next_234 (by decide) ?_
    by_cases hc : (4 : Int32) < ((gi4 329 39) - (gi4 329 40))
    · rw [if_pos hc] at h ⊢
      refine px_iconst (v := (3 : Int32)) dX12_next_241 (by decide) ?_
      refine pf_X12_186 rfl dX12_next_242 zl_329 zk_329 ?_
      obtain ⟨gi7, hgi7⟩ : ∃ y : Gi, y = uI gi4 329 (upd (gi4 329) 41 (3 : Int32)) := ⟨_, rfl⟩
      have h := h gi7 hgi7
      refine px_namegi hgi7 ?_
      refine px_goto (tgt := 274) dX12_next_245 (by decide) ?_
      exact px_return dX12_next_274 rfl rfl ⟨rfl, rfl, h⟩
    · rw [if_neg hc] at h ⊢
      refine px_iconst (v := (2 : Int32)) dX12_next_237 (by decide) ?_
      refine px_goto (tgt := 242) dX12_next_238 (by decide) ?_
      refine pf_X12_186 rfl dX12_next_242 zl_329 zk_329 ?_
      obtain ⟨gi8, hgi8⟩ : ∃ y : Gi, y = uI gi4 329 (upd (gi4 329) 41 (2 : Int32)) := ⟨_, rfl⟩
      have h := h gi8 hgi8
      refine px_namegi hgi8 ?_
      refine px_goto (tgt := 274) dX12_next_245 (by decide) ?_
      exact px_return dX12_next_274 rfl rfl ⟨rfl, rfl, h⟩
  · rw [if_neg hc] at h ⊢
    refine px_aload_n dX12_next_182 rfl rfl ?_
    refine gf_X12_183 rfl dX12_next_183 zl_329 zk_329 ?_
    refine px_ldc (v := (1000000 : Int32)) dX12_next_186 w_1413 ?_
    refine px_icmp_ge (tgt := 210) dX12_next_188 (by decide) ?_
    by_cases hc : (1000000 : Int32) ≤ (gi4 329 42)
    · rw [if_pos hc] at h ⊢
      refine px_aload_n dX12_next_210 rfl rfl ?_
      refine px_dup dX12_next_211 rfl ?_
      refine gf_X12_164 rfl dX12_next_212 zl_329 zk_329 ?_
      refine px_iconst (v := (1 : Int32)) dX12_next_215 (by decide) ?_
      refine px_iadd dX12_next_216 ?_
      refine pf_X12_164 rfl dX12_next_217 zl_329 zk_329 ?_
      obtain ⟨gi9, hgi9⟩ : ∃ y : Gi, y = uI gi4 329 (upd (gi4 329) 39 ((gi4 329 39) + (1 : Int32))) := ⟨_, rfl⟩
      have h := h gi9 hgi9
      refine px_namegi hgi9 ?_
      refine px_goto (tgt := 168) dX12_next_220 (by decide) ?_
      exact PAt.forget h (lsub_at ⟨rfl, trivial⟩)
    · rw [if_neg hc] at h ⊢
      refine px_aload_n dX12_next_191 rfl rfl ?_
      refine px_bipush (v := (10 : Int32)) dX12_next_192 (by decide) ?_
      refine px_aload_n dX12_next_194 rfl rfl ?_
      refine gf_X12_183 rfl dX12_next_195 zl_329 zk_329 ?_
      refine px_imul dX12_next_198 ?_
      refine px_aload_n dX12_next_199 rfl rfl ?_
      refine px_callV_I (As := []) (st := [.int ((10 : Int32) * (gi4 329 42)), .ref 329]) dX12_next_200 lk_X12_170.1 lk_X12_170.2 (b := 329) zl_329 zk_329 (by decide) rfl (by decide) rfl (Nat.le_of_ble_eq_true rfl) rfl rfl (Nat.le_of_ble_eq_true rfl) ⟨Nat.le_refl _, Nat.le_refl _, Nat.le_refl _⟩ ?_
      refine PAt.mono h (fun v κ gi10 gl11 hq => ?_)
      obtain ⟨rfl, r12, rfl, h⟩ := hq
      refine px_iadd dX12_next_203 ?_
      refine px_bipush (v := (48 : Int32)) dX12_next_204 (by decide) ?_
      refine px_isub dX12_next_206 ?_
      refine pf_X12_183 rfl dX12_next_207 zl_329 zk_329 ?_
      obtain ⟨gi13, hgi13⟩ : ∃ y : Gi, y = uI gi10 329 (upd (gi10 329) 42 ((((10 : Int32) * (gi4 329 42)) + r12) - (48 : Int32))) := ⟨_, rfl⟩
      have h := h gi13 hgi13
      refine px_namegi hgi13 ?_
      refine px_aload_n dX12_next_210 rfl rfl ?_
      refine px_dup dX12_next_211 rfl ?_
      refine gf_X12_164 rfl dX12_next_212 zl_329 zk_329 ?_
      refine px_iconst (v := (1 : Int32)) dX12_next_215 (by decide) ?_
      refine px_iadd dX12_next_216 ?_
      refine pf_X12_164 rfl dX12_next_217 zl_329 zk_329 ?_
      obtain ⟨gi14, hgi14⟩ : ∃ y : Gi, y = uI gi13 329 (upd (gi13 329) 39 ((gi13 329 39) + (1 : Int32))) := ⟨_, rfl⟩
      have h := h gi14 hgi14
      refine px_namegi hgi14 ?_
      refine px_goto (tgt := 168) dX12_next_220 (by decide) ?_
      exact PAt.forget h (lsub_at ⟨rfl, trivial⟩)
set_option maxRecDepth 100000 in
theorem v_X12_next_89  {gi : Gi} {gl : Gl} {Q : Gi → Gl → Prop}  (h : f_X12_next_89  gi gl Q) : p_X12_next_89  gi gl Q := by
  unfold f_X12_next_89 at h
  show PAt mX12_next NN NN κF 89 [some (.ref 329), none] [] gi gl _
  refine px_aload_n dX12_next_89 rfl rfl ?_
  refine px_callV_I (As := []) (st := []) dX12_next_90 lk_X12_170.1 lk_X12_170.2 (b := 329) zl_329 zk_329 (by decide) rfl (by decide) rfl (Nat.le_of_ble_eq_true rfl) rfl rfl (Nat.le_of_ble_eq_true rfl) ⟨Nat.le_refl _, Nat.le_refl _, Nat.le_refl _⟩ ?_
  refine PAt.mono h (fun v κ gi1 gl2 hq => ?_)
  obtain ⟨rfl, r3, rfl, h⟩ := hq
  refine px_bipush (v := (97 : Int32)) dX12_next_93 (by decide) ?_
  refine px_bipush (v := (122 : Int32)) dX12_next_95 (by decide) ?_
  refine px_callS_I (As := [.int r3, .int (97 : Int32), .int (122 : Int32)]) (st := []) dX12_next_97 lk_X12_189.1 lk_X12_189.2 (by decide) rfl (Nat.le_of_ble_eq_true rfl) rfl rfl (Nat.le_of_ble_eq_true rfl) ⟨Nat.le_refl _, Nat.le_refl _, Nat.le_refl _⟩ ?_
  refine PAt.mono h (fun v κ gi4 gl5 hq => ?_)
  obtain ⟨rfl, r6, rfl, h⟩ := hq
  refine px_if_eq (tgt := 274) dX12_next_100 (by decide) ?_
  by_cases hc : r6 = 0
  · rw [if_pos hc] at h ⊢
    exact px_return dX12_next_274 rfl rfl ⟨rfl, rfl, h⟩
  · rw [if_neg hc] at h ⊢
    refine px_aload_n dX12_next_103 rfl rfl ?_
    refine px_aload_n dX12_next_104 rfl rfl ?_
    refine gf_X12_164 rfl dX12_next_105 zl_329 zk_329 ?_
    refine px_aload_n dX12_next_108 rfl rfl ?_
    refine gf_X12_174 rfl dX12_next_109 zl_329 zk_329 ?_
    refine px_isub dX12_next_112 ?_
    refine px_bipush (v := (8 : Int32)) dX12_next_113 (by decide) ?_
    refine px_icmp_ge (tgt := 138) dX12_next_115 (by decide) ?_
    by_cases hc : (8 : Int32) ≤ ((gi4 329 39) - (gi4 329 40))
    · rw [if_pos hc] at h ⊢
      refine px_ldc2 (v := ((-1) : Int64)) dX12_next_138 w_1408 ?_
      refine pf_X12_179 rfl dX12_next_141 zl_329 zk_329 ?_
      obtain ⟨gl7, hgl7⟩ : ∃ y : Gl, y = uL gl5 329 (vp_updL (gl5 329) 43 ((-1) : Int64)) := ⟨_, rfl⟩
      have h := h gl7 hgl7
      refine px_namegl hgl7 ?_
      refine px_aload_n dX12_next_144 rfl rfl ?_
      refine px_dup dX12_next_145 rfl ?_
      refine gf_X12_164 rfl dX12_next_146 zl_329 zk_329 ?_
      refine px_iconst (v := (1 : Int32)) dX12_next_149 (by decide) ?_
      refine px_iadd dX12_next_150 ?_
      refine pf_X12_164 rfl dX12_next_151 zl_329 zk_329 ?_
      obtain ⟨gi8, hgi8⟩ : ∃ y : Gi, y = uI gi4 329 (upd (gi4 329) 39 ((gi4 329 39) + (1 : Int32))) := ⟨_, rfl⟩
      have h := h gi8 hgi8
      refine px_namegi hgi8 ?_
      refine px_goto (tgt := 89) dX12_next_154 (by decide) ?_
      exact PAt.forget h (lsub_at ⟨rfl, trivial⟩)
    · rw [if_neg hc] at h ⊢
      refine px_aload_n dX12_next_118 rfl rfl ?_
      refine gf_X12_179 rfl dX12_next_119 zl_329 zk_329 ?_
      refine px_ldc2 (v := (27 : Int64)) dX12_next_122 w_1412 ?_
      refine px_lmul dX12_next_125 ?_
      refine px_aload_n dX12_next_126 rfl rfl ?_
      refine px_callV_I (As := []) (st := [.long ((gl5 329 43) * (27 : Int64)), .ref 329]) dX12_next_127 lk_X12_170.1 lk_X12_170.2 (b := 329) zl_329 zk_329 (by decide) rfl (by decide) rfl (Nat.le_of_ble_eq_true rfl) rfl rfl (Nat.le_of_ble_eq_true rfl) ⟨Nat.le_refl _, Nat.le_refl _, Nat.le_refl _⟩ ?_
      refine PAt.mono h (fun v κ gi9 gl10 hq => ?_)
      obtain ⟨rfl, r11, rfl, h⟩ := hq
      refine px_bipush (v := (96 : Int32)) dX12_next_130 (by decide) ?_
      refine px_isub dX12_next_132 ?_
      refine px_i2l dX12_next_133 ?_
      refine px_ladd dX12_next_134 ?_
      refine px_goto (tgt := 141) dX12_next_135 (by decide) ?_
      refine pf_X12_179 rfl dX12_next_141 zl_329 zk_329 ?_
      obtain ⟨gl12, hgl12⟩ : ∃ y : Gl, y = uL gl10 329 (vp_updL (gl10 329) 43 (((gl5 329 43) * (27 : Int64)) + ((r11 - (96 : Int32)).toInt64))) := ⟨_, rfl⟩
      have h := h gl12 hgl12
      refine px_namegl hgl12 ?_
      refine px_aload_n dX12_next_144 rfl rfl ?_
      refine px_dup dX12_next_145 rfl ?_
      refine gf_X12_164 rfl dX12_next_146 zl_329 zk_329 ?_
      refine px_iconst (v := (1 : Int32)) dX12_next_149 (by decide) ?_
      refine px_iadd dX12_next_150 ?_
      refine pf_X12_164 rfl dX12_next_151 zl_329 zk_329 ?_
      obtain ⟨gi13, hgi13⟩ : ∃ y : Gi, y = uI gi9 329 (upd (gi9 329) 39 ((gi9 329 39) + (1 : Int32))) := ⟨_, rfl⟩
      have h := h gi13 hgi13
      refine px_namegi hgi13 ?_
      refine px_goto (tgt := 89) dX12_next_154 (by decide) ?_
      exact PAt.forget h (lsub_at ⟨rfl, trivial⟩)
def f_X12_errs  (gi : Gi) (gl : Gl) (Q : Gi → Gl → Prop) : Prop :=
if (gi 329 44) = 0 then
(∀ gi1 : Gi, gi1 = uI gi 329 (upd (gi 329) 44 (1 : Int32)) →
∀ gi2 : Gi, gi2 = uI gi1 329 (upd (gi1 329) 37 (gi1 329 40)) →
Q gi2 gl)
else
(Q gi gl)
set_option maxRecDepth 100000 in
theorem v_X12_errs  {gi : Gi} {gl : Gl} {Q : Gi → Gl → Prop}  (h : f_X12_errs  gi gl Q) : p_X12_errs  gi gl Q := by
  unfold f_X12_errs at h
  show PAt mX12_errs NN NN κF 0 [some (.ref 329)] [] gi gl _
  refine px_aload_n dX12_errs_0 rfl rfl ?_
  refine gf_X12_196 rfl dX12_errs_1 zl_329 zk_329 ?_
  refine px_if_eq (tgt := 8) dX12_errs_4 (by decide) ?_
  by_cases hc : (gi 329 44) = 0
  · rw [if_pos hc] at h ⊢
    refine px_aload_n dX12_errs_8 rfl rfl ?_
    refine px_iconst (v := (1 : Int32)) dX12_errs_9 (by decide) ?_
    refine pf_X12_196 rfl dX12_errs_10 zl_329 zk_329 (by decide) ?_
    obtain ⟨gi1, hgi1⟩ : ∃ y : Gi, y = uI gi 329 (upd (gi 329) 44 (1 : Int32)) := ⟨_, rfl⟩
    have h := h gi1 hgi1
    refine px_namegi hgi1 ?_
    refine px_aload_n dX12_errs_13 rfl rfl ?_
    refine px_aload_n dX12_errs_14 rfl rfl ?_
    refine gf_X12_174 rfl dX12_errs_15 zl_329 zk_329 ?_
    refine pf_X12_114 rfl dX12_errs_18 zl_329 zk_329 ?_
    obtain ⟨gi2, hgi2⟩ : ∃ y : Gi, y = uI gi1 329 (upd (gi1 329) 37 (gi1 329 40)) := ⟨_, rfl⟩
    have h := h gi2 hgi2
    refine px_namegi hgi2 ?_
    exact px_return dX12_errs_21 rfl rfl ⟨rfl, rfl, h⟩
  · rw [if_neg hc] at h ⊢
    exact px_return dX12_errs_7 rfl rfl ⟨rfl, rfl, h⟩
def f_X12_is (y1 : Int64) (gi : Gi) (gl : Gl) (Q : Int32 → Gi → Gl → Prop) : Prop :=
if ¬ (gi 329 44) = 0 then
(Q (0 : Int32) gi gl)
else
(if ¬ (gi 329 41) = (1 : Int32) then
(Q (0 : Int32) gi gl)
else
(if ¬ (gl 329 43) = y1 then
(Q (0 : Int32) gi gl)
else
(Q (1 : Int32) gi gl)))
set_option maxRecDepth 100000 in
theorem v_X12_is {y1 : Int64} {gi : Gi} {gl : Gl} {Q : Int32 → Gi → Gl → Prop}  (h : f_X12_is y1 gi gl Q) : p_X12_is y1 gi gl Q := by
  unfold f_X12_is at h
  show PAt mX12_is NN NN κF 0 [some (.ref 329), some (.long y1), none] [] gi gl _
  refine px_aload_n dX12_is_0 rfl rfl ?_
  refine gf_X12_196 rfl dX12_is_1 zl_329 zk_329 ?_
  refine px_if_ne (tgt := 28) dX12_is_4 (by decide) ?_
  by_cases hc : ¬ (gi 329 44) = 0
  · rw [if_pos hc] at h ⊢
    refine px_iconst (v := (0 : Int32)) dX12_is_28 (by decide) ?_
    exact px_ireturn dX12_is_29 rfl ⟨.boolean, rfl, rfl, by decide⟩ ⟨rfl, _, rfl, h⟩
  · rw [if_neg hc] at h ⊢
    refine px_aload_n dX12_is_7 rfl rfl ?_
    refine gf_X12_186 rfl dX12_is_8 zl_329 zk_329 ?_
    refine px_iconst (v := (1 : Int32)) dX12_is_11 (by decide) ?_
    refine px_icmp_ne (tgt := 28) dX12_is_12 (by decide) ?_
    by_cases hc : ¬ (gi 329 41) = (1 : Int32)
    · rw [if_pos hc] at h ⊢
      refine px_iconst (v := (0 : Int32)) dX12_is_28 (by decide) ?_
      exact px_ireturn dX12_is_29 rfl ⟨.boolean, rfl, rfl, by decide⟩ ⟨rfl, _, rfl, h⟩
    · rw [if_neg hc] at h ⊢
      refine px_aload_n dX12_is_15 rfl rfl ?_
      refine gf_X12_179 rfl dX12_is_16 zl_329 zk_329 ?_
      refine px_lload_n dX12_is_19 rfl rfl ?_
      refine px_lc_ne (tgt := 28) dX12_is_20 dX12_is_21 (by decide) ?_
      by_cases hc : ¬ (gl 329 43) = y1
      · rw [if_pos hc] at h ⊢
        refine px_iconst (v := (0 : Int32)) dX12_is_28 (by decide) ?_
        exact px_ireturn dX12_is_29 rfl ⟨.boolean, rfl, rfl, by decide⟩ ⟨rfl, _, rfl, h⟩
      · rw [if_neg hc] at h ⊢
        refine px_iconst (v := (1 : Int32)) dX12_is_24 (by decide) ?_
        refine px_goto (tgt := 29) dX12_is_25 (by decide) ?_
        exact px_ireturn dX12_is_29 rfl ⟨.boolean, rfl, rfl, by decide⟩ ⟨rfl, _, rfl, h⟩
def f_X12_mustBe (y1 : Int64) (gi : Gi) (gl : Gl) (Q : Gi → Gl → Prop) : Prop :=
p_X12_is y1 gi gl (fun (r3 : Int32) (gi1 : Gi) (gl2 : Gl) =>
if r3 = 0 then
(p_X12_errs  gi1 gl2 (fun (gi4 : Gi) (gl5 : Gl) =>
Q gi4 gl5))
else
(p_X12_next  gi1 gl2 (fun (gi6 : Gi) (gl7 : Gl) =>
Q gi6 gl7)))
set_option maxRecDepth 100000 in
theorem v_X12_mustBe {y1 : Int64} {gi : Gi} {gl : Gl} {Q : Gi → Gl → Prop}  (h : f_X12_mustBe y1 gi gl Q) : p_X12_mustBe y1 gi gl Q := by
  unfold f_X12_mustBe at h
  show PAt mX12_mustBe NN NN κF 0 [some (.ref 329), some (.long y1), none] [] gi gl _
  refine px_aload_n dX12_mustBe_0 rfl rfl ?_
  refine px_lload_n dX12_mustBe_1 rfl rfl ?_
  refine px_callV_I (As := [.long y1]) (st := []) dX12_mustBe_2 lk_X12_200.1 lk_X12_200.2 (b := 329) zl_329 zk_329 (by decide) rfl (by decide) rfl (Nat.le_of_ble_eq_true rfl) rfl rfl (Nat.le_of_ble_eq_true rfl) ⟨Nat.le_refl _, Nat.le_refl _, Nat.le_refl _⟩ ?_
  refine PAt.mono h (fun v κ gi1 gl2 hq => ?_)
  obtain ⟨rfl, r3, rfl, h⟩ := hq
  refine px_if_eq (tgt := 15) dX12_mustBe_5 (by decide) ?_
  by_cases hc : r3 = 0
  · rw [if_pos hc] at h ⊢
    refine px_aload_n dX12_mustBe_15 rfl rfl ?_
    refine px_callV_V (As := []) (st := []) dX12_mustBe_16 lk_X12_207.1 lk_X12_207.2 (b := 329) zl_329 zk_329 (by decide) rfl (by decide) rfl (Nat.le_of_ble_eq_true rfl) rfl rfl (Nat.le_of_ble_eq_true rfl) ⟨Nat.le_refl _, Nat.le_refl _, Nat.le_refl _⟩ ?_
    refine PAt.mono h (fun v κ gi4 gl5 hq => ?_)
    obtain ⟨rfl, -, h⟩ := hq
    exact px_return dX12_mustBe_19 rfl rfl ⟨rfl, rfl, h⟩
  · rw [if_neg hc] at h ⊢
    refine px_aload_n dX12_mustBe_8 rfl rfl ?_
    refine px_callV_V (As := []) (st := []) dX12_mustBe_9 lk_X12_204.1 lk_X12_204.2 (b := 329) zl_329 zk_329 (by decide) rfl (by decide) rfl (Nat.le_of_ble_eq_true rfl) rfl rfl (Nat.le_of_ble_eq_true rfl) ⟨Nat.le_refl _, Nat.le_refl _, Nat.le_refl _⟩ ?_
    refine PAt.mono h (fun v κ gi6 gl7 hq => ?_)
    obtain ⟨rfl, -, h⟩ := hq
    refine px_goto (tgt := 19) dX12_mustBe_12 (by decide) ?_
    exact px_return dX12_mustBe_19 rfl rfl ⟨rfl, rfl, h⟩
def f_X12_numeral (x1 : Int32) (x2 : Int32) (gi : Gi) (gl : Gl) (Q : Int32 → Gi → Gl → Prop) : Prop :=
∀ z1 : Int32, z1 = gi 329 42 →
if (gi 329 44) = 0 then
(if ¬ (gi 329 41) = (2 : Int32) then
(p_X12_errs  gi gl (fun (gi2 : Gi) (gl3 : Gl) =>
Q (0 : Int32) gi2 gl3))
else
(if z1 < x1 then
(p_X12_errs  gi gl (fun (gi4 : Gi) (gl5 : Gl) =>
Q (0 : Int32) gi4 gl5))
else
(if z1 ≤ x2 then
(p_X12_next  gi gl (fun (gi6 : Gi) (gl7 : Gl) =>
Q z1 gi6 gl7))
else
(p_X12_errs  gi gl (fun (gi8 : Gi) (gl9 : Gl) =>
Q (0 : Int32) gi8 gl9)))))
else
(Q (0 : Int32) gi gl)
set_option maxRecDepth 100000 in
theorem v_X12_numeral {x1 : Int32} {x2 : Int32} {gi : Gi} {gl : Gl} {Q : Int32 → Gi → Gl → Prop}  (h : f_X12_numeral x1 x2 gi gl Q) : p_X12_numeral x1 x2 gi gl Q := by
  unfold f_X12_numeral at h
  show PAt mX12_numeral NN NN κF 0 [some (.ref 329), some (.int x1), some (.int x2), none] [] gi gl _
  refine px_aload_n dX12_numeral_0 rfl rfl ?_
  refine gf_X12_183 rfl dX12_numeral_1 zl_329 zk_329 ?_
  obtain ⟨z1, hz1⟩ : ∃ y : Int32, y = gi 329 42 := ⟨_, rfl⟩
  have h := h z1 hz1
  refine px_namei hz1 ?_
  refine px_istore_n (ls2 := [some (.ref 329), some (.int x1), some (.int x2), some (.int z1)]) (i := 3) rfl dX12_numeral_4 (by decide) rfl ?_
  refine px_aload_n dX12_numeral_5 rfl rfl ?_
  refine gf_X12_196 rfl dX12_numeral_6 zl_329 zk_329 ?_
  refine px_if_eq (tgt := 14) dX12_numeral_9 (by decide) ?_
  by_cases hc : (gi 329 44) = 0
  · rw [if_pos hc] at h ⊢
    refine px_aload_n dX12_numeral_14 rfl rfl ?_
    refine gf_X12_186 rfl dX12_numeral_15 zl_329 zk_329 ?_
    refine px_iconst (v := (2 : Int32)) dX12_numeral_18 (by decide) ?_
    refine px_icmp_ne (tgt := 32) dX12_numeral_19 (by decide) ?_
    by_cases hc : ¬ (gi 329 41) = (2 : Int32)
    · rw [if_pos hc] at h ⊢
      refine px_aload_n dX12_numeral_32 rfl rfl ?_
      refine px_callV_V (As := []) (st := []) dX12_numeral_33 lk_X12_207.1 lk_X12_207.2 (b := 329) zl_329 zk_329 (by decide) rfl (by decide) rfl (Nat.le_of_ble_eq_true rfl) rfl rfl (Nat.le_of_ble_eq_true rfl) ⟨Nat.le_refl _, Nat.le_refl _, Nat.le_refl _⟩ ?_
      refine PAt.mono h (fun v κ gi2 gl3 hq => ?_)
      obtain ⟨rfl, -, h⟩ := hq
      refine px_iconst (v := (0 : Int32)) dX12_numeral_36 (by decide) ?_
      exact px_ireturn dX12_numeral_37 rfl ⟨.int, rfl, rfl, rfl⟩ ⟨rfl, _, rfl, h⟩
    · rw [if_neg hc] at h ⊢
      refine px_iload_n dX12_numeral_22 rfl rfl ?_
      refine px_iload_n dX12_numeral_23 rfl rfl ?_
      refine px_icmp_lt (tgt := 32) dX12_numeral_24 (by decide) ?_
      by_cases hc : z1 < x1
      · rw [if_pos hc] at h ⊢
        refine px_aload_n dX12_numeral_32 rfl rfl ?_
        refine px_callV_V (As := []) (st := []) dX12_numeral_33 lk_X12_207.1 lk_X12_207.2 (b := 329) zl_329 zk_329 (by decide) rfl (by decide) rfl (Nat.le_of_ble_eq_true rfl) rfl rfl (Nat.le_of_ble_eq_true rfl) ⟨Nat.le_refl _, Nat.le_refl _, Nat.le_refl _⟩ ?_
        refine PAt.mono h (fun v κ gi4 gl5 hq => ?_)
        obtain ⟨rfl, -, h⟩ := hq
        refine px_iconst (v := (0 : Int32)) dX12_numeral_36 (by decide) ?_
        exact px_ireturn dX12_numeral_37 rfl ⟨.int, rfl, rfl, rfl⟩ ⟨rfl, _, rfl, h⟩
      · rw [if_neg hc] at h ⊢
        refine px_iload_n dX12_numeral_27 rfl rfl ?_
        refine px_iload_n dX12_numeral_28 rfl rfl ?_
        refine px_icmp_le (tgt := 38) dX12_numeral_29 (by decide) ?_
        by_cases hc : z1 ≤ x2
        · rw [if_pos hc] at h ⊢
          refine px_aload_n dX12_numeral_38 rfl rfl ?_
          refine px_callV_V (As := []) (st := []) dX12_numeral_39 lk_X12_204.1 lk_X12_204.2 (b := 329) zl_329 zk_329 (by decide) rfl (by decide) rfl (Nat.le_of_ble_eq_true rfl) rfl rfl (Nat.le_of_ble_eq_true rfl) ⟨Nat.le_refl _, Nat.le_refl _, Nat.le_refl _⟩ ?_
          refine PAt.mono h (fun v κ gi6 gl7 hq => ?_)
          obtain ⟨rfl, -, h⟩ := hq
          refine px_iload_n dX12_numeral_42 rfl rfl ?_
          exact px_ireturn dX12_numeral_43 rfl ⟨.int, rfl, rfl, rfl⟩ ⟨rfl, _, rfl, h⟩
        · rw [if_neg hc] at h ⊢
          refine px_aload_n dX12_numeral_32 rfl rfl ?_
          refine px_callV_V (As := []) (st := []) dX12_numeral_33 lk_X12_207.1 lk_X12_207.2 (b := 329) zl_329 zk_329 (by decide) rfl (by decide) rfl (Nat.le_of_ble_eq_true rfl) rfl rfl (Nat.le_of_ble_eq_true rfl) ⟨Nat.le_refl _, Nat.le_refl _, Nat.le_refl _⟩ ?_
          refine PAt.mono h (fun v κ gi8 gl9 hq => ?_)
          obtain ⟨rfl, -, h⟩ := hq
          refine px_iconst (v := (0 : Int32)) dX12_numeral_36 (by decide) ?_
          exact px_ireturn dX12_numeral_37 rfl ⟨.int, rfl, rfl, rfl⟩ ⟨rfl, _, rfl, h⟩
  · rw [if_neg hc] at h ⊢
    refine px_iconst (v := (0 : Int32)) dX12_numeral_12 (by decide) ?_
    exact px_ireturn dX12_numeral_13 rfl ⟨.int, rfl, rfl, rfl⟩ ⟨rfl, _, rfl, h⟩
def f_X12_semicolon  (gi : Gi) (gl : Gl) (Q : Gi → Gl → Prop) : Prop :=
if (gi 329 44) = 0 then
(if ¬ (gi 329 41) = (59 : Int32) then
(p_X12_errs  gi gl (fun (gi1 : Gi) (gl2 : Gl) =>
Q gi1 gl2))
else
(p_X12_next  gi gl (fun (gi3 : Gi) (gl4 : Gl) =>
Q gi3 gl4)))
else
(Q gi gl)
set_option maxRecDepth 100000 in
theorem v_X12_semicolon  {gi : Gi} {gl : Gl} {Q : Gi → Gl → Prop}  (h : f_X12_semicolon  gi gl Q) : p_X12_semicolon  gi gl Q := by
  unfold f_X12_semicolon at h
  show PAt mX12_semicolon NN NN κF 0 [some (.ref 329)] [] gi gl _
  refine px_aload_n dX12_semicolon_0 rfl rfl ?_
  refine gf_X12_196 rfl dX12_semicolon_1 zl_329 zk_329 ?_
  refine px_if_eq (tgt := 8) dX12_semicolon_4 (by decide) ?_
  by_cases hc : (gi 329 44) = 0
  · rw [if_pos hc] at h ⊢
    refine px_aload_n dX12_semicolon_8 rfl rfl ?_
    refine gf_X12_186 rfl dX12_semicolon_9 zl_329 zk_329 ?_
    refine px_bipush (v := (59 : Int32)) dX12_semicolon_12 (by decide) ?_
    refine px_icmp_ne (tgt := 24) dX12_semicolon_14 (by decide) ?_
    by_cases hc : ¬ (gi 329 41) = (59 : Int32)
    · rw [if_pos hc] at h ⊢
      refine px_aload_n dX12_semicolon_24 rfl rfl ?_
      refine px_callV_V (As := []) (st := []) dX12_semicolon_25 lk_X12_207.1 lk_X12_207.2 (b := 329) zl_329 zk_329 (by decide) rfl (by decide) rfl (Nat.le_of_ble_eq_true rfl) rfl rfl (Nat.le_of_ble_eq_true rfl) ⟨Nat.le_refl _, Nat.le_refl _, Nat.le_refl _⟩ ?_
      refine PAt.mono h (fun v κ gi1 gl2 hq => ?_)
      obtain ⟨rfl, -, h⟩ := hq
      exact px_return dX12_semicolon_28 rfl rfl ⟨rfl, rfl, h⟩
    · rw [if_neg hc] at h ⊢
      refine px_aload_n dX12_semicolon_17 rfl rfl ?_
      refine px_callV_V (As := []) (st := []) dX12_semicolon_18 lk_X12_204.1 lk_X12_204.2 (b := 329) zl_329 zk_329 (by decide) rfl (by decide) rfl (Nat.le_of_ble_eq_true rfl) rfl rfl (Nat.le_of_ble_eq_true rfl) ⟨Nat.le_refl _, Nat.le_refl _, Nat.le_refl _⟩ ?_
      refine PAt.mono h (fun v κ gi3 gl4 hq => ?_)
      obtain ⟨rfl, -, h⟩ := hq
      refine px_goto (tgt := 28) dX12_semicolon_21 (by decide) ?_
      exact px_return dX12_semicolon_28 rfl rfl ⟨rfl, rfl, h⟩
  · rw [if_neg hc] at h ⊢
    exact px_return dX12_semicolon_7 rfl rfl ⟨rfl, rfl, h⟩
def f_X12_isKeyword  (gi : Gi) (gl : Gl) (Q : Int32 → Gi → Gl → Prop) : Prop :=
if (gl 329 43) = (10793230 : Int64) then
(Q (1 : Int32) gi gl)
else
(if (gl 329 43) = (131638 : Int64) then
(Q (1 : Int32) gi gl)
else
(if (gl 329 43) = (144941 : Int64) then
(Q (1 : Int32) gi gl)
else
(if (gl 329 43) = (400557 : Int64) then
(Q (1 : Int32) gi gl)
else
(if (gl 329 43) = (406922 : Int64) then
(Q (1 : Int32) gi gl)
else
(if (gl 329 43) = (239874 : Int64) then
(Q (1 : Int32) gi gl)
else
(if (gl 329 43) = (40586 : Int64) then
(Q (1 : Int32) gi gl)
else
(if ¬ (gl 329 43) = (326396 : Int64) then
(if (gl 329 43) = (1841546 : Int64) then
(Q (1 : Int32) gi gl)
else
(if (gl 329 43) = (383153 : Int64) then
(Q (1 : Int32) gi gl)
else
(if (gl 329 43) = (119360 : Int64) then
(Q (1 : Int32) gi gl)
else
(if (gl 329 43) = (14432 : Int64) then
(Q (1 : Int32) gi gl)
else
(if (gl 329 43) = (99677 : Int64) then
(Q (1 : Int32) gi gl)
else
(if (gl 329 43) = (456887 : Int64) then
(Q (1 : Int32) gi gl)
else
(if (gl 329 43) = (7749089 : Int64) then
(Q (1 : Int32) gi gl)
else
(if ¬ (gl 329 43) = (10408481 : Int64) then
(if (gl 329 43) = (283288069 : Int64) then
(Q (1 : Int32) gi gl)
else
(if (gl 329 43) = (6399478 : Int64) then
(Q (1 : Int32) gi gl)
else
(if (gl 329 43) = (276903788 : Int64) then
(Q (1 : Int32) gi gl)
else
(if (gl 329 43) = (456500 : Int64) then
(Q (1 : Int32) gi gl)
else
(if (gl 329 43) = (495765 : Int64) then
(Q (1 : Int32) gi gl)
else
(if (gl 329 43) = (31484543 : Int64) then
(Q (1 : Int32) gi gl)
else
(if ¬ (gl 329 43) = (240023 : Int64) then
(Q (0 : Int32) gi gl)
else
(Q (1 : Int32) gi gl))))))))
else
(Q (1 : Int32) gi gl)))))))))
else
(Q (1 : Int32) gi gl))))))))
set_option maxRecDepth 100000 in
theorem v_X12_isKeyword  {gi : Gi} {gl : Gl} {Q : Int32 → Gi → Gl → Prop}  (h : f_X12_isKeyword  gi gl Q) : p_X12_isKeyword  gi gl Q := by
  unfold f_X12_isKeyword at h
  show PAt mX12_isKeyword NN NN κF 0 [some (.ref 329)] [] gi gl _
  refine px_aload_n dX12_isKeyword_0 rfl rfl ?_
  refine gf_X12_179 rfl dX12_isKeyword_1 zl_329 zk_329 ?_
  refine px_ldc2 (v := (10793230 : Int64)) dX12_isKeyword_4 w_1422 ?_
  refine px_lc_eq (tgt := 88) dX12_isKeyword_7 dX12_isKeyword_8 (by decide) ?_
  by_cases hc : (gl 329 43) = (10793230 : Int64)
  · rw [if_pos hc] at h ⊢
    refine px_iconst (v := (1 : Int32)) dX12_isKeyword_88 (by decide) ?_
    exact px_ireturn dX12_isKeyword_89 rfl ⟨.boolean, rfl, rfl, by decide⟩ ⟨rfl, _, rfl, h⟩
  · rw [if_neg hc] at h ⊢
    refine px_aload_n dX12_isKeyword_11 rfl rfl ?_
    refine gf_X12_179 rfl dX12_isKeyword_12 zl_329 zk_329 ?_
    refine px_ldc2 (v := (131638 : Int64)) dX12_isKeyword_15 w_1443 ?_
    refine px_lc_eq (tgt := 88) dX12_isKeyword_18 dX12_isKeyword_19 (by decide) ?_
    by_cases hc : (gl 329 43) = (131638 : Int64)
    · rw [if_pos hc] at h ⊢
      refine px_iconst (v := (1 : Int32)) dX12_isKeyword_88 (by decide) ?_
      exact px_ireturn dX12_isKeyword_89 rfl ⟨.boolean, rfl, rfl, by decide⟩ ⟨rfl, _, rfl, h⟩
    · rw [if_neg hc] at h ⊢
      refine px_aload_n dX12_isKeyword_22 rfl rfl ?_
      refine gf_X12_179 rfl dX12_isKeyword_23 zl_329 zk_329 ?_
      refine px_ldc2 (v := (144941 : Int64)) dX12_isKeyword_26 w_1444 ?_
      refine px_lc_eq (tgt := 88) dX12_isKeyword_29 dX12_isKeyword_30 (by decide) ?_
      by_cases hc : (gl 329 43) = (144941 : Int64)
      · rw [if_pos hc] at h ⊢
        refine px_iconst (v := (1 : Int32)) dX12_isKeyword_88 (by decide) ?_
        exact px_ireturn dX12_isKeyword_89 rfl ⟨.boolean, rfl, rfl, by decide⟩ ⟨rfl, _, rfl, h⟩
      · rw [if_neg hc] at h ⊢
        refine px_aload_n dX12_isKeyword_33 rfl rfl ?_
        refine gf_X12_179 rfl dX12_isKeyword_34 zl_329 zk_329 ?_
        refine px_ldc2 (v := (400557 : Int64)) dX12_isKeyword_37 w_1445 ?_
        refine px_lc_eq (tgt := 88) dX12_isKeyword_40 dX12_isKeyword_41 (by decide) ?_
        by_cases hc : (gl 329 43) = (400557 : Int64)
        · rw [if_pos hc] at h ⊢
          refine px_iconst (v := (1 : Int32)) dX12_isKeyword_88 (by decide) ?_
          exact px_ireturn dX12_isKeyword_89 rfl ⟨.boolean, rfl, rfl, by decide⟩ ⟨rfl, _, rfl, h⟩
        · rw [if_neg hc] at h ⊢
          refine px_aload_n dX12_isKeyword_44 rfl rfl ?_
          refine gf_X12_179 rfl dX12_isKeyword_45 zl_329 zk_329 ?_
          refine px_ldc2 (v := (406922 : Int64)) dX12_isKeyword_48 w_1427 ?_
          refine px_lc_eq (tgt := 88) dX12_isKeyword_51 dX12_isKeyword_52 (by decide) ?_
          by_cases hc : (gl 329 43) = (406922 : Int64)
          · rw [if_pos hc] at h ⊢
            refine px_iconst (v := (1 : Int32)) dX12_isKeyword_88 (by decide) ?_
            exact px_ireturn dX12_isKeyword_89 rfl ⟨.boolean, rfl, rfl, by decide⟩ ⟨rfl, _, rfl, h⟩
          · rw [if_neg hc] at h ⊢
            refine px_aload_n dX12_isKeyword_55 rfl rfl ?_
            refine gf_X12_179 rfl dX12_isKeyword_56 zl_329 zk_329 ?_
            refine px_ldc2 (v := (239874 : Int64)) dX12_isKeyword_59 w_1446 ?_
            refine px_lc_eq (tgt := 88) dX12_isKeyword_62 dX12_isKeyword_63 (by decide) ?_
            by_cases hc : (gl 329 43) = (239874 : Int64)
            · rw [if_pos hc] at h ⊢
              refine px_iconst (v := (1 : Int32)) dX12_isKeyword_88 (by decide) ?_
              exact px_ireturn dX12_isKeyword_89 rfl ⟨.boolean, rfl, rfl, by decide⟩ ⟨rfl, _, rfl, h⟩
            · rw [if_neg hc] at h ⊢
              refine px_aload_n dX12_isKeyword_66 rfl rfl ?_
              refine gf_X12_179 rfl dX12_isKeyword_67 zl_329 zk_329 ?_
              refine px_ldc2 (v := (40586 : Int64)) dX12_isKeyword_70 w_1447 ?_
              refine px_lc_eq (tgt := 88) dX12_isKeyword_73 dX12_isKeyword_74 (by decide) ?_
              by_cases hc : (gl 329 43) = (40586 : Int64)
              · rw [if_pos hc] at h ⊢
                refine px_iconst (v := (1 : Int32)) dX12_isKeyword_88 (by decide) ?_
                exact px_ireturn dX12_isKeyword_89 rfl ⟨.boolean, rfl, rfl, by decide⟩ ⟨rfl, _, rfl, h⟩
              · rw [if_neg hc] at h ⊢
                refine px_aload_n dX12_isKeyword_77 rfl rfl ?_
                refine gf_X12_179 rfl dX12_isKeyword_78 zl_329 zk_329 ?_
                refine px_ldc2 (v := (326396 : Int64)) dX12_isKeyword_81 w_1428 ?_
                refine px_lc_ne (tgt := 90) dX12_isKeyword_84 dX12_isKeyword_85 (by decide) ?_
                by_cases hc : ¬ (gl 329 43) = (326396 : Int64)
                · rw [if_pos hc] at h ⊢
                  refine px_aload_n dX12_isKeyword_90 rfl rfl ?_
                  refine gf_X12_179 rfl dX12_isKeyword_91 zl_329 zk_329 ?_
                  refine px_ldc2 (v := (1841546 : Int64)) dX12_isKeyword_94 w_1429 ?_
                  refine px_lc_eq (tgt := 178) dX12_isKeyword_97 dX12_isKeyword_98 (by decide) ?_
                  by_cases hc : (gl 329 43) = (1841546 : Int64)
                  · rw [if_pos hc] at h ⊢
                    refine px_iconst (v := (1 : Int32)) dX12_isKeyword_178 (by decide) ?_
                    exact px_ireturn dX12_isKeyword_179 rfl ⟨.boolean, rfl, rfl, by decide⟩ ⟨rfl, _, rfl, h⟩
                  · rw [if_neg hc] at h ⊢
                    refine px_aload_n dX12_isKeyword_101 rfl rfl ?_
                    refine gf_X12_179 rfl dX12_isKeyword_102 zl_329 zk_329 ?_
                    refine px_ldc2 (v := (383153 : Int64)) dX12_isKeyword_105 w_1448 ?_
                    refine px_lc_eq (tgt := 178) dX12_isKeyword_108 dX12_isKeyword_109 (by decide) ?_
                    by_cases hc : (gl 329 43) = (383153 : Int64)
                    · rw [if_pos hc] at h ⊢
                      refine px_iconst (v := (1 : Int32)) dX12_isKeyword_178 (by decide) ?_
                      exact px_ireturn dX12_isKeyword_179 rfl ⟨.boolean, rfl, rfl, by decide⟩ ⟨rfl, _, rfl, h⟩
                    · rw [if_neg hc] at h ⊢
                      refine px_aload_n dX12_isKeyword_112 rfl rfl ?_
                      refine gf_X12_179 rfl dX12_isKeyword_113 zl_329 zk_329 ?_
                      refine px_ldc2 (v := (119360 : Int64)) dX12_isKeyword_116 w_1449 ?_
                      refine px_lc_eq (tgt := 178) dX12_isKeyword_119 dX12_isKeyword_120 (by decide) ?_
                      by_cases hc : (gl 329 43) = (119360 : Int64)
                      · rw [if_pos hc] at h ⊢
                        refine px_iconst (v := (1 : Int32)) dX12_isKeyword_178 (by decide) ?_
                        exact px_ireturn dX12_isKeyword_179 rfl ⟨.boolean, rfl, rfl, by decide⟩ ⟨rfl, _, rfl, h⟩
                      · rw [if_neg hc] at h ⊢
                        refine px_aload_n dX12_isKeyword_123 rfl rfl ?_
                        refine gf_X12_179 rfl dX12_isKeyword_124 zl_329 zk_329 ?_
                        refine px_ldc2 (v := (14432 : Int64)) dX12_isKeyword_127 w_1430 ?_
                        refine px_lc_eq (tgt := 178) dX12_isKeyword_130 dX12_isKeyword_131 (by decide) ?_
                        by_cases hc : (gl 329 43) = (14432 : Int64)
                        · rw [if_pos hc] at h ⊢
                          refine px_iconst (v := (1 : Int32)) dX12_isKeyword_178 (by decide) ?_
                          exact px_ireturn dX12_isKeyword_179 rfl ⟨.boolean, rfl, rfl, by decide⟩ ⟨rfl, _, rfl, h⟩
                        · rw [if_neg hc] at h ⊢
                          refine px_aload_n dX12_isKeyword_134 rfl rfl ?_
                          refine gf_X12_179 rfl dX12_isKeyword_135 zl_329 zk_329 ?_
                          refine px_ldc2 (v := (99677 : Int64)) dX12_isKeyword_138 w_1450 ?_
                          refine px_lc_eq (tgt := 178) dX12_isKeyword_141 dX12_isKeyword_142 (by decide) ?_
                          by_cases hc : (gl 329 43) = (99677 : Int64)
                          · rw [if_pos hc] at h ⊢
                            refine px_iconst (v := (1 : Int32)) dX12_isKeyword_178 (by decide) ?_
                            exact px_ireturn dX12_isKeyword_179 rfl ⟨.boolean, rfl, rfl, by decide⟩ ⟨rfl, _, rfl, h⟩
                          · rw [if_neg hc] at h ⊢
                            refine px_aload_n dX12_isKeyword_145 rfl rfl ?_
                            refine gf_X12_179 rfl dX12_isKeyword_146 zl_329 zk_329 ?_
                            refine px_ldc2 (v := (456887 : Int64)) dX12_isKeyword_149 w_1451 ?_
                            refine px_lc_eq (tgt := 178) dX12_isKeyword_152 dX12_isKeyword_153 (by decide) ?_
                            by_cases hc : (gl 329 43) = (456887 : Int64)
                            · rw [if_pos hc] at h ⊢
                              refine px_iconst (v := (1 : Int32)) dX12_isKeyword_178 (by decide) ?_
                              exact px_ireturn dX12_isKeyword_179 rfl ⟨.boolean, rfl, rfl, by decide⟩ ⟨rfl, _, rfl, h⟩
                            · rw [if_neg hc] at h ⊢
                              refine px_aload_n dX12_isKeyword_156 rfl rfl ?_
                              refine gf_X12_179 rfl dX12_isKeyword_157 zl_329 zk_329 ?_
                              refine px_ldc2 (v := (7749089 : Int64)) dX12_isKeyword_160 w_1452 ?_
                              refine px_lc_eq (tgt := 178) dX12_isKeyword_163 dX12_isKeyword_164 (by decide) ?_
                              by_cases hc : (gl 329 43) = (7749089 : Int64)
                              · rw [if_pos hc] at h ⊢
                                refine px_iconst (v := (1 : Int32)) dX12_isKeyword_178 (by decide) ?_
                                exact px_ireturn dX12_isKeyword_179 rfl ⟨.boolean, rfl, rfl, by decide⟩ ⟨rfl, _, rfl, h⟩
                              · rw [if_neg hc] at h ⊢
                                refine px_aload_n dX12_isKeyword_167 rfl rfl ?_
                                refine gf_X12_179 rfl dX12_isKeyword_168 zl_329 zk_329 ?_
                                refine px_ldc2 (v := (10408481 : Int64)) dX12_isKeyword_171 w_1453 ?_
                                refine px_lc_ne (tgt := 180) dX12_isKeyword_174 dX12_isKeyword_175 (by decide) ?_
                                by_cases hc : ¬ (gl 329 43) = (10408481 : Int64)
                                · rw [if_pos hc] at h ⊢
                                  refine px_aload_n dX12_isKeyword_180 rfl rfl ?_
                                  refine gf_X12_179 rfl dX12_isKeyword_181 zl_329 zk_329 ?_
                                  refine px_ldc2 (v := (283288069 : Int64)) dX12_isKeyword_184 w_1454 ?_
                                  refine px_lc_eq (tgt := 257) dX12_isKeyword_187 dX12_isKeyword_188 (by decide) ?_
                                  by_cases hc : (gl 329 43) = (283288069 : Int64)
                                  · rw [if_pos hc] at h ⊢
                                    refine px_iconst (v := (1 : Int32)) dX12_isKeyword_257 (by decide) ?_
                                    exact px_ireturn dX12_isKeyword_258 rfl ⟨.boolean, rfl, rfl, by decide⟩ ⟨rfl, _, rfl, h⟩
                                  · rw [if_neg hc] at h ⊢
                                    refine px_aload_n dX12_isKeyword_191 rfl rfl ?_
                                    refine gf_X12_179 rfl dX12_isKeyword_192 zl_329 zk_329 ?_
                                    refine px_ldc2 (v := (6399478 : Int64)) dX12_isKeyword_195 w_1455 ?_
                                    refine px_lc_eq (tgt := 257) dX12_isKeyword_198 dX12_isKeyword_199 (by decide) ?_
                                    by_cases hc : (gl 329 43) = (6399478 : Int64)
                                    · rw [if_pos hc] at h ⊢
                                      refine px_iconst (v := (1 : Int32)) dX12_isKeyword_257 (by decide) ?_
                                      exact px_ireturn dX12_isKeyword_258 rfl ⟨.boolean, rfl, rfl, by decide⟩ ⟨rfl, _, rfl, h⟩
                                    · rw [if_neg hc] at h ⊢
                                      refine px_aload_n dX12_isKeyword_202 rfl rfl ?_
                                      refine gf_X12_179 rfl dX12_isKeyword_203 zl_329 zk_329 ?_
                                      refine px_ldc2 (v := (276903788 : Int64)) dX12_isKeyword_206 w_1456 ?_
                                      refine px_lc_eq (tgt := 257) dX12_isKeyword_209 dX12_isKeyword_210 (by decide) ?_
                                      by_cases hc : (gl 329 43) = (276903788 : Int64)
                                      · rw [if_pos hc] at h ⊢
                                        refine px_iconst (v := (1 : Int32)) dX12_isKeyword_257 (by decide) ?_
                                        exact px_ireturn dX12_isKeyword_258 rfl ⟨.boolean, rfl, rfl, by decide⟩ ⟨rfl, _, rfl, h⟩
                                      · rw [if_neg hc] at h ⊢
                                        refine px_aload_n dX12_isKeyword_213 rfl rfl ?_
                                        refine gf_X12_179 rfl dX12_isKeyword_214 zl_329 zk_329 ?_
                                        refine px_ldc2 (v := (456500 : Int64)) dX12_isKeyword_217 w_1457 ?_
                                        refine px_lc_eq (tgt := 257) dX12_isKeyword_220 dX12_isKeyword_221 (by decide) ?_
                                        by_cases hc : (gl 329 43) = (456500 : Int64)
                                        · rw [if_pos hc] at h ⊢
                                          refine px_iconst (v := (1 : Int32)) dX12_isKeyword_257 (by decide) ?_
                                          exact px_ireturn dX12_isKeyword_258 rfl ⟨.boolean, rfl, rfl, by decide⟩ ⟨rfl, _, rfl, h⟩
                                        · rw [if_neg hc] at h ⊢
                                          refine px_aload_n dX12_isKeyword_224 rfl rfl ?_
                                          refine gf_X12_179 rfl dX12_isKeyword_225 zl_329 zk_329 ?_
                                          refine px_ldc2 (v := (495765 : Int64)) dX12_isKeyword_228 w_1458 ?_
                                          refine px_lc_eq (tgt := 257) dX12_isKeyword_231 dX12_isKeyword_232 (by decide) ?_
                                          by_cases hc : (gl 329 43) = (495765 : Int64)
                                          · rw [if_pos hc] at h ⊢
                                            refine px_iconst (v := (1 : Int32)) dX12_isKeyword_257 (by decide) ?_
                                            exact px_ireturn dX12_isKeyword_258 rfl ⟨.boolean, rfl, rfl, by decide⟩ ⟨rfl, _, rfl, h⟩
                                          · rw [if_neg hc] at h ⊢
                                            refine px_aload_n dX12_isKeyword_235 rfl rfl ?_
                                            refine gf_X12_179 rfl dX12_isKeyword_236 zl_329 zk_329 ?_
                                            refine px_ldc2 (v := (31484543 : Int64)) dX12_isKeyword_239 w_1459 ?_
                                            refine px_lc_eq (tgt := 257) dX12_isKeyword_242 dX12_isKeyword_243 (by decide) ?_
                                            by_cases hc : (gl 329 43) = (31484543 : Int64)
                                            · rw [if_pos hc] at h ⊢
                                              refine px_iconst (v := (1 : Int32)) dX12_isKeyword_257 (by decide) ?_
                                              exact px_ireturn dX12_isKeyword_258 rfl ⟨.boolean, rfl, rfl, by decide⟩ ⟨rfl, _, rfl, h⟩
                                            · rw [if_neg hc] at h ⊢
                                              refine px_aload_n dX12_isKeyword_246 rfl rfl ?_
                                              refine gf_X12_179 rfl dX12_isKeyword_247 zl_329 zk_329 ?_
                                              refine px_ldc2 (v := (240023 : Int64)) dX12_isKeyword_250 w_1460 ?_
                                              refine px_lc_ne (tgt := 259) dX12_isKeyword_253 dX12_isKeyword_254 (by decide) ?_
                                              by_cases hc : ¬ (gl 329 43) = (240023 : Int64)
                                              · rw [if_pos hc] at h ⊢
                                                refine px_iconst (v := (0 : Int32)) dX12_isKeyword_259 (by decide) ?_
                                                exact px_ireturn dX12_isKeyword_260 rfl ⟨.boolean, rfl, rfl, by decide⟩ ⟨rfl, _, rfl, h⟩
                                              · rw [if_neg hc] at h ⊢
                                                refine px_iconst (v := (1 : Int32)) dX12_isKeyword_257 (by decide) ?_
                                                exact px_ireturn dX12_isKeyword_258 rfl ⟨.boolean, rfl, rfl, by decide⟩ ⟨rfl, _, rfl, h⟩
                                · rw [if_neg hc] at h ⊢
                                  refine px_iconst (v := (1 : Int32)) dX12_isKeyword_178 (by decide) ?_
                                  exact px_ireturn dX12_isKeyword_179 rfl ⟨.boolean, rfl, rfl, by decide⟩ ⟨rfl, _, rfl, h⟩
                · rw [if_neg hc] at h ⊢
                  refine px_iconst (v := (1 : Int32)) dX12_isKeyword_88 (by decide) ?_
                  exact px_ireturn dX12_isKeyword_89 rfl ⟨.boolean, rfl, rfl, by decide⟩ ⟨rfl, _, rfl, h⟩
abbrev p_X12_find_3 (p : Nat) (x1 : Int32) (x2 : Int32) (y3 : Int64) (x5 : Int32) (gi : Gi) (gl : Gl) (Q : Int32 → Gi → Gl → Prop) : Prop := PAt mX12_find NN NN κF 3 [some (.ref p), some (.int x1), some (.int x2), some (.long y3), none, some (.int x5)] [] gi gl (RiQ Q)
def f_X12_find (p : Nat) (x1 : Int32) (x2 : Int32) (y3 : Int64) (gi : Gi) (gl : Gl) (Q : Int32 → Gi → Gl → Prop) : Prop :=
p_X12_find_3 p x1 x2 y3 (0 : Int32) gi gl Q
def f_X12_find_3 (p : Nat) (x1 : Int32) (x2 : Int32) (y3 : Int64) (x5 : Int32) (gi : Gi) (gl : Gl) (Q : Int32 → Gi → Gl → Prop) : Prop :=
if x2 ≤ x5 then
(Q ((-1) : Int32) gi gl)
else
(vp_in (x1 + x5) (sN p) ∧
if ¬ (gl p (x1 + x5).toNatClampNeg) = y3 then
(p_X12_find_3 p x1 x2 y3 (x5 + (1 : Int32)) gi gl Q)
else
(Q x5 gi gl))
set_option maxRecDepth 100000 in
theorem v_X12_find {p : Nat} {x1 : Int32} {x2 : Int32} {y3 : Int64} {gi : Gi} {gl : Gl} {Q : Int32 → Gi → Gl → Prop} (hpN : p < NN) (hpK : sK p = 101) (h : f_X12_find p x1 x2 y3 gi gl Q) : p_X12_find p x1 x2 y3 gi gl Q := by
  unfold f_X12_find at h
  show PAt mX12_find NN NN κF 0 [some (.ref p), some (.int x1), some (.int x2), some (.long y3), none, none] [] gi gl _
  refine px_iconst (v := (0 : Int32)) dX12_find_0 (by decide) ?_
  refine px_istore (ls2 := [some (.ref p), some (.int x1), some (.int x2), some (.long y3), none, some (.int (0 : Int32))]) dX12_find_1 (by decide) rfl ?_
  exact PAt.forget h (lsub_at ⟨rfl, ⟨rfl, ⟨rfl, ⟨rfl, ⟨rfl, trivial⟩⟩⟩⟩⟩)
set_option maxRecDepth 100000 in
theorem v_X12_find_3 {p : Nat} {x1 : Int32} {x2 : Int32} {y3 : Int64} {x5 : Int32} {gi : Gi} {gl : Gl} {Q : Int32 → Gi → Gl → Prop} (hpN : p < NN) (hpK : sK p = 101) (h : f_X12_find_3 p x1 x2 y3 x5 gi gl Q) : p_X12_find_3 p x1 x2 y3 x5 gi gl Q := by
  unfold f_X12_find_3 at h
  show PAt mX12_find NN NN κF 3 [some (.ref p), some (.int x1), some (.int x2), some (.long y3), none, some (.int x5)] [] gi gl _
  refine px_iload dX12_find_3 rfl ?_
  refine px_iload_n dX12_find_5 rfl rfl ?_
  refine px_icmp_ge (tgt := 29) dX12_find_6 (by decide) ?_
  by_cases hc : x2 ≤ x5
  · rw [if_pos hc] at h ⊢
    refine px_iconst (v := ((-1) : Int32)) dX12_find_29 (by decide) ?_
    exact px_ireturn dX12_find_30 rfl ⟨.int, rfl, rfl, rfl⟩ ⟨rfl, _, rfl, h⟩
  · rw [if_neg hc] at h ⊢
    refine px_aload_n dX12_find_9 rfl rfl ?_
    refine px_iload_n dX12_find_10 rfl rfl ?_
    refine px_iload dX12_find_11 rfl ?_
    refine px_iadd dX12_find_13 ?_
    obtain ⟨hi, h⟩ := h
    refine px_laload (n := (sN p)) dX12_find_14 hpN hpK rfl hi ?_
    refine px_lload_n dX12_find_15 rfl rfl ?_
    refine px_lc_ne (tgt := 23) dX12_find_16 dX12_find_17 (by decide) ?_
    by_cases hc : ¬ (gl p (x1 + x5).toNatClampNeg) = y3
    · rw [if_pos hc] at h ⊢
      refine px_iinc (v := x5 + (1 : Int32)) (ls2 := [some (.ref p), some (.int x1), some (.int x2), some (.long y3), none, some (.int (x5 + (1 : Int32)))]) dX12_find_23 rfl rfl (by decide) rfl ?_
      refine px_goto (tgt := 3) dX12_find_26 (by decide) ?_
      exact PAt.forget h (lsub_at ⟨rfl, ⟨rfl, ⟨rfl, ⟨rfl, ⟨rfl, trivial⟩⟩⟩⟩⟩)
    · rw [if_neg hc] at h ⊢
      refine px_iload dX12_find_20 rfl ?_
      exact px_ireturn dX12_find_22 rfl ⟨.int, rfl, rfl, rfl⟩ ⟨rfl, _, rfl, h⟩
def f_X12_newName (x1 : Int32) (gi : Gi) (gl : Gl) (Q : Int64 → Gi → Gl → Prop) : Prop :=
if (gi 329 44) = 0 then
(∀ z1 : Int64, z1 = gl 329 43 →
if ¬ (gi 329 41) = (1 : Int32) then
(p_X12_errs  gi gl (fun (gi2 : Gi) (gl3 : Gl) =>
Q z1 gi2 gl3))
else
(if z1 ≤ (0 : Int64) then
(p_X12_errs  gi gl (fun (gi4 : Gi) (gl5 : Gl) =>
Q z1 gi4 gl5))
else
(if x1 = 0 then
(p_X12_errs  gi gl (fun (gi6 : Gi) (gl7 : Gl) =>
Q z1 gi6 gl7))
else
(p_X12_isKeyword  gi gl (fun (r10 : Int32) (gi8 : Gi) (gl9 : Gl) =>
if ¬ r10 = 0 then
(p_X12_errs  gi8 gl9 (fun (gi11 : Gi) (gl12 : Gl) =>
Q z1 gi11 gl12))
else
(vp_in (gi8 329 45) 2 ∧
p_X12_find 336 ((12 : Int32) * (gi8 329 45)) (gi8 330 (gi8 329 45).toNatClampNeg) z1 gi8 gl9 (fun (r15 : Int32) (gi13 : Gi) (gl14 : Gl) =>
if 0 ≤ r15 then
(p_X12_errs  gi13 gl14 (fun (gi16 : Gi) (gl17 : Gl) =>
Q z1 gi16 gl17))
else
(vp_in (gi13 329 45) 2 ∧
p_X12_find 337 ((6 : Int32) * (gi13 329 45)) (gi13 331 (gi13 329 45).toNatClampNeg) z1 gi13 gl14 (fun (r20 : Int32) (gi18 : Gi) (gl19 : Gl) =>
if 0 ≤ r20 then
(p_X12_errs  gi18 gl19 (fun (gi21 : Gi) (gl22 : Gl) =>
Q z1 gi21 gl22))
else
(vp_in (gi18 329 45) 2 ∧
p_X12_find 338 ((10 : Int32) * (gi18 329 45)) (gi18 332 (gi18 329 45).toNatClampNeg) z1 gi18 gl19 (fun (r25 : Int32) (gi23 : Gi) (gl24 : Gl) =>
if 0 ≤ r25 then
(p_X12_errs  gi23 gl24 (fun (gi26 : Gi) (gl27 : Gl) =>
Q z1 gi26 gl27))
else
(vp_in (gi23 329 45) 2 ∧
p_X12_find 339 ((4 : Int32) * (gi23 329 45)) (gi23 333 (gi23 329 45).toNatClampNeg) z1 gi23 gl24 (fun (r30 : Int32) (gi28 : Gi) (gl29 : Gl) =>
if 0 ≤ r30 then
(p_X12_errs  gi28 gl29 (fun (gi31 : Gi) (gl32 : Gl) =>
Q z1 gi31 gl32))
else
(p_X12_next  gi28 gl29 (fun (gi33 : Gi) (gl34 : Gl) =>
Q z1 gi33 gl34)))))))))))))))
else
(Q (0 : Int64) gi gl)
set_option maxRecDepth 100000 in
theorem v_X12_newName {x1 : Int32} {gi : Gi} {gl : Gl} {Q : Int64 → Gi → Gl → Prop}  (h : f_X12_newName x1 gi gl Q) : p_X12_newName x1 gi gl Q := by
  unfold f_X12_newName at h
  show PAt mX12_newName NN NN κF 0 [some (.ref 329), some (.int x1), none, none, none] [] gi gl _
  refine px_aload_n dX12_newName_0 rfl rfl ?_
  refine gf_X12_196 rfl dX12_newName_1 zl_329 zk_329 ?_
  refine px_if_eq (tgt := 9) dX12_newName_4 (by decide) ?_
  by_cases hc : (gi 329 44) = 0
  · rw [if_pos hc] at h ⊢
    refine px_aload_n dX12_newName_9 rfl rfl ?_
    refine gf_X12_179 rfl dX12_newName_10 zl_329 zk_329 ?_
    obtain ⟨z1, hz1⟩ : ∃ y : Int64, y = gl 329 43 := ⟨_, rfl⟩
    have h := h z1 hz1
    refine px_namel hz1 ?_
    refine px_lstore_n (ls2 := [some (.ref 329), some (.int x1), some (.long z1), none, none]) (i := 2) rfl dX12_newName_13 (by decide) rfl ?_
    refine px_aload_n dX12_newName_14 rfl rfl ?_
    refine gf_X12_186 rfl dX12_newName_15 zl_329 zk_329 ?_
    refine px_iconst (v := (1 : Int32)) dX12_newName_18 (by decide) ?_
    refine px_icmp_ne (tgt := 150) dX12_newName_19 (by decide) ?_
    by_cases hc : ¬ (gi 329 41) = (1 : Int32)
    · rw [if_pos hc] at h ⊢
      refine px_iconst (v := (0 : Int32)) dX12_newName_150 (by decide) ?_
      refine px_istore (ls2 := [some (.ref 329), some (.int x1), some (.long z1), none, some (.int (0 : Int32))]) dX12_newName_151 (by decide) rfl ?_
      refine px_iload dX12_newName_153 rfl ?_
      refine px_if_eq_t (tgt := 165) dX12_newName_155 (by decide) (by decide) ?_
      refine px_aload_n dX12_newName_165 rfl rfl ?_
      refine px_callV_V (As := []) (st := []) dX12_newName_166 lk_X12_207.1 lk_X12_207.2 (b := 329) zl_329 zk_329 (by decide) rfl (by decide) rfl (Nat.le_of_ble_eq_true rfl) rfl rfl (Nat.le_of_ble_eq_true rfl) ⟨Nat.le_refl _, Nat.le_refl _, Nat.le_refl _⟩ ?_
      refine PAt.mono h (fun v κ gi2 gl3 hq => ?_)
      obtain ⟨rfl, -, h⟩ := hq
      refine px_lload_n dX12_newName_169 rfl rfl ?_
      exact px_lreturn dX12_newName_170 rfl rfl ⟨rfl, _, rfl, h⟩
    · rw [if_neg hc] at h ⊢
      refine px_lload_n dX12_newName_22 rfl rfl ?_
      refine px_lconst (v := (0 : Int64)) dX12_newName_23 (by decide) ?_
      refine px_lc_le (tgt := 150) dX12_newName_24 dX12_newName_25 (by decide) ?_
      by_cases hc : z1 ≤ (0 : Int64)
      · rw [if_pos hc] at h ⊢
        refine px_iconst (v := (0 : Int32)) dX12_newName_150 (by decide) ?_
        refine px_istore (ls2 := [some (.ref 329), some (.int x1), some (.long z1), none, some (.int (0 : Int32))]) dX12_newName_151 (by decide) rfl ?_
        refine px_iload dX12_newName_153 rfl ?_
        refine px_if_eq_t (tgt := 165) dX12_newName_155 (by decide) (by decide) ?_
        refine px_aload_n dX12_newName_165 rfl rfl ?_
        refine px_callV_V (As := []) (st := []) dX12_newName_166 lk_X12_207.1 lk_X12_207.2 (b := 329) zl_329 zk_329 (by decide) rfl (by decide) rfl (Nat.le_of_ble_eq_true rfl) rfl rfl (Nat.le_of_ble_eq_true rfl) ⟨Nat.le_refl _, Nat.le_refl _, Nat.le_refl _⟩ ?_
        refine PAt.mono h (fun v κ gi4 gl5 hq => ?_)
        obtain ⟨rfl, -, h⟩ := hq
        refine px_lload_n dX12_newName_169 rfl rfl ?_
        exact px_lreturn dX12_newName_170 rfl rfl ⟨rfl, _, rfl, h⟩
      · rw [if_neg hc] at h ⊢
        refine px_iload_n dX12_newName_28 rfl rfl ?_
        refine px_if_eq (tgt := 150) dX12_newName_29 (by decide) ?_
        by_cases hc : x1 = 0
        · rw [if_pos hc] at h ⊢
          refine px_iconst (v := (0 : Int32)) dX12_newName_150 (by decide) ?_
          refine px_istore (ls2 := [some (.ref 329), some (.int x1), some (.long z1), none, some (.int (0 : Int32))]) dX12_newName_151 (by decide) rfl ?_
          refine px_iload dX12_newName_153 rfl ?_
          refine px_if_eq_t (tgt := 165) dX12_newName_155 (by decide) (by decide) ?_
          refine px_aload_n dX12_newName_165 rfl rfl ?_
          refine px_callV_V (As := []) (st := []) dX12_newName_166 lk_X12_207.1 lk_X12_207.2 (b := 329) zl_329 zk_329 (by decide) rfl (by decide) rfl (Nat.le_of_ble_eq_true rfl) rfl rfl (Nat.le_of_ble_eq_true rfl) ⟨Nat.le_refl _, Nat.le_refl _, Nat.le_refl _⟩ ?_
          refine PAt.mono h (fun v κ gi6 gl7 hq => ?_)
          obtain ⟨rfl, -, h⟩ := hq
          refine px_lload_n dX12_newName_169 rfl rfl ?_
          exact px_lreturn dX12_newName_170 rfl rfl ⟨rfl, _, rfl, h⟩
        · rw [if_neg hc] at h ⊢
          refine px_aload_n dX12_newName_32 rfl rfl ?_
          refine px_callV_I (As := []) (st := []) dX12_newName_33 lk_X12_256.1 lk_X12_256.2 (b := 329) zl_329 zk_329 (by decide) rfl (by decide) rfl (Nat.le_of_ble_eq_true rfl) rfl rfl (Nat.le_of_ble_eq_true rfl) ⟨Nat.le_refl _, Nat.le_refl _, Nat.le_refl _⟩ ?_
          refine PAt.mono h (fun v κ gi8 gl9 hq => ?_)
          obtain ⟨rfl, r10, rfl, h⟩ := hq
          refine px_if_ne (tgt := 150) dX12_newName_36 (by decide) ?_
          by_cases hc : ¬ r10 = 0
          · rw [if_pos hc] at h ⊢
            refine px_iconst (v := (0 : Int32)) dX12_newName_150 (by decide) ?_
            refine px_istore (ls2 := [some (.ref 329), some (.int x1), some (.long z1), none, some (.int (0 : Int32))]) dX12_newName_151 (by decide) rfl ?_
            refine px_iload dX12_newName_153 rfl ?_
            refine px_if_eq_t (tgt := 165) dX12_newName_155 (by decide) (by decide) ?_
            refine px_aload_n dX12_newName_165 rfl rfl ?_
            refine px_callV_V (As := []) (st := []) dX12_newName_166 lk_X12_207.1 lk_X12_207.2 (b := 329) zl_329 zk_329 (by decide) rfl (by decide) rfl (Nat.le_of_ble_eq_true rfl) rfl rfl (Nat.le_of_ble_eq_true rfl) ⟨Nat.le_refl _, Nat.le_refl _, Nat.le_refl _⟩ ?_
            refine PAt.mono h (fun v κ gi11 gl12 hq => ?_)
            obtain ⟨rfl, -, h⟩ := hq
            refine px_lload_n dX12_newName_169 rfl rfl ?_
            exact px_lreturn dX12_newName_170 rfl rfl ⟨rfl, _, rfl, h⟩
          · rw [if_neg hc] at h ⊢
            refine px_aload_n dX12_newName_39 rfl rfl ?_
            refine gf_X12_28 rfl dX12_newName_40 zl_329 zk_329 rfl zr_329_8 zl_336 ?_
            refine px_bipush (v := (12 : Int32)) dX12_newName_43 (by decide) ?_
            refine px_aload_n dX12_newName_45 rfl rfl ?_
            refine gf_X12_260 rfl dX12_newName_46 zl_329 zk_329 ?_
            refine px_imul dX12_newName_49 ?_
            refine px_aload_n dX12_newName_50 rfl rfl ?_
            refine gf_X12_7 rfl dX12_newName_51 zl_329 zk_329 rfl zr_329_2 zl_330 ?_
            refine px_aload_n dX12_newName_54 rfl rfl ?_
            refine gf_X12_260 rfl dX12_newName_55 zl_329 zk_329 ?_
            obtain ⟨hi, h⟩ := h
            refine px_iaload (n := 2) dX12_newName_58 zl_330 zk_330 zs_330 hi ?_
            refine px_lload_n dX12_newName_59 rfl rfl ?_
            refine px_callS_I (As := [.ref 336, .int ((12 : Int32) * (gi8 329 45)), .int (gi8 330 (gi8 329 45).toNatClampNeg), .long z1]) (st := []) dX12_newName_60 lk_X12_263.1 lk_X12_263.2 (by decide) rfl (Nat.le_of_ble_eq_true rfl) rfl rfl (Nat.le_of_ble_eq_true rfl) ⟨Nat.le_refl _, Nat.le_refl _, Nat.le_refl _⟩ ?_
            refine PAt.mono h (fun v κ gi13 gl14 hq => ?_)
            obtain ⟨rfl, r15, rfl, h⟩ := hq
            refine px_if_ge (tgt := 150) dX12_newName_63 (by decide) ?_
            by_cases hc : 0 ≤ r15
            · rw [if_pos hc] at h ⊢
              refine px_iconst (v := (0 : Int32)) dX12_newName_150 (by decide) ?_
              refine px_istore (ls2 := [some (.ref 329), some (.int x1), some (.long z1), none, some (.int (0 : Int32))]) dX12_newName_151 (by decide) rfl ?_
              refine px_iload dX12_newName_153 rfl ?_
              refine px_if_eq_t (tgt := 165) dX12_newName_155 (by decide) (by decide) ?_
              refine px_aload_n dX12_newName_165 rfl rfl ?_
              refine px_callV_V (As := []) (st := []) dX12_newName_166 lk_X12_207.1 lk_X12_207.2 (b := 329) zl_329 zk_329 (by decide) rfl (by decide) rfl (Nat.le_of_ble_eq_true rfl) rfl rfl (Nat.le_of_ble_eq_true rfl) ⟨Nat.le_refl _, Nat.le_refl _, Nat.le_refl _⟩ ?_
              refine PAt.mono h (fun v κ gi16 gl17 hq => ?_)
              obtain ⟨rfl, -, h⟩ := hq
              refine px_lload_n dX12_newName_169 rfl rfl ?_
              exact px_lreturn dX12_newName_170 rfl rfl ⟨rfl, _, rfl, h⟩
            · rw [if_neg hc] at h ⊢
              refine px_aload_n dX12_newName_66 rfl rfl ?_
              refine gf_X12_32 rfl dX12_newName_67 zl_329 zk_329 rfl zr_329_9 zl_337 ?_
              refine px_bipush (v := (6 : Int32)) dX12_newName_70 (by decide) ?_
              refine px_aload_n dX12_newName_72 rfl rfl ?_
              refine gf_X12_260 rfl dX12_newName_73 zl_329 zk_329 ?_
              refine px_imul dX12_newName_76 ?_
              refine px_aload_n dX12_newName_77 rfl rfl ?_
              refine gf_X12_13 rfl dX12_newName_78 zl_329 zk_329 rfl zr_329_3 zl_331 ?_
              refine px_aload_n dX12_newName_81 rfl rfl ?_
              refine gf_X12_260 rfl dX12_newName_82 zl_329 zk_329 ?_
              obtain ⟨hi, h⟩ := h
              refine px_iaload (n := 2) dX12_newName_85 zl_331 zk_331 zs_331 hi ?_
              refine px_lload_n dX12_newName_86 rfl rfl ?_
              refine px_callS_I (As := [.ref 337, .int ((6 : Int32) * (gi13 329 45)), .int (gi13 331 (gi13 329 45).toNatClampNeg), .long z1]) (st := []) dX12_newName_87 lk_X12_263.1 lk_X12_263.2 (by decide) rfl (Nat.le_of_ble_eq_true rfl) rfl rfl (Nat.le_of_ble_eq_true rfl) ⟨Nat.le_refl _, Nat.le_refl _, Nat.le_refl _⟩ ?_
              refine PAt.mono h (fun v κ gi18 gl19 hq => ?_)
              obtain ⟨rfl, r20, rfl, h⟩ := hq
              refine px_if_ge (tgt := 150) dX12_newName_90 (by decide) ?_
              by_cases hc : 0 ≤ r20
              · rw [if_pos hc] at h ⊢
                refine px_iconst (v := (0 : Int32)) dX12_newName_150 (by decide) ?_
                refine px_istore (ls2 := [some (.ref 329), some (.int x1), some (.long z1), none, some (.int (0 : Int32))]) dX12_newName_151 (by decide) rfl ?_
                refine px_iload dX12_newName_153 rfl ?_
                refine px_if_eq_t (tgt := 165) dX12_newName_155 (by decide) (by decide) ?_
                refine px_aload_n dX12_newName_165 rfl rfl ?_
                refine px_callV_V (As := []) (st := []) dX12_newName_166 lk_X12_207.1 lk_X12_207.2 (b := 329) zl_329 zk_329 (by decide) rfl (by decide) rfl (Nat.le_of_ble_eq_true rfl) rfl rfl (Nat.le_of_ble_eq_true rfl) ⟨Nat.le_refl _, Nat.le_refl _, Nat.le_refl _⟩ ?_
                refine PAt.mono h (fun v κ gi21 gl22 hq => ?_)
                obtain ⟨rfl, -, h⟩ := hq
                refine px_lload_n dX12_newName_169 rfl rfl ?_
                exact px_lreturn dX12_newName_170 rfl rfl ⟨rfl, _, rfl, h⟩
              · rw [if_neg hc] at h ⊢
                refine px_aload_n dX12_newName_93 rfl rfl ?_
                refine gf_X12_35 rfl dX12_newName_94 zl_329 zk_329 rfl zr_329_10 zl_338 ?_
                refine px_bipush (v := (10 : Int32)) dX12_newName_97 (by decide) ?_
                refine px_aload_n dX12_newName_99 rfl rfl ?_
                refine gf_X12_260 rfl dX12_newName_100 zl_329 zk_329 ?_
                refine px_imul dX12_newName_103 ?_
                refine px_aload_n dX12_newName_104 rfl rfl ?_
                refine gf_X12_16 rfl dX12_newName_105 zl_329 zk_329 rfl zr_329_4 zl_332 ?_
                refine px_aload_n dX12_newName_108 rfl rfl ?_
                refine gf_X12_260 rfl dX12_newName_109 zl_329 zk_329 ?_
                obtain ⟨hi, h⟩ := h
                refine px_iaload (n := 2) dX12_newName_112 zl_332 zk_332 zs_332 hi ?_
                refine px_lload_n dX12_newName_113 rfl rfl ?_
                refine px_callS_I (As := [.ref 338, .int ((10 : Int32) * (gi18 329 45)), .int (gi18 332 (gi18 329 45).toNatClampNeg), .long z1]) (st := []) dX12_newName_114 lk_X12_263.1 lk_X12_263.2 (by decide) rfl (Nat.le_of_ble_eq_true rfl) rfl rfl (Nat.le_of_ble_eq_true rfl) ⟨Nat.le_refl _, Nat.le_refl _, Nat.le_refl _⟩ ?_
                refine PAt.mono h (fun v κ gi23 gl24 hq => ?_)
                obtain ⟨rfl, r25, rfl, h⟩ := hq
                refine px_if_ge (tgt := 150) dX12_newName_117 (by decide) ?_
                by_cases hc : 0 ≤ r25
                · rw [if_pos hc] at h ⊢
                  refine px_iconst (v := (0 : Int32)) dX12_newName_150 (by decide) ?_
                  refine px_istore (ls2 := [some (.ref 329), some (.int x1), some (.long z1), none, some (.int (0 : Int32))]) dX12_newName_151 (by decide) rfl ?_
                  refine px_iload dX12_newName_153 rfl ?_
                  refine px_if_eq_t (tgt := 165) dX12_newName_155 (by decide) (by decide) ?_
                  refine px_aload_n dX12_newName_165 rfl rfl ?_
                  refine px_callV_V (As := []) (st := []) dX12_newName_166 lk_X12_207.1 lk_X12_207.2 (b := 329) zl_329 zk_329 (by decide) rfl (by decide) rfl (Nat.le_of_ble_eq_true rfl) rfl rfl (Nat.le_of_ble_eq_true rfl) ⟨Nat.le_refl _, Nat.le_refl _, Nat.le_refl _⟩ ?_
                  refine PAt.mono h (fun v κ gi26 gl27 hq => ?_)
                  obtain ⟨rfl, -, h⟩ := hq
                  refine px_lload_n dX12_newName_169 rfl rfl ?_
                  exact px_lreturn dX12_newName_170 rfl rfl ⟨rfl, _, rfl, h⟩
                · rw [if_neg hc] at h ⊢
                  refine px_aload_n dX12_newName_120 rfl rfl ?_
                  refine gf_X12_38 rfl dX12_newName_121 zl_329 zk_329 rfl zr_329_11 zl_339 ?_
                  refine px_iconst (v := (4 : Int32)) dX12_newName_124 (by decide) ?_
                  refine px_aload_n dX12_newName_125 rfl rfl ?_
                  refine gf_X12_260 rfl dX12_newName_126 zl_329 zk_329 ?_
                  refine px_imul dX12_newName_129 ?_
                  refine px_aload_n dX12_newName_130 rfl rfl ?_
                  refine gf_X12_19 rfl dX12_newName_131 zl_329 zk_329 rfl zr_329_5 zl_333 ?_
                  refine px_aload_n dX12_newName_134 rfl rfl ?_
                  refine gf_X12_260 rfl dX12_newName_135 zl_329 zk_329 ?_
                  obtain ⟨hi, h⟩ := h
                  refine px_iaload (n := 2) dX12_newName_138 zl_333 zk_333 zs_333 hi ?_
                  refine px_lload_n dX12_newName_139 rfl rfl ?_
                  refine px_callS_I (As := [.ref 339, .int ((4 : Int32) * (gi23 329 45)), .int (gi23 333 (gi23 329 45).toNatClampNeg), .long z1]) (st := []) dX12_newName_140 lk_X12_263.1 lk_X12_263.2 (by decide) rfl (Nat.le_of_ble_eq_true rfl) rfl rfl (Nat.le_of_ble_eq_true rfl) ⟨Nat.le_refl _, Nat.le_refl _, Nat.le_refl _⟩ ?_
                  refine PAt.mono h (fun v κ gi28 gl29 hq => ?_)
                  obtain ⟨rfl, r30, rfl, h⟩ := hq
                  refine px_if_ge (tgt := 150) dX12_newName_143 (by decide) ?_
                  by_cases hc : 0 ≤ r30
                  · rw [if_pos hc] at h ⊢
                    refine px_iconst (v := (0 : Int32)) dX12_newName_150 (by decide) ?_
                    refine px_istore (ls2 := [some (.ref 329), some (.int x1), some (.long z1), none, some (.int (0 : Int32))]) dX12_newName_151 (by decide) rfl ?_
                    refine px_iload dX12_newName_153 rfl ?_
                    refine px_if_eq_t (tgt := 165) dX12_newName_155 (by decide) (by decide) ?_
                    refine px_aload_n dX12_newName_165 rfl rfl ?_
                    refine px_callV_V (As := []) (st := []) dX12_newName_166 lk_X12_207.1 lk_X12_207.2 (b := 329) zl_329 zk_329 (by decide) rfl (by decide) rfl (Nat.le_of_ble_eq_true rfl) rfl rfl (Nat.le_of_ble_eq_true rfl) ⟨Nat.le_refl _, Nat.le_refl _, Nat.le_refl _⟩ ?_
                    refine PAt.mono h (fun v κ gi31 gl32 hq => ?_)
                    obtain ⟨rfl, -, h⟩ := hq
                    refine px_lload_n dX12_newName_169 rfl rfl ?_
                    exact px_lreturn dX12_newName_170 rfl rfl ⟨rfl, _, rfl, h⟩
                  · rw [if_neg hc] at h ⊢
                    refine px_iconst (v := (1 : Int32)) dX12_newName_146 (by decide) ?_
                    refine px_goto (tgt := 151) dX12_newName_147 (by decide) ?_
                    refine px_istore (ls2 := [some (.ref 329), some (.int x1), some (.long z1), none, some (.int (1 : Int32))]) dX12_newName_151 (by decide) rfl ?_
                    refine px_iload dX12_newName_153 rfl ?_
                    refine px_if_eq_f (tgt := 165) dX12_newName_155 (by decide) (by decide) ?_
                    refine px_aload_n dX12_newName_158 rfl rfl ?_
                    refine px_callV_V (As := []) (st := []) dX12_newName_159 lk_X12_204.1 lk_X12_204.2 (b := 329) zl_329 zk_329 (by decide) rfl (by decide) rfl (Nat.le_of_ble_eq_true rfl) rfl rfl (Nat.le_of_ble_eq_true rfl) ⟨Nat.le_refl _, Nat.le_refl _, Nat.le_refl _⟩ ?_
                    refine PAt.mono h (fun v κ gi33 gl34 hq => ?_)
                    obtain ⟨rfl, -, h⟩ := hq
                    refine px_goto (tgt := 169) dX12_newName_162 (by decide) ?_
                    refine px_lload_n dX12_newName_169 rfl rfl ?_
                    exact px_lreturn dX12_newName_170 rfl rfl ⟨rfl, _, rfl, h⟩
  · rw [if_neg hc] at h ⊢
    refine px_lconst (v := (0 : Int64)) dX12_newName_7 (by decide) ?_
    exact px_lreturn dX12_newName_8 rfl rfl ⟨rfl, _, rfl, h⟩
def f_X12_givenHere  (gi : Gi) (gl : Gl) (Q : Int32 → Gi → Gl → Prop) : Prop :=
p_X12_is (144941 : Int64) gi gl (fun (r3 : Int32) (gi1 : Gi) (gl2 : Gl) =>
if ¬ r3 = 0 then
(p_X12_next  gi1 gl2 (fun (gi4 : Gi) (gl5 : Gl) =>
p_X12_numeral (0 : Int32) (99 : Int32) gi4 gl5 (fun (r8 : Int32) (gi6 : Gi) (gl7 : Gl) =>
Q r8 gi6 gl7)))
else
(Q (0 : Int32) gi1 gl2))
set_option maxRecDepth 100000 in
theorem v_X12_givenHere  {gi : Gi} {gl : Gl} {Q : Int32 → Gi → Gl → Prop}  (h : f_X12_givenHere  gi gl Q) : p_X12_givenHere  gi gl Q := by
  unfold f_X12_givenHere at h
  show PAt mX12_givenHere NN NN κF 0 [some (.ref 329)] [] gi gl _
  refine px_aload_n dX12_givenHere_0 rfl rfl ?_
  refine px_ldc2 (v := (144941 : Int64)) dX12_givenHere_1 w_1444 ?_
  refine px_callV_I (As := [.long (144941 : Int64)]) (st := []) dX12_givenHere_4 lk_X12_200.1 lk_X12_200.2 (b := 329) zl_329 zk_329 (by decide) rfl (by decide) rfl (Nat.le_of_ble_eq_true rfl) rfl rfl (Nat.le_of_ble_eq_true rfl) ⟨Nat.le_refl _, Nat.le_refl _, Nat.le_refl _⟩ ?_
  refine PAt.mono h (fun v κ gi1 gl2 hq => ?_)
  obtain ⟨rfl, r3, rfl, h⟩ := hq
  refine px_if_ne (tgt := 12) dX12_givenHere_7 (by decide) ?_
  by_cases hc : ¬ r3 = 0
  · rw [if_pos hc] at h ⊢
    refine px_aload_n dX12_givenHere_12 rfl rfl ?_
    refine px_callV_V (As := []) (st := []) dX12_givenHere_13 lk_X12_204.1 lk_X12_204.2 (b := 329) zl_329 zk_329 (by decide) rfl (by decide) rfl (Nat.le_of_ble_eq_true rfl) rfl rfl (Nat.le_of_ble_eq_true rfl) ⟨Nat.le_refl _, Nat.le_refl _, Nat.le_refl _⟩ ?_
    refine PAt.mono h (fun v κ gi4 gl5 hq => ?_)
    obtain ⟨rfl, -, h⟩ := hq
    refine px_aload_n dX12_givenHere_16 rfl rfl ?_
    refine px_iconst (v := (0 : Int32)) dX12_givenHere_17 (by decide) ?_
    refine px_bipush (v := (99 : Int32)) dX12_givenHere_18 (by decide) ?_
    refine px_callV_I (As := [.int (0 : Int32), .int (99 : Int32)]) (st := []) dX12_givenHere_20 lk_X12_267.1 lk_X12_267.2 (b := 329) zl_329 zk_329 (by decide) rfl (by decide) rfl (Nat.le_of_ble_eq_true rfl) rfl rfl (Nat.le_of_ble_eq_true rfl) ⟨Nat.le_refl _, Nat.le_refl _, Nat.le_refl _⟩ ?_
    refine PAt.mono h (fun v κ gi6 gl7 hq => ?_)
    obtain ⟨rfl, r8, rfl, h⟩ := hq
    exact px_ireturn dX12_givenHere_23 rfl ⟨.int, rfl, rfl, rfl⟩ ⟨rfl, _, rfl, h⟩
  · rw [if_neg hc] at h ⊢
    refine px_iconst (v := (0 : Int32)) dX12_givenHere_10 (by decide) ?_
    exact px_ireturn dX12_givenHere_11 rfl ⟨.int, rfl, rfl, rfl⟩ ⟨rfl, _, rfl, h⟩
abbrev p_X12_readThing_38 (x1 : Int32) (s0 : Int32) (gi : Gi) (gl : Gl) (Q : Gi → Gl → Prop) : Prop := PAt mX12_readThing NN NN κF 38 [some (.ref 329), some (.int x1), none, none] [.int s0, .ref 329] gi gl (RvQ Q)
def f_X12_readThing  (gi : Gi) (gl : Gl) (Q : Gi → Gl → Prop) : Prop :=
vp_in (gi 329 45) 2 ∧
∀ z1 : Int32, z1 = ((12 : Int32) * (gi 329 45)) + (gi 330 (gi 329 45).toNatClampNeg) →
vp_in (gi 329 45) 2 ∧
if (12 : Int32) ≤ (gi 330 (gi 329 45).toNatClampNeg) then
(p_X12_readThing_38 z1 (0 : Int32) gi gl Q)
else
(p_X12_readThing_38 z1 (1 : Int32) gi gl Q)
def f_X12_readThing_38 (x1 : Int32) (s0 : Int32) (gi : Gi) (gl : Gl) (Q : Gi → Gl → Prop) : Prop :=
p_X12_newName s0 gi gl (fun (r3 : Int64) (gi1 : Gi) (gl2 : Gl) =>
if (gi1 329 44) = 0 then
(vp_in x1 24 ∧
∀ gl4 : Gl, gl4 = uL gl2 336 (vp_updL (gl2 336) x1.toNatClampNeg r3) →
p_X12_mustBe (131638 : Int64) gi1 gl4 (fun (gi5 : Gi) (gl6 : Gl) =>
p_X12_numeral (0 : Int32) (3599 : Int32) gi5 gl6 (fun (r9 : Int32) (gi7 : Gi) (gl8 : Gl) =>
vp_in x1 24 ∧
∀ gi10 : Gi, gi10 = uI gi7 340 (upd (gi7 340) x1.toNatClampNeg r9) →
p_X12_givenHere  gi10 gl8 (fun (r13 : Int32) (gi11 : Gi) (gl12 : Gl) =>
vp_in x1 24 ∧
∀ gi14 : Gi, gi14 = uI gi11 341 (upd (gi11 341) x1.toNatClampNeg r13) →
vp_in x1 24 ∧
∀ gi15 : Gi, gi15 = uI gi14 342 (upd (gi14 342) x1.toNatClampNeg ((-1) : Int32)) →
vp_in x1 24 ∧
∀ gi16 : Gi, gi16 = uI gi15 343 (upd (gi15 343) x1.toNatClampNeg (0 : Int32)) →
p_X12_is (400557 : Int64) gi16 gl12 (fun (r19 : Int32) (gi17 : Gi) (gl18 : Gl) =>
if r19 = 0 then
(vp_in (gi17 329 45) 2 ∧
vp_in (gi17 329 45) 2 ∧
∀ gi20 : Gi, gi20 = uI gi17 330 (upd (gi17 330) (gi17 329 45).toNatClampNeg ((gi17 330 (gi17 329 45).toNatClampNeg) + (1 : Int32))) →
Q gi20 gl18)
else
(p_X12_next  gi17 gl18 (fun (gi21 : Gi) (gl22 : Gl) =>
vp_in x1 24 ∧
p_X12_numeral (gi21 340 x1.toNatClampNeg) (3599 : Int32) gi21 gl22 (fun (r25 : Int32) (gi23 : Gi) (gl24 : Gl) =>
vp_in x1 24 ∧
∀ gi26 : Gi, gi26 = uI gi23 342 (upd (gi23 342) x1.toNatClampNeg r25) →
p_X12_givenHere  gi26 gl24 (fun (r29 : Int32) (gi27 : Gi) (gl28 : Gl) =>
vp_in x1 24 ∧
∀ gi30 : Gi, gi30 = uI gi27 343 (upd (gi27 343) x1.toNatClampNeg r29) →
vp_in (gi30 329 45) 2 ∧
vp_in (gi30 329 45) 2 ∧
∀ gi31 : Gi, gi31 = uI gi30 330 (upd (gi30 330) (gi30 329 45).toNatClampNeg ((gi30 330 (gi30 329 45).toNatClampNeg) + (1 : Int32))) →
Q gi31 gl28)))))))))
else
(Q gi1 gl2))
set_option maxRecDepth 100000 in
theorem v_X12_readThing  {gi : Gi} {gl : Gl} {Q : Gi → Gl → Prop}  (h : f_X12_readThing  gi gl Q) : p_X12_readThing  gi gl Q := by
  unfold f_X12_readThing at h
  show PAt mX12_readThing NN NN κF 0 [some (.ref 329), none, none, none] [] gi gl _
  refine px_bipush (v := (12 : Int32)) dX12_readThing_0 (by decide) ?_
  refine px_aload_n dX12_readThing_2 rfl rfl ?_
  refine gf_X12_260 rfl dX12_readThing_3 zl_329 zk_329 ?_
  refine px_imul dX12_readThing_6 ?_
  refine px_aload_n dX12_readThing_7 rfl rfl ?_
  refine gf_X12_7 rfl dX12_readThing_8 zl_329 zk_329 rfl zr_329_2 zl_330 ?_
  refine px_aload_n dX12_readThing_11 rfl rfl ?_
  refine gf_X12_260 rfl dX12_readThing_12 zl_329 zk_329 ?_
  obtain ⟨hi, h⟩ := h
  refine px_iaload (n := 2) dX12_readThing_15 zl_330 zk_330 zs_330 hi ?_
  refine px_iadd dX12_readThing_16 ?_
  obtain ⟨z1, hz1⟩ : ∃ y : Int32, y = ((12 : Int32) * (gi 329 45)) + (gi 330 (gi 329 45).toNatClampNeg) := ⟨_, rfl⟩
  have h := h z1 hz1
  refine px_namei hz1 ?_
  refine px_istore_n (ls2 := [some (.ref 329), some (.int z1), none, none]) (i := 1) rfl dX12_readThing_17 (by decide) rfl ?_
  refine px_aload_n dX12_readThing_18 rfl rfl ?_
  refine px_aload_n dX12_readThing_19 rfl rfl ?_
  refine gf_X12_7 rfl dX12_readThing_20 zl_329 zk_329 rfl zr_329_2 zl_330 ?_
  refine px_aload_n dX12_readThing_23 rfl rfl ?_
  refine gf_X12_260 rfl dX12_readThing_24 zl_329 zk_329 ?_
  obtain ⟨hi, h⟩ := h
  refine px_iaload (n := 2) dX12_readThing_27 zl_330 zk_330 zs_330 hi ?_
  refine px_bipush (v := (12 : Int32)) dX12_readThing_28 (by decide) ?_
  refine px_icmp_ge (tgt := 37) dX12_readThing_30 (by decide) ?_
  by_cases hc : (12 : Int32) ≤ (gi 330 (gi 329 45).toNatClampNeg)
  · rw [if_pos hc] at h ⊢
    refine px_iconst (v := (0 : Int32)) dX12_readThing_37 (by decide) ?_
    exact PAt.forget h (lsub_at ⟨rfl, ⟨rfl, trivial⟩⟩)
  · rw [if_neg hc] at h ⊢
    refine px_iconst (v := (1 : Int32)) dX12_readThing_33 (by decide) ?_
    refine px_goto (tgt := 38) dX12_readThing_34 (by decide) ?_
    exact PAt.forget h (lsub_at ⟨rfl, ⟨rfl, trivial⟩⟩)
set_option maxRecDepth 100000 in
theorem v_X12_readThing_38 {x1 : Int32} {s0 : Int32} {gi : Gi} {gl : Gl} {Q : Gi → Gl → Prop}  (h : f_X12_readThing_38 x1 s0 gi gl Q) : p_X12_readThing_38 x1 s0 gi gl Q := by
  unfold f_X12_readThing_38 at h
  show PAt mX12_readThing NN NN κF 38 [some (.ref 329), some (.int x1), none, none] [.int s0, .ref 329] gi gl _
  refine px_callV_L (As := [.int s0]) (st := []) dX12_readThing_38 lk_X12_271.1 lk_X12_271.2 (b := 329) zl_329 zk_329 (by decide) rfl (by decide) rfl (Nat.le_of_ble_eq_true rfl) rfl rfl (Nat.le_of_ble_eq_true rfl) ⟨Nat.le_refl _, Nat.le_refl _, Nat.le_refl _⟩ ?_
  refine PAt.mono h (fun v κ gi1 gl2 hq => ?_)
  obtain ⟨rfl, r3, rfl, h⟩ := hq
  refine px_lstore_n (ls2 := [some (.ref 329), some (.int x1), some (.long r3), none]) (i := 2) rfl dX12_readThing_41 (by decide) rfl ?_
  refine px_aload_n dX12_readThing_42 rfl rfl ?_
  refine gf_X12_196 rfl dX12_readThing_43 zl_329 zk_329 ?_
  refine px_if_eq (tgt := 50) dX12_readThing_46 (by decide) ?_
  by_cases hc : (gi1 329 44) = 0
  · rw [if_pos hc] at h ⊢
    refine px_aload_n dX12_readThing_50 rfl rfl ?_
    refine gf_X12_28 rfl dX12_readThing_51 zl_329 zk_329 rfl zr_329_8 zl_336 ?_
    refine px_iload_n dX12_readThing_54 rfl rfl ?_
    refine px_lload_n dX12_readThing_55 rfl rfl ?_
    obtain ⟨hi, h⟩ := h
    refine px_lastore (n := 24) dX12_readThing_56 zl_336 zk_336 zs_336 hi ?_
    obtain ⟨gl4, hgl4⟩ : ∃ y : Gl, y = uL gl2 336 (vp_updL (gl2 336) x1.toNatClampNeg r3) := ⟨_, rfl⟩
    have h := h gl4 hgl4
    refine px_namegl hgl4 ?_
    refine px_aload_n dX12_readThing_57 rfl rfl ?_
    refine px_ldc2 (v := (131638 : Int64)) dX12_readThing_58 w_1443 ?_
    refine px_callV_V (As := [.long (131638 : Int64)]) (st := []) dX12_readThing_61 lk_X12_275.1 lk_X12_275.2 (b := 329) zl_329 zk_329 (by decide) rfl (by decide) rfl (Nat.le_of_ble_eq_true rfl) rfl rfl (Nat.le_of_ble_eq_true rfl) ⟨Nat.le_refl _, Nat.le_refl _, Nat.le_refl _⟩ ?_
    refine PAt.mono h (fun v κ gi5 gl6 hq => ?_)
    obtain ⟨rfl, -, h⟩ := hq
    refine px_aload_n dX12_readThing_64 rfl rfl ?_
    refine gf_X12_41 rfl dX12_readThing_65 zl_329 zk_329 rfl zr_329_12 zl_340 ?_
    refine px_iload_n dX12_readThing_68 rfl rfl ?_
    refine px_aload_n dX12_readThing_69 rfl rfl ?_
    refine px_iconst (v := (0 : Int32)) dX12_readThing_70 (by decide) ?_
    refine px_sipush (v := (3599 : Int32)) dX12_readThing_71 (by decide) ?_
    refine px_callV_I (As := [.int (0 : Int32), .int (3599 : Int32)]) (st := [.int x1, .ref 340]) dX12_readThing_74 lk_X12_267.1 lk_X12_267.2 (b := 329) zl_329 zk_329 (by decide) rfl (by decide) rfl (Nat.le_of_ble_eq_true rfl) rfl rfl (Nat.le_of_ble_eq_true rfl) ⟨Nat.le_refl _, Nat.le_refl _, Nat.le_refl _⟩ ?_
    refine PAt.mono h (fun v κ gi7 gl8 hq => ?_)
    obtain ⟨rfl, r9, rfl, h⟩ := hq
    obtain ⟨hi, h⟩ := h
    refine px_iastore (n := 24) dX12_readThing_77 zl_340 zk_340 zs_340 hi ?_
    obtain ⟨gi10, hgi10⟩ : ∃ y : Gi, y = uI gi7 340 (upd (gi7 340) x1.toNatClampNeg r9) := ⟨_, rfl⟩
    have h := h gi10 hgi10
    refine px_namegi hgi10 ?_
    refine px_aload_n dX12_readThing_78 rfl rfl ?_
    refine gf_X12_44 rfl dX12_readThing_79 zl_329 zk_329 rfl zr_329_13 zl_341 ?_
    refine px_iload_n dX12_readThing_82 rfl rfl ?_
    refine px_aload_n dX12_readThing_83 rfl rfl ?_
    refine px_callV_I (As := []) (st := [.int x1, .ref 341]) dX12_readThing_84 lk_X12_279.1 lk_X12_279.2 (b := 329) zl_329 zk_329 (by decide) rfl (by decide) rfl (Nat.le_of_ble_eq_true rfl) rfl rfl (Nat.le_of_ble_eq_true rfl) ⟨Nat.le_refl _, Nat.le_refl _, Nat.le_refl _⟩ ?_
    refine PAt.mono h (fun v κ gi11 gl12 hq => ?_)
    obtain ⟨rfl, r13, rfl, h⟩ := hq
    obtain ⟨hi, h⟩ := h
    refine px_iastore (n := 24) dX12_readThing_87 zl_341 zk_341 zs_341 hi ?_
    obtain ⟨gi14, hgi14⟩ : ∃ y : Gi, y = uI gi11 341 (upd (gi11 341) x1.toNatClampNeg r13) := ⟨_, rfl⟩
    have h := h gi14 hgi14
    refine px_namegi hgi14 ?_
    refine px_aload_n dX12_readThing_88 rfl rfl ?_
    refine gf_X12_47 rfl dX12_readThing_89 zl_329 zk_329 rfl zr_329_14 zl_342 ?_
    refine px_iload_n dX12_readThing_92 rfl rfl ?_
    refine px_iconst (v := ((-1) : Int32)) dX12_readThing_93 (by decide) ?_
    obtain ⟨hi, h⟩ := h
    refine px_iastore (n := 24) dX12_readThing_94 zl_342 zk_342 zs_342 hi ?_
    obtain ⟨gi15, hgi15⟩ : ∃ y : Gi, y = uI gi14 342 (upd (gi14 342) x1.toNatClampNeg ((-1) : Int32)) := ⟨_, rfl⟩
    have h := h gi15 hgi15
    refine px_namegi hgi15 ?_
    refine px_aload_n dX12_readThing_95 rfl rfl ?_
    refine gf_X12_50 rfl dX12_readThing_96 zl_329 zk_329 rfl zr_329_15 zl_343 ?_
    refine px_iload_n dX12_readThing_99 rfl rfl ?_
    refine px_iconst (v := (0 : Int32)) dX12_readThing_100 (by decide) ?_
    obtain ⟨hi, h⟩ := h
    refine px_iastore (n := 24) dX12_readThing_101 zl_343 zk_343 zs_343 hi ?_
    obtain ⟨gi16, hgi16⟩ : ∃ y : Gi, y = uI gi15 343 (upd (gi15 343) x1.toNatClampNeg (0 : Int32)) := ⟨_, rfl⟩
    have h := h gi16 hgi16
    refine px_namegi hgi16 ?_
    refine px_aload_n dX12_readThing_102 rfl rfl ?_
    refine px_ldc2 (v := (400557 : Int64)) dX12_readThing_103 w_1445 ?_
    refine px_callV_I (As := [.long (400557 : Int64)]) (st := []) dX12_readThing_106 lk_X12_200.1 lk_X12_200.2 (b := 329) zl_329 zk_329 (by decide) rfl (by decide) rfl (Nat.le_of_ble_eq_true rfl) rfl rfl (Nat.le_of_ble_eq_true rfl) ⟨Nat.le_refl _, Nat.le_refl _, Nat.le_refl _⟩ ?_
    refine PAt.mono h (fun v κ gi17 gl18 hq => ?_)
    obtain ⟨rfl, r19, rfl, h⟩ := hq
    refine px_if_eq (tgt := 145) dX12_readThing_109 (by decide) ?_
    by_cases hc : r19 = 0
    · rw [if_pos hc] at h ⊢
      refine px_aload_n dX12_readThing_145 rfl rfl ?_
      refine gf_X12_7 rfl dX12_readThing_146 zl_329 zk_329 rfl zr_329_2 zl_330 ?_
      refine px_aload_n dX12_readThing_149 rfl rfl ?_
      refine gf_X12_260 rfl dX12_readThing_150 zl_329 zk_329 ?_
      refine px_dup2 dX12_readThing_153 rfl rfl ?_
      obtain ⟨hi, h⟩ := h
      refine px_iaload (n := 2) dX12_readThing_154 zl_330 zk_330 zs_330 hi ?_
      refine px_iconst (v := (1 : Int32)) dX12_readThing_155 (by decide) ?_
      refine px_iadd dX12_readThing_156 ?_
      obtain ⟨hi, h⟩ := h
      refine px_iastore (n := 2) dX12_readThing_157 zl_330 zk_330 zs_330 hi ?_
      obtain ⟨gi20, hgi20⟩ : ∃ y : Gi, y = uI gi17 330 (upd (gi17 330) (gi17 329 45).toNatClampNeg ((gi17 330 (gi17 329 45).toNatClampNeg) + (1 : Int32))) := ⟨_, rfl⟩
      have h := h gi20 hgi20
      refine px_namegi hgi20 ?_
      exact px_return dX12_readThing_158 rfl rfl ⟨rfl, rfl, h⟩
    · rw [if_neg hc] at h ⊢
      refine px_aload_n dX12_readThing_112 rfl rfl ?_
      refine px_callV_V (As := []) (st := []) dX12_readThing_113 lk_X12_204.1 lk_X12_204.2 (b := 329) zl_329 zk_329 (by decide) rfl (by decide) rfl (Nat.le_of_ble_eq_true rfl) rfl rfl (Nat.le_of_ble_eq_true rfl) ⟨Nat.le_refl _, Nat.le_refl _, Nat.le_refl _⟩ ?_
      refine PAt.mono h (fun v κ gi21 gl22 hq => ?_)
      obtain ⟨rfl, -, h⟩ := hq
      refine px_aload_n dX12_readThing_116 rfl rfl ?_
      refine gf_X12_47 rfl dX12_readThing_117 zl_329 zk_329 rfl zr_329_14 zl_342 ?_
      refine px_iload_n dX12_readThing_120 rfl rfl ?_
      refine px_aload_n dX12_readThing_121 rfl rfl ?_
      refine px_aload_n dX12_readThing_122 rfl rfl ?_
      refine gf_X12_41 rfl dX12_readThing_123 zl_329 zk_329 rfl zr_329_12 zl_340 ?_
      refine px_iload_n dX12_readThing_126 rfl rfl ?_
      obtain ⟨hi, h⟩ := h
      refine px_iaload (n := 24) dX12_readThing_127 zl_340 zk_340 zs_340 hi ?_
      refine px_sipush (v := (3599 : Int32)) dX12_readThing_128 (by decide) ?_
      refine px_callV_I (As := [.int (gi21 340 x1.toNatClampNeg), .int (3599 : Int32)]) (st := [.int x1, .ref 342]) dX12_readThing_131 lk_X12_267.1 lk_X12_267.2 (b := 329) zl_329 zk_329 (by decide) rfl (by decide) rfl (Nat.le_of_ble_eq_true rfl) rfl rfl (Nat.le_of_ble_eq_true rfl) ⟨Nat.le_refl _, Nat.le_refl _, Nat.le_refl _⟩ ?_
      refine PAt.mono h (fun v κ gi23 gl24 hq => ?_)
      obtain ⟨rfl, r25, rfl, h⟩ := hq
      obtain ⟨hi, h⟩ := h
      refine px_iastore (n := 24) dX12_readThing_134 zl_342 zk_342 zs_342 hi ?_
      obtain ⟨gi26, hgi26⟩ : ∃ y : Gi, y = uI gi23 342 (upd (gi23 342) x1.toNatClampNeg r25) := ⟨_, rfl⟩
      have h := h gi26 hgi26
      refine px_namegi hgi26 ?_
      refine px_aload_n dX12_readThing_135 rfl rfl ?_
      refine gf_X12_50 rfl dX12_readThing_136 zl_329 zk_329 rfl zr_329_15 zl_343 ?_
      refine px_iload_n dX12_readThing_139 rfl rfl ?_
      refine px_aload_n dX12_readThing_140 rfl rfl ?_
      refine px_callV_I (As := []) (st := [.int x1, .ref 343]) dX12_readThing_141 lk_X12_279.1 lk_X12_279.2 (b := 329) zl_329 zk_329 (by decide) rfl (by decide) rfl (Nat.le_of_ble_eq_true rfl) rfl rfl (Nat.le_of_ble_eq_true rfl) ⟨Nat.le_refl _, Nat.le_refl _, Nat.le_refl _⟩ ?_
      refine PAt.mono h (fun v κ gi27 gl28 hq => ?_)
      obtain ⟨rfl, r29, rfl, h⟩ := hq
      obtain ⟨hi, h⟩ := h
      refine px_iastore (n := 24) dX12_readThing_144 zl_343 zk_343 zs_343 hi ?_
      obtain ⟨gi30, hgi30⟩ : ∃ y : Gi, y = uI gi27 343 (upd (gi27 343) x1.toNatClampNeg r29) := ⟨_, rfl⟩
      have h := h gi30 hgi30
      refine px_namegi hgi30 ?_
      refine px_aload_n dX12_readThing_145 rfl rfl ?_
      refine gf_X12_7 rfl dX12_readThing_146 zl_329 zk_329 rfl zr_329_2 zl_330 ?_
      refine px_aload_n dX12_readThing_149 rfl rfl ?_
      refine gf_X12_260 rfl dX12_readThing_150 zl_329 zk_329 ?_
      refine px_dup2 dX12_readThing_153 rfl rfl ?_
      obtain ⟨hi, h⟩ := h
      refine px_iaload (n := 2) dX12_readThing_154 zl_330 zk_330 zs_330 hi ?_
      refine px_iconst (v := (1 : Int32)) dX12_readThing_155 (by decide) ?_
      refine px_iadd dX12_readThing_156 ?_
      obtain ⟨hi, h⟩ := h
      refine px_iastore (n := 2) dX12_readThing_157 zl_330 zk_330 zs_330 hi ?_
      obtain ⟨gi31, hgi31⟩ : ∃ y : Gi, y = uI gi30 330 (upd (gi30 330) (gi30 329 45).toNatClampNeg ((gi30 330 (gi30 329 45).toNatClampNeg) + (1 : Int32))) := ⟨_, rfl⟩
      have h := h gi31 hgi31
      refine px_namegi hgi31 ?_
      exact px_return dX12_readThing_158 rfl rfl ⟨rfl, rfl, h⟩
  · rw [if_neg hc] at h ⊢
    exact px_return dX12_readThing_49 rfl rfl ⟨rfl, rfl, h⟩
abbrev p_X12_readTree_38 (x1 : Int32) (s0 : Int32) (gi : Gi) (gl : Gl) (Q : Gi → Gl → Prop) : Prop := PAt mX12_readTree NN NN κF 38 [some (.ref 329), some (.int x1), none, none] [.int s0, .ref 329] gi gl (RvQ Q)
abbrev p_X12_readTree_127 (x1 : Int32) (gi : Gi) (gl : Gl) (Q : Gi → Gl → Prop) : Prop := PAt mX12_readTree NN NN κF 127 [some (.ref 329), some (.int x1), none, none] [] gi gl (RvQ Q)
def f_X12_readTree  (gi : Gi) (gl : Gl) (Q : Gi → Gl → Prop) : Prop :=
vp_in (gi 329 45) 2 ∧
∀ z1 : Int32, z1 = ((6 : Int32) * (gi 329 45)) + (gi 331 (gi 329 45).toNatClampNeg) →
vp_in (gi 329 45) 2 ∧
if (6 : Int32) ≤ (gi 331 (gi 329 45).toNatClampNeg) then
(p_X12_readTree_38 z1 (0 : Int32) gi gl Q)
else
(p_X12_readTree_38 z1 (1 : Int32) gi gl Q)
def f_X12_readTree_38 (x1 : Int32) (s0 : Int32) (gi : Gi) (gl : Gl) (Q : Gi → Gl → Prop) : Prop :=
p_X12_newName s0 gi gl (fun (r3 : Int64) (gi1 : Gi) (gl2 : Gl) =>
if (gi1 329 44) = 0 then
(vp_in x1 12 ∧
∀ gl4 : Gl, gl4 = uL gl2 337 (vp_updL (gl2 337) x1.toNatClampNeg r3) →
p_X12_mustBe (239874 : Int64) gi1 gl4 (fun (gi5 : Gi) (gl6 : Gl) =>
p_X12_numeral (0 : Int32) (359 : Int32) gi5 gl6 (fun (r9 : Int32) (gi7 : Gi) (gl8 : Gl) =>
vp_in x1 12 ∧
∀ gi10 : Gi, gi10 = uI gi7 344 (upd (gi7 344) x1.toNatClampNeg r9) →
p_X12_mustBe (40586 : Int64) gi10 gl8 (fun (gi11 : Gi) (gl12 : Gl) =>
vp_in x1 12 ∧
∀ gi13 : Gi, gi13 = uI gi11 345 (upd (gi11 345) x1.toNatClampNeg (gi11 329 42)) →
if ¬ (gi13 329 44) = 0 then
(p_X12_readTree_127 x1 gi13 gl12 Q)
else
(if ¬ (gi13 329 41) = (2 : Int32) then
(p_X12_readTree_127 x1 gi13 gl12 Q)
else
(vp_in x1 12 ∧
if ¬ (gi13 329 42) = (gi13 344 x1.toNatClampNeg) then
(p_X12_readTree_127 x1 gi13 gl12 Q)
else
(p_X12_errs  gi13 gl12 (fun (gi14 : Gi) (gl15 : Gl) =>
p_X12_readTree_127 x1 gi14 gl15 Q))))))))
else
(Q gi1 gl2))
def f_X12_readTree_127 (x1 : Int32) (gi : Gi) (gl : Gl) (Q : Gi → Gl → Prop) : Prop :=
p_X12_numeral (0 : Int32) (359 : Int32) gi gl (fun (r3 : Int32) (gi1 : Gi) (gl2 : Gl) =>
vp_in x1 12 ∧
∀ gi4 : Gi, gi4 = uI gi1 345 (upd (gi1 345) x1.toNatClampNeg r3) →
vp_in (gi4 329 45) 2 ∧
vp_in (gi4 329 45) 2 ∧
∀ gi5 : Gi, gi5 = uI gi4 331 (upd (gi4 331) (gi4 329 45).toNatClampNeg ((gi4 331 (gi4 329 45).toNatClampNeg) + (1 : Int32))) →
Q gi5 gl2)
set_option maxRecDepth 100000 in
theorem v_X12_readTree  {gi : Gi} {gl : Gl} {Q : Gi → Gl → Prop}  (h : f_X12_readTree  gi gl Q) : p_X12_readTree  gi gl Q := by
  unfold f_X12_readTree at h
  show PAt mX12_readTree NN NN κF 0 [some (.ref 329), none, none, none] [] gi gl _
  refine px_bipush (v := (6 : Int32)) dX12_readTree_0 (by decide) ?_
  refine px_aload_n dX12_readTree_2 rfl rfl ?_
  refine gf_X12_260 rfl dX12_readTree_3 zl_329 zk_329 ?_
  refine px_imul dX12_readTree_6 ?_
  refine px_aload_n dX12_readTree_7 rfl rfl ?_
  refine gf_X12_13 rfl dX12_readTree_8 zl_329 zk_329 rfl zr_329_3 zl_331 ?_
  refine px_aload_n dX12_readTree_11 rfl rfl ?_
  refine gf_X12_260 rfl dX12_readTree_12 zl_329 zk_329 ?_
  obtain ⟨hi, h⟩ := h
  refine px_iaload (n := 2) dX12_readTree_15 zl_331 zk_331 zs_331 hi ?_
  refine px_iadd dX12_readTree_16 ?_
  obtain ⟨z1, hz1⟩ : ∃ y : Int32, y = ((6 : Int32) * (gi 329 45)) + (gi 331 (gi 329 45).toNatClampNeg) := ⟨_, rfl⟩
  have h := h z1 hz1
  refine px_namei hz1 ?_
  refine px_istore_n (ls2 := [some (.ref 329), some (.int z1), none, none]) (i := 1) rfl dX12_readTree_17 (by decide) rfl ?_
  refine px_aload_n dX12_readTree_18 rfl rfl ?_
  refine px_aload_n dX12_readTree_19 rfl rfl ?_
  refine gf_X12_13 rfl dX12_readTree_20 zl_329 zk_329 rfl zr_329_3 zl_331 ?_
  refine px_aload_n dX12_readTree_23 rfl rfl ?_
  refine gf_X12_260 rfl dX12_readTree_24 zl_329 zk_329 ?_
  obtain ⟨hi, h⟩ := h
  refine px_iaload (n := 2) dX12_readTree_27 zl_331 zk_331 zs_331 hi ?_
  refine px_bipush (v := (6 : Int32)) dX12_readTree_28 (by decide) ?_
  refine px_icmp_ge (tgt := 37) dX12_readTree_30 (by decide) ?_
  by_cases hc : (6 : Int32) ≤ (gi 331 (gi 329 45).toNatClampNeg)
  · rw [if_pos hc] at h ⊢
    refine px_iconst (v := (0 : Int32)) dX12_readTree_37 (by decide) ?_
    exact PAt.forget h (lsub_at ⟨rfl, ⟨rfl, trivial⟩⟩)
  · rw [if_neg hc] at h ⊢
    refine px_iconst (v := (1 : Int32)) dX12_readTree_33 (by decide) ?_
    refine px_goto (tgt := 38) dX12_readTree_34 (by decide) ?_
    exact PAt.forget h (lsub_at ⟨rfl, ⟨rfl, trivial⟩⟩)
set_option maxRecDepth 100000 in
theorem v_X12_readTree_38 {x1 : Int32} {s0 : Int32} {gi : Gi} {gl : Gl} {Q : Gi → Gl → Prop}  (h : f_X12_readTree_38 x1 s0 gi gl Q) : p_X12_readTree_38 x1 s0 gi gl Q := by
  unfold f_X12_readTree_38 at h
  show PAt mX12_readTree NN NN κF 38 [some (.ref 329), some (.int x1), none, none] [.int s0, .ref 329] gi gl _
  refine px_callV_L (As := [.int s0]) (st := []) dX12_readTree_38 lk_X12_271.1 lk_X12_271.2 (b := 329) zl_329 zk_329 (by decide) rfl (by decide) rfl (Nat.le_of_ble_eq_true rfl) rfl rfl (Nat.le_of_ble_eq_true rfl) ⟨Nat.le_refl _, Nat.le_refl _, Nat.le_refl _⟩ ?_
  refine PAt.mono h (fun v κ gi1 gl2 hq => ?_)
  obtain ⟨rfl, r3, rfl, h⟩ := hq
  refine px_lstore_n (ls2 := [some (.ref 329), some (.int x1), some (.long r3), none]) (i := 2) rfl dX12_readTree_41 (by decide) rfl ?_
  refine px_aload_n dX12_readTree_42 rfl rfl ?_
  refine gf_X12_196 rfl dX12_readTree_43 zl_329 zk_329 ?_
  refine px_if_eq (tgt := 50) dX12_readTree_46 (by decide) ?_
  by_cases hc : (gi1 329 44) = 0
  · rw [if_pos hc] at h ⊢
    refine px_aload_n dX12_readTree_50 rfl rfl ?_
    refine gf_X12_32 rfl dX12_readTree_51 zl_329 zk_329 rfl zr_329_9 zl_337 ?_
    refine px_iload_n dX12_readTree_54 rfl rfl ?_
    refine px_lload_n dX12_readTree_55 rfl rfl ?_
    obtain ⟨hi, h⟩ := h
    refine px_lastore (n := 12) dX12_readTree_56 zl_337 zk_337 zs_337 hi ?_
    obtain ⟨gl4, hgl4⟩ : ∃ y : Gl, y = uL gl2 337 (vp_updL (gl2 337) x1.toNatClampNeg r3) := ⟨_, rfl⟩
    have h := h gl4 hgl4
    refine px_namegl hgl4 ?_
    refine px_aload_n dX12_readTree_57 rfl rfl ?_
    refine px_ldc2 (v := (239874 : Int64)) dX12_readTree_58 w_1446 ?_
    refine px_callV_V (As := [.long (239874 : Int64)]) (st := []) dX12_readTree_61 lk_X12_275.1 lk_X12_275.2 (b := 329) zl_329 zk_329 (by decide) rfl (by decide) rfl (Nat.le_of_ble_eq_true rfl) rfl rfl (Nat.le_of_ble_eq_true rfl) ⟨Nat.le_refl _, Nat.le_refl _, Nat.le_refl _⟩ ?_
    refine PAt.mono h (fun v κ gi5 gl6 hq => ?_)
    obtain ⟨rfl, -, h⟩ := hq
    refine px_aload_n dX12_readTree_64 rfl rfl ?_
    refine gf_X12_53 rfl dX12_readTree_65 zl_329 zk_329 rfl zr_329_16 zl_344 ?_
    refine px_iload_n dX12_readTree_68 rfl rfl ?_
    refine px_aload_n dX12_readTree_69 rfl rfl ?_
    refine px_iconst (v := (0 : Int32)) dX12_readTree_70 (by decide) ?_
    refine px_sipush (v := (359 : Int32)) dX12_readTree_71 (by decide) ?_
    refine px_callV_I (As := [.int (0 : Int32), .int (359 : Int32)]) (st := [.int x1, .ref 344]) dX12_readTree_74 lk_X12_267.1 lk_X12_267.2 (b := 329) zl_329 zk_329 (by decide) rfl (by decide) rfl (Nat.le_of_ble_eq_true rfl) rfl rfl (Nat.le_of_ble_eq_true rfl) ⟨Nat.le_refl _, Nat.le_refl _, Nat.le_refl _⟩ ?_
    refine PAt.mono h (fun v κ gi7 gl8 hq => ?_)
    obtain ⟨rfl, r9, rfl, h⟩ := hq
    obtain ⟨hi, h⟩ := h
    refine px_iastore (n := 12) dX12_readTree_77 zl_344 zk_344 zs_344 hi ?_
    obtain ⟨gi10, hgi10⟩ : ∃ y : Gi, y = uI gi7 344 (upd (gi7 344) x1.toNatClampNeg r9) := ⟨_, rfl⟩
    have h := h gi10 hgi10
    refine px_namegi hgi10 ?_
    refine px_aload_n dX12_readTree_78 rfl rfl ?_
    refine px_ldc2 (v := (40586 : Int64)) dX12_readTree_79 w_1447 ?_
    refine px_callV_V (As := [.long (40586 : Int64)]) (st := []) dX12_readTree_82 lk_X12_275.1 lk_X12_275.2 (b := 329) zl_329 zk_329 (by decide) rfl (by decide) rfl (Nat.le_of_ble_eq_true rfl) rfl rfl (Nat.le_of_ble_eq_true rfl) ⟨Nat.le_refl _, Nat.le_refl _, Nat.le_refl _⟩ ?_
    refine PAt.mono h (fun v κ gi11 gl12 hq => ?_)
    obtain ⟨rfl, -, h⟩ := hq
    refine px_aload_n dX12_readTree_85 rfl rfl ?_
    refine gf_X12_56 rfl dX12_readTree_86 zl_329 zk_329 rfl zr_329_17 zl_345 ?_
    refine px_iload_n dX12_readTree_89 rfl rfl ?_
    refine px_aload_n dX12_readTree_90 rfl rfl ?_
    refine gf_X12_183 rfl dX12_readTree_91 zl_329 zk_329 ?_
    obtain ⟨hi, h⟩ := h
    refine px_iastore (n := 12) dX12_readTree_94 zl_345 zk_345 zs_345 hi ?_
    obtain ⟨gi13, hgi13⟩ : ∃ y : Gi, y = uI gi11 345 (upd (gi11 345) x1.toNatClampNeg (gi11 329 42)) := ⟨_, rfl⟩
    have h := h gi13 hgi13
    refine px_namegi hgi13 ?_
    refine px_aload_n dX12_readTree_95 rfl rfl ?_
    refine gf_X12_196 rfl dX12_readTree_96 zl_329 zk_329 ?_
    refine px_if_ne (tgt := 127) dX12_readTree_99 (by decide) ?_
    by_cases hc : ¬ (gi13 329 44) = 0
    · rw [if_pos hc] at h ⊢
      exact PAt.forget h (lsub_at ⟨rfl, ⟨rfl, trivial⟩⟩)
    · rw [if_neg hc] at h ⊢
      refine px_aload_n dX12_readTree_102 rfl rfl ?_
      refine gf_X12_186 rfl dX12_readTree_103 zl_329 zk_329 ?_
      refine px_iconst (v := (2 : Int32)) dX12_readTree_106 (by decide) ?_
      refine px_icmp_ne (tgt := 127) dX12_readTree_107 (by decide) ?_
      by_cases hc : ¬ (gi13 329 41) = (2 : Int32)
      · rw [if_pos hc] at h ⊢
        exact PAt.forget h (lsub_at ⟨rfl, ⟨rfl, trivial⟩⟩)
      · rw [if_neg hc] at h ⊢
        refine px_aload_n dX12_readTree_110 rfl rfl ?_
        refine gf_X12_183 rfl dX12_readTree_111 zl_329 zk_329 ?_
        refine px_aload_n dX12_readTree_114 rfl rfl ?_
        refine gf_X12_53 rfl dX12_readTree_115 zl_329 zk_329 rfl zr_329_16 zl_344 ?_
        refine px_iload_n dX12_readTree_118 rfl rfl ?_
        obtain ⟨hi, h⟩ := h
        refine px_iaload (n := 12) dX12_readTree_119 zl_344 zk_344 zs_344 hi ?_
        refine px_icmp_ne (tgt := 127) dX12_readTree_120 (by decide) ?_
        by_cases hc : ¬ (gi13 329 42) = (gi13 344 x1.toNatClampNeg)
        · rw [if_pos hc] at h ⊢
          exact PAt.forget h (lsub_at ⟨rfl, ⟨rfl, trivial⟩⟩)
        · rw [if_neg hc] at h ⊢
          refine px_aload_n dX12_readTree_123 rfl rfl ?_
          refine px_callV_V (As := []) (st := []) dX12_readTree_124 lk_X12_207.1 lk_X12_207.2 (b := 329) zl_329 zk_329 (by decide) rfl (by decide) rfl (Nat.le_of_ble_eq_true rfl) rfl rfl (Nat.le_of_ble_eq_true rfl) ⟨Nat.le_refl _, Nat.le_refl _, Nat.le_refl _⟩ ?_
          refine PAt.mono h (fun v κ gi14 gl15 hq => ?_)
          obtain ⟨rfl, -, h⟩ := hq
          exact PAt.forget h (lsub_at ⟨rfl, ⟨rfl, trivial⟩⟩)
  · rw [if_neg hc] at h ⊢
    exact px_return dX12_readTree_49 rfl rfl ⟨rfl, rfl, h⟩
set_option maxRecDepth 100000 in
theorem v_X12_readTree_127 {x1 : Int32} {gi : Gi} {gl : Gl} {Q : Gi → Gl → Prop}  (h : f_X12_readTree_127 x1 gi gl Q) : p_X12_readTree_127 x1 gi gl Q := by
  unfold f_X12_readTree_127 at h
  show PAt mX12_readTree NN NN κF 127 [some (.ref 329), some (.int x1), none, none] [] gi gl _
  refine px_aload_n dX12_readTree_127 rfl rfl ?_
  refine gf_X12_56 rfl dX12_readTree_128 zl_329 zk_329 rfl zr_329_17 zl_345 ?_
  refine px_iload_n dX12_readTree_131 rfl rfl ?_
  refine px_aload_n dX12_readTree_132 rfl rfl ?_
  refine px_iconst (v := (0 : Int32)) dX12_readTree_133 (by decide) ?_
  refine px_sipush (v := (359 : Int32)) dX12_readTree_134 (by decide) ?_
  refine px_callV_I (As := [.int (0 : Int32), .int (359 : Int32)]) (st := [.int x1, .ref 345]) dX12_readTree_137 lk_X12_267.1 lk_X12_267.2 (b := 329) zl_329 zk_329 (by decide) rfl (by decide) rfl (Nat.le_of_ble_eq_true rfl) rfl rfl (Nat.le_of_ble_eq_true rfl) ⟨Nat.le_refl _, Nat.le_refl _, Nat.le_refl _⟩ ?_
  refine PAt.mono h (fun v κ gi1 gl2 hq => ?_)
  obtain ⟨rfl, r3, rfl, h⟩ := hq
  obtain ⟨hi, h⟩ := h
  refine px_iastore (n := 12) dX12_readTree_140 zl_345 zk_345 zs_345 hi ?_
  obtain ⟨gi4, hgi4⟩ : ∃ y : Gi, y = uI gi1 345 (upd (gi1 345) x1.toNatClampNeg r3) := ⟨_, rfl⟩
  have h := h gi4 hgi4
  refine px_namegi hgi4 ?_
  refine px_aload_n dX12_readTree_141 rfl rfl ?_
  refine gf_X12_13 rfl dX12_readTree_142 zl_329 zk_329 rfl zr_329_3 zl_331 ?_
  refine px_aload_n dX12_readTree_145 rfl rfl ?_
  refine gf_X12_260 rfl dX12_readTree_146 zl_329 zk_329 ?_
  refine px_dup2 dX12_readTree_149 rfl rfl ?_
  obtain ⟨hi, h⟩ := h
  refine px_iaload (n := 2) dX12_readTree_150 zl_331 zk_331 zs_331 hi ?_
  refine px_iconst (v := (1 : Int32)) dX12_readTree_151 (by decide) ?_
  refine px_iadd dX12_readTree_152 ?_
  obtain ⟨hi, h⟩ := h
  refine px_iastore (n := 2) dX12_readTree_153 zl_331 zk_331 zs_331 hi ?_
  obtain ⟨gi5, hgi5⟩ : ∃ y : Gi, y = uI gi4 331 (upd (gi4 331) (gi4 329 45).toNatClampNeg ((gi4 331 (gi4 329 45).toNatClampNeg) + (1 : Int32))) := ⟨_, rfl⟩
  have h := h gi5 hgi5
  refine px_namegi hgi5 ?_
  exact px_return dX12_readTree_154 rfl rfl ⟨rfl, rfl, h⟩
abbrev p_X12_readPost_38 (x1 : Int32) (s0 : Int32) (gi : Gi) (gl : Gl) (Q : Gi → Gl → Prop) : Prop := PAt mX12_readPost NN NN κF 38 [some (.ref 329), some (.int x1), none, none] [.int s0, .ref 329] gi gl (RvQ Q)
def f_X12_readPost  (gi : Gi) (gl : Gl) (Q : Gi → Gl → Prop) : Prop :=
vp_in (gi 329 45) 2 ∧
∀ z1 : Int32, z1 = ((10 : Int32) * (gi 329 45)) + (gi 332 (gi 329 45).toNatClampNeg) →
vp_in (gi 329 45) 2 ∧
if (10 : Int32) ≤ (gi 332 (gi 329 45).toNatClampNeg) then
(p_X12_readPost_38 z1 (0 : Int32) gi gl Q)
else
(p_X12_readPost_38 z1 (1 : Int32) gi gl Q)
def f_X12_readPost_38 (x1 : Int32) (s0 : Int32) (gi : Gi) (gl : Gl) (Q : Gi → Gl → Prop) : Prop :=
p_X12_newName s0 gi gl (fun (r3 : Int64) (gi1 : Gi) (gl2 : Gl) =>
if (gi1 329 44) = 0 then
(vp_in x1 20 ∧
∀ gl4 : Gl, gl4 = uL gl2 338 (vp_updL (gl2 338) x1.toNatClampNeg r3) →
p_X12_numeral (0 : Int32) (31 : Int32) gi1 gl4 (fun (r7 : Int32) (gi5 : Gi) (gl6 : Gl) =>
vp_in x1 20 ∧
∀ gi8 : Gi, gi8 = uI gi5 346 (upd (gi5 346) x1.toNatClampNeg r7) →
p_X12_numeral (0 : Int32) (31 : Int32) gi8 gl6 (fun (r11 : Int32) (gi9 : Gi) (gl10 : Gl) =>
vp_in x1 20 ∧
∀ gi12 : Gi, gi12 = uI gi9 347 (upd (gi9 347) x1.toNatClampNeg r11) →
p_X12_numeral (1 : Int32) (20 : Int32) gi12 gl10 (fun (r15 : Int32) (gi13 : Gi) (gl14 : Gl) =>
vp_in x1 20 ∧
∀ gi16 : Gi, gi16 = uI gi13 348 (upd (gi13 348) x1.toNatClampNeg r15) →
vp_in (gi16 329 45) 2 ∧
vp_in (gi16 329 45) 2 ∧
∀ gi17 : Gi, gi17 = uI gi16 332 (upd (gi16 332) (gi16 329 45).toNatClampNeg ((gi16 332 (gi16 329 45).toNatClampNeg) + (1 : Int32))) →
Q gi17 gl14))))
else
(Q gi1 gl2))
set_option maxRecDepth 100000 in
theorem v_X12_readPost  {gi : Gi} {gl : Gl} {Q : Gi → Gl → Prop}  (h : f_X12_readPost  gi gl Q) : p_X12_readPost  gi gl Q := by
  unfold f_X12_readPost at h
  show PAt mX12_readPost NN NN κF 0 [some (.ref 329), none, none, none] [] gi gl _
  refine px_bipush (v := (10 : Int32)) dX12_readPost_0 (by decide) ?_
  refine px_aload_n dX12_readPost_2 rfl rfl ?_
  refine gf_X12_260 rfl dX12_readPost_3 zl_329 zk_329 ?_
  refine px_imul dX12_readPost_6 ?_
  refine px_aload_n dX12_readPost_7 rfl rfl ?_
  refine gf_X12_16 rfl dX12_readPost_8 zl_329 zk_329 rfl zr_329_4 zl_332 ?_
  refine px_aload_n dX12_readPost_11 rfl rfl ?_
  refine gf_X12_260 rfl dX12_readPost_12 zl_329 zk_329 ?_
  obtain ⟨hi, h⟩ := h
  refine px_iaload (n := 2) dX12_readPost_15 zl_332 zk_332 zs_332 hi ?_
  refine px_iadd dX12_readPost_16 ?_
  obtain ⟨z1, hz1⟩ : ∃ y : Int32, y = ((10 : Int32) * (gi 329 45)) + (gi 332 (gi 329 45).toNatClampNeg) := ⟨_, rfl⟩
  have h := h z1 hz1
  refine px_namei hz1 ?_
  refine px_istore_n (ls2 := [some (.ref 329), some (.int z1), none, none]) (i := 1) rfl dX12_readPost_17 (by decide) rfl ?_
  refine px_aload_n dX12_readPost_18 rfl rfl ?_
  refine px_aload_n dX12_readPost_19 rfl rfl ?_
  refine gf_X12_16 rfl dX12_readPost_20 zl_329 zk_329 rfl zr_329_4 zl_332 ?_
  refine px_aload_n dX12_readPost_23 rfl rfl ?_
  refine gf_X12_260 rfl dX12_readPost_24 zl_329 zk_329 ?_
  obtain ⟨hi, h⟩ := h
  refine px_iaload (n := 2) dX12_readPost_27 zl_332 zk_332 zs_332 hi ?_
  refine px_bipush (v := (10 : Int32)) dX12_readPost_28 (by decide) ?_
  refine px_icmp_ge (tgt := 37) dX12_readPost_30 (by decide) ?_
  by_cases hc : (10 : Int32) ≤ (gi 332 (gi 329 45).toNatClampNeg)
  · rw [if_pos hc] at h ⊢
    refine px_iconst (v := (0 : Int32)) dX12_readPost_37 (by decide) ?_
    exact PAt.forget h (lsub_at ⟨rfl, ⟨rfl, trivial⟩⟩)
  · rw [if_neg hc] at h ⊢
    refine px_iconst (v := (1 : Int32)) dX12_readPost_33 (by decide) ?_
    refine px_goto (tgt := 38) dX12_readPost_34 (by decide) ?_
    exact PAt.forget h (lsub_at ⟨rfl, ⟨rfl, trivial⟩⟩)
set_option maxRecDepth 100000 in
theorem v_X12_readPost_38 {x1 : Int32} {s0 : Int32} {gi : Gi} {gl : Gl} {Q : Gi → Gl → Prop}  (h : f_X12_readPost_38 x1 s0 gi gl Q) : p_X12_readPost_38 x1 s0 gi gl Q := by
  unfold f_X12_readPost_38 at h
  show PAt mX12_readPost NN NN κF 38 [some (.ref 329), some (.int x1), none, none] [.int s0, .ref 329] gi gl _
  refine px_callV_L (As := [.int s0]) (st := []) dX12_readPost_38 lk_X12_271.1 lk_X12_271.2 (b := 329) zl_329 zk_329 (by decide) rfl (by decide) rfl (Nat.le_of_ble_eq_true rfl) rfl rfl (Nat.le_of_ble_eq_true rfl) ⟨Nat.le_refl _, Nat.le_refl _, Nat.le_refl _⟩ ?_
  refine PAt.mono h (fun v κ gi1 gl2 hq => ?_)
  obtain ⟨rfl, r3, rfl, h⟩ := hq
  refine px_lstore_n (ls2 := [some (.ref 329), some (.int x1), some (.long r3), none]) (i := 2) rfl dX12_readPost_41 (by decide) rfl ?_
  refine px_aload_n dX12_readPost_42 rfl rfl ?_
  refine gf_X12_196 rfl dX12_readPost_43 zl_329 zk_329 ?_
  refine px_if_eq (tgt := 50) dX12_readPost_46 (by decide) ?_
  by_cases hc : (gi1 329 44) = 0
  · rw [if_pos hc] at h ⊢
    refine px_aload_n dX12_readPost_50 rfl rfl ?_
    refine gf_X12_35 rfl dX12_readPost_51 zl_329 zk_329 rfl zr_329_10 zl_338 ?_
    refine px_iload_n dX12_readPost_54 rfl rfl ?_
    refine px_lload_n dX12_readPost_55 rfl rfl ?_
    obtain ⟨hi, h⟩ := h
    refine px_lastore (n := 20) dX12_readPost_56 zl_338 zk_338 zs_338 hi ?_
    obtain ⟨gl4, hgl4⟩ : ∃ y : Gl, y = uL gl2 338 (vp_updL (gl2 338) x1.toNatClampNeg r3) := ⟨_, rfl⟩
    have h := h gl4 hgl4
    refine px_namegl hgl4 ?_
    refine px_aload_n dX12_readPost_57 rfl rfl ?_
    refine gf_X12_59 rfl dX12_readPost_58 zl_329 zk_329 rfl zr_329_18 zl_346 ?_
    refine px_iload_n dX12_readPost_61 rfl rfl ?_
    refine px_aload_n dX12_readPost_62 rfl rfl ?_
    refine px_iconst (v := (0 : Int32)) dX12_readPost_63 (by decide) ?_
    refine px_bipush (v := (31 : Int32)) dX12_readPost_64 (by decide) ?_
    refine px_callV_I (As := [.int (0 : Int32), .int (31 : Int32)]) (st := [.int x1, .ref 346]) dX12_readPost_66 lk_X12_267.1 lk_X12_267.2 (b := 329) zl_329 zk_329 (by decide) rfl (by decide) rfl (Nat.le_of_ble_eq_true rfl) rfl rfl (Nat.le_of_ble_eq_true rfl) ⟨Nat.le_refl _, Nat.le_refl _, Nat.le_refl _⟩ ?_
    refine PAt.mono h (fun v κ gi5 gl6 hq => ?_)
    obtain ⟨rfl, r7, rfl, h⟩ := hq
    obtain ⟨hi, h⟩ := h
    refine px_iastore (n := 20) dX12_readPost_69 zl_346 zk_346 zs_346 hi ?_
    obtain ⟨gi8, hgi8⟩ : ∃ y : Gi, y = uI gi5 346 (upd (gi5 346) x1.toNatClampNeg r7) := ⟨_, rfl⟩
    have h := h gi8 hgi8
    refine px_namegi hgi8 ?_
    refine px_aload_n dX12_readPost_70 rfl rfl ?_
    refine gf_X12_62 rfl dX12_readPost_71 zl_329 zk_329 rfl zr_329_19 zl_347 ?_
    refine px_iload_n dX12_readPost_74 rfl rfl ?_
    refine px_aload_n dX12_readPost_75 rfl rfl ?_
    refine px_iconst (v := (0 : Int32)) dX12_readPost_76 (by decide) ?_
    refine px_bipush (v := (31 : Int32)) dX12_readPost_77 (by decide) ?_
    refine px_callV_I (As := [.int (0 : Int32), .int (31 : Int32)]) (st := [.int x1, .ref 347]) dX12_readPost_79 lk_X12_267.1 lk_X12_267.2 (b := 329) zl_329 zk_329 (by decide) rfl (by decide) rfl (Nat.le_of_ble_eq_true rfl) rfl rfl (Nat.le_of_ble_eq_true rfl) ⟨Nat.le_refl _, Nat.le_refl _, Nat.le_refl _⟩ ?_
    refine PAt.mono h (fun v κ gi9 gl10 hq => ?_)
    obtain ⟨rfl, r11, rfl, h⟩ := hq
    obtain ⟨hi, h⟩ := h
    refine px_iastore (n := 20) dX12_readPost_82 zl_347 zk_347 zs_347 hi ?_
    obtain ⟨gi12, hgi12⟩ : ∃ y : Gi, y = uI gi9 347 (upd (gi9 347) x1.toNatClampNeg r11) := ⟨_, rfl⟩
    have h := h gi12 hgi12
    refine px_namegi hgi12 ?_
    refine px_aload_n dX12_readPost_83 rfl rfl ?_
    refine gf_X12_65 rfl dX12_readPost_84 zl_329 zk_329 rfl zr_329_20 zl_348 ?_
    refine px_iload_n dX12_readPost_87 rfl rfl ?_
    refine px_aload_n dX12_readPost_88 rfl rfl ?_
    refine px_iconst (v := (1 : Int32)) dX12_readPost_89 (by decide) ?_
    refine px_bipush (v := (20 : Int32)) dX12_readPost_90 (by decide) ?_
    refine px_callV_I (As := [.int (1 : Int32), .int (20 : Int32)]) (st := [.int x1, .ref 348]) dX12_readPost_92 lk_X12_267.1 lk_X12_267.2 (b := 329) zl_329 zk_329 (by decide) rfl (by decide) rfl (Nat.le_of_ble_eq_true rfl) rfl rfl (Nat.le_of_ble_eq_true rfl) ⟨Nat.le_refl _, Nat.le_refl _, Nat.le_refl _⟩ ?_
    refine PAt.mono h (fun v κ gi13 gl14 hq => ?_)
    obtain ⟨rfl, r15, rfl, h⟩ := hq
    obtain ⟨hi, h⟩ := h
    refine px_iastore (n := 20) dX12_readPost_95 zl_348 zk_348 zs_348 hi ?_
    obtain ⟨gi16, hgi16⟩ : ∃ y : Gi, y = uI gi13 348 (upd (gi13 348) x1.toNatClampNeg r15) := ⟨_, rfl⟩
    have h := h gi16 hgi16
    refine px_namegi hgi16 ?_
    refine px_aload_n dX12_readPost_96 rfl rfl ?_
    refine gf_X12_16 rfl dX12_readPost_97 zl_329 zk_329 rfl zr_329_4 zl_332 ?_
    refine px_aload_n dX12_readPost_100 rfl rfl ?_
    refine gf_X12_260 rfl dX12_readPost_101 zl_329 zk_329 ?_
    refine px_dup2 dX12_readPost_104 rfl rfl ?_
    obtain ⟨hi, h⟩ := h
    refine px_iaload (n := 2) dX12_readPost_105 zl_332 zk_332 zs_332 hi ?_
    refine px_iconst (v := (1 : Int32)) dX12_readPost_106 (by decide) ?_
    refine px_iadd dX12_readPost_107 ?_
    obtain ⟨hi, h⟩ := h
    refine px_iastore (n := 2) dX12_readPost_108 zl_332 zk_332 zs_332 hi ?_
    obtain ⟨gi17, hgi17⟩ : ∃ y : Gi, y = uI gi16 332 (upd (gi16 332) (gi16 329 45).toNatClampNeg ((gi16 332 (gi16 329 45).toNatClampNeg) + (1 : Int32))) := ⟨_, rfl⟩
    have h := h gi17 hgi17
    refine px_namegi hgi17 ?_
    exact px_return dX12_readPost_109 rfl rfl ⟨rfl, rfl, h⟩
  · rw [if_neg hc] at h ⊢
    exact px_return dX12_readPost_49 rfl rfl ⟨rfl, rfl, h⟩
abbrev p_X12_readClock_36 (x1 : Int32) (s0 : Int32) (gi : Gi) (gl : Gl) (Q : Gi → Gl → Prop) : Prop := PAt mX12_readClock NN NN κF 36 [some (.ref 329), some (.int x1), none, none] [.int s0, .ref 329] gi gl (RvQ Q)
def f_X12_readClock  (gi : Gi) (gl : Gl) (Q : Gi → Gl → Prop) : Prop :=
vp_in (gi 329 45) 2 ∧
∀ z1 : Int32, z1 = ((4 : Int32) * (gi 329 45)) + (gi 333 (gi 329 45).toNatClampNeg) →
vp_in (gi 329 45) 2 ∧
if (4 : Int32) ≤ (gi 333 (gi 329 45).toNatClampNeg) then
(p_X12_readClock_36 z1 (0 : Int32) gi gl Q)
else
(p_X12_readClock_36 z1 (1 : Int32) gi gl Q)
def f_X12_readClock_36 (x1 : Int32) (s0 : Int32) (gi : Gi) (gl : Gl) (Q : Gi → Gl → Prop) : Prop :=
p_X12_newName s0 gi gl (fun (r3 : Int64) (gi1 : Gi) (gl2 : Gl) =>
if (gi1 329 44) = 0 then
(vp_in x1 8 ∧
∀ gl4 : Gl, gl4 = uL gl2 339 (vp_updL (gl2 339) x1.toNatClampNeg r3) →
p_X12_mustBe (383153 : Int64) gi1 gl4 (fun (gi5 : Gi) (gl6 : Gl) =>
p_X12_numeral (0 : Int32) (99 : Int32) gi5 gl6 (fun (r9 : Int32) (gi7 : Gi) (gl8 : Gl) =>
vp_in x1 8 ∧
∀ gi10 : Gi, gi10 = uI gi7 349 (upd (gi7 349) x1.toNatClampNeg r9) →
p_X12_mustBe (119360 : Int64) gi10 gl8 (fun (gi11 : Gi) (gl12 : Gl) =>
p_X12_numeral (0 : Int32) (99 : Int32) gi11 gl12 (fun (r15 : Int32) (gi13 : Gi) (gl14 : Gl) =>
vp_in x1 8 ∧
∀ gi16 : Gi, gi16 = uI gi13 350 (upd (gi13 350) x1.toNatClampNeg r15) →
vp_in (gi16 329 45) 2 ∧
vp_in (gi16 329 45) 2 ∧
∀ gi17 : Gi, gi17 = uI gi16 333 (upd (gi16 333) (gi16 329 45).toNatClampNeg ((gi16 333 (gi16 329 45).toNatClampNeg) + (1 : Int32))) →
Q gi17 gl14)))))
else
(Q gi1 gl2))
set_option maxRecDepth 100000 in
theorem v_X12_readClock  {gi : Gi} {gl : Gl} {Q : Gi → Gl → Prop}  (h : f_X12_readClock  gi gl Q) : p_X12_readClock  gi gl Q := by
  unfold f_X12_readClock at h
  show PAt mX12_readClock NN NN κF 0 [some (.ref 329), none, none, none] [] gi gl _
  refine px_iconst (v := (4 : Int32)) dX12_readClock_0 (by decide) ?_
  refine px_aload_n dX12_readClock_1 rfl rfl ?_
  refine gf_X12_260 rfl dX12_readClock_2 zl_329 zk_329 ?_
  refine px_imul dX12_readClock_5 ?_
  refine px_aload_n dX12_readClock_6 rfl rfl ?_
  refine gf_X12_19 rfl dX12_readClock_7 zl_329 zk_329 rfl zr_329_5 zl_333 ?_
  refine px_aload_n dX12_readClock_10 rfl rfl ?_
  refine gf_X12_260 rfl dX12_readClock_11 zl_329 zk_329 ?_
  obtain ⟨hi, h⟩ := h
  refine px_iaload (n := 2) dX12_readClock_14 zl_333 zk_333 zs_333 hi ?_
  refine px_iadd dX12_readClock_15 ?_
  obtain ⟨z1, hz1⟩ : ∃ y : Int32, y = ((4 : Int32) * (gi 329 45)) + (gi 333 (gi 329 45).toNatClampNeg) := ⟨_, rfl⟩
  have h := h z1 hz1
  refine px_namei hz1 ?_
  refine px_istore_n (ls2 := [some (.ref 329), some (.int z1), none, none]) (i := 1) rfl dX12_readClock_16 (by decide) rfl ?_
  refine px_aload_n dX12_readClock_17 rfl rfl ?_
  refine px_aload_n dX12_readClock_18 rfl rfl ?_
  refine gf_X12_19 rfl dX12_readClock_19 zl_329 zk_329 rfl zr_329_5 zl_333 ?_
  refine px_aload_n dX12_readClock_22 rfl rfl ?_
  refine gf_X12_260 rfl dX12_readClock_23 zl_329 zk_329 ?_
  obtain ⟨hi, h⟩ := h
  refine px_iaload (n := 2) dX12_readClock_26 zl_333 zk_333 zs_333 hi ?_
  refine px_iconst (v := (4 : Int32)) dX12_readClock_27 (by decide) ?_
  refine px_icmp_ge (tgt := 35) dX12_readClock_28 (by decide) ?_
  by_cases hc : (4 : Int32) ≤ (gi 333 (gi 329 45).toNatClampNeg)
  · rw [if_pos hc] at h ⊢
    refine px_iconst (v := (0 : Int32)) dX12_readClock_35 (by decide) ?_
    exact PAt.forget h (lsub_at ⟨rfl, ⟨rfl, trivial⟩⟩)
  · rw [if_neg hc] at h ⊢
    refine px_iconst (v := (1 : Int32)) dX12_readClock_31 (by decide) ?_
    refine px_goto (tgt := 36) dX12_readClock_32 (by decide) ?_
    exact PAt.forget h (lsub_at ⟨rfl, ⟨rfl, trivial⟩⟩)
set_option maxRecDepth 100000 in
theorem v_X12_readClock_36 {x1 : Int32} {s0 : Int32} {gi : Gi} {gl : Gl} {Q : Gi → Gl → Prop}  (h : f_X12_readClock_36 x1 s0 gi gl Q) : p_X12_readClock_36 x1 s0 gi gl Q := by
  unfold f_X12_readClock_36 at h
  show PAt mX12_readClock NN NN κF 36 [some (.ref 329), some (.int x1), none, none] [.int s0, .ref 329] gi gl _
  refine px_callV_L (As := [.int s0]) (st := []) dX12_readClock_36 lk_X12_271.1 lk_X12_271.2 (b := 329) zl_329 zk_329 (by decide) rfl (by decide) rfl (Nat.le_of_ble_eq_true rfl) rfl rfl (Nat.le_of_ble_eq_true rfl) ⟨Nat.le_refl _, Nat.le_refl _, Nat.le_refl _⟩ ?_
  refine PAt.mono h (fun v κ gi1 gl2 hq => ?_)
  obtain ⟨rfl, r3, rfl, h⟩ := hq
  refine px_lstore_n (ls2 := [some (.ref 329), some (.int x1), some (.long r3), none]) (i := 2) rfl dX12_readClock_39 (by decide) rfl ?_
  refine px_aload_n dX12_readClock_40 rfl rfl ?_
  refine gf_X12_196 rfl dX12_readClock_41 zl_329 zk_329 ?_
  refine px_if_eq (tgt := 48) dX12_readClock_44 (by decide) ?_
  by_cases hc : (gi1 329 44) = 0
  · rw [if_pos hc] at h ⊢
    refine px_aload_n dX12_readClock_48 rfl rfl ?_
    refine gf_X12_38 rfl dX12_readClock_49 zl_329 zk_329 rfl zr_329_11 zl_339 ?_
    refine px_iload_n dX12_readClock_52 rfl rfl ?_
    refine px_lload_n dX12_readClock_53 rfl rfl ?_
    obtain ⟨hi, h⟩ := h
    refine px_lastore (n := 8) dX12_readClock_54 zl_339 zk_339 zs_339 hi ?_
    obtain ⟨gl4, hgl4⟩ : ∃ y : Gl, y = uL gl2 339 (vp_updL (gl2 339) x1.toNatClampNeg r3) := ⟨_, rfl⟩
    have h := h gl4 hgl4
    refine px_namegl hgl4 ?_
    refine px_aload_n dX12_readClock_55 rfl rfl ?_
    refine px_ldc2 (v := (383153 : Int64)) dX12_readClock_56 w_1448 ?_
    refine px_callV_V (As := [.long (383153 : Int64)]) (st := []) dX12_readClock_59 lk_X12_275.1 lk_X12_275.2 (b := 329) zl_329 zk_329 (by decide) rfl (by decide) rfl (Nat.le_of_ble_eq_true rfl) rfl rfl (Nat.le_of_ble_eq_true rfl) ⟨Nat.le_refl _, Nat.le_refl _, Nat.le_refl _⟩ ?_
    refine PAt.mono h (fun v κ gi5 gl6 hq => ?_)
    obtain ⟨rfl, -, h⟩ := hq
    refine px_aload_n dX12_readClock_62 rfl rfl ?_
    refine gf_X12_68 rfl dX12_readClock_63 zl_329 zk_329 rfl zr_329_21 zl_349 ?_
    refine px_iload_n dX12_readClock_66 rfl rfl ?_
    refine px_aload_n dX12_readClock_67 rfl rfl ?_
    refine px_iconst (v := (0 : Int32)) dX12_readClock_68 (by decide) ?_
    refine px_bipush (v := (99 : Int32)) dX12_readClock_69 (by decide) ?_
    refine px_callV_I (As := [.int (0 : Int32), .int (99 : Int32)]) (st := [.int x1, .ref 349]) dX12_readClock_71 lk_X12_267.1 lk_X12_267.2 (b := 329) zl_329 zk_329 (by decide) rfl (by decide) rfl (Nat.le_of_ble_eq_true rfl) rfl rfl (Nat.le_of_ble_eq_true rfl) ⟨Nat.le_refl _, Nat.le_refl _, Nat.le_refl _⟩ ?_
    refine PAt.mono h (fun v κ gi7 gl8 hq => ?_)
    obtain ⟨rfl, r9, rfl, h⟩ := hq
    obtain ⟨hi, h⟩ := h
    refine px_iastore (n := 8) dX12_readClock_74 zl_349 zk_349 zs_349 hi ?_
    obtain ⟨gi10, hgi10⟩ : ∃ y : Gi, y = uI gi7 349 (upd (gi7 349) x1.toNatClampNeg r9) := ⟨_, rfl⟩
    have h := h gi10 hgi10
    refine px_namegi hgi10 ?_
    refine px_aload_n dX12_readClock_75 rfl rfl ?_
    refine px_ldc2 (v := (119360 : Int64)) dX12_readClock_76 w_1449 ?_
    refine px_callV_V (As := [.long (119360 : Int64)]) (st := []) dX12_readClock_79 lk_X12_275.1 lk_X12_275.2 (b := 329) zl_329 zk_329 (by decide) rfl (by decide) rfl (Nat.le_of_ble_eq_true rfl) rfl rfl (Nat.le_of_ble_eq_true rfl) ⟨Nat.le_refl _, Nat.le_refl _, Nat.le_refl _⟩ ?_
    refine PAt.mono h (fun v κ gi11 gl12 hq => ?_)
    obtain ⟨rfl, -, h⟩ := hq
    refine px_aload_n dX12_readClock_82 rfl rfl ?_
    refine gf_X12_71 rfl dX12_readClock_83 zl_329 zk_329 rfl zr_329_22 zl_350 ?_
    refine px_iload_n dX12_readClock_86 rfl rfl ?_
    refine px_aload_n dX12_readClock_87 rfl rfl ?_
    refine px_iconst (v := (0 : Int32)) dX12_readClock_88 (by decide) ?_
    refine px_bipush (v := (99 : Int32)) dX12_readClock_89 (by decide) ?_
    refine px_callV_I (As := [.int (0 : Int32), .int (99 : Int32)]) (st := [.int x1, .ref 350]) dX12_readClock_91 lk_X12_267.1 lk_X12_267.2 (b := 329) zl_329 zk_329 (by decide) rfl (by decide) rfl (Nat.le_of_ble_eq_true rfl) rfl rfl (Nat.le_of_ble_eq_true rfl) ⟨Nat.le_refl _, Nat.le_refl _, Nat.le_refl _⟩ ?_
    refine PAt.mono h (fun v κ gi13 gl14 hq => ?_)
    obtain ⟨rfl, r15, rfl, h⟩ := hq
    obtain ⟨hi, h⟩ := h
    refine px_iastore (n := 8) dX12_readClock_94 zl_350 zk_350 zs_350 hi ?_
    obtain ⟨gi16, hgi16⟩ : ∃ y : Gi, y = uI gi13 350 (upd (gi13 350) x1.toNatClampNeg r15) := ⟨_, rfl⟩
    have h := h gi16 hgi16
    refine px_namegi hgi16 ?_
    refine px_aload_n dX12_readClock_95 rfl rfl ?_
    refine gf_X12_19 rfl dX12_readClock_96 zl_329 zk_329 rfl zr_329_5 zl_333 ?_
    refine px_aload_n dX12_readClock_99 rfl rfl ?_
    refine gf_X12_260 rfl dX12_readClock_100 zl_329 zk_329 ?_
    refine px_dup2 dX12_readClock_103 rfl rfl ?_
    obtain ⟨hi, h⟩ := h
    refine px_iaload (n := 2) dX12_readClock_104 zl_333 zk_333 zs_333 hi ?_
    refine px_iconst (v := (1 : Int32)) dX12_readClock_105 (by decide) ?_
    refine px_iadd dX12_readClock_106 ?_
    obtain ⟨hi, h⟩ := h
    refine px_iastore (n := 2) dX12_readClock_107 zl_333 zk_333 zs_333 hi ?_
    obtain ⟨gi17, hgi17⟩ : ∃ y : Gi, y = uI gi16 333 (upd (gi16 333) (gi16 329 45).toNatClampNeg ((gi16 333 (gi16 329 45).toNatClampNeg) + (1 : Int32))) := ⟨_, rfl⟩
    have h := h gi17 hgi17
    refine px_namegi hgi17 ?_
    exact px_return dX12_readClock_108 rfl rfl ⟨rfl, rfl, h⟩
  · rw [if_neg hc] at h ⊢
    exact px_return dX12_readClock_47 rfl rfl ⟨rfl, rfl, h⟩
abbrev p_X12_falls_26 (x5 : Int32) (gi : Gi) (gl : Gl) (Q : Int32 → Gi → Gl → Prop) : Prop := PAt mX12_falls NN NN κF 26 [some (.ref 329), none, none, none, none, some (.int x5), none] [] gi gl (RiQ Q)
def f_X12_falls (y1 : Int64) (y3 : Int64) (gi : Gi) (gl : Gl) (Q : Int32 → Gi → Gl → Prop) : Prop :=
p_X12_is y1 gi gl (fun (r3 : Int32) (gi1 : Gi) (gl2 : Gl) =>
if ¬ r3 = 0 then
(p_X12_falls_26 r3 gi1 gl2 Q)
else
(p_X12_is y3 gi1 gl2 (fun (r6 : Int32) (gi4 : Gi) (gl5 : Gl) =>
if ¬ r6 = 0 then
(p_X12_falls_26 r3 gi4 gl5 Q)
else
(p_X12_errs  gi4 gl5 (fun (gi7 : Gi) (gl8 : Gl) =>
Q (0 : Int32) gi7 gl8)))))
def f_X12_falls_26 (x5 : Int32) (gi : Gi) (gl : Gl) (Q : Int32 → Gi → Gl → Prop) : Prop :=
p_X12_next  gi gl (fun (gi1 : Gi) (gl2 : Gl) =>
p_X12_numeral (0 : Int32) (99 : Int32) gi1 gl2 (fun (r5 : Int32) (gi3 : Gi) (gl4 : Gl) =>
if x5 = 0 then
(Q (-r5) gi3 gl4)
else
(Q r5 gi3 gl4)))
set_option maxRecDepth 100000 in
theorem v_X12_falls {y1 : Int64} {y3 : Int64} {gi : Gi} {gl : Gl} {Q : Int32 → Gi → Gl → Prop}  (h : f_X12_falls y1 y3 gi gl Q) : p_X12_falls y1 y3 gi gl Q := by
  unfold f_X12_falls at h
  show PAt mX12_falls NN NN κF 0 [some (.ref 329), some (.long y1), none, some (.long y3), none, none, none] [] gi gl _
  refine px_aload_n dX12_falls_0 rfl rfl ?_
  refine px_lload_n dX12_falls_1 rfl rfl ?_
  refine px_callV_I (As := [.long y1]) (st := []) dX12_falls_2 lk_X12_200.1 lk_X12_200.2 (b := 329) zl_329 zk_329 (by decide) rfl (by decide) rfl (Nat.le_of_ble_eq_true rfl) rfl rfl (Nat.le_of_ble_eq_true rfl) ⟨Nat.le_refl _, Nat.le_refl _, Nat.le_refl _⟩ ?_
  refine PAt.mono h (fun v κ gi1 gl2 hq => ?_)
  obtain ⟨rfl, r3, rfl, h⟩ := hq
  refine px_istore (ls2 := [some (.ref 329), some (.long y1), none, some (.long y3), none, some (.int r3), none]) dX12_falls_5 (by decide) rfl ?_
  refine px_iload dX12_falls_7 rfl ?_
  refine px_if_ne (tgt := 26) dX12_falls_9 (by decide) ?_
  by_cases hc : ¬ r3 = 0
  · rw [if_pos hc] at h ⊢
    exact PAt.forget h (lsub_at ⟨rfl, ⟨rfl, trivial⟩⟩)
  · rw [if_neg hc] at h ⊢
    refine px_aload_n dX12_falls_12 rfl rfl ?_
    refine px_lload_n dX12_falls_13 rfl rfl ?_
    refine px_callV_I (As := [.long y3]) (st := []) dX12_falls_14 lk_X12_200.1 lk_X12_200.2 (b := 329) zl_329 zk_329 (by decide) rfl (by decide) rfl (Nat.le_of_ble_eq_true rfl) rfl rfl (Nat.le_of_ble_eq_true rfl) ⟨Nat.le_refl _, Nat.le_refl _, Nat.le_refl _⟩ ?_
    refine PAt.mono h (fun v κ gi4 gl5 hq => ?_)
    obtain ⟨rfl, r6, rfl, h⟩ := hq
    refine px_if_ne (tgt := 26) dX12_falls_17 (by decide) ?_
    by_cases hc : ¬ r6 = 0
    · rw [if_pos hc] at h ⊢
      exact PAt.forget h (lsub_at ⟨rfl, ⟨rfl, trivial⟩⟩)
    · rw [if_neg hc] at h ⊢
      refine px_aload_n dX12_falls_20 rfl rfl ?_
      refine px_callV_V (As := []) (st := []) dX12_falls_21 lk_X12_207.1 lk_X12_207.2 (b := 329) zl_329 zk_329 (by decide) rfl (by decide) rfl (Nat.le_of_ble_eq_true rfl) rfl rfl (Nat.le_of_ble_eq_true rfl) ⟨Nat.le_refl _, Nat.le_refl _, Nat.le_refl _⟩ ?_
      refine PAt.mono h (fun v κ gi7 gl8 hq => ?_)
      obtain ⟨rfl, -, h⟩ := hq
      refine px_iconst (v := (0 : Int32)) dX12_falls_24 (by decide) ?_
      exact px_ireturn dX12_falls_25 rfl ⟨.int, rfl, rfl, rfl⟩ ⟨rfl, _, rfl, h⟩
set_option maxRecDepth 100000 in
theorem v_X12_falls_26 {x5 : Int32} {gi : Gi} {gl : Gl} {Q : Int32 → Gi → Gl → Prop}  (h : f_X12_falls_26 x5 gi gl Q) : p_X12_falls_26 x5 gi gl Q := by
  unfold f_X12_falls_26 at h
  show PAt mX12_falls NN NN κF 26 [some (.ref 329), none, none, none, none, some (.int x5), none] [] gi gl _
  refine px_aload_n dX12_falls_26 rfl rfl ?_
  refine px_callV_V (As := []) (st := []) dX12_falls_27 lk_X12_204.1 lk_X12_204.2 (b := 329) zl_329 zk_329 (by decide) rfl (by decide) rfl (Nat.le_of_ble_eq_true rfl) rfl rfl (Nat.le_of_ble_eq_true rfl) ⟨Nat.le_refl _, Nat.le_refl _, Nat.le_refl _⟩ ?_
  refine PAt.mono h (fun v κ gi1 gl2 hq => ?_)
  obtain ⟨rfl, -, h⟩ := hq
  refine px_aload_n dX12_falls_30 rfl rfl ?_
  refine px_iconst (v := (0 : Int32)) dX12_falls_31 (by decide) ?_
  refine px_bipush (v := (99 : Int32)) dX12_falls_32 (by decide) ?_
  refine px_callV_I (As := [.int (0 : Int32), .int (99 : Int32)]) (st := []) dX12_falls_34 lk_X12_267.1 lk_X12_267.2 (b := 329) zl_329 zk_329 (by decide) rfl (by decide) rfl (Nat.le_of_ble_eq_true rfl) rfl rfl (Nat.le_of_ble_eq_true rfl) ⟨Nat.le_refl _, Nat.le_refl _, Nat.le_refl _⟩ ?_
  refine PAt.mono h (fun v κ gi3 gl4 hq => ?_)
  obtain ⟨rfl, r5, rfl, h⟩ := hq
  refine px_istore (ls2 := [some (.ref 329), none, none, none, none, some (.int x5), some (.int r5)]) dX12_falls_37 (by decide) rfl ?_
  refine px_iload dX12_falls_39 rfl ?_
  refine px_if_eq (tgt := 49) dX12_falls_41 (by decide) ?_
  by_cases hc : x5 = 0
  · rw [if_pos hc] at h ⊢
    refine px_iload dX12_falls_49 rfl ?_
    refine px_ineg dX12_falls_51 ?_
    exact px_ireturn dX12_falls_52 rfl ⟨.int, rfl, rfl, rfl⟩ ⟨rfl, _, rfl, h⟩
  · rw [if_neg hc] at h ⊢
    refine px_iload dX12_falls_44 rfl ?_
    refine px_goto (tgt := 52) dX12_falls_46 (by decide) ?_
    exact px_ireturn dX12_falls_52 rfl ⟨.int, rfl, rfl, rfl⟩ ⟨rfl, _, rfl, h⟩
abbrev p_X12_lastMinute_10 (x1 : Int32) (x2 : Int32) (x3 : Int32) (gi : Gi) (gl : Gl) (Q : Int32 → Gi → Gl → Prop) : Prop := PAt mX12_lastMinute NN NN κF 10 [some (.ref 329), some (.int x1), some (.int x2), some (.int x3)] [] gi gl (RiQ Q)
def f_X12_lastMinute (x1 : Int32) (gi : Gi) (gl : Gl) (Q : Int32 → Gi → Gl → Prop) : Prop :=
∀ z1 : Int32, z1 = (40 : Int32) * (gi 329 45) →
p_X12_lastMinute_10 x1 ((-1) : Int32) z1 gi gl Q
def f_X12_lastMinute_10 (x1 : Int32) (x2 : Int32) (x3 : Int32) (gi : Gi) (gl : Gl) (Q : Int32 → Gi → Gl → Prop) : Prop :=
vp_in (gi 329 45) 2 ∧
if (((40 : Int32) * (gi 329 45)) + (gi 334 (gi 329 45).toNatClampNeg)) ≤ x3 then
(Q x2 gi gl)
else
(vp_in x3 80 ∧
if ¬ (gi 351 x3.toNatClampNeg) = x1 then
(p_X12_lastMinute_10 x1 x2 (x3 + (1 : Int32)) gi gl Q)
else
(vp_in x3 80 ∧
∀ z1 : Int32, z1 = gi 352 x3.toNatClampNeg →
p_X12_lastMinute_10 x1 z1 (x3 + (1 : Int32)) gi gl Q))
set_option maxRecDepth 100000 in
theorem v_X12_lastMinute {x1 : Int32} {gi : Gi} {gl : Gl} {Q : Int32 → Gi → Gl → Prop}  (h : f_X12_lastMinute x1 gi gl Q) : p_X12_lastMinute x1 gi gl Q := by
  unfold f_X12_lastMinute at h
  show PAt mX12_lastMinute NN NN κF 0 [some (.ref 329), some (.int x1), none, none] [] gi gl _
  refine px_iconst (v := ((-1) : Int32)) dX12_lastMinute_0 (by decide) ?_
  refine px_istore_n (ls2 := [some (.ref 329), some (.int x1), some (.int ((-1) : Int32)), none]) (i := 2) rfl dX12_lastMinute_1 (by decide) rfl ?_
  refine px_bipush (v := (40 : Int32)) dX12_lastMinute_2 (by decide) ?_
  refine px_aload_n dX12_lastMinute_4 rfl rfl ?_
  refine gf_X12_260 rfl dX12_lastMinute_5 zl_329 zk_329 ?_
  refine px_imul dX12_lastMinute_8 ?_
  obtain ⟨z1, hz1⟩ : ∃ y : Int32, y = (40 : Int32) * (gi 329 45) := ⟨_, rfl⟩
  have h := h z1 hz1
  refine px_namei hz1 ?_
  refine px_istore_n (ls2 := [some (.ref 329), some (.int x1), some (.int ((-1) : Int32)), some (.int z1)]) (i := 3) rfl dX12_lastMinute_9 (by decide) rfl ?_
  exact PAt.forget h (lsub_at ⟨rfl, ⟨rfl, ⟨rfl, ⟨rfl, trivial⟩⟩⟩⟩)
set_option maxRecDepth 100000 in
theorem v_X12_lastMinute_10 {x1 : Int32} {x2 : Int32} {x3 : Int32} {gi : Gi} {gl : Gl} {Q : Int32 → Gi → Gl → Prop}  (h : f_X12_lastMinute_10 x1 x2 x3 gi gl Q) : p_X12_lastMinute_10 x1 x2 x3 gi gl Q := by
  unfold f_X12_lastMinute_10 at h
  show PAt mX12_lastMinute NN NN κF 10 [some (.ref 329), some (.int x1), some (.int x2), some (.int x3)] [] gi gl _
  refine px_iload_n dX12_lastMinute_10 rfl rfl ?_
  refine px_bipush (v := (40 : Int32)) dX12_lastMinute_11 (by decide) ?_
  refine px_aload_n dX12_lastMinute_13 rfl rfl ?_
  refine gf_X12_260 rfl dX12_lastMinute_14 zl_329 zk_329 ?_
  refine px_imul dX12_lastMinute_17 ?_
  refine px_aload_n dX12_lastMinute_18 rfl rfl ?_
  refine gf_X12_22 rfl dX12_lastMinute_19 zl_329 zk_329 rfl zr_329_6 zl_334 ?_
  refine px_aload_n dX12_lastMinute_22 rfl rfl ?_
  refine gf_X12_260 rfl dX12_lastMinute_23 zl_329 zk_329 ?_
  obtain ⟨hi, h⟩ := h
  refine px_iaload (n := 2) dX12_lastMinute_26 zl_334 zk_334 zs_334 hi ?_
  refine px_iadd dX12_lastMinute_27 ?_
  refine px_icmp_ge (tgt := 54) dX12_lastMinute_28 (by decide) ?_
  by_cases hc : (((40 : Int32) * (gi 329 45)) + (gi 334 (gi 329 45).toNatClampNeg)) ≤ x3
  · rw [if_pos hc] at h ⊢
    refine px_iload_n dX12_lastMinute_54 rfl rfl ?_
    exact px_ireturn dX12_lastMinute_55 rfl ⟨.int, rfl, rfl, rfl⟩ ⟨rfl, _, rfl, h⟩
  · rw [if_neg hc] at h ⊢
    refine px_aload_n dX12_lastMinute_31 rfl rfl ?_
    refine gf_X12_74 rfl dX12_lastMinute_32 zl_329 zk_329 rfl zr_329_23 zl_351 ?_
    refine px_iload_n dX12_lastMinute_35 rfl rfl ?_
    obtain ⟨hi, h⟩ := h
    refine px_iaload (n := 80) dX12_lastMinute_36 zl_351 zk_351 zs_351 hi ?_
    refine px_iload_n dX12_lastMinute_37 rfl rfl ?_
    refine px_icmp_ne (tgt := 48) dX12_lastMinute_38 (by decide) ?_
    by_cases hc : ¬ (gi 351 x3.toNatClampNeg) = x1
    · rw [if_pos hc] at h ⊢
      refine px_iinc (v := x3 + (1 : Int32)) (ls2 := [some (.ref 329), some (.int x1), some (.int x2), some (.int (x3 + (1 : Int32)))]) dX12_lastMinute_48 rfl rfl (by decide) rfl ?_
      refine px_goto (tgt := 10) dX12_lastMinute_51 (by decide) ?_
      exact PAt.forget h (lsub_at ⟨rfl, ⟨rfl, ⟨rfl, ⟨rfl, trivial⟩⟩⟩⟩)
    · rw [if_neg hc] at h ⊢
      refine px_aload_n dX12_lastMinute_41 rfl rfl ?_
      refine gf_X12_77 rfl dX12_lastMinute_42 zl_329 zk_329 rfl zr_329_24 zl_352 ?_
      refine px_iload_n dX12_lastMinute_45 rfl rfl ?_
      obtain ⟨hi, h⟩ := h
      refine px_iaload (n := 80) dX12_lastMinute_46 zl_352 zk_352 zs_352 hi ?_
      obtain ⟨z1, hz1⟩ : ∃ y : Int32, y = gi 352 x3.toNatClampNeg := ⟨_, rfl⟩
      have h := h z1 hz1
      refine px_namei hz1 ?_
      refine px_istore_n (ls2 := [some (.ref 329), some (.int x1), some (.int z1), some (.int x3)]) (i := 2) rfl dX12_lastMinute_47 (by decide) rfl ?_
      refine px_iinc (v := x3 + (1 : Int32)) (ls2 := [some (.ref 329), some (.int x1), some (.int z1), some (.int (x3 + (1 : Int32)))]) dX12_lastMinute_48 rfl rfl (by decide) rfl ?_
      refine px_goto (tgt := 10) dX12_lastMinute_51 (by decide) ?_
      exact PAt.forget h (lsub_at ⟨rfl, ⟨rfl, ⟨rfl, ⟨rfl, trivial⟩⟩⟩⟩)
abbrev p_X12_readSun_36 (x1 : Int32) (gi : Gi) (gl : Gl) (Q : Gi → Gl → Prop) : Prop := PAt mX12_readSun NN NN κF 36 [some (.ref 329), some (.int x1), none, none, none, none] [] gi gl (RvQ Q)
def f_X12_readSun  (gi : Gi) (gl : Gl) (Q : Gi → Gl → Prop) : Prop :=
vp_in (gi 329 45) 2 ∧
∀ z1 : Int32, z1 = ((40 : Int32) * (gi 329 45)) + (gi 334 (gi 329 45).toNatClampNeg) →
vp_in (gi 329 45) 2 ∧
if ¬ (gi 334 (gi 329 45).toNatClampNeg) = (40 : Int32) then
(p_X12_readSun_36 z1 gi gl Q)
else
(p_X12_errs  gi gl (fun (gi2 : Gi) (gl3 : Gl) =>
p_X12_readSun_36 z1 gi2 gl3 Q))
def f_X12_readSun_36 (x1 : Int32) (gi : Gi) (gl : Gl) (Q : Gi → Gl → Prop) : Prop :=
p_X12_numeral (0 : Int32) (11 : Int32) gi gl (fun (r3 : Int32) (gi1 : Gi) (gl2 : Gl) =>
p_X12_lastMinute r3 gi1 gl2 (fun (r6 : Int32) (gi4 : Gi) (gl5 : Gl) =>
p_X12_numeral (r6 + (1 : Int32)) (719 : Int32) gi4 gl5 (fun (r9 : Int32) (gi7 : Gi) (gl8 : Gl) =>
p_X12_falls (99677 : Int64) (456887 : Int64) gi7 gl8 (fun (r12 : Int32) (gi10 : Gi) (gl11 : Gl) =>
p_X12_falls (7749089 : Int64) (10408481 : Int64) gi10 gl11 (fun (r15 : Int32) (gi13 : Gi) (gl14 : Gl) =>
if (gi13 329 44) = 0 then
(vp_in x1 80 ∧
∀ gi16 : Gi, gi16 = uI gi13 351 (upd (gi13 351) x1.toNatClampNeg r3) →
vp_in x1 80 ∧
∀ gi17 : Gi, gi17 = uI gi16 352 (upd (gi16 352) x1.toNatClampNeg r9) →
vp_in x1 80 ∧
∀ gi18 : Gi, gi18 = uI gi17 353 (upd (gi17 353) x1.toNatClampNeg r12) →
vp_in x1 80 ∧
∀ gi19 : Gi, gi19 = uI gi18 354 (upd (gi18 354) x1.toNatClampNeg r15) →
vp_in (gi19 329 45) 2 ∧
vp_in (gi19 329 45) 2 ∧
∀ gi20 : Gi, gi20 = uI gi19 334 (upd (gi19 334) (gi19 329 45).toNatClampNeg ((gi19 334 (gi19 329 45).toNatClampNeg) + (1 : Int32))) →
Q gi20 gl14)
else
(Q gi13 gl14))))))
set_option maxRecDepth 100000 in
theorem v_X12_readSun  {gi : Gi} {gl : Gl} {Q : Gi → Gl → Prop}  (h : f_X12_readSun  gi gl Q) : p_X12_readSun  gi gl Q := by
  unfold f_X12_readSun at h
  show PAt mX12_readSun NN NN κF 0 [some (.ref 329), none, none, none, none, none] [] gi gl _
  refine px_bipush (v := (40 : Int32)) dX12_readSun_0 (by decide) ?_
  refine px_aload_n dX12_readSun_2 rfl rfl ?_
  refine gf_X12_260 rfl dX12_readSun_3 zl_329 zk_329 ?_
  refine px_imul dX12_readSun_6 ?_
  refine px_aload_n dX12_readSun_7 rfl rfl ?_
  refine gf_X12_22 rfl dX12_readSun_8 zl_329 zk_329 rfl zr_329_6 zl_334 ?_
  refine px_aload_n dX12_readSun_11 rfl rfl ?_
  refine gf_X12_260 rfl dX12_readSun_12 zl_329 zk_329 ?_
  obtain ⟨hi, h⟩ := h
  refine px_iaload (n := 2) dX12_readSun_15 zl_334 zk_334 zs_334 hi ?_
  refine px_iadd dX12_readSun_16 ?_
  obtain ⟨z1, hz1⟩ : ∃ y : Int32, y = ((40 : Int32) * (gi 329 45)) + (gi 334 (gi 329 45).toNatClampNeg) := ⟨_, rfl⟩
  have h := h z1 hz1
  refine px_namei hz1 ?_
  refine px_istore_n (ls2 := [some (.ref 329), some (.int z1), none, none, none, none]) (i := 1) rfl dX12_readSun_17 (by decide) rfl ?_
  refine px_aload_n dX12_readSun_18 rfl rfl ?_
  refine gf_X12_22 rfl dX12_readSun_19 zl_329 zk_329 rfl zr_329_6 zl_334 ?_
  refine px_aload_n dX12_readSun_22 rfl rfl ?_
  refine gf_X12_260 rfl dX12_readSun_23 zl_329 zk_329 ?_
  obtain ⟨hi, h⟩ := h
  refine px_iaload (n := 2) dX12_readSun_26 zl_334 zk_334 zs_334 hi ?_
  refine px_bipush (v := (40 : Int32)) dX12_readSun_27 (by decide) ?_
  refine px_icmp_ne (tgt := 36) dX12_readSun_29 (by decide) ?_
  by_cases hc : ¬ (gi 334 (gi 329 45).toNatClampNeg) = (40 : Int32)
  · rw [if_pos hc] at h ⊢
    exact PAt.forget h (lsub_at ⟨rfl, ⟨rfl, trivial⟩⟩)
  · rw [if_neg hc] at h ⊢
    refine px_aload_n dX12_readSun_32 rfl rfl ?_
    refine px_callV_V (As := []) (st := []) dX12_readSun_33 lk_X12_207.1 lk_X12_207.2 (b := 329) zl_329 zk_329 (by decide) rfl (by decide) rfl (Nat.le_of_ble_eq_true rfl) rfl rfl (Nat.le_of_ble_eq_true rfl) ⟨Nat.le_refl _, Nat.le_refl _, Nat.le_refl _⟩ ?_
    refine PAt.mono h (fun v κ gi2 gl3 hq => ?_)
    obtain ⟨rfl, -, h⟩ := hq
    exact PAt.forget h (lsub_at ⟨rfl, ⟨rfl, trivial⟩⟩)
set_option maxRecDepth 100000 in
theorem v_X12_readSun_36 {x1 : Int32} {gi : Gi} {gl : Gl} {Q : Gi → Gl → Prop}  (h : f_X12_readSun_36 x1 gi gl Q) : p_X12_readSun_36 x1 gi gl Q := by
  unfold f_X12_readSun_36 at h
  show PAt mX12_readSun NN NN κF 36 [some (.ref 329), some (.int x1), none, none, none, none] [] gi gl _
  refine px_aload_n dX12_readSun_36 rfl rfl ?_
  refine px_iconst (v := (0 : Int32)) dX12_readSun_37 (by decide) ?_
  refine px_bipush (v := (11 : Int32)) dX12_readSun_38 (by decide) ?_
  refine px_callV_I (As := [.int (0 : Int32), .int (11 : Int32)]) (st := []) dX12_readSun_40 lk_X12_267.1 lk_X12_267.2 (b := 329) zl_329 zk_329 (by decide) rfl (by decide) rfl (Nat.le_of_ble_eq_true rfl) rfl rfl (Nat.le_of_ble_eq_true rfl) ⟨Nat.le_refl _, Nat.le_refl _, Nat.le_refl _⟩ ?_
  refine PAt.mono h (fun v κ gi1 gl2 hq => ?_)
  obtain ⟨rfl, r3, rfl, h⟩ := hq
  refine px_istore_n (ls2 := [some (.ref 329), some (.int x1), some (.int r3), none, none, none]) (i := 2) rfl dX12_readSun_43 (by decide) rfl ?_
  refine px_aload_n dX12_readSun_44 rfl rfl ?_
  refine px_aload_n dX12_readSun_45 rfl rfl ?_
  refine px_iload_n dX12_readSun_46 rfl rfl ?_
  refine px_callV_I (As := [.int r3]) (st := [.ref 329]) dX12_readSun_47 lk_X12_282.1 lk_X12_282.2 (b := 329) zl_329 zk_329 (by decide) rfl (by decide) rfl (Nat.le_of_ble_eq_true rfl) rfl rfl (Nat.le_of_ble_eq_true rfl) ⟨Nat.le_refl _, Nat.le_refl _, Nat.le_refl _⟩ ?_
  refine PAt.mono h (fun v κ gi4 gl5 hq => ?_)
  obtain ⟨rfl, r6, rfl, h⟩ := hq
  refine px_iconst (v := (1 : Int32)) dX12_readSun_50 (by decide) ?_
  refine px_iadd dX12_readSun_51 ?_
  refine px_sipush (v := (719 : Int32)) dX12_readSun_52 (by decide) ?_
  refine px_callV_I (As := [.int (r6 + (1 : Int32)), .int (719 : Int32)]) (st := []) dX12_readSun_55 lk_X12_267.1 lk_X12_267.2 (b := 329) zl_329 zk_329 (by decide) rfl (by decide) rfl (Nat.le_of_ble_eq_true rfl) rfl rfl (Nat.le_of_ble_eq_true rfl) ⟨Nat.le_refl _, Nat.le_refl _, Nat.le_refl _⟩ ?_
  refine PAt.mono h (fun v κ gi7 gl8 hq => ?_)
  obtain ⟨rfl, r9, rfl, h⟩ := hq
  refine px_istore_n (ls2 := [some (.ref 329), some (.int x1), some (.int r3), some (.int r9), none, none]) (i := 3) rfl dX12_readSun_58 (by decide) rfl ?_
  refine px_aload_n dX12_readSun_59 rfl rfl ?_
  refine px_ldc2 (v := (99677 : Int64)) dX12_readSun_60 w_1450 ?_
  refine px_ldc2 (v := (456887 : Int64)) dX12_readSun_63 w_1451 ?_
  refine px_callV_I (As := [.long (99677 : Int64), .long (456887 : Int64)]) (st := []) dX12_readSun_66 lk_X12_286.1 lk_X12_286.2 (b := 329) zl_329 zk_329 (by decide) rfl (by decide) rfl (Nat.le_of_ble_eq_true rfl) rfl rfl (Nat.le_of_ble_eq_true rfl) ⟨Nat.le_refl _, Nat.le_refl _, Nat.le_refl _⟩ ?_
  refine PAt.mono h (fun v κ gi10 gl11 hq => ?_)
  obtain ⟨rfl, r12, rfl, h⟩ := hq
  refine px_istore (ls2 := [some (.ref 329), some (.int x1), some (.int r3), some (.int r9), some (.int r12), none]) dX12_readSun_69 (by decide) rfl ?_
  refine px_aload_n dX12_readSun_71 rfl rfl ?_
  refine px_ldc2 (v := (7749089 : Int64)) dX12_readSun_72 w_1452 ?_
  refine px_ldc2 (v := (10408481 : Int64)) dX12_readSun_75 w_1453 ?_
  refine px_callV_I (As := [.long (7749089 : Int64), .long (10408481 : Int64)]) (st := []) dX12_readSun_78 lk_X12_286.1 lk_X12_286.2 (b := 329) zl_329 zk_329 (by decide) rfl (by decide) rfl (Nat.le_of_ble_eq_true rfl) rfl rfl (Nat.le_of_ble_eq_true rfl) ⟨Nat.le_refl _, Nat.le_refl _, Nat.le_refl _⟩ ?_
  refine PAt.mono h (fun v κ gi13 gl14 hq => ?_)
  obtain ⟨rfl, r15, rfl, h⟩ := hq
  refine px_istore (ls2 := [some (.ref 329), some (.int x1), some (.int r3), some (.int r9), some (.int r12), some (.int r15)]) dX12_readSun_81 (by decide) rfl ?_
  refine px_aload_n dX12_readSun_83 rfl rfl ?_
  refine gf_X12_196 rfl dX12_readSun_84 zl_329 zk_329 ?_
  refine px_if_eq (tgt := 91) dX12_readSun_87 (by decide) ?_
  by_cases hc : (gi13 329 44) = 0
  · rw [if_pos hc] at h ⊢
    refine px_aload_n dX12_readSun_91 rfl rfl ?_
    refine gf_X12_74 rfl dX12_readSun_92 zl_329 zk_329 rfl zr_329_23 zl_351 ?_
    refine px_iload_n dX12_readSun_95 rfl rfl ?_
    refine px_iload_n dX12_readSun_96 rfl rfl ?_
    obtain ⟨hi, h⟩ := h
    refine px_iastore (n := 80) dX12_readSun_97 zl_351 zk_351 zs_351 hi ?_
    obtain ⟨gi16, hgi16⟩ : ∃ y : Gi, y = uI gi13 351 (upd (gi13 351) x1.toNatClampNeg r3) := ⟨_, rfl⟩
    have h := h gi16 hgi16
    refine px_namegi hgi16 ?_
    refine px_aload_n dX12_readSun_98 rfl rfl ?_
    refine gf_X12_77 rfl dX12_readSun_99 zl_329 zk_329 rfl zr_329_24 zl_352 ?_
    refine px_iload_n dX12_readSun_102 rfl rfl ?_
    refine px_iload_n dX12_readSun_103 rfl rfl ?_
    obtain ⟨hi, h⟩ := h
    refine px_iastore (n := 80) dX12_readSun_104 zl_352 zk_352 zs_352 hi ?_
    obtain ⟨gi17, hgi17⟩ : ∃ y : Gi, y = uI gi16 352 (upd (gi16 352) x1.toNatClampNeg r9) := ⟨_, rfl⟩
    have h := h gi17 hgi17
    refine px_namegi hgi17 ?_
    refine px_aload_n dX12_readSun_105 rfl rfl ?_
    refine gf_X12_80 rfl dX12_readSun_106 zl_329 zk_329 rfl zr_329_25 zl_353 ?_
    refine px_iload_n dX12_readSun_109 rfl rfl ?_
    refine px_iload dX12_readSun_110 rfl ?_
    obtain ⟨hi, h⟩ := h
    refine px_iastore (n := 80) dX12_readSun_112 zl_353 zk_353 zs_353 hi ?_
    obtain ⟨gi18, hgi18⟩ : ∃ y : Gi, y = uI gi17 353 (upd (gi17 353) x1.toNatClampNeg r12) := ⟨_, rfl⟩
    have h := h gi18 hgi18
    refine px_namegi hgi18 ?_
    refine px_aload_n dX12_readSun_113 rfl rfl ?_
    refine gf_X12_83 rfl dX12_readSun_114 zl_329 zk_329 rfl zr_329_26 zl_354 ?_
    refine px_iload_n dX12_readSun_117 rfl rfl ?_
    refine px_iload dX12_readSun_118 rfl ?_
    obtain ⟨hi, h⟩ := h
    refine px_iastore (n := 80) dX12_readSun_120 zl_354 zk_354 zs_354 hi ?_
    obtain ⟨gi19, hgi19⟩ : ∃ y : Gi, y = uI gi18 354 (upd (gi18 354) x1.toNatClampNeg r15) := ⟨_, rfl⟩
    have h := h gi19 hgi19
    refine px_namegi hgi19 ?_
    refine px_aload_n dX12_readSun_121 rfl rfl ?_
    refine gf_X12_22 rfl dX12_readSun_122 zl_329 zk_329 rfl zr_329_6 zl_334 ?_
    refine px_aload_n dX12_readSun_125 rfl rfl ?_
    refine gf_X12_260 rfl dX12_readSun_126 zl_329 zk_329 ?_
    refine px_dup2 dX12_readSun_129 rfl rfl ?_
    obtain ⟨hi, h⟩ := h
    refine px_iaload (n := 2) dX12_readSun_130 zl_334 zk_334 zs_334 hi ?_
    refine px_iconst (v := (1 : Int32)) dX12_readSun_131 (by decide) ?_
    refine px_iadd dX12_readSun_132 ?_
    obtain ⟨hi, h⟩ := h
    refine px_iastore (n := 2) dX12_readSun_133 zl_334 zk_334 zs_334 hi ?_
    obtain ⟨gi20, hgi20⟩ : ∃ y : Gi, y = uI gi19 334 (upd (gi19 334) (gi19 329 45).toNatClampNeg ((gi19 334 (gi19 329 45).toNatClampNeg) + (1 : Int32))) := ⟨_, rfl⟩
    have h := h gi20 hgi20
    refine px_namegi hgi20 ?_
    exact px_return dX12_readSun_134 rfl rfl ⟨rfl, rfl, h⟩
  · rw [if_neg hc] at h ⊢
    exact px_return dX12_readSun_90 rfl rfl ⟨rfl, rfl, h⟩
