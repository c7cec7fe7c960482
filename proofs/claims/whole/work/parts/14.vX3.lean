/-! laid by program: X3 -/
def f_X3_together  (gi : Gi) (gl : Gl) (Q : Int64 → Gi → Gl → Prop) : Prop :=
Q (gl 31 5) gi gl
set_option maxRecDepth 100000 in
theorem v_X3_together  {gi : Gi} {gl : Gl} {Q : Int64 → Gi → Gl → Prop}  (h : f_X3_together  gi gl Q) : p_X3_together  gi gl Q := by
  unfold f_X3_together at h
  show PAt mX3_together NN NN κF 0 [some (.ref 31)] [] gi gl _
  refine px_aload_n dX3_together_0 rfl rfl ?_
  refine gf_X3_23 rfl dX3_together_1 zl_31 zk_31 ?_
  exact px_lreturn dX3_together_4 rfl rfl ⟨rfl, _, rfl, h⟩
def f_X3_dayCount  (gi : Gi) (gl : Gl) (Q : Int32 → Gi → Gl → Prop) : Prop :=
Q (gi 31 6) gi gl
set_option maxRecDepth 100000 in
theorem v_X3_dayCount  {gi : Gi} {gl : Gl} {Q : Int32 → Gi → Gl → Prop}  (h : f_X3_dayCount  gi gl Q) : p_X3_dayCount  gi gl Q := by
  unfold f_X3_dayCount at h
  show PAt mX3_dayCount NN NN κF 0 [some (.ref 31)] [] gi gl _
  refine px_aload_n dX3_dayCount_0 rfl rfl ?_
  refine gf_X3_27 rfl dX3_dayCount_1 zl_31 zk_31 ?_
  exact px_ireturn dX3_dayCount_4 rfl ⟨.int, rfl, rfl, rfl⟩ ⟨rfl, _, rfl, h⟩
abbrev p_X3_finds_72 (p : Nat) (x2 : Int32) (x3 : Int32) (x4 : Int32) (s0 : Int32) (s1 : Int32) (gi : Gi) (gl : Gl) (Q : Int32 → Gi → Gl → Prop) : Prop := PAt mX3_finds NN NN κF 72 [some (.ref 31), some (.ref p), some (.int x2), some (.int x3), some (.int x4), none, none, none] [.int s0, .int s1] gi gl (RiQ Q)
abbrev p_X3_finds_103 (p : Nat) (x2 : Int32) (x6 : Int32) (x7 : Int32) (gi : Gi) (gl : Gl) (Q : Int32 → Gi → Gl → Prop) : Prop := PAt mX3_finds NN NN κF 103 [some (.ref 31), none, some (.int x2), none, none, none, some (.int x6), some (.int x7)] [] gi gl (RiQ Q)
def f_X3_finds (p : Nat) (x2 : Int32) (gi : Gi) (gl : Gl) (Q : Int32 → Gi → Gl → Prop) : Prop :=
p_X10_of 2 (0 : Int32) x2 (0 : Int32) gi gl (fun (r3 : Int32) (gi1 : Gi) (gl2 : Gl) =>
p_X10_of 2 (0 : Int32) x2 (1 : Int32) gi1 gl2 (fun (r6 : Int32) (gi4 : Gi) (gl5 : Gl) =>
p_X10_has 2 (0 : Int32) x2 gi4 gl5 (fun (r9 : Int32) (gi7 : Gi) (gl8 : Gl) =>
if r9 = 0 then
(Q (0 : Int32) gi7 gl8)
else
(if 0 < r6 then
(p_X10_of 2 (0 : Int32) x2 (2 : Int32) gi7 gl8 (fun (r12 : Int32) (gi10 : Gi) (gl11 : Gl) =>
if ¬ r12 = ((-1) : Int32) then
(p_X3_finds_72 p x2 r3 r6 r12 (r3 + r6) gi10 gl11 Q)
else
(p_X3_finds_72 p x2 r3 r6 (3599 : Int32) (r3 + r6) gi10 gl11 Q)))
else
(Q (0 : Int32) gi7 gl8)))))
def f_X3_finds_72 (p : Nat) (x2 : Int32) (x3 : Int32) (x4 : Int32) (s0 : Int32) (s1 : Int32) (gi : Gi) (gl : Gl) (Q : Int32 → Gi → Gl → Prop) : Prop :=
∀ z1 : Int32, z1 = jmin s1 s0 →
p_X3_countAhead p x2 gi gl (fun (gi2 : Gi) (gl3 : Gl) =>
∀ gl4 : Gl, gl4 = uL gl3 31 (vp_updL (gl3 31) 5 (0 : Int64)) →
∀ gi5 : Gi, gi5 = uI gi2 31 (upd (gi2 31) 6 (0 : Int32)) →
∀ z6 : Int32, z6 = jmax (x3 - x4) (0 : Int32) →
p_X3_finds_103 p x2 z1 z6 gi5 gl4 Q)
def f_X3_finds_103 (p : Nat) (x2 : Int32) (x6 : Int32) (x7 : Int32) (gi : Gi) (gl : Gl) (Q : Int32 → Gi → Gl → Prop) : Prop :=
if x6 < x7 then
(Q (1 : Int32) gi gl)
else
(p_X3_countFrom x2 x7 gi gl (fun (r3 : Int32) (gi1 : Gi) (gl2 : Gl) =>
∀ gl4 : Gl, gl4 = uL gl2 31 (vp_updL (gl2 31) 5 ((gl 31 5) + r3.toInt64)) →
∀ gi5 : Gi, gi5 = uI gi1 31 (upd (gi1 31) 6 ((gi1 31 6) + (1 : Int32))) →
p_X3_finds_103 p x2 x6 (x7 + (1 : Int32)) gi5 gl4 Q))
set_option maxRecDepth 100000 in
theorem v_X3_finds {p : Nat} {x2 : Int32} {gi : Gi} {gl : Gl} {Q : Int32 → Gi → Gl → Prop} (hpN : p < NN) (hpK : sK p = 5) (h : f_X3_finds p x2 gi gl Q) : p_X3_finds p x2 gi gl Q := by
  unfold f_X3_finds at h
  show PAt mX3_finds NN NN κF 0 [some (.ref 31), some (.ref p), some (.int x2), none, none, none, none, none] [] gi gl _
  refine px_aload_n dX3_finds_0 rfl rfl ?_
  refine gf_X3_15 rfl dX3_finds_1 zl_31 zk_31 rfl zr_31_0 zl_2 ?_
  refine px_iconst (v := (0 : Int32)) dX3_finds_4 (by decide) ?_
  refine px_iload_n dX3_finds_5 rfl rfl ?_
  refine px_iconst (v := (0 : Int32)) dX3_finds_6 (by decide) ?_
  refine px_callV_I (As := [.int (0 : Int32), .int x2, .int (0 : Int32)]) (st := []) dX3_finds_7 lk_X3_31.1 lk_X3_31.2 (b := 2) zl_2 zk_2 (by decide) rfl (by decide) rfl (Nat.le_of_ble_eq_true rfl) rfl rfl (Nat.le_of_ble_eq_true rfl) ⟨Nat.le_refl _, Nat.le_refl _, Nat.le_refl _⟩ ?_
  refine PAt.mono h (fun v κ gi1 gl2 hq => ?_)
  obtain ⟨rfl, r3, rfl, h⟩ := hq
  refine px_istore_n (ls2 := [some (.ref 31), some (.ref p), some (.int x2), some (.int r3), none, none, none, none]) (i := 3) rfl dX3_finds_10 (by decide) rfl ?_
  refine px_aload_n dX3_finds_11 rfl rfl ?_
  refine gf_X3_15 rfl dX3_finds_12 zl_31 zk_31 rfl zr_31_0 zl_2 ?_
  refine px_iconst (v := (0 : Int32)) dX3_finds_15 (by decide) ?_
  refine px_iload_n dX3_finds_16 rfl rfl ?_
  refine px_iconst (v := (1 : Int32)) dX3_finds_17 (by decide) ?_
  refine px_callV_I (As := [.int (0 : Int32), .int x2, .int (1 : Int32)]) (st := []) dX3_finds_18 lk_X3_31.1 lk_X3_31.2 (b := 2) zl_2 zk_2 (by decide) rfl (by decide) rfl (Nat.le_of_ble_eq_true rfl) rfl rfl (Nat.le_of_ble_eq_true rfl) ⟨Nat.le_refl _, Nat.le_refl _, Nat.le_refl _⟩ ?_
  refine PAt.mono h (fun v κ gi4 gl5 hq => ?_)
  obtain ⟨rfl, r6, rfl, h⟩ := hq
  refine px_istore (ls2 := [some (.ref 31), some (.ref p), some (.int x2), some (.int r3), some (.int r6), none, none, none]) dX3_finds_21 (by decide) rfl ?_
  refine px_aload_n dX3_finds_23 rfl rfl ?_
  refine gf_X3_15 rfl dX3_finds_24 zl_31 zk_31 rfl zr_31_0 zl_2 ?_
  refine px_iconst (v := (0 : Int32)) dX3_finds_27 (by decide) ?_
  refine px_iload_n dX3_finds_28 rfl rfl ?_
  refine px_callV_I (As := [.int (0 : Int32), .int x2]) (st := []) dX3_finds_29 lk_X3_37.1 lk_X3_37.2 (b := 2) zl_2 zk_2 (by decide) rfl (by decide) rfl (Nat.le_of_ble_eq_true rfl) rfl rfl (Nat.le_of_ble_eq_true rfl) ⟨Nat.le_refl _, Nat.le_refl _, Nat.le_refl _⟩ ?_
  refine PAt.mono h (fun v κ gi7 gl8 hq => ?_)
  obtain ⟨rfl, r9, rfl, h⟩ := hq
  refine px_if_eq (tgt := 40) dX3_finds_32 (by decide) ?_
  by_cases hc : r9 = 0
  · rw [if_pos hc] at h ⊢
    refine px_iconst (v := (0 : Int32)) dX3_finds_40 (by decide) ?_
    exact px_ireturn dX3_finds_41 rfl ⟨.boolean, rfl, rfl, by decide⟩ ⟨rfl, _, rfl, h⟩
  · rw [if_neg hc] at h ⊢
    refine px_iload dX3_finds_35 rfl ?_
    refine px_if_gt (tgt := 42) dX3_finds_37 (by decide) ?_
    by_cases hc : 0 < r6
    · rw [if_pos hc] at h ⊢
      refine px_aload_n dX3_finds_42 rfl rfl ?_
      refine gf_X3_15 rfl dX3_finds_43 zl_31 zk_31 rfl zr_31_0 zl_2 ?_
      refine px_iconst (v := (0 : Int32)) dX3_finds_46 (by decide) ?_
      refine px_iload_n dX3_finds_47 rfl rfl ?_
      refine px_iconst (v := (2 : Int32)) dX3_finds_48 (by decide) ?_
      refine px_callV_I (As := [.int (0 : Int32), .int x2, .int (2 : Int32)]) (st := []) dX3_finds_49 lk_X3_31.1 lk_X3_31.2 (b := 2) zl_2 zk_2 (by decide) rfl (by decide) rfl (Nat.le_of_ble_eq_true rfl) rfl rfl (Nat.le_of_ble_eq_true rfl) ⟨Nat.le_refl _, Nat.le_refl _, Nat.le_refl _⟩ ?_
      refine PAt.mono h (fun v κ gi10 gl11 hq => ?_)
      obtain ⟨rfl, r12, rfl, h⟩ := hq
      refine px_istore (ls2 := [some (.ref 31), some (.ref p), some (.int x2), some (.int r3), some (.int r6), some (.int r12), none, none]) dX3_finds_52 (by decide) rfl ?_
      refine px_iload_n dX3_finds_54 rfl rfl ?_
      refine px_iload dX3_finds_55 rfl ?_
      refine px_iadd dX3_finds_57 ?_
      refine px_iload dX3_finds_58 rfl ?_
      refine px_iconst (v := ((-1) : Int32)) dX3_finds_60 (by decide) ?_
      refine px_icmp_ne (tgt := 70) dX3_finds_61 (by decide) ?_
      by_cases hc : ¬ r12 = ((-1) : Int32)
      · rw [if_pos hc] at h ⊢
        refine px_iload dX3_finds_70 rfl ?_
        exact PAt.forget h (lsub_at ⟨rfl, ⟨rfl, ⟨rfl, ⟨rfl, ⟨rfl, trivial⟩⟩⟩⟩⟩)
      · rw [if_neg hc] at h ⊢
        refine px_sipush (v := (3599 : Int32)) dX3_finds_64 (by decide) ?_
        refine px_goto (tgt := 72) dX3_finds_67 (by decide) ?_
        exact PAt.forget h (lsub_at ⟨rfl, ⟨rfl, ⟨rfl, ⟨rfl, ⟨rfl, trivial⟩⟩⟩⟩⟩)
    · rw [if_neg hc] at h ⊢
      refine px_iconst (v := (0 : Int32)) dX3_finds_40 (by decide) ?_
      exact px_ireturn dX3_finds_41 rfl ⟨.boolean, rfl, rfl, by decide⟩ ⟨rfl, _, rfl, h⟩
set_option maxRecDepth 100000 in
theorem v_X3_finds_72 {p : Nat} {x2 : Int32} {x3 : Int32} {x4 : Int32} {s0 : Int32} {s1 : Int32} {gi : Gi} {gl : Gl} {Q : Int32 → Gi → Gl → Prop} (hpN : p < NN) (hpK : sK p = 5) (h : f_X3_finds_72 p x2 x3 x4 s0 s1 gi gl Q) : p_X3_finds_72 p x2 x3 x4 s0 s1 gi gl Q := by
  unfold f_X3_finds_72 at h
  show PAt mX3_finds NN NN κF 72 [some (.ref 31), some (.ref p), some (.int x2), some (.int x3), some (.int x4), none, none, none] [.int s0, .int s1] gi gl _
  refine px_mmin dX3_finds_72 w_1073 w_436 w_112 w_437 (by decide) (Nat.le_of_ble_eq_true rfl) ⟨Nat.le_refl _, Nat.le_refl _⟩ ?_
  obtain ⟨z1, hz1⟩ : ∃ y : Int32, y = jmin s1 s0 := ⟨_, rfl⟩
  have h := h z1 hz1
  refine px_namei hz1 ?_
  refine px_istore (ls2 := [some (.ref 31), some (.ref p), some (.int x2), some (.int x3), some (.int x4), none, some (.int z1), none]) dX3_finds_75 (by decide) rfl ?_
  refine px_aload_n dX3_finds_77 rfl rfl ?_
  refine px_aload_n dX3_finds_78 rfl rfl ?_
  refine px_iload_n dX3_finds_79 rfl rfl ?_
  refine px_callV_V (As := [.ref p, .int x2]) (st := []) dX3_finds_80 lk_X3_47.1 lk_X3_47.2 (b := 31) zl_31 zk_31 (by decide) rfl (by decide) rfl (Nat.le_of_ble_eq_true rfl) rfl rfl (Nat.le_of_ble_eq_true rfl) ⟨Nat.le_refl _, Nat.le_refl _, Nat.le_refl _⟩ ?_
  refine PAt.mono h (fun v κ gi2 gl3 hq => ?_)
  obtain ⟨rfl, -, h⟩ := hq
  refine px_aload_n dX3_finds_83 rfl rfl ?_
  refine px_lconst (v := (0 : Int64)) dX3_finds_84 (by decide) ?_
  refine pf_X3_23 rfl dX3_finds_85 zl_31 zk_31 ?_
  obtain ⟨gl4, hgl4⟩ : ∃ y : Gl, y = uL gl3 31 (vp_updL (gl3 31) 5 (0 : Int64)) := ⟨_, rfl⟩
  have h := h gl4 hgl4
  refine px_namegl hgl4 ?_
  refine px_aload_n dX3_finds_88 rfl rfl ?_
  refine px_iconst (v := (0 : Int32)) dX3_finds_89 (by decide) ?_
  refine pf_X3_27 rfl dX3_finds_90 zl_31 zk_31 ?_
  obtain ⟨gi5, hgi5⟩ : ∃ y : Gi, y = uI gi2 31 (upd (gi2 31) 6 (0 : Int32)) := ⟨_, rfl⟩
  have h := h gi5 hgi5
  refine px_namegi hgi5 ?_
  refine px_iload_n dX3_finds_93 rfl rfl ?_
  refine px_iload dX3_finds_94 rfl ?_
  refine px_isub dX3_finds_96 ?_
  refine px_iconst (v := (0 : Int32)) dX3_finds_97 (by decide) ?_
  refine px_mmax dX3_finds_98 w_1089 w_439 w_112 w_440 (by decide) (Nat.le_of_ble_eq_true rfl) ⟨Nat.le_refl _, Nat.le_refl _⟩ ?_
  obtain ⟨z6, hz6⟩ : ∃ y : Int32, y = jmax (x3 - x4) (0 : Int32) := ⟨_, rfl⟩
  have h := h z6 hz6
  refine px_namei hz6 ?_
  refine px_istore (ls2 := [some (.ref 31), some (.ref p), some (.int x2), some (.int x3), some (.int x4), none, some (.int z1), some (.int z6)]) dX3_finds_101 (by decide) rfl ?_
  exact PAt.forget h (lsub_at ⟨rfl, ⟨rfl, ⟨rfl, ⟨rfl, trivial⟩⟩⟩⟩)
set_option maxRecDepth 100000 in
theorem v_X3_finds_103 {p : Nat} {x2 : Int32} {x6 : Int32} {x7 : Int32} {gi : Gi} {gl : Gl} {Q : Int32 → Gi → Gl → Prop} (hpN : p < NN) (hpK : sK p = 5) (h : f_X3_finds_103 p x2 x6 x7 gi gl Q) : p_X3_finds_103 p x2 x6 x7 gi gl Q := by
  unfold f_X3_finds_103 at h
  show PAt mX3_finds NN NN κF 103 [some (.ref 31), none, some (.int x2), none, none, none, some (.int x6), some (.int x7)] [] gi gl _
  refine px_iload dX3_finds_103 rfl ?_
  refine px_iload dX3_finds_105 rfl ?_
  refine px_icmp_gt (tgt := 143) dX3_finds_107 (by decide) ?_
  by_cases hc : x6 < x7
  · rw [if_pos hc] at h ⊢
    refine px_iconst (v := (1 : Int32)) dX3_finds_143 (by decide) ?_
    exact px_ireturn dX3_finds_144 rfl ⟨.boolean, rfl, rfl, by decide⟩ ⟨rfl, _, rfl, h⟩
  · rw [if_neg hc] at h ⊢
    refine px_aload_n dX3_finds_110 rfl rfl ?_
    refine px_dup dX3_finds_111 rfl ?_
    refine gf_X3_23 rfl dX3_finds_112 zl_31 zk_31 ?_
    refine px_aload_n dX3_finds_115 rfl rfl ?_
    refine px_iload_n dX3_finds_116 rfl rfl ?_
    refine px_iload dX3_finds_117 rfl ?_
    refine px_callV_I (As := [.int x2, .int x7]) (st := [.long (gl 31 5), .ref 31]) dX3_finds_119 lk_X3_54.1 lk_X3_54.2 (b := 31) zl_31 zk_31 (by decide) rfl (by decide) rfl (Nat.le_of_ble_eq_true rfl) rfl rfl (Nat.le_of_ble_eq_true rfl) ⟨Nat.le_refl _, Nat.le_refl _, Nat.le_refl _⟩ ?_
    refine PAt.mono h (fun v κ gi1 gl2 hq => ?_)
    obtain ⟨rfl, r3, rfl, h⟩ := hq
    refine px_i2l dX3_finds_122 ?_
    refine px_ladd dX3_finds_123 ?_
    refine pf_X3_23 rfl dX3_finds_124 zl_31 zk_31 ?_
    obtain ⟨gl4, hgl4⟩ : ∃ y : Gl, y = uL gl2 31 (vp_updL (gl2 31) 5 ((gl 31 5) + r3.toInt64)) := ⟨_, rfl⟩
    have h := h gl4 hgl4
    refine px_namegl hgl4 ?_
    refine px_aload_n dX3_finds_127 rfl rfl ?_
    refine px_dup dX3_finds_128 rfl ?_
    refine gf_X3_27 rfl dX3_finds_129 zl_31 zk_31 ?_
    refine px_iconst (v := (1 : Int32)) dX3_finds_132 (by decide) ?_
    refine px_iadd dX3_finds_133 ?_
    refine pf_X3_27 rfl dX3_finds_134 zl_31 zk_31 ?_
    obtain ⟨gi5, hgi5⟩ : ∃ y : Gi, y = uI gi1 31 (upd (gi1 31) 6 ((gi1 31 6) + (1 : Int32))) := ⟨_, rfl⟩
    have h := h gi5 hgi5
    refine px_namegi hgi5 ?_
    refine px_iinc (v := x7 + (1 : Int32)) (ls2 := [some (.ref 31), none, some (.int x2), none, none, none, some (.int x6), some (.int (x7 + (1 : Int32)))]) dX3_finds_137 rfl rfl (by decide) rfl ?_
    refine px_goto (tgt := 103) dX3_finds_140 (by decide) ?_
    exact PAt.forget h (lsub_at ⟨rfl, ⟨rfl, ⟨rfl, ⟨rfl, trivial⟩⟩⟩⟩)
abbrev p_X3_leastOf_10 (p : Nat) (x2 : Int32) (y3 : Int64) (y5 : Int64) (x7 : Int32) (gi : Gi) (gl : Gl) (Q : Int32 → Gi → Gl → Prop) : Prop := PAt mX3_leastOf NN NN κF 10 [some (.ref 31), some (.ref p), some (.int x2), some (.long y3), none, some (.long y5), none, some (.int x7)] [] gi gl (RiQ Q)
def f_X3_leastOf (p : Nat) (gi : Gi) (gl : Gl) (Q : Int32 → Gi → Gl → Prop) : Prop :=
p_X3_leastOf_10 p ((-1) : Int32) (0 : Int64) (1 : Int64) (0 : Int32) gi gl Q
def f_X3_leastOf_10 (p : Nat) (x2 : Int32) (y3 : Int64) (y5 : Int64) (x7 : Int32) (gi : Gi) (gl : Gl) (Q : Int32 → Gi → Gl → Prop) : Prop :=
p_X10_countOf 2 (0 : Int32) gi gl (fun (r3 : Int32) (gi1 : Gi) (gl2 : Gl) =>
if r3 ≤ x7 then
(Q x2 gi1 gl2)
else
(p_X3_isNamed p x7 gi1 gl2 (fun (r6 : Int32) (gi4 : Gi) (gl5 : Gl) =>
if r6 = 0 then
(p_X3_leastOf_10 p x2 y3 y5 (x7 + (1 : Int32)) gi4 gl5 Q)
else
(p_X3_finds p x7 gi4 gl5 (fun (r9 : Int32) (gi7 : Gi) (gl8 : Gl) =>
if ¬ r9 = 0 then
(if x2 = ((-1) : Int32) then
(∀ z10 : Int64, z10 = gl8 31 5 →
∀ z11 : Int64, z11 = (gi7 31 6).toInt64 →
p_X3_leastOf_10 p x7 z10 z11 (x7 + (1 : Int32)) gi7 gl8 Q)
else
(if (y3 * ((gi7 31 6).toInt64)) ≤ ((gl8 31 5) * y5) then
(p_X3_leastOf_10 p x2 y3 y5 (x7 + (1 : Int32)) gi7 gl8 Q)
else
(∀ z12 : Int64, z12 = gl8 31 5 →
∀ z13 : Int64, z13 = (gi7 31 6).toInt64 →
p_X3_leastOf_10 p x7 z12 z13 (x7 + (1 : Int32)) gi7 gl8 Q)))
else
(p_X3_leastOf_10 p x2 y3 y5 (x7 + (1 : Int32)) gi7 gl8 Q))))))
set_option maxRecDepth 100000 in
theorem v_X3_leastOf {p : Nat} {gi : Gi} {gl : Gl} {Q : Int32 → Gi → Gl → Prop} (hpN : p < NN) (hpK : sK p = 5) (h : f_X3_leastOf p gi gl Q) : p_X3_leastOf p gi gl Q := by
  unfold f_X3_leastOf at h
  show PAt mX3_leastOf NN NN κF 0 [some (.ref 31), some (.ref p), none, none, none, none, none, none] [] gi gl _
  refine px_iconst (v := ((-1) : Int32)) dX3_leastOf_0 (by decide) ?_
  refine px_istore_n (ls2 := [some (.ref 31), some (.ref p), some (.int ((-1) : Int32)), none, none, none, none, none]) (i := 2) rfl dX3_leastOf_1 (by decide) rfl ?_
  refine px_lconst (v := (0 : Int64)) dX3_leastOf_2 (by decide) ?_
  refine px_lstore_n (ls2 := [some (.ref 31), some (.ref p), some (.int ((-1) : Int32)), some (.long (0 : Int64)), none, none, none, none]) (i := 3) rfl dX3_leastOf_3 (by decide) rfl ?_
  refine px_lconst (v := (1 : Int64)) dX3_leastOf_4 (by decide) ?_
  refine px_lstore (ls2 := [some (.ref 31), some (.ref p), some (.int ((-1) : Int32)), some (.long (0 : Int64)), none, some (.long (1 : Int64)), none, none]) dX3_leastOf_5 (by decide) rfl ?_
  refine px_iconst (v := (0 : Int32)) dX3_leastOf_7 (by decide) ?_
  refine px_istore (ls2 := [some (.ref 31), some (.ref p), some (.int ((-1) : Int32)), some (.long (0 : Int64)), none, some (.long (1 : Int64)), none, some (.int (0 : Int32))]) dX3_leastOf_8 (by decide) rfl ?_
  exact PAt.forget h (lsub_at ⟨rfl, ⟨rfl, ⟨rfl, ⟨rfl, ⟨rfl, ⟨rfl, trivial⟩⟩⟩⟩⟩⟩)
set_option maxRecDepth 100000 in
theorem v_X3_leastOf_10 {p : Nat} {x2 : Int32} {y3 : Int64} {y5 : Int64} {x7 : Int32} {gi : Gi} {gl : Gl} {Q : Int32 → Gi → Gl → Prop} (hpN : p < NN) (hpK : sK p = 5) (h : f_X3_leastOf_10 p x2 y3 y5 x7 gi gl Q) : p_X3_leastOf_10 p x2 y3 y5 x7 gi gl Q := by
  unfold f_X3_leastOf_10 at h
  show PAt mX3_leastOf NN NN κF 10 [some (.ref 31), some (.ref p), some (.int x2), some (.long y3), none, some (.long y5), none, some (.int x7)] [] gi gl _
  refine px_iload dX3_leastOf_10 rfl ?_
  refine px_aload_n dX3_leastOf_12 rfl rfl ?_
  refine gf_X3_15 rfl dX3_leastOf_13 zl_31 zk_31 rfl zr_31_0 zl_2 ?_
  refine px_iconst (v := (0 : Int32)) dX3_leastOf_16 (by decide) ?_
  refine px_callV_I (As := [.int (0 : Int32)]) (st := [.int x7]) dX3_leastOf_17 lk_X3_57.1 lk_X3_57.2 (b := 2) zl_2 zk_2 (by decide) rfl (by decide) rfl (Nat.le_of_ble_eq_true rfl) rfl rfl (Nat.le_of_ble_eq_true rfl) ⟨Nat.le_refl _, Nat.le_refl _, Nat.le_refl _⟩ ?_
  refine PAt.mono h (fun v κ gi1 gl2 hq => ?_)
  obtain ⟨rfl, r3, rfl, h⟩ := hq
  refine px_icmp_ge (tgt := 89) dX3_leastOf_20 (by decide) ?_
  by_cases hc : r3 ≤ x7
  · rw [if_pos hc] at h ⊢
    refine px_iload_n dX3_leastOf_89 rfl rfl ?_
    exact px_ireturn dX3_leastOf_90 rfl ⟨.int, rfl, rfl, rfl⟩ ⟨rfl, _, rfl, h⟩
  · rw [if_neg hc] at h ⊢
    refine px_aload_n dX3_leastOf_23 rfl rfl ?_
    refine px_iload dX3_leastOf_24 rfl ?_
    refine px_callS_I (As := [.ref p, .int x7]) (st := []) dX3_leastOf_26 lk_X3_61.1 lk_X3_61.2 (by decide) rfl (Nat.le_of_ble_eq_true rfl) rfl rfl (Nat.le_of_ble_eq_true rfl) ⟨Nat.le_refl _, Nat.le_refl _, Nat.le_refl _⟩ ?_
    refine PAt.mono h (fun v κ gi4 gl5 hq => ?_)
    obtain ⟨rfl, r6, rfl, h⟩ := hq
    refine px_if_eq (tgt := 83) dX3_leastOf_29 (by decide) ?_
    by_cases hc : r6 = 0
    · rw [if_pos hc] at h ⊢
      refine px_iinc (v := x7 + (1 : Int32)) (ls2 := [some (.ref 31), some (.ref p), some (.int x2), some (.long y3), none, some (.long y5), none, some (.int (x7 + (1 : Int32)))]) dX3_leastOf_83 rfl rfl (by decide) rfl ?_
      refine px_goto (tgt := 10) dX3_leastOf_86 (by decide) ?_
      exact PAt.forget h (lsub_at ⟨rfl, ⟨rfl, ⟨rfl, ⟨rfl, ⟨rfl, ⟨rfl, trivial⟩⟩⟩⟩⟩⟩)
    · rw [if_neg hc] at h ⊢
      refine px_aload_n dX3_leastOf_32 rfl rfl ?_
      refine px_aload_n dX3_leastOf_33 rfl rfl ?_
      refine px_iload dX3_leastOf_34 rfl ?_
      refine px_callV_I (As := [.ref p, .int x7]) (st := []) dX3_leastOf_36 lk_X3_65.1 lk_X3_65.2 (b := 31) zl_31 zk_31 (by decide) rfl (by decide) rfl (Nat.le_of_ble_eq_true rfl) rfl rfl (Nat.le_of_ble_eq_true rfl) ⟨Nat.le_refl _, Nat.le_refl _, Nat.le_refl _⟩ ?_
      refine PAt.mono h (fun v κ gi7 gl8 hq => ?_)
      obtain ⟨rfl, r9, rfl, h⟩ := hq
      refine px_if_ne (tgt := 45) dX3_leastOf_39 (by decide) ?_
      by_cases hc : ¬ r9 = 0
      · rw [if_pos hc] at h ⊢
        refine px_iload_n dX3_leastOf_45 rfl rfl ?_
        refine px_iconst (v := ((-1) : Int32)) dX3_leastOf_46 (by decide) ?_
        refine px_icmp_eq (tgt := 68) dX3_leastOf_47 (by decide) ?_
        by_cases hc : x2 = ((-1) : Int32)
        · rw [if_pos hc] at h ⊢
          refine px_iload dX3_leastOf_68 rfl ?_
          refine px_istore_n (ls2 := [some (.ref 31), some (.ref p), some (.int x7), some (.long y3), none, some (.long y5), none, some (.int x7)]) (i := 2) rfl dX3_leastOf_70 (by decide) rfl ?_
          refine px_aload_n dX3_leastOf_71 rfl rfl ?_
          refine gf_X3_23 rfl dX3_leastOf_72 zl_31 zk_31 ?_
          obtain ⟨z10, hz10⟩ : ∃ y : Int64, y = gl8 31 5 := ⟨_, rfl⟩
          have h := h z10 hz10
          refine px_namel hz10 ?_
          refine px_lstore_n (ls2 := [some (.ref 31), some (.ref p), some (.int x7), some (.long z10), none, some (.long y5), none, some (.int x7)]) (i := 3) rfl dX3_leastOf_75 (by decide) rfl ?_
          refine px_aload_n dX3_leastOf_76 rfl rfl ?_
          refine gf_X3_27 rfl dX3_leastOf_77 zl_31 zk_31 ?_
          refine px_i2l dX3_leastOf_80 ?_
          obtain ⟨z11, hz11⟩ : ∃ y : Int64, y = (gi7 31 6).toInt64 := ⟨_, rfl⟩
          have h := h z11 hz11
          refine px_namel hz11 ?_
          refine px_lstore (ls2 := [some (.ref 31), some (.ref p), some (.int x7), some (.long z10), none, some (.long z11), none, some (.int x7)]) dX3_leastOf_81 (by decide) rfl ?_
          refine px_iinc (v := x7 + (1 : Int32)) (ls2 := [some (.ref 31), some (.ref p), some (.int x7), some (.long z10), none, some (.long z11), none, some (.int (x7 + (1 : Int32)))]) dX3_leastOf_83 rfl rfl (by decide) rfl ?_
          refine px_goto (tgt := 10) dX3_leastOf_86 (by decide) ?_
          exact PAt.forget h (lsub_at ⟨rfl, ⟨rfl, ⟨rfl, ⟨rfl, ⟨rfl, ⟨rfl, trivial⟩⟩⟩⟩⟩⟩)
        · rw [if_neg hc] at h ⊢
          refine px_aload_n dX3_leastOf_50 rfl rfl ?_
          refine gf_X3_23 rfl dX3_leastOf_51 zl_31 zk_31 ?_
          refine px_lload dX3_leastOf_54 rfl ?_
          refine px_lmul dX3_leastOf_56 ?_
          refine px_lload_n dX3_leastOf_57 rfl rfl ?_
          refine px_aload_n dX3_leastOf_58 rfl rfl ?_
          refine gf_X3_27 rfl dX3_leastOf_59 zl_31 zk_31 ?_
          refine px_i2l dX3_leastOf_62 ?_
          refine px_lmul dX3_leastOf_63 ?_
          refine px_lc_ge (tgt := 83) dX3_leastOf_64 dX3_leastOf_65 (by decide) ?_
          by_cases hc : (y3 * ((gi7 31 6).toInt64)) ≤ ((gl8 31 5) * y5)
          · rw [if_pos hc] at h ⊢
            refine px_iinc (v := x7 + (1 : Int32)) (ls2 := [some (.ref 31), some (.ref p), some (.int x2), some (.long y3), none, some (.long y5), none, some (.int (x7 + (1 : Int32)))]) dX3_leastOf_83 rfl rfl (by decide) rfl ?_
            refine px_goto (tgt := 10) dX3_leastOf_86 (by decide) ?_
            exact PAt.forget h (lsub_at ⟨rfl, ⟨rfl, ⟨rfl, ⟨rfl, ⟨rfl, ⟨rfl, trivial⟩⟩⟩⟩⟩⟩)
          · rw [if_neg hc] at h ⊢
            refine px_iload dX3_leastOf_68 rfl ?_
            refine px_istore_n (ls2 := [some (.ref 31), some (.ref p), some (.int x7), some (.long y3), none, some (.long y5), none, some (.int x7)]) (i := 2) rfl dX3_leastOf_70 (by decide) rfl ?_
            refine px_aload_n dX3_leastOf_71 rfl rfl ?_
            refine gf_X3_23 rfl dX3_leastOf_72 zl_31 zk_31 ?_
            obtain ⟨z12, hz12⟩ : ∃ y : Int64, y = gl8 31 5 := ⟨_, rfl⟩
            have h := h z12 hz12
            refine px_namel hz12 ?_
            refine px_lstore_n (ls2 := [some (.ref 31), some (.ref p), some (.int x7), some (.long z12), none, some (.long y5), none, some (.int x7)]) (i := 3) rfl dX3_leastOf_75 (by decide) rfl ?_
            refine px_aload_n dX3_leastOf_76 rfl rfl ?_
            refine gf_X3_27 rfl dX3_leastOf_77 zl_31 zk_31 ?_
            refine px_i2l dX3_leastOf_80 ?_
            obtain ⟨z13, hz13⟩ : ∃ y : Int64, y = (gi7 31 6).toInt64 := ⟨_, rfl⟩
            have h := h z13 hz13
            refine px_namel hz13 ?_
            refine px_lstore (ls2 := [some (.ref 31), some (.ref p), some (.int x7), some (.long z12), none, some (.long z13), none, some (.int x7)]) dX3_leastOf_81 (by decide) rfl ?_
            refine px_iinc (v := x7 + (1 : Int32)) (ls2 := [some (.ref 31), some (.ref p), some (.int x7), some (.long z12), none, some (.long z13), none, some (.int (x7 + (1 : Int32)))]) dX3_leastOf_83 rfl rfl (by decide) rfl ?_
            refine px_goto (tgt := 10) dX3_leastOf_86 (by decide) ?_
            exact PAt.forget h (lsub_at ⟨rfl, ⟨rfl, ⟨rfl, ⟨rfl, ⟨rfl, ⟨rfl, trivial⟩⟩⟩⟩⟩⟩)
      · rw [if_neg hc] at h ⊢
        refine px_goto (tgt := 83) dX3_leastOf_42 (by decide) ?_
        refine px_iinc (v := x7 + (1 : Int32)) (ls2 := [some (.ref 31), some (.ref p), some (.int x2), some (.long y3), none, some (.long y5), none, some (.int (x7 + (1 : Int32)))]) dX3_leastOf_83 rfl rfl (by decide) rfl ?_
        refine px_goto (tgt := 10) dX3_leastOf_86 (by decide) ?_
        exact PAt.forget h (lsub_at ⟨rfl, ⟨rfl, ⟨rfl, ⟨rfl, ⟨rfl, ⟨rfl, trivial⟩⟩⟩⟩⟩⟩)
abbrev p_X3_isNamed_2 (p : Nat) (x1 : Int32) (x2 : Int32) (gi : Gi) (gl : Gl) (Q : Int32 → Gi → Gl → Prop) : Prop := PAt mX3_isNamed NN NN κF 2 [some (.ref p), some (.int x1), some (.int x2)] [] gi gl (RiQ Q)
def f_X3_isNamed (p : Nat) (x1 : Int32) (gi : Gi) (gl : Gl) (Q : Int32 → Gi → Gl → Prop) : Prop :=
p_X3_isNamed_2 p x1 (0 : Int32) gi gl Q
def f_X3_isNamed_2 (p : Nat) (x1 : Int32) (x2 : Int32) (gi : Gi) (gl : Gl) (Q : Int32 → Gi → Gl → Prop) : Prop :=
p_X5_size p gi gl (fun (r3 : Int32) (gi1 : Gi) (gl2 : Gl) =>
if r3 ≤ x2 then
(Q (0 : Int32) gi1 gl2)
else
(p_X5_names p x2 x1 gi1 gl2 (fun (r6 : Int32) (gi4 : Gi) (gl5 : Gl) =>
if r6 = 0 then
(p_X3_isNamed_2 p x1 (x2 + (1 : Int32)) gi4 gl5 Q)
else
(Q (1 : Int32) gi4 gl5))))
set_option maxRecDepth 100000 in
theorem v_X3_isNamed {p : Nat} {x1 : Int32} {gi : Gi} {gl : Gl} {Q : Int32 → Gi → Gl → Prop} (hpN : p < NN) (hpK : sK p = 5) (h : f_X3_isNamed p x1 gi gl Q) : p_X3_isNamed p x1 gi gl Q := by
  unfold f_X3_isNamed at h
  show PAt mX3_isNamed NN NN κF 0 [some (.ref p), some (.int x1), none] [] gi gl _
  refine px_iconst (v := (0 : Int32)) dX3_isNamed_0 (by decide) ?_
  refine px_istore_n (ls2 := [some (.ref p), some (.int x1), some (.int (0 : Int32))]) (i := 2) rfl dX3_isNamed_1 (by decide) rfl ?_
  exact PAt.forget h (lsub_at ⟨rfl, ⟨rfl, ⟨rfl, trivial⟩⟩⟩)
set_option maxRecDepth 100000 in
theorem v_X3_isNamed_2 {p : Nat} {x1 : Int32} {x2 : Int32} {gi : Gi} {gl : Gl} {Q : Int32 → Gi → Gl → Prop} (hpN : p < NN) (hpK : sK p = 5) (h : f_X3_isNamed_2 p x1 x2 gi gl Q) : p_X3_isNamed_2 p x1 x2 gi gl Q := by
  unfold f_X3_isNamed_2 at h
  show PAt mX3_isNamed NN NN κF 2 [some (.ref p), some (.int x1), some (.int x2)] [] gi gl _
  refine px_iload_n dX3_isNamed_2 rfl rfl ?_
  refine px_aload_n dX3_isNamed_3 rfl rfl ?_
  refine px_callV_I (As := []) (st := [.int x2]) dX3_isNamed_4 lk_X3_68.1 lk_X3_68.2 (b := p) hpN hpK (by decide) rfl (by decide) rfl (Nat.le_of_ble_eq_true rfl) rfl rfl (Nat.le_of_ble_eq_true rfl) ⟨Nat.le_refl _, Nat.le_refl _, Nat.le_refl _⟩ ?_
  refine PAt.mono h (fun v κ gi1 gl2 hq => ?_)
  obtain ⟨rfl, r3, rfl, h⟩ := hq
  refine px_icmp_ge (tgt := 27) dX3_isNamed_7 (by decide) ?_
  by_cases hc : r3 ≤ x2
  · rw [if_pos hc] at h ⊢
    refine px_iconst (v := (0 : Int32)) dX3_isNamed_27 (by decide) ?_
    exact px_ireturn dX3_isNamed_28 rfl ⟨.boolean, rfl, rfl, by decide⟩ ⟨rfl, _, rfl, h⟩
  · rw [if_neg hc] at h ⊢
    refine px_aload_n dX3_isNamed_10 rfl rfl ?_
    refine px_iload_n dX3_isNamed_11 rfl rfl ?_
    refine px_iload_n dX3_isNamed_12 rfl rfl ?_
    refine px_callV_I (As := [.int x2, .int x1]) (st := []) dX3_isNamed_13 lk_X3_74.1 lk_X3_74.2 (b := p) hpN hpK (by decide) rfl (by decide) rfl (Nat.le_of_ble_eq_true rfl) rfl rfl (Nat.le_of_ble_eq_true rfl) ⟨Nat.le_refl _, Nat.le_refl _, Nat.le_refl _⟩ ?_
    refine PAt.mono h (fun v κ gi4 gl5 hq => ?_)
    obtain ⟨rfl, r6, rfl, h⟩ := hq
    refine px_if_eq (tgt := 21) dX3_isNamed_16 (by decide) ?_
    by_cases hc : r6 = 0
    · rw [if_pos hc] at h ⊢
      refine px_iinc (v := x2 + (1 : Int32)) (ls2 := [some (.ref p), some (.int x1), some (.int (x2 + (1 : Int32)))]) dX3_isNamed_21 rfl rfl (by decide) rfl ?_
      refine px_goto (tgt := 2) dX3_isNamed_24 (by decide) ?_
      exact PAt.forget h (lsub_at ⟨rfl, ⟨rfl, ⟨rfl, trivial⟩⟩⟩)
    · rw [if_neg hc] at h ⊢
      refine px_iconst (v := (1 : Int32)) dX3_isNamed_19 (by decide) ?_
      exact px_ireturn dX3_isNamed_20 rfl ⟨.boolean, rfl, rfl, by decide⟩ ⟨rfl, _, rfl, h⟩
abbrev p_X3_countAhead_12 (p : Nat) (x2 : Int32) (x3 : Int32) (gi : Gi) (gl : Gl) (Q : Gi → Gl → Prop) : Prop := PAt mX3_countAhead NN NN κF 12 [some (.ref 31), some (.ref p), some (.int x2), some (.int x3), none, none, none, none] [] gi gl (RvQ Q)
abbrev p_X3_countAhead_51 (p : Nat) (x2 : Int32) (x3 : Int32) (s0 : Int32) (gi : Gi) (gl : Gl) (Q : Gi → Gl → Prop) : Prop := PAt mX3_countAhead NN NN κF 51 [some (.ref 31), some (.ref p), some (.int x2), some (.int x3), none, none, none, none] [.int s0, .ref 31] gi gl (RvQ Q)
abbrev p_X3_countAhead_91 (p : Nat) (x2 : Int32) (x3 : Int32) (x4 : Int32) (gi : Gi) (gl : Gl) (Q : Gi → Gl → Prop) : Prop := PAt mX3_countAhead NN NN κF 91 [some (.ref 31), some (.ref p), some (.int x2), some (.int x3), some (.int x4), none, none, none] [] gi gl (RvQ Q)
abbrev p_X3_countAhead_105 (p : Nat) (x2 : Int32) (x3 : Int32) (x4 : Int32) (x5 : Int32) (x6 : Int32) (gi : Gi) (gl : Gl) (Q : Gi → Gl → Prop) : Prop := PAt mX3_countAhead NN NN κF 105 [some (.ref 31), some (.ref p), some (.int x2), some (.int x3), some (.int x4), some (.int x5), some (.int x6), none] [] gi gl (RvQ Q)
abbrev p_X3_countAhead_175 (p : Nat) (x2 : Int32) (x3 : Int32) (x4 : Int32) (x5 : Int32) (x6 : Int32) (x7 : Int32) (gi : Gi) (gl : Gl) (Q : Gi → Gl → Prop) : Prop := PAt mX3_countAhead NN NN κF 175 [some (.ref 31), some (.ref p), some (.int x2), some (.int x3), some (.int x4), some (.int x5), some (.int x6), some (.int x7)] [] gi gl (RvQ Q)
def f_X3_countAhead (p : Nat) (x2 : Int32) (gi : Gi) (gl : Gl) (Q : Gi → Gl → Prop) : Prop :=
∀ gi1 : Gi, gi1 = uI gi 31 (upd (gi 31) 3 (0 : Int32)) →
∀ gi2 : Gi, gi2 = uI gi1 31 (upd (gi1 31) 4 (0 : Int32)) →
p_X3_countAhead_12 p x2 (0 : Int32) gi2 gl Q
def f_X3_countAhead_12 (p : Nat) (x2 : Int32) (x3 : Int32) (gi : Gi) (gl : Gl) (Q : Gi → Gl → Prop) : Prop :=
p_X5_size p gi gl (fun (r3 : Int32) (gi1 : Gi) (gl2 : Gl) =>
if r3 ≤ x3 then
(p_X3_countAhead_91 p x2 (0 : Int32) (0 : Int32) gi1 gl2 Q)
else
(p_X5_names p x3 x2 gi1 gl2 (fun (r6 : Int32) (gi4 : Gi) (gl5 : Gl) =>
if r6 = 0 then
(p_X3_countAhead_12 p x2 (x3 + (1 : Int32)) gi4 gl5 Q)
else
(if ¬ (gi4 31 3) = 0 then
(p_X3_countAhead_51 p x2 x3 (1 : Int32) gi4 gl5 Q)
else
(p_X5_tells p x3 (0 : Int32) gi4 gl5 (fun (r9 : Int32) (gi7 : Gi) (gl8 : Gl) =>
if ¬ r9 = 0 then
(p_X3_countAhead_51 p x2 x3 (0 : Int32) gi7 gl8 Q)
else
(p_X3_countAhead_51 p x2 x3 (1 : Int32) gi7 gl8 Q)))))))
def f_X3_countAhead_91 (p : Nat) (x2 : Int32) (x3 : Int32) (x4 : Int32) (gi : Gi) (gl : Gl) (Q : Gi → Gl → Prop) : Prop :=
if (120 : Int32) ≤ x4 then
(∀ gi1 : Gi, gi1 = uI gi 32 (upd (gi 32) (3600 : Int32).toNatClampNeg x3) →
Q gi1 gl)
else
(p_X3_countAhead_105 p x2 x3 x4 (1073741823 : Int32) (0 : Int32) gi gl Q)
def f_X3_countAhead_51 (p : Nat) (x2 : Int32) (x3 : Int32) (s0 : Int32) (gi : Gi) (gl : Gl) (Q : Gi → Gl → Prop) : Prop :=
(s0 = 0 ∨ s0 = 1) ∧
∀ gi1 : Gi, gi1 = uI gi 31 (upd (gi 31) 3 s0) →
if ¬ (gi1 31 4) = 0 then
(∀ gi2 : Gi, gi2 = uI gi1 31 (upd (gi1 31) 4 (1 : Int32)) →
p_X3_countAhead_12 p x2 (x3 + (1 : Int32)) gi2 gl Q)
else
(p_X5_tells p x3 (0 : Int32) gi1 gl (fun (r5 : Int32) (gi3 : Gi) (gl4 : Gl) =>
if ¬ r5 = (1 : Int32) then
(∀ gi6 : Gi, gi6 = uI gi3 31 (upd (gi3 31) 4 (0 : Int32)) →
p_X3_countAhead_12 p x2 (x3 + (1 : Int32)) gi6 gl4 Q)
else
(∀ gi7 : Gi, gi7 = uI gi3 31 (upd (gi3 31) 4 (1 : Int32)) →
p_X3_countAhead_12 p x2 (x3 + (1 : Int32)) gi7 gl4 Q)))
def f_X3_countAhead_105 (p : Nat) (x2 : Int32) (x3 : Int32) (x4 : Int32) (x5 : Int32) (x6 : Int32) (gi : Gi) (gl : Gl) (Q : Gi → Gl → Prop) : Prop :=
p_X5_size p gi gl (fun (r3 : Int32) (gi1 : Gi) (gl2 : Gl) =>
if r3 ≤ x6 then
(p_X5_moments p gi1 gl2 (fun (o10 : Option Nat) (gi4 : Gi) (gl5 : Gl) =>
(o10 = none →
False) ∧
(∀ b6 : Nat, o10 = some b6 → b6 < NN → sK b6 = 4 →
p_X4_minutesIn b6 (jr x4 (12 : Int32)) gi4 gl5 (fun (r9 : Int32) (gi7 : Gi) (gl8 : Gl) =>
p_X3_countAhead_175 p x2 x3 x4 x5 r9 (0 : Int32) gi7 gl8 Q))))
else
(if x5 = 0 then
(p_X5_moments p gi1 gl2 (fun (o17 : Option Nat) (gi11 : Gi) (gl12 : Gl) =>
(o17 = none →
False) ∧
(∀ b13 : Nat, o17 = some b13 → b13 < NN → sK b13 = 4 →
p_X4_minutesIn b13 (jr x4 (12 : Int32)) gi11 gl12 (fun (r16 : Int32) (gi14 : Gi) (gl15 : Gl) =>
p_X3_countAhead_175 p x2 x3 x4 x5 r16 (0 : Int32) gi14 gl15 Q))))
else
(p_X5_names p x6 x2 gi1 gl2 (fun (r20 : Int32) (gi18 : Gi) (gl19 : Gl) =>
if r20 = 0 then
(p_X2_daysLet p x6 x4 (0 : Int32) gi18 gl19 (fun (r23 : Int32) (gi21 : Gi) (gl22 : Gl) =>
∀ z24 : Int32, z24 = x5 &&& r23 →
p_X3_countAhead_105 p x2 x3 x4 z24 (x6 + (1 : Int32)) gi21 gl22 Q))
else
(∀ z25 : Int32, z25 = x5 &&& (1073741823 : Int32) →
p_X3_countAhead_105 p x2 x3 x4 z25 (x6 + (1 : Int32)) gi18 gl19 Q)))))
def f_X3_countAhead_175 (p : Nat) (x2 : Int32) (x3 : Int32) (x4 : Int32) (x5 : Int32) (x6 : Int32) (x7 : Int32) (gi : Gi) (gl : Gl) (Q : Gi → Gl → Prop) : Prop :=
if (30 : Int32) ≤ x7 then
(p_X3_countAhead_91 p x2 x3 (x4 + (1 : Int32)) gi gl Q)
else
(vp_in ((x4 * (30 : Int32)) + x7) 3601 ∧
∀ gi1 : Gi, gi1 = uI gi 32 (upd (gi 32) ((x4 * (30 : Int32)) + x7).toNatClampNeg x3) →
∀ z2 : Int32, z2 = x3 + (((ja x5 x7) &&& (1 : Int32)) * x6) →
p_X3_countAhead_175 p x2 z2 x4 x5 x6 (x7 + (1 : Int32)) gi1 gl Q)
set_option maxRecDepth 100000 in
theorem v_X3_countAhead {p : Nat} {x2 : Int32} {gi : Gi} {gl : Gl} {Q : Gi → Gl → Prop} (hpN : p < NN) (hpK : sK p = 5) (h : f_X3_countAhead p x2 gi gl Q) : p_X3_countAhead p x2 gi gl Q := by
  unfold f_X3_countAhead at h
  show PAt mX3_countAhead NN NN κF 0 [some (.ref 31), some (.ref p), some (.int x2), none, none, none, none, none] [] gi gl _
  refine px_aload_n dX3_countAhead_0 rfl rfl ?_
  refine px_iconst (v := (0 : Int32)) dX3_countAhead_1 (by decide) ?_
  refine pf_X3_77 rfl dX3_countAhead_2 zl_31 zk_31 (by decide) ?_
  obtain ⟨gi1, hgi1⟩ : ∃ y : Gi, y = uI gi 31 (upd (gi 31) 3 (0 : Int32)) := ⟨_, rfl⟩
  have h := h gi1 hgi1
  refine px_namegi hgi1 ?_
  refine px_aload_n dX3_countAhead_5 rfl rfl ?_
  refine px_iconst (v := (0 : Int32)) dX3_countAhead_6 (by decide) ?_
  refine pf_X3_81 rfl dX3_countAhead_7 zl_31 zk_31 (by decide) ?_
  obtain ⟨gi2, hgi2⟩ : ∃ y : Gi, y = uI gi1 31 (upd (gi1 31) 4 (0 : Int32)) := ⟨_, rfl⟩
  have h := h gi2 hgi2
  refine px_namegi hgi2 ?_
  refine px_iconst (v := (0 : Int32)) dX3_countAhead_10 (by decide) ?_
  refine px_istore_n (ls2 := [some (.ref 31), some (.ref p), some (.int x2), some (.int (0 : Int32)), none, none, none, none]) (i := 3) rfl dX3_countAhead_11 (by decide) rfl ?_
  exact PAt.forget h (lsub_at ⟨rfl, ⟨rfl, ⟨rfl, ⟨rfl, trivial⟩⟩⟩⟩)
set_option maxRecDepth 100000 in
theorem v_X3_countAhead_12 {p : Nat} {x2 : Int32} {x3 : Int32} {gi : Gi} {gl : Gl} {Q : Gi → Gl → Prop} (hpN : p < NN) (hpK : sK p = 5) (h : f_X3_countAhead_12 p x2 x3 gi gl Q) : p_X3_countAhead_12 p x2 x3 gi gl Q := by
  unfold f_X3_countAhead_12 at h
  show PAt mX3_countAhead NN NN κF 12 [some (.ref 31), some (.ref p), some (.int x2), some (.int x3), none, none, none, none] [] gi gl _
  refine px_iload_n dX3_countAhead_12 rfl rfl ?_
  refine px_aload_n dX3_countAhead_13 rfl rfl ?_
  refine px_callV_I (As := []) (st := [.int x3]) dX3_countAhead_14 lk_X3_68.1 lk_X3_68.2 (b := p) hpN hpK (by decide) rfl (by decide) rfl (Nat.le_of_ble_eq_true rfl) rfl rfl (Nat.le_of_ble_eq_true rfl) ⟨Nat.le_refl _, Nat.le_refl _, Nat.le_refl _⟩ ?_
  refine PAt.mono h (fun v κ gi1 gl2 hq => ?_)
  obtain ⟨rfl, r3, rfl, h⟩ := hq
  refine px_icmp_ge (tgt := 86) dX3_countAhead_17 (by decide) ?_
  by_cases hc : r3 ≤ x3
  · rw [if_pos hc] at h ⊢
    refine px_iconst (v := (0 : Int32)) dX3_countAhead_86 (by decide) ?_
    refine px_istore_n (ls2 := [some (.ref 31), some (.ref p), some (.int x2), some (.int (0 : Int32)), none, none, none, none]) (i := 3) rfl dX3_countAhead_87 (by decide) rfl ?_
    refine px_iconst (v := (0 : Int32)) dX3_countAhead_88 (by decide) ?_
    refine px_istore (ls2 := [some (.ref 31), some (.ref p), some (.int x2), some (.int (0 : Int32)), some (.int (0 : Int32)), none, none, none]) dX3_countAhead_89 (by decide) rfl ?_
    exact PAt.forget h (lsub_at ⟨rfl, ⟨rfl, ⟨rfl, ⟨rfl, ⟨rfl, trivial⟩⟩⟩⟩⟩)
  · rw [if_neg hc] at h ⊢
    refine px_aload_n dX3_countAhead_20 rfl rfl ?_
    refine px_iload_n dX3_countAhead_21 rfl rfl ?_
    refine px_iload_n dX3_countAhead_22 rfl rfl ?_
    refine px_callV_I (As := [.int x3, .int x2]) (st := []) dX3_countAhead_23 lk_X3_74.1 lk_X3_74.2 (b := p) hpN hpK (by decide) rfl (by decide) rfl (Nat.le_of_ble_eq_true rfl) rfl rfl (Nat.le_of_ble_eq_true rfl) ⟨Nat.le_refl _, Nat.le_refl _, Nat.le_refl _⟩ ?_
    refine PAt.mono h (fun v κ gi4 gl5 hq => ?_)
    obtain ⟨rfl, r6, rfl, h⟩ := hq
    refine px_if_eq (tgt := 80) dX3_countAhead_26 (by decide) ?_
    by_cases hc : r6 = 0
    · rw [if_pos hc] at h ⊢
      refine px_iinc (v := x3 + (1 : Int32)) (ls2 := [some (.ref 31), some (.ref p), some (.int x2), some (.int (x3 + (1 : Int32))), none, none, none, none]) dX3_countAhead_80 rfl rfl (by decide) rfl ?_
      refine px_goto (tgt := 12) dX3_countAhead_83 (by decide) ?_
      exact PAt.forget h (lsub_at ⟨rfl, ⟨rfl, ⟨rfl, ⟨rfl, trivial⟩⟩⟩⟩)
    · rw [if_neg hc] at h ⊢
      refine px_aload_n dX3_countAhead_29 rfl rfl ?_
      refine px_aload_n dX3_countAhead_30 rfl rfl ?_
      refine gf_X3_77 rfl dX3_countAhead_31 zl_31 zk_31 ?_
      refine px_if_ne (tgt := 46) dX3_countAhead_34 (by decide) ?_
      by_cases hc : ¬ (gi4 31 3) = 0
      · rw [if_pos hc] at h ⊢
        refine px_iconst (v := (1 : Int32)) dX3_countAhead_46 (by decide) ?_
        refine px_goto (tgt := 51) dX3_countAhead_47 (by decide) ?_
        exact PAt.forget h (lsub_at ⟨rfl, ⟨rfl, ⟨rfl, ⟨rfl, trivial⟩⟩⟩⟩)
      · rw [if_neg hc] at h ⊢
        refine px_aload_n dX3_countAhead_37 rfl rfl ?_
        refine px_iload_n dX3_countAhead_38 rfl rfl ?_
        refine px_iconst (v := (0 : Int32)) dX3_countAhead_39 (by decide) ?_
        refine px_callV_I (As := [.int x3, .int (0 : Int32)]) (st := [.ref 31]) dX3_countAhead_40 lk_X3_84.1 lk_X3_84.2 (b := p) hpN hpK (by decide) rfl (by decide) rfl (Nat.le_of_ble_eq_true rfl) rfl rfl (Nat.le_of_ble_eq_true rfl) ⟨Nat.le_refl _, Nat.le_refl _, Nat.le_refl _⟩ ?_
        refine PAt.mono h (fun v κ gi7 gl8 hq => ?_)
        obtain ⟨rfl, r9, rfl, h⟩ := hq
        refine px_if_ne (tgt := 50) dX3_countAhead_43 (by decide) ?_
        by_cases hc : ¬ r9 = 0
        · rw [if_pos hc] at h ⊢
          refine px_iconst (v := (0 : Int32)) dX3_countAhead_50 (by decide) ?_
          exact PAt.forget h (lsub_at ⟨rfl, ⟨rfl, ⟨rfl, ⟨rfl, trivial⟩⟩⟩⟩)
        · rw [if_neg hc] at h ⊢
          refine px_iconst (v := (1 : Int32)) dX3_countAhead_46 (by decide) ?_
          refine px_goto (tgt := 51) dX3_countAhead_47 (by decide) ?_
          exact PAt.forget h (lsub_at ⟨rfl, ⟨rfl, ⟨rfl, ⟨rfl, trivial⟩⟩⟩⟩)
set_option maxRecDepth 100000 in
theorem v_X3_countAhead_91 {p : Nat} {x2 : Int32} {x3 : Int32} {x4 : Int32} {gi : Gi} {gl : Gl} {Q : Gi → Gl → Prop} (hpN : p < NN) (hpK : sK p = 5) (h : f_X3_countAhead_91 p x2 x3 x4 gi gl Q) : p_X3_countAhead_91 p x2 x3 x4 gi gl Q := by
  unfold f_X3_countAhead_91 at h
  show PAt mX3_countAhead NN NN κF 91 [some (.ref 31), some (.ref p), some (.int x2), some (.int x3), some (.int x4), none, none, none] [] gi gl _
  refine px_iload dX3_countAhead_91 rfl ?_
  refine px_bipush (v := (120 : Int32)) dX3_countAhead_93 (by decide) ?_
  refine px_icmp_ge (tgt := 221) dX3_countAhead_95 (by decide) ?_
  by_cases hc : (120 : Int32) ≤ x4
  · rw [if_pos hc] at h ⊢
    refine px_aload_n dX3_countAhead_221 rfl rfl ?_
    refine gf_X3_9 rfl dX3_countAhead_222 zl_31 zk_31 rfl zr_31_2 zl_32 ?_
    refine px_sipush (v := (3600 : Int32)) dX3_countAhead_225 (by decide) ?_
    refine px_iload_n dX3_countAhead_228 rfl rfl ?_
    refine px_iastore (n := 3601) dX3_countAhead_229 zl_32 zk_32 zs_32 (vp_lit (by decide)) ?_
    obtain ⟨gi1, hgi1⟩ : ∃ y : Gi, y = uI gi 32 (upd (gi 32) (3600 : Int32).toNatClampNeg x3) := ⟨_, rfl⟩
    have h := h gi1 hgi1
    refine px_namegi hgi1 ?_
    exact px_return dX3_countAhead_230 rfl rfl ⟨rfl, rfl, h⟩
  · rw [if_neg hc] at h ⊢
    refine px_ldc (v := (1073741823 : Int32)) dX3_countAhead_98 w_1085 ?_
    refine px_istore (ls2 := [some (.ref 31), some (.ref p), some (.int x2), some (.int x3), some (.int x4), some (.int (1073741823 : Int32)), none, none]) dX3_countAhead_100 (by decide) rfl ?_
    refine px_iconst (v := (0 : Int32)) dX3_countAhead_102 (by decide) ?_
    refine px_istore (ls2 := [some (.ref 31), some (.ref p), some (.int x2), some (.int x3), some (.int x4), some (.int (1073741823 : Int32)), some (.int (0 : Int32)), none]) dX3_countAhead_103 (by decide) rfl ?_
    exact PAt.forget h (lsub_at ⟨rfl, ⟨rfl, ⟨rfl, ⟨rfl, ⟨rfl, ⟨rfl, ⟨rfl, trivial⟩⟩⟩⟩⟩⟩⟩)
set_option maxRecDepth 100000 in
theorem v_X3_countAhead_51 {p : Nat} {x2 : Int32} {x3 : Int32} {s0 : Int32} {gi : Gi} {gl : Gl} {Q : Gi → Gl → Prop} (hpN : p < NN) (hpK : sK p = 5) (h : f_X3_countAhead_51 p x2 x3 s0 gi gl Q) : p_X3_countAhead_51 p x2 x3 s0 gi gl Q := by
  unfold f_X3_countAhead_51 at h
  show PAt mX3_countAhead NN NN κF 51 [some (.ref 31), some (.ref p), some (.int x2), some (.int x3), none, none, none, none] [.int s0, .ref 31] gi gl _
  obtain ⟨hz, h⟩ := h
  refine pf_X3_77 rfl dX3_countAhead_51 zl_31 zk_31 (nar01 hz) ?_
  obtain ⟨gi1, hgi1⟩ : ∃ y : Gi, y = uI gi 31 (upd (gi 31) 3 s0) := ⟨_, rfl⟩
  have h := h gi1 hgi1
  refine px_namegi hgi1 ?_
  refine px_aload_n dX3_countAhead_54 rfl rfl ?_
  refine px_aload_n dX3_countAhead_55 rfl rfl ?_
  refine gf_X3_81 rfl dX3_countAhead_56 zl_31 zk_31 ?_
  refine px_if_ne (tgt := 72) dX3_countAhead_59 (by decide) ?_
  by_cases hc : ¬ (gi1 31 4) = 0
  · rw [if_pos hc] at h ⊢
    refine px_iconst (v := (1 : Int32)) dX3_countAhead_72 (by decide) ?_
    refine px_goto (tgt := 77) dX3_countAhead_73 (by decide) ?_
    refine pf_X3_81 rfl dX3_countAhead_77 zl_31 zk_31 (by decide) ?_
    obtain ⟨gi2, hgi2⟩ : ∃ y : Gi, y = uI gi1 31 (upd (gi1 31) 4 (1 : Int32)) := ⟨_, rfl⟩
    have h := h gi2 hgi2
    refine px_namegi hgi2 ?_
    refine px_iinc (v := x3 + (1 : Int32)) (ls2 := [some (.ref 31), some (.ref p), some (.int x2), some (.int (x3 + (1 : Int32))), none, none, none, none]) dX3_countAhead_80 rfl rfl (by decide) rfl ?_
    refine px_goto (tgt := 12) dX3_countAhead_83 (by decide) ?_
    exact PAt.forget h (lsub_at ⟨rfl, ⟨rfl, ⟨rfl, ⟨rfl, trivial⟩⟩⟩⟩)
  · rw [if_neg hc] at h ⊢
    refine px_aload_n dX3_countAhead_62 rfl rfl ?_
    refine px_iload_n dX3_countAhead_63 rfl rfl ?_
    refine px_iconst (v := (0 : Int32)) dX3_countAhead_64 (by decide) ?_
    refine px_callV_I (As := [.int x3, .int (0 : Int32)]) (st := [.ref 31]) dX3_countAhead_65 lk_X3_84.1 lk_X3_84.2 (b := p) hpN hpK (by decide) rfl (by decide) rfl (Nat.le_of_ble_eq_true rfl) rfl rfl (Nat.le_of_ble_eq_true rfl) ⟨Nat.le_refl _, Nat.le_refl _, Nat.le_refl _⟩ ?_
    refine PAt.mono h (fun v κ gi3 gl4 hq => ?_)
    obtain ⟨rfl, r5, rfl, h⟩ := hq
    refine px_iconst (v := (1 : Int32)) dX3_countAhead_68 (by decide) ?_
    refine px_icmp_ne (tgt := 76) dX3_countAhead_69 (by decide) ?_
    by_cases hc : ¬ r5 = (1 : Int32)
    · rw [if_pos hc] at h ⊢
      refine px_iconst (v := (0 : Int32)) dX3_countAhead_76 (by decide) ?_
      refine pf_X3_81 rfl dX3_countAhead_77 zl_31 zk_31 (by decide) ?_
      obtain ⟨gi6, hgi6⟩ : ∃ y : Gi, y = uI gi3 31 (upd (gi3 31) 4 (0 : Int32)) := ⟨_, rfl⟩
      have h := h gi6 hgi6
      refine px_namegi hgi6 ?_
      refine px_iinc (v := x3 + (1 : Int32)) (ls2 := [some (.ref 31), some (.ref p), some (.int x2), some (.int (x3 + (1 : Int32))), none, none, none, none]) dX3_countAhead_80 rfl rfl (by decide) rfl ?_
      refine px_goto (tgt := 12) dX3_countAhead_83 (by decide) ?_
      exact PAt.forget h (lsub_at ⟨rfl, ⟨rfl, ⟨rfl, ⟨rfl, trivial⟩⟩⟩⟩)
    · rw [if_neg hc] at h ⊢
      refine px_iconst (v := (1 : Int32)) dX3_countAhead_72 (by decide) ?_
      refine px_goto (tgt := 77) dX3_countAhead_73 (by decide) ?_
      refine pf_X3_81 rfl dX3_countAhead_77 zl_31 zk_31 (by decide) ?_
      obtain ⟨gi7, hgi7⟩ : ∃ y : Gi, y = uI gi3 31 (upd (gi3 31) 4 (1 : Int32)) := ⟨_, rfl⟩
      have h := h gi7 hgi7
      refine px_namegi hgi7 ?_
      refine px_iinc (v := x3 + (1 : Int32)) (ls2 := [some (.ref 31), some (.ref p), some (.int x2), some (.int (x3 + (1 : Int32))), none, none, none, none]) dX3_countAhead_80 rfl rfl (by decide) rfl ?_
      refine px_goto (tgt := 12) dX3_countAhead_83 (by decide) ?_
      exact PAt.forget h (lsub_at ⟨rfl, ⟨rfl, ⟨rfl, ⟨rfl, trivial⟩⟩⟩⟩)
set_option maxRecDepth 100000 in
theorem v_X3_countAhead_105 {p : Nat} {x2 : Int32} {x3 : Int32} {x4 : Int32} {x5 : Int32} {x6 : Int32} {gi : Gi} {gl : Gl} {Q : Gi → Gl → Prop} (hpN : p < NN) (hpK : sK p = 5) (h : f_X3_countAhead_105 p x2 x3 x4 x5 x6 gi gl Q) : p_X3_countAhead_105 p x2 x3 x4 x5 x6 gi gl Q := by
  unfold f_X3_countAhead_105 at h
  show PAt mX3_countAhead NN NN κF 105 [some (.ref 31), some (.ref p), some (.int x2), some (.int x3), some (.int x4), some (.int x5), some (.int x6), none] [] gi gl _
  refine px_iload dX3_countAhead_105 rfl ?_
  refine px_aload_n dX3_countAhead_107 rfl rfl ?_
  refine px_callV_I (As := []) (st := [.int x6]) dX3_countAhead_108 lk_X3_68.1 lk_X3_68.2 (b := p) hpN hpK (by decide) rfl (by decide) rfl (Nat.le_of_ble_eq_true rfl) rfl rfl (Nat.le_of_ble_eq_true rfl) ⟨Nat.le_refl _, Nat.le_refl _, Nat.le_refl _⟩ ?_
  refine PAt.mono h (fun v κ gi1 gl2 hq => ?_)
  obtain ⟨rfl, r3, rfl, h⟩ := hq
  refine px_icmp_ge (tgt := 158) dX3_countAhead_111 (by decide) ?_
  by_cases hc : r3 ≤ x6
  · rw [if_pos hc] at h ⊢
    refine px_aload_n dX3_countAhead_158 rfl rfl ?_
    refine px_callV_A (As := []) (st := []) dX3_countAhead_159 lk_X3_94.1 lk_X3_94.2 (b := p) hpN hpK (by decide) rfl (by decide) rfl (Nat.le_of_ble_eq_true rfl) ⟨_, rfl⟩ rfl (Nat.le_of_ble_eq_true rfl) ⟨Nat.le_refl _, Nat.le_refl _, Nat.le_refl _⟩ ?_
    refine PAt.mono h (fun v κ gi4 gl5 hq => ?_)
    rcases hq with ⟨rfl, ⟨rfl, hq⟩ | ⟨b6, rfl, hb6N, hb6K, hq⟩⟩
    · have h := hq.1 rfl
      refine px_iload dX3_countAhead_162 rfl ?_
      refine px_bipush (v := (12 : Int32)) dX3_countAhead_164 (by decide) ?_
      refine px_irem dX3_countAhead_166 (by decide) ?_
      exact h.elim
    · have h := hq.2 b6 rfl hb6N hb6K
      refine px_iload dX3_countAhead_162 rfl ?_
      refine px_bipush (v := (12 : Int32)) dX3_countAhead_164 (by decide) ?_
      refine px_irem dX3_countAhead_166 (by decide) ?_
      refine px_callV_I (As := [.int (jr x4 (12 : Int32))]) (st := []) dX3_countAhead_167 lk_X3_98.1 lk_X3_98.2 (b := b6) hb6N hb6K (by decide) rfl (by decide) rfl (Nat.le_of_ble_eq_true rfl) rfl rfl (Nat.le_of_ble_eq_true rfl) ⟨Nat.le_refl _, Nat.le_refl _, Nat.le_refl _⟩ ?_
      refine PAt.mono h (fun v κ gi7 gl8 hq => ?_)
      obtain ⟨rfl, r9, rfl, h⟩ := hq
      refine px_istore (ls2 := [some (.ref 31), some (.ref p), some (.int x2), some (.int x3), some (.int x4), some (.int x5), some (.int r9), none]) dX3_countAhead_170 (by decide) rfl ?_
      refine px_iconst (v := (0 : Int32)) dX3_countAhead_172 (by decide) ?_
      refine px_istore (ls2 := [some (.ref 31), some (.ref p), some (.int x2), some (.int x3), some (.int x4), some (.int x5), some (.int r9), some (.int (0 : Int32))]) dX3_countAhead_173 (by decide) rfl ?_
      exact PAt.forget h (lsub_at ⟨rfl, ⟨rfl, ⟨rfl, ⟨rfl, ⟨rfl, ⟨rfl, ⟨rfl, ⟨rfl, trivial⟩⟩⟩⟩⟩⟩⟩⟩)
  · rw [if_neg hc] at h ⊢
    refine px_iload dX3_countAhead_114 rfl ?_
    refine px_if_eq (tgt := 158) dX3_countAhead_116 (by decide) ?_
    by_cases hc : x5 = 0
    · rw [if_pos hc] at h ⊢
      refine px_aload_n dX3_countAhead_158 rfl rfl ?_
      refine px_callV_A (As := []) (st := []) dX3_countAhead_159 lk_X3_94.1 lk_X3_94.2 (b := p) hpN hpK (by decide) rfl (by decide) rfl (Nat.le_of_ble_eq_true rfl) ⟨_, rfl⟩ rfl (Nat.le_of_ble_eq_true rfl) ⟨Nat.le_refl _, Nat.le_refl _, Nat.le_refl _⟩ ?_
      refine PAt.mono h (fun v κ gi11 gl12 hq => ?_)
      rcases hq with ⟨rfl, ⟨rfl, hq⟩ | ⟨b13, rfl, hb13N, hb13K, hq⟩⟩
      · have h := hq.1 rfl
        refine px_iload dX3_countAhead_162 rfl ?_
        refine px_bipush (v := (12 : Int32)) dX3_countAhead_164 (by decide) ?_
        refine px_irem dX3_countAhead_166 (by decide) ?_
        exact h.elim
      · have h := hq.2 b13 rfl hb13N hb13K
        refine px_iload dX3_countAhead_162 rfl ?_
        refine px_bipush (v := (12 : Int32)) dX3_countAhead_164 (by decide) ?_
        refine px_irem dX3_countAhead_166 (by decide) ?_
        refine px_callV_I (As := [.int (jr x4 (12 : Int32))]) (st := []) dX3_countAhead_167 lk_X3_98.1 lk_X3_98.2 (b := b13) hb13N hb13K (by decide) rfl (by decide) rfl (Nat.le_of_ble_eq_true rfl) rfl rfl (Nat.le_of_ble_eq_true rfl) ⟨Nat.le_refl _, Nat.le_refl _, Nat.le_refl _⟩ ?_
        refine PAt.mono h (fun v κ gi14 gl15 hq => ?_)
        obtain ⟨rfl, r16, rfl, h⟩ := hq
        refine px_istore (ls2 := [some (.ref 31), some (.ref p), some (.int x2), some (.int x3), some (.int x4), some (.int x5), some (.int r16), none]) dX3_countAhead_170 (by decide) rfl ?_
        refine px_iconst (v := (0 : Int32)) dX3_countAhead_172 (by decide) ?_
        refine px_istore (ls2 := [some (.ref 31), some (.ref p), some (.int x2), some (.int x3), some (.int x4), some (.int x5), some (.int r16), some (.int (0 : Int32))]) dX3_countAhead_173 (by decide) rfl ?_
        exact PAt.forget h (lsub_at ⟨rfl, ⟨rfl, ⟨rfl, ⟨rfl, ⟨rfl, ⟨rfl, ⟨rfl, ⟨rfl, trivial⟩⟩⟩⟩⟩⟩⟩⟩)
    · rw [if_neg hc] at h ⊢
      refine px_iload dX3_countAhead_119 rfl ?_
      refine px_aload_n dX3_countAhead_121 rfl rfl ?_
      refine px_iload dX3_countAhead_122 rfl ?_
      refine px_iload_n dX3_countAhead_124 rfl rfl ?_
      refine px_callV_I (As := [.int x6, .int x2]) (st := [.int x5]) dX3_countAhead_125 lk_X3_74.1 lk_X3_74.2 (b := p) hpN hpK (by decide) rfl (by decide) rfl (Nat.le_of_ble_eq_true rfl) rfl rfl (Nat.le_of_ble_eq_true rfl) ⟨Nat.le_refl _, Nat.le_refl _, Nat.le_refl _⟩ ?_
      refine PAt.mono h (fun v κ gi18 gl19 hq => ?_)
      obtain ⟨rfl, r20, rfl, h⟩ := hq
      refine px_if_eq (tgt := 136) dX3_countAhead_128 (by decide) ?_
      by_cases hc : r20 = 0
      · rw [if_pos hc] at h ⊢
        refine px_aload_n dX3_countAhead_136 rfl rfl ?_
        refine gf_X3_19 rfl dX3_countAhead_137 zl_31 zk_31 rfl zr_31_1 zl_24 ?_
        refine px_aload_n dX3_countAhead_140 rfl rfl ?_
        refine px_iload dX3_countAhead_141 rfl ?_
        refine px_iload dX3_countAhead_143 rfl ?_
        refine px_iconst (v := (0 : Int32)) dX3_countAhead_145 (by decide) ?_
        refine px_callV_I (As := [.ref p, .int x6, .int x4, .int (0 : Int32)]) (st := [.int x5]) dX3_countAhead_146 lk_X3_88.1 lk_X3_88.2 (b := 24) zl_24 zk_24 (by decide) rfl (by decide) rfl (Nat.le_of_ble_eq_true rfl) rfl rfl (Nat.le_of_ble_eq_true rfl) ⟨Nat.le_refl _, Nat.le_refl _, Nat.le_refl _⟩ ?_
        refine PAt.mono h (fun v κ gi21 gl22 hq => ?_)
        obtain ⟨rfl, r23, rfl, h⟩ := hq
        refine px_iand dX3_countAhead_149 ?_
        obtain ⟨z24, hz24⟩ : ∃ y : Int32, y = x5 &&& r23 := ⟨_, rfl⟩
        have h := h z24 hz24
        refine px_namei hz24 ?_
        refine px_istore (ls2 := [some (.ref 31), some (.ref p), some (.int x2), some (.int x3), some (.int x4), some (.int z24), some (.int x6), none]) dX3_countAhead_150 (by decide) rfl ?_
        refine px_iinc (v := x6 + (1 : Int32)) (ls2 := [some (.ref 31), some (.ref p), some (.int x2), some (.int x3), some (.int x4), some (.int z24), some (.int (x6 + (1 : Int32))), none]) dX3_countAhead_152 rfl rfl (by decide) rfl ?_
        refine px_goto (tgt := 105) dX3_countAhead_155 (by decide) ?_
        exact PAt.forget h (lsub_at ⟨rfl, ⟨rfl, ⟨rfl, ⟨rfl, ⟨rfl, ⟨rfl, ⟨rfl, trivial⟩⟩⟩⟩⟩⟩⟩)
      · rw [if_neg hc] at h ⊢
        refine px_ldc (v := (1073741823 : Int32)) dX3_countAhead_131 w_1085 ?_
        refine px_goto (tgt := 149) dX3_countAhead_133 (by decide) ?_
        refine px_iand dX3_countAhead_149 ?_
        obtain ⟨z25, hz25⟩ : ∃ y : Int32, y = x5 &&& (1073741823 : Int32) := ⟨_, rfl⟩
        have h := h z25 hz25
        refine px_namei hz25 ?_
        refine px_istore (ls2 := [some (.ref 31), some (.ref p), some (.int x2), some (.int x3), some (.int x4), some (.int z25), some (.int x6), none]) dX3_countAhead_150 (by decide) rfl ?_
        refine px_iinc (v := x6 + (1 : Int32)) (ls2 := [some (.ref 31), some (.ref p), some (.int x2), some (.int x3), some (.int x4), some (.int z25), some (.int (x6 + (1 : Int32))), none]) dX3_countAhead_152 rfl rfl (by decide) rfl ?_
        refine px_goto (tgt := 105) dX3_countAhead_155 (by decide) ?_
        exact PAt.forget h (lsub_at ⟨rfl, ⟨rfl, ⟨rfl, ⟨rfl, ⟨rfl, ⟨rfl, ⟨rfl, trivial⟩⟩⟩⟩⟩⟩⟩)
set_option maxRecDepth 100000 in
theorem v_X3_countAhead_175 {p : Nat} {x2 : Int32} {x3 : Int32} {x4 : Int32} {x5 : Int32} {x6 : Int32} {x7 : Int32} {gi : Gi} {gl : Gl} {Q : Gi → Gl → Prop} (hpN : p < NN) (hpK : sK p = 5) (h : f_X3_countAhead_175 p x2 x3 x4 x5 x6 x7 gi gl Q) : p_X3_countAhead_175 p x2 x3 x4 x5 x6 x7 gi gl Q := by
  unfold f_X3_countAhead_175 at h
  show PAt mX3_countAhead NN NN κF 175 [some (.ref 31), some (.ref p), some (.int x2), some (.int x3), some (.int x4), some (.int x5), some (.int x6), some (.int x7)] [] gi gl _
  refine px_iload dX3_countAhead_175 rfl ?_
  refine px_bipush (v := (30 : Int32)) dX3_countAhead_177 (by decide) ?_
  refine px_icmp_ge (tgt := 215) dX3_countAhead_179 (by decide) ?_
  by_cases hc : (30 : Int32) ≤ x7
  · rw [if_pos hc] at h ⊢
    refine px_iinc (v := x4 + (1 : Int32)) (ls2 := [some (.ref 31), some (.ref p), some (.int x2), some (.int x3), some (.int (x4 + (1 : Int32))), some (.int x5), some (.int x6), some (.int x7)]) dX3_countAhead_215 rfl rfl (by decide) rfl ?_
    refine px_goto (tgt := 91) dX3_countAhead_218 (by decide) ?_
    exact PAt.forget h (lsub_at ⟨rfl, ⟨rfl, ⟨rfl, ⟨rfl, ⟨rfl, trivial⟩⟩⟩⟩⟩)
  · rw [if_neg hc] at h ⊢
    refine px_aload_n dX3_countAhead_182 rfl rfl ?_
    refine gf_X3_9 rfl dX3_countAhead_183 zl_31 zk_31 rfl zr_31_2 zl_32 ?_
    refine px_iload dX3_countAhead_186 rfl ?_
    refine px_bipush (v := (30 : Int32)) dX3_countAhead_188 (by decide) ?_
    refine px_imul dX3_countAhead_190 ?_
    refine px_iload dX3_countAhead_191 rfl ?_
    refine px_iadd dX3_countAhead_193 ?_
    refine px_iload_n dX3_countAhead_194 rfl rfl ?_
    obtain ⟨hi, h⟩ := h
    refine px_iastore (n := 3601) dX3_countAhead_195 zl_32 zk_32 zs_32 hi ?_
    obtain ⟨gi1, hgi1⟩ : ∃ y : Gi, y = uI gi 32 (upd (gi 32) ((x4 * (30 : Int32)) + x7).toNatClampNeg x3) := ⟨_, rfl⟩
    have h := h gi1 hgi1
    refine px_namegi hgi1 ?_
    refine px_iload_n dX3_countAhead_196 rfl rfl ?_
    refine px_iload dX3_countAhead_197 rfl ?_
    refine px_iload dX3_countAhead_199 rfl ?_
    refine px_ishr dX3_countAhead_201 ?_
    refine px_iconst (v := (1 : Int32)) dX3_countAhead_202 (by decide) ?_
    refine px_iand dX3_countAhead_203 ?_
    refine px_iload dX3_countAhead_204 rfl ?_
    refine px_imul dX3_countAhead_206 ?_
    refine px_iadd dX3_countAhead_207 ?_
    obtain ⟨z2, hz2⟩ : ∃ y : Int32, y = x3 + (((ja x5 x7) &&& (1 : Int32)) * x6) := ⟨_, rfl⟩
    have h := h z2 hz2
    refine px_namei hz2 ?_
    refine px_istore_n (ls2 := [some (.ref 31), some (.ref p), some (.int x2), some (.int z2), some (.int x4), some (.int x5), some (.int x6), some (.int x7)]) (i := 3) rfl dX3_countAhead_208 (by decide) rfl ?_
    refine px_iinc (v := x7 + (1 : Int32)) (ls2 := [some (.ref 31), some (.ref p), some (.int x2), some (.int z2), some (.int x4), some (.int x5), some (.int x6), some (.int (x7 + (1 : Int32)))]) dX3_countAhead_209 rfl rfl (by decide) rfl ?_
    refine px_goto (tgt := 175) dX3_countAhead_212 (by decide) ?_
    exact PAt.forget h (lsub_at ⟨rfl, ⟨rfl, ⟨rfl, ⟨rfl, ⟨rfl, ⟨rfl, ⟨rfl, ⟨rfl, trivial⟩⟩⟩⟩⟩⟩⟩⟩)
abbrev p_X3_countFrom_42 (x2 : Int32) (x3 : Int32) (x4 : Int32) (s0 : Int32) (gi : Gi) (gl : Gl) (Q : Int32 → Gi → Gl → Prop) : Prop := PAt mX3_countFrom NN NN κF 42 [some (.ref 31), none, some (.int x2), some (.int x3), some (.int x4), none, none, none] [.int s0] gi gl (RiQ Q)
abbrev p_X3_countFrom_80 (x3 : Int32) (x4 : Int32) (x5 : Int32) (s0 : Int32) (gi : Gi) (gl : Gl) (Q : Int32 → Gi → Gl → Prop) : Prop := PAt mX3_countFrom NN NN κF 80 [some (.ref 31), none, none, some (.int x3), some (.int x4), some (.int x5), none, none] [.int s0] gi gl (RiQ Q)
def f_X3_countFrom (x1 : Int32) (x2 : Int32) (gi : Gi) (gl : Gl) (Q : Int32 → Gi → Gl → Prop) : Prop :=
p_X10_of 2 (0 : Int32) x1 (2 : Int32) gi gl (fun (r3 : Int32) (gi1 : Gi) (gl2 : Gl) =>
p_X10_of 2 (0 : Int32) x1 (3 : Int32) gi1 gl2 (fun (r6 : Int32) (gi4 : Gi) (gl5 : Gl) =>
if (gi4 31 3) = 0 then
(p_X3_countOf (0 : Int32) (x2 - (1 : Int32)) gi4 gl5 (fun (r9 : Int32) (gi7 : Gi) (gl8 : Gl) =>
p_X3_countFrom_42 x2 r3 r6 r9 gi7 gl8 Q))
else
(p_X3_countFrom_42 x2 r3 r6 (0 : Int32) gi4 gl5 Q)))
def f_X3_countFrom_42 (x2 : Int32) (x3 : Int32) (x4 : Int32) (s0 : Int32) (gi : Gi) (gl : Gl) (Q : Int32 → Gi → Gl → Prop) : Prop :=
if (gi 31 4) = 0 then
(if (gi 31 4) = 0 then
(p_X3_countFrom_80 x3 x4 s0 x2 gi gl Q)
else
(p_X3_countFrom_80 x3 x4 s0 (jmax x2 ((x3 - x4) + (1 : Int32))) gi gl Q))
else
(if ¬ x3 = ((-1) : Int32) then
(if (gi 31 4) = 0 then
(p_X3_countFrom_80 x3 x4 s0 x2 gi gl Q)
else
(p_X3_countFrom_80 x3 x4 s0 (jmax x2 ((x3 - x4) + (1 : Int32))) gi gl Q))
else
(Q s0 gi gl))
def f_X3_countFrom_80 (x3 : Int32) (x4 : Int32) (x5 : Int32) (s0 : Int32) (gi : Gi) (gl : Gl) (Q : Int32 → Gi → Gl → Prop) : Prop :=
if (gi 31 3) = 0 then
(p_X3_countOf s0 (3599 : Int32) gi gl (fun (r3 : Int32) (gi1 : Gi) (gl2 : Gl) =>
Q (x5 + r3) gi1 gl2))
else
(if x3 = ((-1) : Int32) then
(p_X3_countOf s0 (3599 : Int32) gi gl (fun (r6 : Int32) (gi4 : Gi) (gl5 : Gl) =>
Q (x5 + r6) gi4 gl5))
else
(∀ z7 : Int32, z7 = x3 + x4 →
p_X3_countOf s0 z7 gi gl (fun (r10 : Int32) (gi8 : Gi) (gl9 : Gl) =>
Q (x5 + r10) gi8 gl9)))
set_option maxRecDepth 100000 in
theorem v_X3_countFrom {x1 : Int32} {x2 : Int32} {gi : Gi} {gl : Gl} {Q : Int32 → Gi → Gl → Prop}  (h : f_X3_countFrom x1 x2 gi gl Q) : p_X3_countFrom x1 x2 gi gl Q := by
  unfold f_X3_countFrom at h
  show PAt mX3_countFrom NN NN κF 0 [some (.ref 31), some (.int x1), some (.int x2), none, none, none, none, none] [] gi gl _
  refine px_aload_n dX3_countFrom_0 rfl rfl ?_
  refine gf_X3_15 rfl dX3_countFrom_1 zl_31 zk_31 rfl zr_31_0 zl_2 ?_
  refine px_iconst (v := (0 : Int32)) dX3_countFrom_4 (by decide) ?_
  refine px_iload_n dX3_countFrom_5 rfl rfl ?_
  refine px_iconst (v := (2 : Int32)) dX3_countFrom_6 (by decide) ?_
  refine px_callV_I (As := [.int (0 : Int32), .int x1, .int (2 : Int32)]) (st := []) dX3_countFrom_7 lk_X3_31.1 lk_X3_31.2 (b := 2) zl_2 zk_2 (by decide) rfl (by decide) rfl (Nat.le_of_ble_eq_true rfl) rfl rfl (Nat.le_of_ble_eq_true rfl) ⟨Nat.le_refl _, Nat.le_refl _, Nat.le_refl _⟩ ?_
  refine PAt.mono h (fun v κ gi1 gl2 hq => ?_)
  obtain ⟨rfl, r3, rfl, h⟩ := hq
  refine px_istore_n (ls2 := [some (.ref 31), some (.int x1), some (.int x2), some (.int r3), none, none, none, none]) (i := 3) rfl dX3_countFrom_10 (by decide) rfl ?_
  refine px_aload_n dX3_countFrom_11 rfl rfl ?_
  refine gf_X3_15 rfl dX3_countFrom_12 zl_31 zk_31 rfl zr_31_0 zl_2 ?_
  refine px_iconst (v := (0 : Int32)) dX3_countFrom_15 (by decide) ?_
  refine px_iload_n dX3_countFrom_16 rfl rfl ?_
  refine px_iconst (v := (3 : Int32)) dX3_countFrom_17 (by decide) ?_
  refine px_callV_I (As := [.int (0 : Int32), .int x1, .int (3 : Int32)]) (st := []) dX3_countFrom_18 lk_X3_31.1 lk_X3_31.2 (b := 2) zl_2 zk_2 (by decide) rfl (by decide) rfl (Nat.le_of_ble_eq_true rfl) rfl rfl (Nat.le_of_ble_eq_true rfl) ⟨Nat.le_refl _, Nat.le_refl _, Nat.le_refl _⟩ ?_
  refine PAt.mono h (fun v κ gi4 gl5 hq => ?_)
  obtain ⟨rfl, r6, rfl, h⟩ := hq
  refine px_istore (ls2 := [some (.ref 31), some (.int x1), some (.int x2), some (.int r3), some (.int r6), none, none, none]) dX3_countFrom_21 (by decide) rfl ?_
  refine px_aload_n dX3_countFrom_23 rfl rfl ?_
  refine gf_X3_77 rfl dX3_countFrom_24 zl_31 zk_31 ?_
  refine px_if_eq (tgt := 34) dX3_countFrom_27 (by decide) ?_
  by_cases hc : (gi4 31 3) = 0
  · rw [if_pos hc] at h ⊢
    refine px_aload_n dX3_countFrom_34 rfl rfl ?_
    refine px_iconst (v := (0 : Int32)) dX3_countFrom_35 (by decide) ?_
    refine px_iload_n dX3_countFrom_36 rfl rfl ?_
    refine px_iconst (v := (1 : Int32)) dX3_countFrom_37 (by decide) ?_
    refine px_isub dX3_countFrom_38 ?_
    refine px_callV_I (As := [.int (0 : Int32), .int (x2 - (1 : Int32))]) (st := []) dX3_countFrom_39 lk_X3_103.1 lk_X3_103.2 (b := 31) zl_31 zk_31 (by decide) rfl (by decide) rfl (Nat.le_of_ble_eq_true rfl) rfl rfl (Nat.le_of_ble_eq_true rfl) ⟨Nat.le_refl _, Nat.le_refl _, Nat.le_refl _⟩ ?_
    refine PAt.mono h (fun v κ gi7 gl8 hq => ?_)
    obtain ⟨rfl, r9, rfl, h⟩ := hq
    exact PAt.forget h (lsub_at ⟨rfl, ⟨rfl, ⟨rfl, ⟨rfl, trivial⟩⟩⟩⟩)
  · rw [if_neg hc] at h ⊢
    refine px_iconst (v := (0 : Int32)) dX3_countFrom_30 (by decide) ?_
    refine px_goto (tgt := 42) dX3_countFrom_31 (by decide) ?_
    exact PAt.forget h (lsub_at ⟨rfl, ⟨rfl, ⟨rfl, ⟨rfl, trivial⟩⟩⟩⟩)
set_option maxRecDepth 100000 in
theorem v_X3_countFrom_42 {x2 : Int32} {x3 : Int32} {x4 : Int32} {s0 : Int32} {gi : Gi} {gl : Gl} {Q : Int32 → Gi → Gl → Prop}  (h : f_X3_countFrom_42 x2 x3 x4 s0 gi gl Q) : p_X3_countFrom_42 x2 x3 x4 s0 gi gl Q := by
  unfold f_X3_countFrom_42 at h
  show PAt mX3_countFrom NN NN κF 42 [some (.ref 31), none, some (.int x2), some (.int x3), some (.int x4), none, none, none] [.int s0] gi gl _
  refine px_istore (ls2 := [some (.ref 31), none, some (.int x2), some (.int x3), some (.int x4), some (.int s0), none, none]) dX3_countFrom_42 (by decide) rfl ?_
  refine px_aload_n dX3_countFrom_44 rfl rfl ?_
  refine gf_X3_81 rfl dX3_countFrom_45 zl_31 zk_31 ?_
  refine px_if_eq (tgt := 59) dX3_countFrom_48 (by decide) ?_
  by_cases hc : (gi 31 4) = 0
  · rw [if_pos hc] at h ⊢
    refine px_aload_n dX3_countFrom_59 rfl rfl ?_
    refine gf_X3_81 rfl dX3_countFrom_60 zl_31 zk_31 ?_
    refine px_if_eq (tgt := 79) dX3_countFrom_63 (by decide) ?_
    by_cases hc : (gi 31 4) = 0
    · rw [if_pos hc] at h ⊢
      refine px_iload_n dX3_countFrom_79 rfl rfl ?_
      exact PAt.forget h (lsub_at ⟨rfl, ⟨rfl, ⟨rfl, ⟨rfl, trivial⟩⟩⟩⟩)
    · rw [if_neg hc] at h ⊢
      refine px_iload_n dX3_countFrom_66 rfl rfl ?_
      refine px_iload_n dX3_countFrom_67 rfl rfl ?_
      refine px_iload dX3_countFrom_68 rfl ?_
      refine px_isub dX3_countFrom_70 ?_
      refine px_iconst (v := (1 : Int32)) dX3_countFrom_71 (by decide) ?_
      refine px_iadd dX3_countFrom_72 ?_
      refine px_mmax dX3_countFrom_73 w_1089 w_439 w_112 w_440 (by decide) (Nat.le_of_ble_eq_true rfl) ⟨Nat.le_refl _, Nat.le_refl _⟩ ?_
      refine px_goto (tgt := 80) dX3_countFrom_76 (by decide) ?_
      exact PAt.forget h (lsub_at ⟨rfl, ⟨rfl, ⟨rfl, ⟨rfl, trivial⟩⟩⟩⟩)
  · rw [if_neg hc] at h ⊢
    refine px_iload_n dX3_countFrom_51 rfl rfl ?_
    refine px_iconst (v := ((-1) : Int32)) dX3_countFrom_52 (by decide) ?_
    refine px_icmp_ne (tgt := 59) dX3_countFrom_53 (by decide) ?_
    by_cases hc : ¬ x3 = ((-1) : Int32)
    · rw [if_pos hc] at h ⊢
      refine px_aload_n dX3_countFrom_59 rfl rfl ?_
      refine gf_X3_81 rfl dX3_countFrom_60 zl_31 zk_31 ?_
      refine px_if_eq (tgt := 79) dX3_countFrom_63 (by decide) ?_
      by_cases hc : (gi 31 4) = 0
      · rw [if_pos hc] at h ⊢
        refine px_iload_n dX3_countFrom_79 rfl rfl ?_
        exact PAt.forget h (lsub_at ⟨rfl, ⟨rfl, ⟨rfl, ⟨rfl, trivial⟩⟩⟩⟩)
      · rw [if_neg hc] at h ⊢
        refine px_iload_n dX3_countFrom_66 rfl rfl ?_
        refine px_iload_n dX3_countFrom_67 rfl rfl ?_
        refine px_iload dX3_countFrom_68 rfl ?_
        refine px_isub dX3_countFrom_70 ?_
        refine px_iconst (v := (1 : Int32)) dX3_countFrom_71 (by decide) ?_
        refine px_iadd dX3_countFrom_72 ?_
        refine px_mmax dX3_countFrom_73 w_1089 w_439 w_112 w_440 (by decide) (Nat.le_of_ble_eq_true rfl) ⟨Nat.le_refl _, Nat.le_refl _⟩ ?_
        refine px_goto (tgt := 80) dX3_countFrom_76 (by decide) ?_
        exact PAt.forget h (lsub_at ⟨rfl, ⟨rfl, ⟨rfl, ⟨rfl, trivial⟩⟩⟩⟩)
    · rw [if_neg hc] at h ⊢
      refine px_iload dX3_countFrom_56 rfl ?_
      exact px_ireturn dX3_countFrom_58 rfl ⟨.int, rfl, rfl, rfl⟩ ⟨rfl, _, rfl, h⟩
set_option maxRecDepth 100000 in
theorem v_X3_countFrom_80 {x3 : Int32} {x4 : Int32} {x5 : Int32} {s0 : Int32} {gi : Gi} {gl : Gl} {Q : Int32 → Gi → Gl → Prop}  (h : f_X3_countFrom_80 x3 x4 x5 s0 gi gl Q) : p_X3_countFrom_80 x3 x4 x5 s0 gi gl Q := by
  unfold f_X3_countFrom_80 at h
  show PAt mX3_countFrom NN NN κF 80 [some (.ref 31), none, none, some (.int x3), some (.int x4), some (.int x5), none, none] [.int s0] gi gl _
  refine px_istore (ls2 := [some (.ref 31), none, none, some (.int x3), some (.int x4), some (.int x5), some (.int s0), none]) dX3_countFrom_80 (by decide) rfl ?_
  refine px_aload_n dX3_countFrom_82 rfl rfl ?_
  refine gf_X3_77 rfl dX3_countFrom_83 zl_31 zk_31 ?_
  refine px_if_eq (tgt := 101) dX3_countFrom_86 (by decide) ?_
  by_cases hc : (gi 31 3) = 0
  · rw [if_pos hc] at h ⊢
    refine px_sipush (v := (3599 : Int32)) dX3_countFrom_101 (by decide) ?_
    refine px_istore (ls2 := [some (.ref 31), none, none, some (.int x3), some (.int x4), some (.int x5), some (.int s0), some (.int (3599 : Int32))]) dX3_countFrom_104 (by decide) rfl ?_
    refine px_iload dX3_countFrom_106 rfl ?_
    refine px_aload_n dX3_countFrom_108 rfl rfl ?_
    refine px_iload dX3_countFrom_109 rfl ?_
    refine px_iload dX3_countFrom_111 rfl ?_
    refine px_callV_I (As := [.int s0, .int (3599 : Int32)]) (st := [.int x5]) dX3_countFrom_113 lk_X3_103.1 lk_X3_103.2 (b := 31) zl_31 zk_31 (by decide) rfl (by decide) rfl (Nat.le_of_ble_eq_true rfl) rfl rfl (Nat.le_of_ble_eq_true rfl) ⟨Nat.le_refl _, Nat.le_refl _, Nat.le_refl _⟩ ?_
    refine PAt.mono h (fun v κ gi1 gl2 hq => ?_)
    obtain ⟨rfl, r3, rfl, h⟩ := hq
    refine px_iadd dX3_countFrom_116 ?_
    exact px_ireturn dX3_countFrom_117 rfl ⟨.int, rfl, rfl, rfl⟩ ⟨rfl, _, rfl, h⟩
  · rw [if_neg hc] at h ⊢
    refine px_iload_n dX3_countFrom_89 rfl rfl ?_
    refine px_iconst (v := ((-1) : Int32)) dX3_countFrom_90 (by decide) ?_
    refine px_icmp_eq (tgt := 101) dX3_countFrom_91 (by decide) ?_
    by_cases hc : x3 = ((-1) : Int32)
    · rw [if_pos hc] at h ⊢
      refine px_sipush (v := (3599 : Int32)) dX3_countFrom_101 (by decide) ?_
      refine px_istore (ls2 := [some (.ref 31), none, none, some (.int x3), some (.int x4), some (.int x5), some (.int s0), some (.int (3599 : Int32))]) dX3_countFrom_104 (by decide) rfl ?_
      refine px_iload dX3_countFrom_106 rfl ?_
      refine px_aload_n dX3_countFrom_108 rfl rfl ?_
      refine px_iload dX3_countFrom_109 rfl ?_
      refine px_iload dX3_countFrom_111 rfl ?_
      refine px_callV_I (As := [.int s0, .int (3599 : Int32)]) (st := [.int x5]) dX3_countFrom_113 lk_X3_103.1 lk_X3_103.2 (b := 31) zl_31 zk_31 (by decide) rfl (by decide) rfl (Nat.le_of_ble_eq_true rfl) rfl rfl (Nat.le_of_ble_eq_true rfl) ⟨Nat.le_refl _, Nat.le_refl _, Nat.le_refl _⟩ ?_
      refine PAt.mono h (fun v κ gi4 gl5 hq => ?_)
      obtain ⟨rfl, r6, rfl, h⟩ := hq
      refine px_iadd dX3_countFrom_116 ?_
      exact px_ireturn dX3_countFrom_117 rfl ⟨.int, rfl, rfl, rfl⟩ ⟨rfl, _, rfl, h⟩
    · rw [if_neg hc] at h ⊢
      refine px_iload_n dX3_countFrom_94 rfl rfl ?_
      refine px_iload dX3_countFrom_95 rfl ?_
      refine px_iadd dX3_countFrom_97 ?_
      refine px_goto (tgt := 104) dX3_countFrom_98 (by decide) ?_
      obtain ⟨z7, hz7⟩ : ∃ y : Int32, y = x3 + x4 := ⟨_, rfl⟩
      have h := h z7 hz7
      refine px_namei hz7 ?_
      refine px_istore (ls2 := [some (.ref 31), none, none, some (.int x3), some (.int x4), some (.int x5), some (.int s0), some (.int z7)]) dX3_countFrom_104 (by decide) rfl ?_
      refine px_iload dX3_countFrom_106 rfl ?_
      refine px_aload_n dX3_countFrom_108 rfl rfl ?_
      refine px_iload dX3_countFrom_109 rfl ?_
      refine px_iload dX3_countFrom_111 rfl ?_
      refine px_callV_I (As := [.int s0, .int z7]) (st := [.int x5]) dX3_countFrom_113 lk_X3_103.1 lk_X3_103.2 (b := 31) zl_31 zk_31 (by decide) rfl (by decide) rfl (Nat.le_of_ble_eq_true rfl) rfl rfl (Nat.le_of_ble_eq_true rfl) ⟨Nat.le_refl _, Nat.le_refl _, Nat.le_refl _⟩ ?_
      refine PAt.mono h (fun v κ gi8 gl9 hq => ?_)
      obtain ⟨rfl, r10, rfl, h⟩ := hq
      refine px_iadd dX3_countFrom_116 ?_
      exact px_ireturn dX3_countFrom_117 rfl ⟨.int, rfl, rfl, rfl⟩ ⟨rfl, _, rfl, h⟩
def f_X3_countOf (x1 : Int32) (x2 : Int32) (gi : Gi) (gl : Gl) (Q : Int32 → Gi → Gl → Prop) : Prop :=
∀ z1 : Int32, z1 = jmax x1 (0 : Int32) →
∀ z2 : Int32, z2 = jmin x2 (3599 : Int32) →
if z1 ≤ z2 then
(vp_in (z2 + (1 : Int32)) 3601 ∧
vp_in z1 3601 ∧
Q ((gi 32 (z2 + (1 : Int32)).toNatClampNeg) - (gi 32 z1.toNatClampNeg)) gi gl)
else
(Q (0 : Int32) gi gl)
set_option maxRecDepth 100000 in
theorem v_X3_countOf {x1 : Int32} {x2 : Int32} {gi : Gi} {gl : Gl} {Q : Int32 → Gi → Gl → Prop}  (h : f_X3_countOf x1 x2 gi gl Q) : p_X3_countOf x1 x2 gi gl Q := by
  unfold f_X3_countOf at h
  show PAt mX3_countOf NN NN κF 0 [some (.ref 31), some (.int x1), some (.int x2), none, none] [] gi gl _
  refine px_iload_n dX3_countOf_0 rfl rfl ?_
  refine px_iconst (v := (0 : Int32)) dX3_countOf_1 (by decide) ?_
  refine px_mmax dX3_countOf_2 w_1089 w_439 w_112 w_440 (by decide) (Nat.le_of_ble_eq_true rfl) ⟨Nat.le_refl _, Nat.le_refl _⟩ ?_
  obtain ⟨z1, hz1⟩ : ∃ y : Int32, y = jmax x1 (0 : Int32) := ⟨_, rfl⟩
  have h := h z1 hz1
  refine px_namei hz1 ?_
  refine px_istore_n (ls2 := [some (.ref 31), some (.int x1), some (.int x2), some (.int z1), none]) (i := 3) rfl dX3_countOf_5 (by decide) rfl ?_
  refine px_iload_n dX3_countOf_6 rfl rfl ?_
  refine px_sipush (v := (3599 : Int32)) dX3_countOf_7 (by decide) ?_
  refine px_mmin dX3_countOf_10 w_1073 w_436 w_112 w_437 (by decide) (Nat.le_of_ble_eq_true rfl) ⟨Nat.le_refl _, Nat.le_refl _⟩ ?_
  obtain ⟨z2, hz2⟩ : ∃ y : Int32, y = jmin x2 (3599 : Int32) := ⟨_, rfl⟩
  have h := h z2 hz2
  refine px_namei hz2 ?_
  refine px_istore (ls2 := [some (.ref 31), some (.int x1), some (.int x2), some (.int z1), some (.int z2)]) dX3_countOf_13 (by decide) rfl ?_
  refine px_iload_n dX3_countOf_15 rfl rfl ?_
  refine px_iload dX3_countOf_16 rfl ?_
  refine px_icmp_le (tgt := 25) dX3_countOf_18 (by decide) ?_
  by_cases hc : z1 ≤ z2
  · rw [if_pos hc] at h ⊢
    refine px_aload_n dX3_countOf_25 rfl rfl ?_
    refine gf_X3_9 rfl dX3_countOf_26 zl_31 zk_31 rfl zr_31_2 zl_32 ?_
    refine px_iload dX3_countOf_29 rfl ?_
    refine px_iconst (v := (1 : Int32)) dX3_countOf_31 (by decide) ?_
    refine px_iadd dX3_countOf_32 ?_
    obtain ⟨hi, h⟩ := h
    refine px_iaload (n := 3601) dX3_countOf_33 zl_32 zk_32 zs_32 hi ?_
    refine px_aload_n dX3_countOf_34 rfl rfl ?_
    refine gf_X3_9 rfl dX3_countOf_35 zl_31 zk_31 rfl zr_31_2 zl_32 ?_
    refine px_iload_n dX3_countOf_38 rfl rfl ?_
    obtain ⟨hi, h⟩ := h
    refine px_iaload (n := 3601) dX3_countOf_39 zl_32 zk_32 zs_32 hi ?_
    refine px_isub dX3_countOf_40 ?_
    exact px_ireturn dX3_countOf_41 rfl ⟨.int, rfl, rfl, rfl⟩ ⟨rfl, _, rfl, h⟩
  · rw [if_neg hc] at h ⊢
    refine px_iconst (v := (0 : Int32)) dX3_countOf_21 (by decide) ?_
    refine px_goto (tgt := 41) dX3_countOf_22 (by decide) ?_
    exact px_ireturn dX3_countOf_41 rfl ⟨.int, rfl, rfl, rfl⟩ ⟨rfl, _, rfl, h⟩
