/-! laid by program: X9 -/
def f_X9_goesTo (x1 : Int32) (gi : Gi) (gl : Gl) (Q : Int32 → Gi → Gl → Prop) : Prop :=
p_X10_has 2 (2 : Int32) x1 gi gl (fun (r3 : Int32) (gi1 : Gi) (gl2 : Gl) =>
if ¬ r3 = 0 then
(p_X10_of 2 (2 : Int32) x1 (0 : Int32) gi1 gl2 (fun (r6 : Int32) (gi4 : Gi) (gl5 : Gl) =>
∀ gi7 : Gi, gi7 = uI gi4 23 (upd (gi4 23) 1 r6) →
p_X10_of 2 (2 : Int32) x1 (1 : Int32) gi7 gl5 (fun (r10 : Int32) (gi8 : Gi) (gl9 : Gl) =>
∀ gi11 : Gi, gi11 = uI gi8 23 (upd (gi8 23) 2 r10) →
p_X10_of 2 (2 : Int32) x1 (2 : Int32) gi11 gl9 (fun (r14 : Int32) (gi12 : Gi) (gl13 : Gl) =>
∀ gi15 : Gi, gi15 = uI gi12 23 (upd (gi12 23) 3 r14) →
Q (1 : Int32) gi15 gl13))))
else
(Q (0 : Int32) gi1 gl2))
set_option maxRecDepth 100000 in
theorem v_X9_goesTo {x1 : Int32} {gi : Gi} {gl : Gl} {Q : Int32 → Gi → Gl → Prop}  (h : f_X9_goesTo x1 gi gl Q) : p_X9_goesTo x1 gi gl Q := by
  unfold f_X9_goesTo at h
  show PAt mX9_goesTo NN NN κF 0 [some (.ref 23), some (.int x1)] [] gi gl _
  refine px_aload_n dX9_goesTo_0 rfl rfl ?_
  refine gf_X9_15 rfl dX9_goesTo_1 zl_23 zk_23 rfl zr_23_0 zl_2 ?_
  refine px_iconst (v := (2 : Int32)) dX9_goesTo_4 (by decide) ?_
  refine px_iload_n dX9_goesTo_5 rfl rfl ?_
  refine px_callV_I (As := [.int (2 : Int32), .int x1]) (st := []) dX9_goesTo_6 lk_X9_19.1 lk_X9_19.2 (b := 2) zl_2 zk_2 (by decide) rfl (by decide) rfl (Nat.le_of_ble_eq_true rfl) rfl rfl (Nat.le_of_ble_eq_true rfl) ⟨Nat.le_refl _, Nat.le_refl _, Nat.le_refl _⟩ ?_
  refine PAt.mono h (fun v κ gi1 gl2 hq => ?_)
  obtain ⟨rfl, r3, rfl, h⟩ := hq
  refine px_if_ne (tgt := 14) dX9_goesTo_9 (by decide) ?_
  by_cases hc : ¬ r3 = 0
  · rw [if_pos hc] at h ⊢
    refine px_aload_n dX9_goesTo_14 rfl rfl ?_
    refine px_aload_n dX9_goesTo_15 rfl rfl ?_
    refine gf_X9_15 rfl dX9_goesTo_16 zl_23 zk_23 rfl zr_23_0 zl_2 ?_
    refine px_iconst (v := (2 : Int32)) dX9_goesTo_19 (by decide) ?_
    refine px_iload_n dX9_goesTo_20 rfl rfl ?_
    refine px_iconst (v := (0 : Int32)) dX9_goesTo_21 (by decide) ?_
    refine px_callV_I (As := [.int (2 : Int32), .int x1, .int (0 : Int32)]) (st := [.ref 23]) dX9_goesTo_22 lk_X9_25.1 lk_X9_25.2 (b := 2) zl_2 zk_2 (by decide) rfl (by decide) rfl (Nat.le_of_ble_eq_true rfl) rfl rfl (Nat.le_of_ble_eq_true rfl) ⟨Nat.le_refl _, Nat.le_refl _, Nat.le_refl _⟩ ?_
    refine PAt.mono h (fun v κ gi4 gl5 hq => ?_)
    obtain ⟨rfl, r6, rfl, h⟩ := hq
    refine pf_X9_29 rfl dX9_goesTo_25 zl_23 zk_23 ?_
    obtain ⟨gi7, hgi7⟩ : ∃ y : Gi, y = uI gi4 23 (upd (gi4 23) 1 r6) := ⟨_, rfl⟩
    have h := h gi7 hgi7
    refine px_namegi hgi7 ?_
    refine px_aload_n dX9_goesTo_28 rfl rfl ?_
    refine px_aload_n dX9_goesTo_29 rfl rfl ?_
    refine gf_X9_15 rfl dX9_goesTo_30 zl_23 zk_23 rfl zr_23_0 zl_2 ?_
    refine px_iconst (v := (2 : Int32)) dX9_goesTo_33 (by decide) ?_
    refine px_iload_n dX9_goesTo_34 rfl rfl ?_
    refine px_iconst (v := (1 : Int32)) dX9_goesTo_35 (by decide) ?_
    refine px_callV_I (As := [.int (2 : Int32), .int x1, .int (1 : Int32)]) (st := [.ref 23]) dX9_goesTo_36 lk_X9_25.1 lk_X9_25.2 (b := 2) zl_2 zk_2 (by decide) rfl (by decide) rfl (Nat.le_of_ble_eq_true rfl) rfl rfl (Nat.le_of_ble_eq_true rfl) ⟨Nat.le_refl _, Nat.le_refl _, Nat.le_refl _⟩ ?_
    refine PAt.mono h (fun v κ gi8 gl9 hq => ?_)
    obtain ⟨rfl, r10, rfl, h⟩ := hq
    refine pf_X9_32 rfl dX9_goesTo_39 zl_23 zk_23 ?_
    obtain ⟨gi11, hgi11⟩ : ∃ y : Gi, y = uI gi8 23 (upd (gi8 23) 2 r10) := ⟨_, rfl⟩
    have h := h gi11 hgi11
    refine px_namegi hgi11 ?_
    refine px_aload_n dX9_goesTo_42 rfl rfl ?_
    refine px_aload_n dX9_goesTo_43 rfl rfl ?_
    refine gf_X9_15 rfl dX9_goesTo_44 zl_23 zk_23 rfl zr_23_0 zl_2 ?_
    refine px_iconst (v := (2 : Int32)) dX9_goesTo_47 (by decide) ?_
    refine px_iload_n dX9_goesTo_48 rfl rfl ?_
    refine px_iconst (v := (2 : Int32)) dX9_goesTo_49 (by decide) ?_
    refine px_callV_I (As := [.int (2 : Int32), .int x1, .int (2 : Int32)]) (st := [.ref 23]) dX9_goesTo_50 lk_X9_25.1 lk_X9_25.2 (b := 2) zl_2 zk_2 (by decide) rfl (by decide) rfl (Nat.le_of_ble_eq_true rfl) rfl rfl (Nat.le_of_ble_eq_true rfl) ⟨Nat.le_refl _, Nat.le_refl _, Nat.le_refl _⟩ ?_
    refine PAt.mono h (fun v κ gi12 gl13 hq => ?_)
    obtain ⟨rfl, r14, rfl, h⟩ := hq
    refine pf_X9_35 rfl dX9_goesTo_53 zl_23 zk_23 ?_
    obtain ⟨gi15, hgi15⟩ : ∃ y : Gi, y = uI gi12 23 (upd (gi12 23) 3 r14) := ⟨_, rfl⟩
    have h := h gi15 hgi15
    refine px_namegi hgi15 ?_
    refine px_iconst (v := (1 : Int32)) dX9_goesTo_56 (by decide) ?_
    exact px_ireturn dX9_goesTo_57 rfl ⟨.boolean, rfl, rfl, by decide⟩ ⟨rfl, _, rfl, h⟩
  · rw [if_neg hc] at h ⊢
    refine px_iconst (v := (0 : Int32)) dX9_goesTo_12 (by decide) ?_
    exact px_ireturn dX9_goesTo_13 rfl ⟨.boolean, rfl, rfl, by decide⟩ ⟨rfl, _, rfl, h⟩
abbrev p_X9_shines_12 (x1 : Int32) (x2 : Int32) (x3 : Int32) (x4 : Int32) (gi : Gi) (gl : Gl) (Q : Int32 → Gi → Gl → Prop) : Prop := PAt mX9_shines NN NN κF 12 [some (.ref 23), some (.int x1), some (.int x2), some (.int x3), some (.int x4), none, none, none, none, none] [] gi gl (RiQ Q)
abbrev p_X9_shines_39 (x1 : Int32) (x2 : Int32) (x3 : Int32) (x4 : Int32) (gi : Gi) (gl : Gl) (Q : Int32 → Gi → Gl → Prop) : Prop := PAt mX9_shines NN NN κF 39 [some (.ref 23), some (.int x1), some (.int x2), some (.int x3), some (.int x4), none, none, none, none, none] [] gi gl (RiQ Q)
abbrev p_X9_shines_65 (x1 : Int32) (x2 : Int32) (x3 : Int32) (x4 : Int32) (s0 : Int32) (gi : Gi) (gl : Gl) (Q : Int32 → Gi → Gl → Prop) : Prop := PAt mX9_shines NN NN κF 65 [some (.ref 23), some (.int x1), some (.int x2), some (.int x3), some (.int x4), none, none, none, none, none] [.int s0] gi gl (RiQ Q)
abbrev p_X9_shines_99 (x1 : Int32) (x2 : Int32) (x4 : Int32) (x5 : Int32) (s0 : Int32) (gi : Gi) (gl : Gl) (Q : Int32 → Gi → Gl → Prop) : Prop := PAt mX9_shines NN NN κF 99 [some (.ref 23), some (.int x1), some (.int x2), none, some (.int x4), some (.int x5), none, none, none, none] [.int s0] gi gl (RiQ Q)
abbrev p_X9_shines_144 (x1 : Int32) (x4 : Int32) (x6 : Int32) (x8 : Int32) (s0 : Int32) (gi : Gi) (gl : Gl) (Q : Int32 → Gi → Gl → Prop) : Prop := PAt mX9_shines NN NN κF 144 [some (.ref 23), some (.int x1), none, none, some (.int x4), none, some (.int x6), none, some (.int x8), none] [.int s0, .ref 23] gi gl (RiQ Q)
def f_X9_shines (x1 : Int32) (x2 : Int32) (gi : Gi) (gl : Gl) (Q : Int32 → Gi → Gl → Prop) : Prop :=
p_X10_sunRowsIn 2 x1 gi gl (fun (r3 : Int32) (gi1 : Gi) (gl2 : Gl) =>
p_X9_shines_12 x1 x2 r3 (0 : Int32) gi1 gl2 Q)
def f_X9_shines_12 (x1 : Int32) (x2 : Int32) (x3 : Int32) (x4 : Int32) (gi : Gi) (gl : Gl) (Q : Int32 → Gi → Gl → Prop) : Prop :=
if x3 ≤ x4 then
(p_X9_shines_39 x1 x2 x3 x4 gi gl Q)
else
(p_X10_sunNumber 2 x1 x4 (0 : Int32) gi gl (fun (r3 : Int32) (gi1 : Gi) (gl2 : Gl) =>
if x2 ≤ r3 then
(p_X9_shines_39 x1 x2 x3 x4 gi1 gl2 Q)
else
(p_X9_shines_12 x1 x2 x3 (x4 + (1 : Int32)) gi1 gl2 Q)))
def f_X9_shines_39 (x1 : Int32) (x2 : Int32) (x3 : Int32) (x4 : Int32) (gi : Gi) (gl : Gl) (Q : Int32 → Gi → Gl → Prop) : Prop :=
if x3 ≤ x4 then
(p_X9_shines_65 x1 x2 x3 x4 (0 : Int32) gi gl Q)
else
(p_X10_sunNumber 2 x1 x4 (0 : Int32) gi gl (fun (r3 : Int32) (gi1 : Gi) (gl2 : Gl) =>
if ¬ r3 = x2 then
(p_X9_shines_65 x1 x2 x3 x4 (0 : Int32) gi1 gl2 Q)
else
(p_X9_shines_65 x1 x2 x3 x4 (1 : Int32) gi1 gl2 Q)))
def f_X9_shines_65 (x1 : Int32) (x2 : Int32) (x3 : Int32) (x4 : Int32) (s0 : Int32) (gi : Gi) (gl : Gl) (Q : Int32 → Gi → Gl → Prop) : Prop :=
if x3 ≤ x4 then
(Q (0 : Int32) gi gl)
else
(if ¬ x4 = 0 then
(if s0 = 0 then
(p_X9_shines_99 x1 x2 x4 s0 (x4 - (1 : Int32)) gi gl Q)
else
(p_X9_shines_99 x1 x2 x4 s0 x4 gi gl Q))
else
(if ¬ s0 = 0 then
(if s0 = 0 then
(p_X9_shines_99 x1 x2 x4 s0 (x4 - (1 : Int32)) gi gl Q)
else
(p_X9_shines_99 x1 x2 x4 s0 x4 gi gl Q))
else
(Q (0 : Int32) gi gl)))
def f_X9_shines_99 (x1 : Int32) (x2 : Int32) (x4 : Int32) (x5 : Int32) (s0 : Int32) (gi : Gi) (gl : Gl) (Q : Int32 → Gi → Gl → Prop) : Prop :=
p_X10_sunNumber 2 x1 s0 (0 : Int32) gi gl (fun (r3 : Int32) (gi1 : Gi) (gl2 : Gl) =>
∀ z4 : Int32, z4 = x2 - r3 →
if x5 = 0 then
(p_X10_sunNumber 2 x1 x4 (0 : Int32) gi1 gl2 (fun (r7 : Int32) (gi5 : Gi) (gl6 : Gl) =>
p_X9_shines_144 x1 x4 s0 z4 (r7 - r3) gi5 gl6 Q))
else
(p_X9_shines_144 x1 x4 s0 z4 (1 : Int32) gi1 gl2 Q))
def f_X9_shines_144 (x1 : Int32) (x4 : Int32) (x6 : Int32) (x8 : Int32) (s0 : Int32) (gi : Gi) (gl : Gl) (Q : Int32 → Gi → Gl → Prop) : Prop :=
∀ gi1 : Gi, gi1 = uI gi 23 (upd (gi 23) 6 s0) →
∀ z2 : Int32, z2 = (gi1 23 6) - x8 →
p_X10_sunNumber 2 x1 x6 (1 : Int32) gi1 gl (fun (r5 : Int32) (gi3 : Gi) (gl4 : Gl) =>
p_X10_sunNumber 2 x1 x4 (1 : Int32) gi3 gl4 (fun (r8 : Int32) (gi6 : Gi) (gl7 : Gl) =>
∀ gi9 : Gi, gi9 = uI gi6 23 (upd (gi6 23) 4 ((r5 * z2) + (r8 * x8))) →
p_X10_sunNumber 2 x1 x6 (2 : Int32) gi9 gl7 (fun (r12 : Int32) (gi10 : Gi) (gl11 : Gl) =>
p_X10_sunNumber 2 x1 x4 (2 : Int32) gi10 gl11 (fun (r15 : Int32) (gi13 : Gi) (gl14 : Gl) =>
∀ gi16 : Gi, gi16 = uI gi13 23 (upd (gi13 23) 5 ((r12 * z2) + (r15 * x8))) →
Q (1 : Int32) gi16 gl14))))
set_option maxRecDepth 100000 in
theorem v_X9_shines {x1 : Int32} {x2 : Int32} {gi : Gi} {gl : Gl} {Q : Int32 → Gi → Gl → Prop}  (h : f_X9_shines x1 x2 gi gl Q) : p_X9_shines x1 x2 gi gl Q := by
  unfold f_X9_shines at h
  show PAt mX9_shines NN NN κF 0 [some (.ref 23), some (.int x1), some (.int x2), none, none, none, none, none, none, none] [] gi gl _
  refine px_aload_n dX9_shines_0 rfl rfl ?_
  refine gf_X9_15 rfl dX9_shines_1 zl_23 zk_23 rfl zr_23_0 zl_2 ?_
  refine px_iload_n dX9_shines_4 rfl rfl ?_
  refine px_callV_I (As := [.int x1]) (st := []) dX9_shines_5 lk_X9_38.1 lk_X9_38.2 (b := 2) zl_2 zk_2 (by decide) rfl (by decide) rfl (Nat.le_of_ble_eq_true rfl) rfl rfl (Nat.le_of_ble_eq_true rfl) ⟨Nat.le_refl _, Nat.le_refl _, Nat.le_refl _⟩ ?_
  refine PAt.mono h (fun v κ gi1 gl2 hq => ?_)
  obtain ⟨rfl, r3, rfl, h⟩ := hq
  refine px_istore_n (ls2 := [some (.ref 23), some (.int x1), some (.int x2), some (.int r3), none, none, none, none, none, none]) (i := 3) rfl dX9_shines_8 (by decide) rfl ?_
  refine px_iconst (v := (0 : Int32)) dX9_shines_9 (by decide) ?_
  refine px_istore (ls2 := [some (.ref 23), some (.int x1), some (.int x2), some (.int r3), some (.int (0 : Int32)), none, none, none, none, none]) dX9_shines_10 (by decide) rfl ?_
  exact PAt.forget h (lsub_at ⟨rfl, ⟨rfl, ⟨rfl, ⟨rfl, ⟨rfl, trivial⟩⟩⟩⟩⟩)
set_option maxRecDepth 100000 in
theorem v_X9_shines_12 {x1 : Int32} {x2 : Int32} {x3 : Int32} {x4 : Int32} {gi : Gi} {gl : Gl} {Q : Int32 → Gi → Gl → Prop}  (h : f_X9_shines_12 x1 x2 x3 x4 gi gl Q) : p_X9_shines_12 x1 x2 x3 x4 gi gl Q := by
  unfold f_X9_shines_12 at h
  show PAt mX9_shines NN NN κF 12 [some (.ref 23), some (.int x1), some (.int x2), some (.int x3), some (.int x4), none, none, none, none, none] [] gi gl _
  refine px_iload dX9_shines_12 rfl ?_
  refine px_iload_n dX9_shines_14 rfl rfl ?_
  refine px_icmp_ge (tgt := 39) dX9_shines_15 (by decide) ?_
  by_cases hc : x3 ≤ x4
  · rw [if_pos hc] at h ⊢
    exact PAt.forget h (lsub_at ⟨rfl, ⟨rfl, ⟨rfl, ⟨rfl, ⟨rfl, trivial⟩⟩⟩⟩⟩)
  · rw [if_neg hc] at h ⊢
    refine px_aload_n dX9_shines_18 rfl rfl ?_
    refine gf_X9_15 rfl dX9_shines_19 zl_23 zk_23 rfl zr_23_0 zl_2 ?_
    refine px_iload_n dX9_shines_22 rfl rfl ?_
    refine px_iload dX9_shines_23 rfl ?_
    refine px_iconst (v := (0 : Int32)) dX9_shines_25 (by decide) ?_
    refine px_callV_I (As := [.int x1, .int x4, .int (0 : Int32)]) (st := []) dX9_shines_26 lk_X9_42.1 lk_X9_42.2 (b := 2) zl_2 zk_2 (by decide) rfl (by decide) rfl (Nat.le_of_ble_eq_true rfl) rfl rfl (Nat.le_of_ble_eq_true rfl) ⟨Nat.le_refl _, Nat.le_refl _, Nat.le_refl _⟩ ?_
    refine PAt.mono h (fun v κ gi1 gl2 hq => ?_)
    obtain ⟨rfl, r3, rfl, h⟩ := hq
    refine px_iload_n dX9_shines_29 rfl rfl ?_
    refine px_icmp_ge (tgt := 39) dX9_shines_30 (by decide) ?_
    by_cases hc : x2 ≤ r3
    · rw [if_pos hc] at h ⊢
      exact PAt.forget h (lsub_at ⟨rfl, ⟨rfl, ⟨rfl, ⟨rfl, ⟨rfl, trivial⟩⟩⟩⟩⟩)
    · rw [if_neg hc] at h ⊢
      refine px_iinc (v := x4 + (1 : Int32)) (ls2 := [some (.ref 23), some (.int x1), some (.int x2), some (.int x3), some (.int (x4 + (1 : Int32))), none, none, none, none, none]) dX9_shines_33 rfl rfl (by decide) rfl ?_
      refine px_goto (tgt := 12) dX9_shines_36 (by decide) ?_
      exact PAt.forget h (lsub_at ⟨rfl, ⟨rfl, ⟨rfl, ⟨rfl, ⟨rfl, trivial⟩⟩⟩⟩⟩)
set_option maxRecDepth 100000 in
theorem v_X9_shines_39 {x1 : Int32} {x2 : Int32} {x3 : Int32} {x4 : Int32} {gi : Gi} {gl : Gl} {Q : Int32 → Gi → Gl → Prop}  (h : f_X9_shines_39 x1 x2 x3 x4 gi gl Q) : p_X9_shines_39 x1 x2 x3 x4 gi gl Q := by
  unfold f_X9_shines_39 at h
  show PAt mX9_shines NN NN κF 39 [some (.ref 23), some (.int x1), some (.int x2), some (.int x3), some (.int x4), none, none, none, none, none] [] gi gl _
  refine px_iload dX9_shines_39 rfl ?_
  refine px_iload_n dX9_shines_41 rfl rfl ?_
  refine px_icmp_ge (tgt := 64) dX9_shines_42 (by decide) ?_
  by_cases hc : x3 ≤ x4
  · rw [if_pos hc] at h ⊢
    refine px_iconst (v := (0 : Int32)) dX9_shines_64 (by decide) ?_
    exact PAt.forget h (lsub_at ⟨rfl, ⟨rfl, ⟨rfl, ⟨rfl, ⟨rfl, trivial⟩⟩⟩⟩⟩)
  · rw [if_neg hc] at h ⊢
    refine px_aload_n dX9_shines_45 rfl rfl ?_
    refine gf_X9_15 rfl dX9_shines_46 zl_23 zk_23 rfl zr_23_0 zl_2 ?_
    refine px_iload_n dX9_shines_49 rfl rfl ?_
    refine px_iload dX9_shines_50 rfl ?_
    refine px_iconst (v := (0 : Int32)) dX9_shines_52 (by decide) ?_
    refine px_callV_I (As := [.int x1, .int x4, .int (0 : Int32)]) (st := []) dX9_shines_53 lk_X9_42.1 lk_X9_42.2 (b := 2) zl_2 zk_2 (by decide) rfl (by decide) rfl (Nat.le_of_ble_eq_true rfl) rfl rfl (Nat.le_of_ble_eq_true rfl) ⟨Nat.le_refl _, Nat.le_refl _, Nat.le_refl _⟩ ?_
    refine PAt.mono h (fun v κ gi1 gl2 hq => ?_)
    obtain ⟨rfl, r3, rfl, h⟩ := hq
    refine px_iload_n dX9_shines_56 rfl rfl ?_
    refine px_icmp_ne (tgt := 64) dX9_shines_57 (by decide) ?_
    by_cases hc : ¬ r3 = x2
    · rw [if_pos hc] at h ⊢
      refine px_iconst (v := (0 : Int32)) dX9_shines_64 (by decide) ?_
      exact PAt.forget h (lsub_at ⟨rfl, ⟨rfl, ⟨rfl, ⟨rfl, ⟨rfl, trivial⟩⟩⟩⟩⟩)
    · rw [if_neg hc] at h ⊢
      refine px_iconst (v := (1 : Int32)) dX9_shines_60 (by decide) ?_
      refine px_goto (tgt := 65) dX9_shines_61 (by decide) ?_
      exact PAt.forget h (lsub_at ⟨rfl, ⟨rfl, ⟨rfl, ⟨rfl, ⟨rfl, trivial⟩⟩⟩⟩⟩)
set_option maxRecDepth 100000 in
theorem v_X9_shines_65 {x1 : Int32} {x2 : Int32} {x3 : Int32} {x4 : Int32} {s0 : Int32} {gi : Gi} {gl : Gl} {Q : Int32 → Gi → Gl → Prop}  (h : f_X9_shines_65 x1 x2 x3 x4 s0 gi gl Q) : p_X9_shines_65 x1 x2 x3 x4 s0 gi gl Q := by
  unfold f_X9_shines_65 at h
  show PAt mX9_shines NN NN κF 65 [some (.ref 23), some (.int x1), some (.int x2), some (.int x3), some (.int x4), none, none, none, none, none] [.int s0] gi gl _
  refine px_istore (ls2 := [some (.ref 23), some (.int x1), some (.int x2), some (.int x3), some (.int x4), some (.int s0), none, none, none, none]) dX9_shines_65 (by decide) rfl ?_
  refine px_iload dX9_shines_67 rfl ?_
  refine px_iload_n dX9_shines_69 rfl rfl ?_
  refine px_icmp_ge (tgt := 83) dX9_shines_70 (by decide) ?_
  by_cases hc : x3 ≤ x4
  · rw [if_pos hc] at h ⊢
    refine px_iconst (v := (0 : Int32)) dX9_shines_83 (by decide) ?_
    exact px_ireturn dX9_shines_84 rfl ⟨.boolean, rfl, rfl, by decide⟩ ⟨rfl, _, rfl, h⟩
  · rw [if_neg hc] at h ⊢
    refine px_iload dX9_shines_73 rfl ?_
    refine px_if_ne (tgt := 85) dX9_shines_75 (by decide) ?_
    by_cases hc : ¬ x4 = 0
    · rw [if_pos hc] at h ⊢
      refine px_iload dX9_shines_85 rfl ?_
      refine px_if_eq (tgt := 95) dX9_shines_87 (by decide) ?_
      by_cases hc : s0 = 0
      · rw [if_pos hc] at h ⊢
        refine px_iload dX9_shines_95 rfl ?_
        refine px_iconst (v := (1 : Int32)) dX9_shines_97 (by decide) ?_
        refine px_isub dX9_shines_98 ?_
        exact PAt.forget h (lsub_at ⟨rfl, ⟨rfl, ⟨rfl, ⟨rfl, ⟨rfl, trivial⟩⟩⟩⟩⟩)
      · rw [if_neg hc] at h ⊢
        refine px_iload dX9_shines_90 rfl ?_
        refine px_goto (tgt := 99) dX9_shines_92 (by decide) ?_
        exact PAt.forget h (lsub_at ⟨rfl, ⟨rfl, ⟨rfl, ⟨rfl, ⟨rfl, trivial⟩⟩⟩⟩⟩)
    · rw [if_neg hc] at h ⊢
      refine px_iload dX9_shines_78 rfl ?_
      refine px_if_ne (tgt := 85) dX9_shines_80 (by decide) ?_
      by_cases hc : ¬ s0 = 0
      · rw [if_pos hc] at h ⊢
        refine px_iload dX9_shines_85 rfl ?_
        refine px_if_eq (tgt := 95) dX9_shines_87 (by decide) ?_
        by_cases hc : s0 = 0
        · rw [if_pos hc] at h ⊢
          refine px_iload dX9_shines_95 rfl ?_
          refine px_iconst (v := (1 : Int32)) dX9_shines_97 (by decide) ?_
          refine px_isub dX9_shines_98 ?_
          exact PAt.forget h (lsub_at ⟨rfl, ⟨rfl, ⟨rfl, ⟨rfl, ⟨rfl, trivial⟩⟩⟩⟩⟩)
        · rw [if_neg hc] at h ⊢
          refine px_iload dX9_shines_90 rfl ?_
          refine px_goto (tgt := 99) dX9_shines_92 (by decide) ?_
          exact PAt.forget h (lsub_at ⟨rfl, ⟨rfl, ⟨rfl, ⟨rfl, ⟨rfl, trivial⟩⟩⟩⟩⟩)
      · rw [if_neg hc] at h ⊢
        refine px_iconst (v := (0 : Int32)) dX9_shines_83 (by decide) ?_
        exact px_ireturn dX9_shines_84 rfl ⟨.boolean, rfl, rfl, by decide⟩ ⟨rfl, _, rfl, h⟩
set_option maxRecDepth 100000 in
theorem v_X9_shines_99 {x1 : Int32} {x2 : Int32} {x4 : Int32} {x5 : Int32} {s0 : Int32} {gi : Gi} {gl : Gl} {Q : Int32 → Gi → Gl → Prop}  (h : f_X9_shines_99 x1 x2 x4 x5 s0 gi gl Q) : p_X9_shines_99 x1 x2 x4 x5 s0 gi gl Q := by
  unfold f_X9_shines_99 at h
  show PAt mX9_shines NN NN κF 99 [some (.ref 23), some (.int x1), some (.int x2), none, some (.int x4), some (.int x5), none, none, none, none] [.int s0] gi gl _
  refine px_istore (ls2 := [some (.ref 23), some (.int x1), some (.int x2), none, some (.int x4), some (.int x5), some (.int s0), none, none, none]) dX9_shines_99 (by decide) rfl ?_
  refine px_aload_n dX9_shines_101 rfl rfl ?_
  refine gf_X9_15 rfl dX9_shines_102 zl_23 zk_23 rfl zr_23_0 zl_2 ?_
  refine px_iload_n dX9_shines_105 rfl rfl ?_
  refine px_iload dX9_shines_106 rfl ?_
  refine px_iconst (v := (0 : Int32)) dX9_shines_108 (by decide) ?_
  refine px_callV_I (As := [.int x1, .int s0, .int (0 : Int32)]) (st := []) dX9_shines_109 lk_X9_42.1 lk_X9_42.2 (b := 2) zl_2 zk_2 (by decide) rfl (by decide) rfl (Nat.le_of_ble_eq_true rfl) rfl rfl (Nat.le_of_ble_eq_true rfl) ⟨Nat.le_refl _, Nat.le_refl _, Nat.le_refl _⟩ ?_
  refine PAt.mono h (fun v κ gi1 gl2 hq => ?_)
  obtain ⟨rfl, r3, rfl, h⟩ := hq
  refine px_istore (ls2 := [some (.ref 23), some (.int x1), some (.int x2), none, some (.int x4), some (.int x5), some (.int s0), some (.int r3), none, none]) dX9_shines_112 (by decide) rfl ?_
  refine px_iload_n dX9_shines_114 rfl rfl ?_
  refine px_iload dX9_shines_115 rfl ?_
  refine px_isub dX9_shines_117 ?_
  obtain ⟨z4, hz4⟩ : ∃ y : Int32, y = x2 - r3 := ⟨_, rfl⟩
  have h := h z4 hz4
  refine px_namei hz4 ?_
  refine px_istore (ls2 := [some (.ref 23), some (.int x1), some (.int x2), none, some (.int x4), some (.int x5), some (.int s0), some (.int r3), some (.int z4), none]) dX9_shines_118 (by decide) rfl ?_
  refine px_aload_n dX9_shines_120 rfl rfl ?_
  refine px_iload dX9_shines_121 rfl ?_
  refine px_if_eq (tgt := 130) dX9_shines_123 (by decide) ?_
  by_cases hc : x5 = 0
  · rw [if_pos hc] at h ⊢
    refine px_aload_n dX9_shines_130 rfl rfl ?_
    refine gf_X9_15 rfl dX9_shines_131 zl_23 zk_23 rfl zr_23_0 zl_2 ?_
    refine px_iload_n dX9_shines_134 rfl rfl ?_
    refine px_iload dX9_shines_135 rfl ?_
    refine px_iconst (v := (0 : Int32)) dX9_shines_137 (by decide) ?_
    refine px_callV_I (As := [.int x1, .int x4, .int (0 : Int32)]) (st := [.ref 23]) dX9_shines_138 lk_X9_42.1 lk_X9_42.2 (b := 2) zl_2 zk_2 (by decide) rfl (by decide) rfl (Nat.le_of_ble_eq_true rfl) rfl rfl (Nat.le_of_ble_eq_true rfl) ⟨Nat.le_refl _, Nat.le_refl _, Nat.le_refl _⟩ ?_
    refine PAt.mono h (fun v κ gi5 gl6 hq => ?_)
    obtain ⟨rfl, r7, rfl, h⟩ := hq
    refine px_iload dX9_shines_141 rfl ?_
    refine px_isub dX9_shines_143 ?_
    exact PAt.forget h (lsub_at ⟨rfl, ⟨rfl, ⟨rfl, ⟨rfl, ⟨rfl, trivial⟩⟩⟩⟩⟩)
  · rw [if_neg hc] at h ⊢
    refine px_iconst (v := (1 : Int32)) dX9_shines_126 (by decide) ?_
    refine px_goto (tgt := 144) dX9_shines_127 (by decide) ?_
    exact PAt.forget h (lsub_at ⟨rfl, ⟨rfl, ⟨rfl, ⟨rfl, ⟨rfl, trivial⟩⟩⟩⟩⟩)
set_option maxRecDepth 100000 in
theorem v_X9_shines_144 {x1 : Int32} {x4 : Int32} {x6 : Int32} {x8 : Int32} {s0 : Int32} {gi : Gi} {gl : Gl} {Q : Int32 → Gi → Gl → Prop}  (h : f_X9_shines_144 x1 x4 x6 x8 s0 gi gl Q) : p_X9_shines_144 x1 x4 x6 x8 s0 gi gl Q := by
  unfold f_X9_shines_144 at h
  show PAt mX9_shines NN NN κF 144 [some (.ref 23), some (.int x1), none, none, some (.int x4), none, some (.int x6), none, some (.int x8), none] [.int s0, .ref 23] gi gl _
  refine pf_X9_9 rfl dX9_shines_144 zl_23 zk_23 ?_
  obtain ⟨gi1, hgi1⟩ : ∃ y : Gi, y = uI gi 23 (upd (gi 23) 6 s0) := ⟨_, rfl⟩
  have h := h gi1 hgi1
  refine px_namegi hgi1 ?_
  refine px_aload_n dX9_shines_147 rfl rfl ?_
  refine gf_X9_9 rfl dX9_shines_148 zl_23 zk_23 ?_
  refine px_iload dX9_shines_151 rfl ?_
  refine px_isub dX9_shines_153 ?_
  obtain ⟨z2, hz2⟩ : ∃ y : Int32, y = (gi1 23 6) - x8 := ⟨_, rfl⟩
  have h := h z2 hz2
  refine px_namei hz2 ?_
  refine px_istore (ls2 := [some (.ref 23), some (.int x1), none, none, some (.int x4), none, some (.int x6), none, some (.int x8), some (.int z2)]) dX9_shines_154 (by decide) rfl ?_
  refine px_aload_n dX9_shines_156 rfl rfl ?_
  refine px_aload_n dX9_shines_157 rfl rfl ?_
  refine gf_X9_15 rfl dX9_shines_158 zl_23 zk_23 rfl zr_23_0 zl_2 ?_
  refine px_iload_n dX9_shines_161 rfl rfl ?_
  refine px_iload dX9_shines_162 rfl ?_
  refine px_iconst (v := (1 : Int32)) dX9_shines_164 (by decide) ?_
  refine px_callV_I (As := [.int x1, .int x6, .int (1 : Int32)]) (st := [.ref 23]) dX9_shines_165 lk_X9_42.1 lk_X9_42.2 (b := 2) zl_2 zk_2 (by decide) rfl (by decide) rfl (Nat.le_of_ble_eq_true rfl) rfl rfl (Nat.le_of_ble_eq_true rfl) ⟨Nat.le_refl _, Nat.le_refl _, Nat.le_refl _⟩ ?_
  refine PAt.mono h (fun v κ gi3 gl4 hq => ?_)
  obtain ⟨rfl, r5, rfl, h⟩ := hq
  refine px_iload dX9_shines_168 rfl ?_
  refine px_imul dX9_shines_170 ?_
  refine px_aload_n dX9_shines_171 rfl rfl ?_
  refine gf_X9_15 rfl dX9_shines_172 zl_23 zk_23 rfl zr_23_0 zl_2 ?_
  refine px_iload_n dX9_shines_175 rfl rfl ?_
  refine px_iload dX9_shines_176 rfl ?_
  refine px_iconst (v := (1 : Int32)) dX9_shines_178 (by decide) ?_
  refine px_callV_I (As := [.int x1, .int x4, .int (1 : Int32)]) (st := [.int (r5 * z2), .ref 23]) dX9_shines_179 lk_X9_42.1 lk_X9_42.2 (b := 2) zl_2 zk_2 (by decide) rfl (by decide) rfl (Nat.le_of_ble_eq_true rfl) rfl rfl (Nat.le_of_ble_eq_true rfl) ⟨Nat.le_refl _, Nat.le_refl _, Nat.le_refl _⟩ ?_
  refine PAt.mono h (fun v κ gi6 gl7 hq => ?_)
  obtain ⟨rfl, r8, rfl, h⟩ := hq
  refine px_iload dX9_shines_182 rfl ?_
  refine px_imul dX9_shines_184 ?_
  refine px_iadd dX9_shines_185 ?_
  refine pf_X9_45 rfl dX9_shines_186 zl_23 zk_23 ?_
  obtain ⟨gi9, hgi9⟩ : ∃ y : Gi, y = uI gi6 23 (upd (gi6 23) 4 ((r5 * z2) + (r8 * x8))) := ⟨_, rfl⟩
  have h := h gi9 hgi9
  refine px_namegi hgi9 ?_
  refine px_aload_n dX9_shines_189 rfl rfl ?_
  refine px_aload_n dX9_shines_190 rfl rfl ?_
  refine gf_X9_15 rfl dX9_shines_191 zl_23 zk_23 rfl zr_23_0 zl_2 ?_
  refine px_iload_n dX9_shines_194 rfl rfl ?_
  refine px_iload dX9_shines_195 rfl ?_
  refine px_iconst (v := (2 : Int32)) dX9_shines_197 (by decide) ?_
  refine px_callV_I (As := [.int x1, .int x6, .int (2 : Int32)]) (st := [.ref 23]) dX9_shines_198 lk_X9_42.1 lk_X9_42.2 (b := 2) zl_2 zk_2 (by decide) rfl (by decide) rfl (Nat.le_of_ble_eq_true rfl) rfl rfl (Nat.le_of_ble_eq_true rfl) ⟨Nat.le_refl _, Nat.le_refl _, Nat.le_refl _⟩ ?_
  refine PAt.mono h (fun v κ gi10 gl11 hq => ?_)
  obtain ⟨rfl, r12, rfl, h⟩ := hq
  refine px_iload dX9_shines_201 rfl ?_
  refine px_imul dX9_shines_203 ?_
  refine px_aload_n dX9_shines_204 rfl rfl ?_
  refine gf_X9_15 rfl dX9_shines_205 zl_23 zk_23 rfl zr_23_0 zl_2 ?_
  refine px_iload_n dX9_shines_208 rfl rfl ?_
  refine px_iload dX9_shines_209 rfl ?_
  refine px_iconst (v := (2 : Int32)) dX9_shines_211 (by decide) ?_
  refine px_callV_I (As := [.int x1, .int x4, .int (2 : Int32)]) (st := [.int (r12 * z2), .ref 23]) dX9_shines_212 lk_X9_42.1 lk_X9_42.2 (b := 2) zl_2 zk_2 (by decide) rfl (by decide) rfl (Nat.le_of_ble_eq_true rfl) rfl rfl (Nat.le_of_ble_eq_true rfl) ⟨Nat.le_refl _, Nat.le_refl _, Nat.le_refl _⟩ ?_
  refine PAt.mono h (fun v κ gi13 gl14 hq => ?_)
  obtain ⟨rfl, r15, rfl, h⟩ := hq
  refine px_iload dX9_shines_215 rfl ?_
  refine px_imul dX9_shines_217 ?_
  refine px_iadd dX9_shines_218 ?_
  refine pf_X9_48 rfl dX9_shines_219 zl_23 zk_23 ?_
  obtain ⟨gi16, hgi16⟩ : ∃ y : Gi, y = uI gi13 23 (upd (gi13 23) 5 ((r12 * z2) + (r15 * x8))) := ⟨_, rfl⟩
  have h := h gi16 hgi16
  refine px_namegi hgi16 ?_
  refine px_iconst (v := (1 : Int32)) dX9_shines_222 (by decide) ?_
  exact px_ireturn dX9_shines_223 rfl ⟨.boolean, rfl, rfl, by decide⟩ ⟨rfl, _, rfl, h⟩
def f_X9_lower  (gi : Gi) (gl : Gl) (Q : Int32 → Gi → Gl → Prop) : Prop :=
Q ((10 : Int32) * (gi 23 6)) gi gl
set_option maxRecDepth 100000 in
theorem v_X9_lower  {gi : Gi} {gl : Gl} {Q : Int32 → Gi → Gl → Prop}  (h : f_X9_lower  gi gl Q) : p_X9_lower  gi gl Q := by
  unfold f_X9_lower at h
  show PAt mX9_lower NN NN κF 0 [some (.ref 23)] [] gi gl _
  refine px_bipush (v := (10 : Int32)) dX9_lower_0 (by decide) ?_
  refine px_aload_n dX9_lower_2 rfl rfl ?_
  refine gf_X9_9 rfl dX9_lower_3 zl_23 zk_23 ?_
  refine px_imul dX9_lower_6 ?_
  exact px_ireturn dX9_lower_7 rfl ⟨.int, rfl, rfl, rfl⟩ ⟨rfl, _, rfl, h⟩
def f_X9_upperX  (gi : Gi) (gl : Gl) (Q : Int32 → Gi → Gl → Prop) : Prop :=
p_X9_lower  gi gl (fun (r3 : Int32) (gi1 : Gi) (gl2 : Gl) =>
Q (((gi 23 1) * r3) + ((gi1 23 3) * (gi1 23 4))) gi1 gl2)
set_option maxRecDepth 100000 in
theorem v_X9_upperX  {gi : Gi} {gl : Gl} {Q : Int32 → Gi → Gl → Prop}  (h : f_X9_upperX  gi gl Q) : p_X9_upperX  gi gl Q := by
  unfold f_X9_upperX at h
  show PAt mX9_upperX NN NN κF 0 [some (.ref 23)] [] gi gl _
  refine px_aload_n dX9_upperX_0 rfl rfl ?_
  refine gf_X9_29 rfl dX9_upperX_1 zl_23 zk_23 ?_
  refine px_aload_n dX9_upperX_4 rfl rfl ?_
  refine px_callV_I (As := []) (st := [.int (gi 23 1)]) dX9_upperX_5 lk_X9_51.1 lk_X9_51.2 (b := 23) zl_23 zk_23 (by decide) rfl (by decide) rfl (Nat.le_of_ble_eq_true rfl) rfl rfl (Nat.le_of_ble_eq_true rfl) ⟨Nat.le_refl _, Nat.le_refl _, Nat.le_refl _⟩ ?_
  refine PAt.mono h (fun v κ gi1 gl2 hq => ?_)
  obtain ⟨rfl, r3, rfl, h⟩ := hq
  refine px_imul dX9_upperX_8 ?_
  refine px_aload_n dX9_upperX_9 rfl rfl ?_
  refine gf_X9_35 rfl dX9_upperX_10 zl_23 zk_23 ?_
  refine px_aload_n dX9_upperX_13 rfl rfl ?_
  refine gf_X9_45 rfl dX9_upperX_14 zl_23 zk_23 ?_
  refine px_imul dX9_upperX_17 ?_
  refine px_iadd dX9_upperX_18 ?_
  exact px_ireturn dX9_upperX_19 rfl ⟨.int, rfl, rfl, rfl⟩ ⟨rfl, _, rfl, h⟩
def f_X9_upperY  (gi : Gi) (gl : Gl) (Q : Int32 → Gi → Gl → Prop) : Prop :=
p_X9_lower  gi gl (fun (r3 : Int32) (gi1 : Gi) (gl2 : Gl) =>
Q (((gi 23 2) * r3) + ((gi1 23 3) * (gi1 23 5))) gi1 gl2)
set_option maxRecDepth 100000 in
theorem v_X9_upperY  {gi : Gi} {gl : Gl} {Q : Int32 → Gi → Gl → Prop}  (h : f_X9_upperY  gi gl Q) : p_X9_upperY  gi gl Q := by
  unfold f_X9_upperY at h
  show PAt mX9_upperY NN NN κF 0 [some (.ref 23)] [] gi gl _
  refine px_aload_n dX9_upperY_0 rfl rfl ?_
  refine gf_X9_32 rfl dX9_upperY_1 zl_23 zk_23 ?_
  refine px_aload_n dX9_upperY_4 rfl rfl ?_
  refine px_callV_I (As := []) (st := [.int (gi 23 2)]) dX9_upperY_5 lk_X9_51.1 lk_X9_51.2 (b := 23) zl_23 zk_23 (by decide) rfl (by decide) rfl (Nat.le_of_ble_eq_true rfl) rfl rfl (Nat.le_of_ble_eq_true rfl) ⟨Nat.le_refl _, Nat.le_refl _, Nat.le_refl _⟩ ?_
  refine PAt.mono h (fun v κ gi1 gl2 hq => ?_)
  obtain ⟨rfl, r3, rfl, h⟩ := hq
  refine px_imul dX9_upperY_8 ?_
  refine px_aload_n dX9_upperY_9 rfl rfl ?_
  refine gf_X9_35 rfl dX9_upperY_10 zl_23 zk_23 ?_
  refine px_aload_n dX9_upperY_13 rfl rfl ?_
  refine gf_X9_48 rfl dX9_upperY_14 zl_23 zk_23 ?_
  refine px_imul dX9_upperY_17 ?_
  refine px_iadd dX9_upperY_18 ?_
  exact px_ireturn dX9_upperY_19 rfl ⟨.int, rfl, rfl, rfl⟩ ⟨rfl, _, rfl, h⟩
abbrev p_X9_minutesLet_60 (p : Nat) (x3 : Int32) (x4 : Int32) (x5 : Int32) (x6 : Int32) (x7 : Int32) (x8 : Int32) (x9 : Int32) (gi : Gi) (gl : Gl) (Q : Int32 → Gi → Gl → Prop) : Prop := PAt mX9_minutesLet NN NN κF 60 [some (.ref 23), none, none, some (.int x3), some (.int x4), some (.int x5), some (.int x6), some (.int x7), some (.int x8), some (.int x9)] [] gi gl (RiQ Q)
def f_X9_minutesLet (p : Nat) (x2 : Int32) (x3 : Int32) (x4 : Int32) (gi : Gi) (gl : Gl) (Q : Int32 → Gi → Gl → Prop) : Prop :=
p_X10_sunRowsIn 2 x3 gi gl (fun (r3 : Int32) (gi1 : Gi) (gl2 : Gl) =>
if ¬ r3 = 0 then
(p_X5_tells p x2 (2 : Int32) gi1 gl2 (fun (r6 : Int32) (gi4 : Gi) (gl5 : Gl) =>
p_X5_tells p x2 (3 : Int32) gi4 gl5 (fun (r9 : Int32) (gi7 : Gi) (gl8 : Gl) =>
p_X5_tells p x2 (4 : Int32) gi7 gl8 (fun (r12 : Int32) (gi10 : Gi) (gl11 : Gl) =>
p_X5_tells p x2 (1 : Int32) gi10 gl11 (fun (r15 : Int32) (gi13 : Gi) (gl14 : Gl) =>
p_X9_goesTo r15 gi13 gl14 (fun (r18 : Int32) (gi16 : Gi) (gl17 : Gl) =>
if ¬ r18 = 0 then
(p_X9_minutesLet_60 p x3 x4 r6 r9 r12 (0 : Int32) (0 : Int32) gi16 gl17 Q)
else
(Q (0 : Int32) gi16 gl17)))))))
else
(Q (1073741823 : Int32) gi1 gl2))
def f_X9_minutesLet_60 (p : Nat) (x3 : Int32) (x4 : Int32) (x5 : Int32) (x6 : Int32) (x7 : Int32) (x8 : Int32) (x9 : Int32) (gi : Gi) (gl : Gl) (Q : Int32 → Gi → Gl → Prop) : Prop :=
if (30 : Int32) ≤ x9 then
(Q x8 gi gl)
else
(p_X9_shines x3 ((x4 * (30 : Int32)) + x9) gi gl (fun (r3 : Int32) (gi1 : Gi) (gl2 : Gl) =>
if r3 = 0 then
(p_X9_minutesLet_60 p x3 x4 x5 x6 x7 x8 (x9 + (1 : Int32)) gi1 gl2 Q)
else
(p_X9_fallsTo x5 x6 x7 gi1 gl2 (fun (r6 : Int32) (gi4 : Gi) (gl5 : Gl) =>
if r6 = 0 then
(p_X9_minutesLet_60 p x3 x4 x5 x6 x7 x8 (x9 + (1 : Int32)) gi4 gl5 Q)
else
(∀ z7 : Int32, z7 = x8 ||| (jl (1 : Int32) x9) →
p_X9_minutesLet_60 p x3 x4 x5 x6 x7 z7 (x9 + (1 : Int32)) gi4 gl5 Q)))))
set_option maxRecDepth 100000 in
theorem v_X9_minutesLet {p : Nat} {x2 : Int32} {x3 : Int32} {x4 : Int32} {gi : Gi} {gl : Gl} {Q : Int32 → Gi → Gl → Prop} (hpN : p < NN) (hpK : sK p = 5) (h : f_X9_minutesLet p x2 x3 x4 gi gl Q) : p_X9_minutesLet p x2 x3 x4 gi gl Q := by
  unfold f_X9_minutesLet at h
  show PAt mX9_minutesLet NN NN κF 0 [some (.ref 23), some (.ref p), some (.int x2), some (.int x3), some (.int x4), none, none, none, none, none] [] gi gl _
  refine px_aload_n dX9_minutesLet_0 rfl rfl ?_
  refine gf_X9_15 rfl dX9_minutesLet_1 zl_23 zk_23 rfl zr_23_0 zl_2 ?_
  refine px_iload_n dX9_minutesLet_4 rfl rfl ?_
  refine px_callV_I (As := [.int x3]) (st := []) dX9_minutesLet_5 lk_X9_38.1 lk_X9_38.2 (b := 2) zl_2 zk_2 (by decide) rfl (by decide) rfl (Nat.le_of_ble_eq_true rfl) rfl rfl (Nat.le_of_ble_eq_true rfl) ⟨Nat.le_refl _, Nat.le_refl _, Nat.le_refl _⟩ ?_
  refine PAt.mono h (fun v κ gi1 gl2 hq => ?_)
  obtain ⟨rfl, r3, rfl, h⟩ := hq
  refine px_if_ne (tgt := 14) dX9_minutesLet_8 (by decide) ?_
  by_cases hc : ¬ r3 = 0
  · rw [if_pos hc] at h ⊢
    refine px_aload_n dX9_minutesLet_14 rfl rfl ?_
    refine px_iload_n dX9_minutesLet_15 rfl rfl ?_
    refine px_iconst (v := (2 : Int32)) dX9_minutesLet_16 (by decide) ?_
    refine px_callV_I (As := [.int x2, .int (2 : Int32)]) (st := []) dX9_minutesLet_17 lk_X9_56.1 lk_X9_56.2 (b := p) hpN hpK (by decide) rfl (by decide) rfl (Nat.le_of_ble_eq_true rfl) rfl rfl (Nat.le_of_ble_eq_true rfl) ⟨Nat.le_refl _, Nat.le_refl _, Nat.le_refl _⟩ ?_
    refine PAt.mono h (fun v κ gi4 gl5 hq => ?_)
    obtain ⟨rfl, r6, rfl, h⟩ := hq
    refine px_istore (ls2 := [some (.ref 23), some (.ref p), some (.int x2), some (.int x3), some (.int x4), some (.int r6), none, none, none, none]) dX9_minutesLet_20 (by decide) rfl ?_
    refine px_aload_n dX9_minutesLet_22 rfl rfl ?_
    refine px_iload_n dX9_minutesLet_23 rfl rfl ?_
    refine px_iconst (v := (3 : Int32)) dX9_minutesLet_24 (by decide) ?_
    refine px_callV_I (As := [.int x2, .int (3 : Int32)]) (st := []) dX9_minutesLet_25 lk_X9_56.1 lk_X9_56.2 (b := p) hpN hpK (by decide) rfl (by decide) rfl (Nat.le_of_ble_eq_true rfl) rfl rfl (Nat.le_of_ble_eq_true rfl) ⟨Nat.le_refl _, Nat.le_refl _, Nat.le_refl _⟩ ?_
    refine PAt.mono h (fun v κ gi7 gl8 hq => ?_)
    obtain ⟨rfl, r9, rfl, h⟩ := hq
    refine px_istore (ls2 := [some (.ref 23), some (.ref p), some (.int x2), some (.int x3), some (.int x4), some (.int r6), some (.int r9), none, none, none]) dX9_minutesLet_28 (by decide) rfl ?_
    refine px_aload_n dX9_minutesLet_30 rfl rfl ?_
    refine px_iload_n dX9_minutesLet_31 rfl rfl ?_
    refine px_iconst (v := (4 : Int32)) dX9_minutesLet_32 (by decide) ?_
    refine px_callV_I (As := [.int x2, .int (4 : Int32)]) (st := []) dX9_minutesLet_33 lk_X9_56.1 lk_X9_56.2 (b := p) hpN hpK (by decide) rfl (by decide) rfl (Nat.le_of_ble_eq_true rfl) rfl rfl (Nat.le_of_ble_eq_true rfl) ⟨Nat.le_refl _, Nat.le_refl _, Nat.le_refl _⟩ ?_
    refine PAt.mono h (fun v κ gi10 gl11 hq => ?_)
    obtain ⟨rfl, r12, rfl, h⟩ := hq
    refine px_istore (ls2 := [some (.ref 23), some (.ref p), some (.int x2), some (.int x3), some (.int x4), some (.int r6), some (.int r9), some (.int r12), none, none]) dX9_minutesLet_36 (by decide) rfl ?_
    refine px_iconst (v := (0 : Int32)) dX9_minutesLet_38 (by decide) ?_
    refine px_istore (ls2 := [some (.ref 23), some (.ref p), some (.int x2), some (.int x3), some (.int x4), some (.int r6), some (.int r9), some (.int r12), some (.int (0 : Int32)), none]) dX9_minutesLet_39 (by decide) rfl ?_
    refine px_aload_n dX9_minutesLet_41 rfl rfl ?_
    refine px_aload_n dX9_minutesLet_42 rfl rfl ?_
    refine px_iload_n dX9_minutesLet_43 rfl rfl ?_
    refine px_iconst (v := (1 : Int32)) dX9_minutesLet_44 (by decide) ?_
    refine px_callV_I (As := [.int x2, .int (1 : Int32)]) (st := [.ref 23]) dX9_minutesLet_45 lk_X9_56.1 lk_X9_56.2 (b := p) hpN hpK (by decide) rfl (by decide) rfl (Nat.le_of_ble_eq_true rfl) rfl rfl (Nat.le_of_ble_eq_true rfl) ⟨Nat.le_refl _, Nat.le_refl _, Nat.le_refl _⟩ ?_
    refine PAt.mono h (fun v κ gi13 gl14 hq => ?_)
    obtain ⟨rfl, r15, rfl, h⟩ := hq
    refine px_callV_I (As := [.int r15]) (st := []) dX9_minutesLet_48 lk_X9_62.1 lk_X9_62.2 (b := 23) zl_23 zk_23 (by decide) rfl (by decide) rfl (Nat.le_of_ble_eq_true rfl) rfl rfl (Nat.le_of_ble_eq_true rfl) ⟨Nat.le_refl _, Nat.le_refl _, Nat.le_refl _⟩ ?_
    refine PAt.mono h (fun v κ gi16 gl17 hq => ?_)
    obtain ⟨rfl, r18, rfl, h⟩ := hq
    refine px_if_ne (tgt := 57) dX9_minutesLet_51 (by decide) ?_
    by_cases hc : ¬ r18 = 0
    · rw [if_pos hc] at h ⊢
      refine px_iconst (v := (0 : Int32)) dX9_minutesLet_57 (by decide) ?_
      refine px_istore (ls2 := [some (.ref 23), some (.ref p), some (.int x2), some (.int x3), some (.int x4), some (.int r6), some (.int r9), some (.int r12), some (.int (0 : Int32)), some (.int (0 : Int32))]) dX9_minutesLet_58 (by decide) rfl ?_
      exact PAt.forget h (lsub_at ⟨rfl, ⟨rfl, ⟨rfl, ⟨rfl, ⟨rfl, ⟨rfl, ⟨rfl, ⟨rfl, trivial⟩⟩⟩⟩⟩⟩⟩⟩)
    · rw [if_neg hc] at h ⊢
      refine px_iload dX9_minutesLet_54 rfl ?_
      exact px_ireturn dX9_minutesLet_56 rfl ⟨.int, rfl, rfl, rfl⟩ ⟨rfl, _, rfl, h⟩
  · rw [if_neg hc] at h ⊢
    refine px_ldc (v := (1073741823 : Int32)) dX9_minutesLet_11 w_741 ?_
    exact px_ireturn dX9_minutesLet_13 rfl ⟨.int, rfl, rfl, rfl⟩ ⟨rfl, _, rfl, h⟩
set_option maxRecDepth 100000 in
theorem v_X9_minutesLet_60 {p : Nat} {x3 : Int32} {x4 : Int32} {x5 : Int32} {x6 : Int32} {x7 : Int32} {x8 : Int32} {x9 : Int32} {gi : Gi} {gl : Gl} {Q : Int32 → Gi → Gl → Prop} (hpN : p < NN) (hpK : sK p = 5) (h : f_X9_minutesLet_60 p x3 x4 x5 x6 x7 x8 x9 gi gl Q) : p_X9_minutesLet_60 p x3 x4 x5 x6 x7 x8 x9 gi gl Q := by
  unfold f_X9_minutesLet_60 at h
  show PAt mX9_minutesLet NN NN κF 60 [some (.ref 23), none, none, some (.int x3), some (.int x4), some (.int x5), some (.int x6), some (.int x7), some (.int x8), some (.int x9)] [] gi gl _
  refine px_iload dX9_minutesLet_60 rfl ?_
  refine px_bipush (v := (30 : Int32)) dX9_minutesLet_62 (by decide) ?_
  refine px_icmp_ge (tgt := 111) dX9_minutesLet_64 (by decide) ?_
  by_cases hc : (30 : Int32) ≤ x9
  · rw [if_pos hc] at h ⊢
    refine px_iload dX9_minutesLet_111 rfl ?_
    exact px_ireturn dX9_minutesLet_113 rfl ⟨.int, rfl, rfl, rfl⟩ ⟨rfl, _, rfl, h⟩
  · rw [if_neg hc] at h ⊢
    refine px_aload_n dX9_minutesLet_67 rfl rfl ?_
    refine px_iload_n dX9_minutesLet_68 rfl rfl ?_
    refine px_iload dX9_minutesLet_69 rfl ?_
    refine px_bipush (v := (30 : Int32)) dX9_minutesLet_71 (by decide) ?_
    refine px_imul dX9_minutesLet_73 ?_
    refine px_iload dX9_minutesLet_74 rfl ?_
    refine px_iadd dX9_minutesLet_76 ?_
    refine px_callV_I (As := [.int x3, .int ((x4 * (30 : Int32)) + x9)]) (st := []) dX9_minutesLet_77 lk_X9_66.1 lk_X9_66.2 (b := 23) zl_23 zk_23 (by decide) rfl (by decide) rfl (Nat.le_of_ble_eq_true rfl) rfl rfl (Nat.le_of_ble_eq_true rfl) ⟨Nat.le_refl _, Nat.le_refl _, Nat.le_refl _⟩ ?_
    refine PAt.mono h (fun v κ gi1 gl2 hq => ?_)
    obtain ⟨rfl, r3, rfl, h⟩ := hq
    refine px_if_eq (tgt := 105) dX9_minutesLet_80 (by decide) ?_
    by_cases hc : r3 = 0
    · rw [if_pos hc] at h ⊢
      refine px_iinc (v := x9 + (1 : Int32)) (ls2 := [some (.ref 23), none, none, some (.int x3), some (.int x4), some (.int x5), some (.int x6), some (.int x7), some (.int x8), some (.int (x9 + (1 : Int32)))]) dX9_minutesLet_105 rfl rfl (by decide) rfl ?_
      refine px_goto (tgt := 60) dX9_minutesLet_108 (by decide) ?_
      exact PAt.forget h (lsub_at ⟨rfl, ⟨rfl, ⟨rfl, ⟨rfl, ⟨rfl, ⟨rfl, ⟨rfl, ⟨rfl, trivial⟩⟩⟩⟩⟩⟩⟩⟩)
    · rw [if_neg hc] at h ⊢
      refine px_aload_n dX9_minutesLet_83 rfl rfl ?_
      refine px_iload dX9_minutesLet_84 rfl ?_
      refine px_iload dX9_minutesLet_86 rfl ?_
      refine px_iload dX9_minutesLet_88 rfl ?_
      refine px_callV_I (As := [.int x5, .int x6, .int x7]) (st := []) dX9_minutesLet_90 lk_X9_69.1 lk_X9_69.2 (b := 23) zl_23 zk_23 (by decide) rfl (by decide) rfl (Nat.le_of_ble_eq_true rfl) rfl rfl (Nat.le_of_ble_eq_true rfl) ⟨Nat.le_refl _, Nat.le_refl _, Nat.le_refl _⟩ ?_
      refine PAt.mono h (fun v κ gi4 gl5 hq => ?_)
      obtain ⟨rfl, r6, rfl, h⟩ := hq
      refine px_if_eq (tgt := 105) dX9_minutesLet_93 (by decide) ?_
      by_cases hc : r6 = 0
      · rw [if_pos hc] at h ⊢
        refine px_iinc (v := x9 + (1 : Int32)) (ls2 := [some (.ref 23), none, none, some (.int x3), some (.int x4), some (.int x5), some (.int x6), some (.int x7), some (.int x8), some (.int (x9 + (1 : Int32)))]) dX9_minutesLet_105 rfl rfl (by decide) rfl ?_
        refine px_goto (tgt := 60) dX9_minutesLet_108 (by decide) ?_
        exact PAt.forget h (lsub_at ⟨rfl, ⟨rfl, ⟨rfl, ⟨rfl, ⟨rfl, ⟨rfl, ⟨rfl, ⟨rfl, trivial⟩⟩⟩⟩⟩⟩⟩⟩)
      · rw [if_neg hc] at h ⊢
        refine px_iload dX9_minutesLet_96 rfl ?_
        refine px_iconst (v := (1 : Int32)) dX9_minutesLet_98 (by decide) ?_
        refine px_iload dX9_minutesLet_99 rfl ?_
        refine px_ishl dX9_minutesLet_101 ?_
        refine px_ior dX9_minutesLet_102 ?_
        obtain ⟨z7, hz7⟩ : ∃ y : Int32, y = x8 ||| (jl (1 : Int32) x9) := ⟨_, rfl⟩
        have h := h z7 hz7
        refine px_namei hz7 ?_
        refine px_istore (ls2 := [some (.ref 23), none, none, some (.int x3), some (.int x4), some (.int x5), some (.int x6), some (.int x7), some (.int z7), some (.int x9)]) dX9_minutesLet_103 (by decide) rfl ?_
        refine px_iinc (v := x9 + (1 : Int32)) (ls2 := [some (.ref 23), none, none, some (.int x3), some (.int x4), some (.int x5), some (.int x6), some (.int x7), some (.int z7), some (.int (x9 + (1 : Int32)))]) dX9_minutesLet_105 rfl rfl (by decide) rfl ?_
        refine px_goto (tgt := 60) dX9_minutesLet_108 (by decide) ?_
        exact PAt.forget h (lsub_at ⟨rfl, ⟨rfl, ⟨rfl, ⟨rfl, ⟨rfl, ⟨rfl, ⟨rfl, ⟨rfl, trivial⟩⟩⟩⟩⟩⟩⟩⟩)
def f_X9_fallsTo (x1 : Int32) (x2 : Int32) (x3 : Int32) (gi : Gi) (gl : Gl) (Q : Int32 → Gi → Gl → Prop) : Prop :=
∀ z1 : Int32, z1 = (x3 * (10 : Int32)) * (gi 23 6) →
p_X9_upperX  gi gl (fun (r4 : Int32) (gi2 : Gi) (gl3 : Gl) =>
if z1 < (jabs (r4 - ((x1 * (10 : Int32)) * (gi2 23 6)))) then
(Q (0 : Int32) gi2 gl3)
else
(p_X9_upperY  gi2 gl3 (fun (r7 : Int32) (gi5 : Gi) (gl6 : Gl) =>
if z1 < (jabs (r7 - ((x2 * (10 : Int32)) * (gi5 23 6)))) then
(Q (0 : Int32) gi5 gl6)
else
(Q (1 : Int32) gi5 gl6))))
set_option maxRecDepth 100000 in
theorem v_X9_fallsTo {x1 : Int32} {x2 : Int32} {x3 : Int32} {gi : Gi} {gl : Gl} {Q : Int32 → Gi → Gl → Prop}  (h : f_X9_fallsTo x1 x2 x3 gi gl Q) : p_X9_fallsTo x1 x2 x3 gi gl Q := by
  unfold f_X9_fallsTo at h
  show PAt mX9_fallsTo NN NN κF 0 [some (.ref 23), some (.int x1), some (.int x2), some (.int x3), none] [] gi gl _
  refine px_iload_n dX9_fallsTo_0 rfl rfl ?_
  refine px_bipush (v := (10 : Int32)) dX9_fallsTo_1 (by decide) ?_
  refine px_imul dX9_fallsTo_3 ?_
  refine px_aload_n dX9_fallsTo_4 rfl rfl ?_
  refine gf_X9_9 rfl dX9_fallsTo_5 zl_23 zk_23 ?_
  refine px_imul dX9_fallsTo_8 ?_
  obtain ⟨z1, hz1⟩ : ∃ y : Int32, y = (x3 * (10 : Int32)) * (gi 23 6) := ⟨_, rfl⟩
  have h := h z1 hz1
  refine px_namei hz1 ?_
  refine px_istore (ls2 := [some (.ref 23), some (.int x1), some (.int x2), some (.int x3), some (.int z1)]) dX9_fallsTo_9 (by decide) rfl ?_
  refine px_aload_n dX9_fallsTo_11 rfl rfl ?_
  refine px_callV_I (As := []) (st := []) dX9_fallsTo_12 lk_X9_73.1 lk_X9_73.2 (b := 23) zl_23 zk_23 (by decide) rfl (by decide) rfl (Nat.le_of_ble_eq_true rfl) rfl rfl (Nat.le_of_ble_eq_true rfl) ⟨Nat.le_refl _, Nat.le_refl _, Nat.le_refl _⟩ ?_
  refine PAt.mono h (fun v κ gi2 gl3 hq => ?_)
  obtain ⟨rfl, r4, rfl, h⟩ := hq
  refine px_iload_n dX9_fallsTo_15 rfl rfl ?_
  refine px_bipush (v := (10 : Int32)) dX9_fallsTo_16 (by decide) ?_
  refine px_imul dX9_fallsTo_18 ?_
  refine px_aload_n dX9_fallsTo_19 rfl rfl ?_
  refine gf_X9_9 rfl dX9_fallsTo_20 zl_23 zk_23 ?_
  refine px_imul dX9_fallsTo_23 ?_
  refine px_isub dX9_fallsTo_24 ?_
  refine px_mabs dX9_fallsTo_25 w_769 w_770 w_112 w_771 (by decide) (Nat.le_of_ble_eq_true rfl) ⟨Nat.le_refl _, Nat.le_refl _⟩ ?_
  refine px_iload dX9_fallsTo_28 rfl ?_
  refine px_icmp_gt (tgt := 59) dX9_fallsTo_30 (by decide) ?_
  by_cases hc : z1 < (jabs (r4 - ((x1 * (10 : Int32)) * (gi2 23 6))))
  · rw [if_pos hc] at h ⊢
    refine px_iconst (v := (0 : Int32)) dX9_fallsTo_59 (by decide) ?_
    exact px_ireturn dX9_fallsTo_60 rfl ⟨.boolean, rfl, rfl, by decide⟩ ⟨rfl, _, rfl, h⟩
  · rw [if_neg hc] at h ⊢
    refine px_aload_n dX9_fallsTo_33 rfl rfl ?_
    refine px_callV_I (As := []) (st := []) dX9_fallsTo_34 lk_X9_81.1 lk_X9_81.2 (b := 23) zl_23 zk_23 (by decide) rfl (by decide) rfl (Nat.le_of_ble_eq_true rfl) rfl rfl (Nat.le_of_ble_eq_true rfl) ⟨Nat.le_refl _, Nat.le_refl _, Nat.le_refl _⟩ ?_
    refine PAt.mono h (fun v κ gi5 gl6 hq => ?_)
    obtain ⟨rfl, r7, rfl, h⟩ := hq
    refine px_iload_n dX9_fallsTo_37 rfl rfl ?_
    refine px_bipush (v := (10 : Int32)) dX9_fallsTo_38 (by decide) ?_
    refine px_imul dX9_fallsTo_40 ?_
    refine px_aload_n dX9_fallsTo_41 rfl rfl ?_
    refine gf_X9_9 rfl dX9_fallsTo_42 zl_23 zk_23 ?_
    refine px_imul dX9_fallsTo_45 ?_
    refine px_isub dX9_fallsTo_46 ?_
    refine px_mabs dX9_fallsTo_47 w_769 w_770 w_112 w_771 (by decide) (Nat.le_of_ble_eq_true rfl) ⟨Nat.le_refl _, Nat.le_refl _⟩ ?_
    refine px_iload dX9_fallsTo_50 rfl ?_
    refine px_icmp_gt (tgt := 59) dX9_fallsTo_52 (by decide) ?_
    by_cases hc : z1 < (jabs (r7 - ((x2 * (10 : Int32)) * (gi5 23 6))))
    · rw [if_pos hc] at h ⊢
      refine px_iconst (v := (0 : Int32)) dX9_fallsTo_59 (by decide) ?_
      exact px_ireturn dX9_fallsTo_60 rfl ⟨.boolean, rfl, rfl, by decide⟩ ⟨rfl, _, rfl, h⟩
    · rw [if_neg hc] at h ⊢
      refine px_iconst (v := (1 : Int32)) dX9_fallsTo_55 (by decide) ?_
      refine px_goto (tgt := 60) dX9_fallsTo_56 (by decide) ?_
      exact px_ireturn dX9_fallsTo_60 rfl ⟨.boolean, rfl, rfl, by decide⟩ ⟨rfl, _, rfl, h⟩
