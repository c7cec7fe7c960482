/-! laid by program: X1 -/
abbrev p_X1_seesAll_3 (p : Nat) (x2 : Int32) (x3 : Int32) (x4 : Int32) (x5 : Int32) (gi : Gi) (gl : Gl) (Q : Int32 → Gi → Gl → Prop) : Prop := PAt mX1_seesAll NN NN κF 3 [some (.ref 30), some (.ref p), some (.int x2), some (.int x3), some (.int x4), some (.int x5), none] [] gi gl (RiQ Q)
def f_X1_seesAll (p : Nat) (x2 : Int32) (x3 : Int32) (x4 : Int32) (gi : Gi) (gl : Gl) (Q : Int32 → Gi → Gl → Prop) : Prop :=
p_X1_seesAll_3 p x2 x3 x4 (0 : Int32) gi gl Q
def f_X1_seesAll_3 (p : Nat) (x2 : Int32) (x3 : Int32) (x4 : Int32) (x5 : Int32) (gi : Gi) (gl : Gl) (Q : Int32 → Gi → Gl → Prop) : Prop :=
p_X5_size p gi gl (fun (r3 : Int32) (gi1 : Gi) (gl2 : Gl) =>
if r3 ≤ x5 then
(Q (1 : Int32) gi1 gl2)
else
(p_X5_tells p x5 (0 : Int32) gi1 gl2 (fun (r6 : Int32) (gi4 : Gi) (gl5 : Gl) =>
if r6 = (8 : Int32) then
(p_X1_sees p x5 x2 x3 x4 gi4 gl5 (fun (r9 : Int32) (gi7 : Gi) (gl8 : Gl) =>
if ¬ r9 = 0 then
(p_X1_seesAll_3 p x2 x3 x4 (x5 + (1 : Int32)) gi7 gl8 Q)
else
(Q (0 : Int32) gi7 gl8)))
else
(if ¬ r6 = (9 : Int32) then
(p_X1_seesAll_3 p x2 x3 x4 (x5 + (1 : Int32)) gi4 gl5 Q)
else
(p_X1_sees p x5 x2 x3 x4 gi4 gl5 (fun (r12 : Int32) (gi10 : Gi) (gl11 : Gl) =>
if ¬ r12 = 0 then
(p_X1_seesAll_3 p x2 x3 x4 (x5 + (1 : Int32)) gi10 gl11 Q)
else
(Q (0 : Int32) gi10 gl11)))))))
set_option maxRecDepth 100000 in
theorem v_X1_seesAll {p : Nat} {x2 : Int32} {x3 : Int32} {x4 : Int32} {gi : Gi} {gl : Gl} {Q : Int32 → Gi → Gl → Prop} (hpN : p < NN) (hpK : sK p = 5) (h : f_X1_seesAll p x2 x3 x4 gi gl Q) : p_X1_seesAll p x2 x3 x4 gi gl Q := by
  unfold f_X1_seesAll at h
  show PAt mX1_seesAll NN NN κF 0 [some (.ref 30), some (.ref p), some (.int x2), some (.int x3), some (.int x4), none, none] [] gi gl _
  refine px_iconst (v := (0 : Int32)) dX1_seesAll_0 (by decide) ?_
  refine px_istore (ls2 := [some (.ref 30), some (.ref p), some (.int x2), some (.int x3), some (.int x4), some (.int (0 : Int32)), none]) dX1_seesAll_1 (by decide) rfl ?_
  exact PAt.forget h (lsub_at ⟨rfl, ⟨rfl, ⟨rfl, ⟨rfl, ⟨rfl, ⟨rfl, trivial⟩⟩⟩⟩⟩⟩)
set_option maxRecDepth 100000 in
theorem v_X1_seesAll_3 {p : Nat} {x2 : Int32} {x3 : Int32} {x4 : Int32} {x5 : Int32} {gi : Gi} {gl : Gl} {Q : Int32 → Gi → Gl → Prop} (hpN : p < NN) (hpK : sK p = 5) (h : f_X1_seesAll_3 p x2 x3 x4 x5 gi gl Q) : p_X1_seesAll_3 p x2 x3 x4 x5 gi gl Q := by
  unfold f_X1_seesAll_3 at h
  show PAt mX1_seesAll NN NN κF 3 [some (.ref 30), some (.ref p), some (.int x2), some (.int x3), some (.int x4), some (.int x5), none] [] gi gl _
  refine px_iload dX1_seesAll_3 rfl ?_
  refine px_aload_n dX1_seesAll_5 rfl rfl ?_
  refine px_callV_I (As := []) (st := [.int x5]) dX1_seesAll_6 lk_X1_15.1 lk_X1_15.2 (b := p) hpN hpK (by decide) rfl (by decide) rfl (Nat.le_of_ble_eq_true rfl) rfl rfl (Nat.le_of_ble_eq_true rfl) ⟨Nat.le_refl _, Nat.le_refl _, Nat.le_refl _⟩ ?_
  refine PAt.mono h (fun v κ gi1 gl2 hq => ?_)
  obtain ⟨rfl, r3, rfl, h⟩ := hq
  refine px_icmp_ge (tgt := 57) dX1_seesAll_9 (by decide) ?_
  by_cases hc : r3 ≤ x5
  · rw [if_pos hc] at h ⊢
    refine px_iconst (v := (1 : Int32)) dX1_seesAll_57 (by decide) ?_
    exact px_ireturn dX1_seesAll_58 rfl ⟨.boolean, rfl, rfl, by decide⟩ ⟨rfl, _, rfl, h⟩
  · rw [if_neg hc] at h ⊢
    refine px_aload_n dX1_seesAll_12 rfl rfl ?_
    refine px_iload dX1_seesAll_13 rfl ?_
    refine px_iconst (v := (0 : Int32)) dX1_seesAll_15 (by decide) ?_
    refine px_callV_I (As := [.int x5, .int (0 : Int32)]) (st := []) dX1_seesAll_16 lk_X1_21.1 lk_X1_21.2 (b := p) hpN hpK (by decide) rfl (by decide) rfl (Nat.le_of_ble_eq_true rfl) rfl rfl (Nat.le_of_ble_eq_true rfl) ⟨Nat.le_refl _, Nat.le_refl _, Nat.le_refl _⟩ ?_
    refine PAt.mono h (fun v κ gi4 gl5 hq => ?_)
    obtain ⟨rfl, r6, rfl, h⟩ := hq
    refine px_istore (ls2 := [some (.ref 30), some (.ref p), some (.int x2), some (.int x3), some (.int x4), some (.int x5), some (.int r6)]) dX1_seesAll_19 (by decide) rfl ?_
    refine px_iload dX1_seesAll_21 rfl ?_
    refine px_bipush (v := (8 : Int32)) dX1_seesAll_23 (by decide) ?_
    refine px_icmp_eq (tgt := 35) dX1_seesAll_25 (by decide) ?_
    by_cases hc : r6 = (8 : Int32)
    · rw [if_pos hc] at h ⊢
      refine px_aload_n dX1_seesAll_35 rfl rfl ?_
      refine px_aload_n dX1_seesAll_36 rfl rfl ?_
      refine px_iload dX1_seesAll_37 rfl ?_
      refine px_iload_n dX1_seesAll_39 rfl rfl ?_
      refine px_iload_n dX1_seesAll_40 rfl rfl ?_
      refine px_iload dX1_seesAll_41 rfl ?_
      refine px_callV_I (As := [.ref p, .int x5, .int x2, .int x3, .int x4]) (st := []) dX1_seesAll_43 lk_X1_25.1 lk_X1_25.2 (b := 30) zl_30 zk_30 (by decide) rfl (by decide) rfl (Nat.le_of_ble_eq_true rfl) rfl rfl (Nat.le_of_ble_eq_true rfl) ⟨Nat.le_refl _, Nat.le_refl _, Nat.le_refl _⟩ ?_
      refine PAt.mono h (fun v κ gi7 gl8 hq => ?_)
      obtain ⟨rfl, r9, rfl, h⟩ := hq
      refine px_if_ne (tgt := 51) dX1_seesAll_46 (by decide) ?_
      by_cases hc : ¬ r9 = 0
      · rw [if_pos hc] at h ⊢
        refine px_iinc (v := x5 + (1 : Int32)) (ls2 := [some (.ref 30), some (.ref p), some (.int x2), some (.int x3), some (.int x4), some (.int (x5 + (1 : Int32))), some (.int r6)]) dX1_seesAll_51 rfl rfl (by decide) rfl ?_
        refine px_goto (tgt := 3) dX1_seesAll_54 (by decide) ?_
        exact PAt.forget h (lsub_at ⟨rfl, ⟨rfl, ⟨rfl, ⟨rfl, ⟨rfl, ⟨rfl, trivial⟩⟩⟩⟩⟩⟩)
      · rw [if_neg hc] at h ⊢
        refine px_iconst (v := (0 : Int32)) dX1_seesAll_49 (by decide) ?_
        exact px_ireturn dX1_seesAll_50 rfl ⟨.boolean, rfl, rfl, by decide⟩ ⟨rfl, _, rfl, h⟩
    · rw [if_neg hc] at h ⊢
      refine px_iload dX1_seesAll_28 rfl ?_
      refine px_bipush (v := (9 : Int32)) dX1_seesAll_30 (by decide) ?_
      refine px_icmp_ne (tgt := 51) dX1_seesAll_32 (by decide) ?_
      by_cases hc : ¬ r6 = (9 : Int32)
      · rw [if_pos hc] at h ⊢
        refine px_iinc (v := x5 + (1 : Int32)) (ls2 := [some (.ref 30), some (.ref p), some (.int x2), some (.int x3), some (.int x4), some (.int (x5 + (1 : Int32))), some (.int r6)]) dX1_seesAll_51 rfl rfl (by decide) rfl ?_
        refine px_goto (tgt := 3) dX1_seesAll_54 (by decide) ?_
        exact PAt.forget h (lsub_at ⟨rfl, ⟨rfl, ⟨rfl, ⟨rfl, ⟨rfl, ⟨rfl, trivial⟩⟩⟩⟩⟩⟩)
      · rw [if_neg hc] at h ⊢
        refine px_aload_n dX1_seesAll_35 rfl rfl ?_
        refine px_aload_n dX1_seesAll_36 rfl rfl ?_
        refine px_iload dX1_seesAll_37 rfl ?_
        refine px_iload_n dX1_seesAll_39 rfl rfl ?_
        refine px_iload_n dX1_seesAll_40 rfl rfl ?_
        refine px_iload dX1_seesAll_41 rfl ?_
        refine px_callV_I (As := [.ref p, .int x5, .int x2, .int x3, .int x4]) (st := []) dX1_seesAll_43 lk_X1_25.1 lk_X1_25.2 (b := 30) zl_30 zk_30 (by decide) rfl (by decide) rfl (Nat.le_of_ble_eq_true rfl) rfl rfl (Nat.le_of_ble_eq_true rfl) ⟨Nat.le_refl _, Nat.le_refl _, Nat.le_refl _⟩ ?_
        refine PAt.mono h (fun v κ gi10 gl11 hq => ?_)
        obtain ⟨rfl, r12, rfl, h⟩ := hq
        refine px_if_ne (tgt := 51) dX1_seesAll_46 (by decide) ?_
        by_cases hc : ¬ r12 = 0
        · rw [if_pos hc] at h ⊢
          refine px_iinc (v := x5 + (1 : Int32)) (ls2 := [some (.ref 30), some (.ref p), some (.int x2), some (.int x3), some (.int x4), some (.int (x5 + (1 : Int32))), some (.int r6)]) dX1_seesAll_51 rfl rfl (by decide) rfl ?_
          refine px_goto (tgt := 3) dX1_seesAll_54 (by decide) ?_
          exact PAt.forget h (lsub_at ⟨rfl, ⟨rfl, ⟨rfl, ⟨rfl, ⟨rfl, ⟨rfl, trivial⟩⟩⟩⟩⟩⟩)
        · rw [if_neg hc] at h ⊢
          refine px_iconst (v := (0 : Int32)) dX1_seesAll_49 (by decide) ?_
          exact px_ireturn dX1_seesAll_50 rfl ⟨.boolean, rfl, rfl, by decide⟩ ⟨rfl, _, rfl, h⟩
def f_X1_sees (p : Nat) (x2 : Int32) (x3 : Int32) (x4 : Int32) (x5 : Int32) (gi : Gi) (gl : Gl) (Q : Int32 → Gi → Gl → Prop) : Prop :=
p_X5_tells p x2 (1 : Int32) gi gl (fun (r3 : Int32) (gi1 : Gi) (gl2 : Gl) =>
p_X5_tells p x2 (2 : Int32) gi1 gl2 (fun (r6 : Int32) (gi4 : Gi) (gl5 : Gl) =>
p_X10_of 2 (2 : Int32) r3 (0 : Int32) gi4 gl5 (fun (r9 : Int32) (gi7 : Gi) (gl8 : Gl) =>
∀ z10 : Int32, z10 = r9 - x4 →
p_X10_of 2 (2 : Int32) r3 (1 : Int32) gi7 gl8 (fun (r13 : Int32) (gi11 : Gi) (gl12 : Gl) =>
∀ z14 : Int32, z14 = r13 - x5 →
p_X10_of 2 (2 : Int32) r6 (0 : Int32) gi11 gl12 (fun (r17 : Int32) (gi15 : Gi) (gl16 : Gl) =>
∀ z18 : Int32, z18 = r17 - x4 →
p_X10_of 2 (2 : Int32) r6 (1 : Int32) gi15 gl16 (fun (r21 : Int32) (gi19 : Gi) (gl20 : Gl) =>
∀ z22 : Int32, z22 = r21 - x5 →
∀ z23 : Int32, z23 = (z10 * z10) + (z14 * z14) →
∀ z24 : Int32, z24 = (z18 * z18) + (z22 * z22) →
if z23 = 0 then
(Q (0 : Int32) gi19 gl20)
else
(if ¬ z24 = 0 then
(∀ z25 : Int32, z25 = (z10 * z22) - (z14 * z18) →
p_X5_tells p x2 (0 : Int32) gi19 gl20 (fun (r28 : Int32) (gi26 : Gi) (gl27 : Gl) =>
if ¬ r28 = (9 : Int32) then
(if ¬ z25 = 0 then
(Q (0 : Int32) gi26 gl27)
else
(if ((z10 * z18) + (z14 * z22)) ≤ 0 then
(Q (0 : Int32) gi26 gl27)
else
(if z24 ≤ z23 then
(Q (0 : Int32) gi26 gl27)
else
(Q (1 : Int32) gi26 gl27))))
else
(if x3 = 0 then
(if 0 ≤ z25 then
(Q (0 : Int32) gi26 gl27)
else
(Q (1 : Int32) gi26 gl27))
else
(if z25 ≤ 0 then
(Q (0 : Int32) gi26 gl27)
else
(Q (1 : Int32) gi26 gl27)))))
else
(Q (0 : Int32) gi19 gl20))))))))
set_option maxRecDepth 100000 in
theorem v_X1_sees {p : Nat} {x2 : Int32} {x3 : Int32} {x4 : Int32} {x5 : Int32} {gi : Gi} {gl : Gl} {Q : Int32 → Gi → Gl → Prop} (hpN : p < NN) (hpK : sK p = 5) (h : f_X1_sees p x2 x3 x4 x5 gi gl Q) : p_X1_sees p x2 x3 x4 x5 gi gl Q := by
  unfold f_X1_sees at h
  show PAt mX1_sees NN NN κF 0 [some (.ref 30), some (.ref p), some (.int x2), some (.int x3), some (.int x4), some (.int x5), none, none, none, none, none, none, none, none, none] [] gi gl _
  refine px_aload_n dX1_sees_0 rfl rfl ?_
  refine px_iload_n dX1_sees_1 rfl rfl ?_
  refine px_iconst (v := (1 : Int32)) dX1_sees_2 (by decide) ?_
  refine px_callV_I (As := [.int x2, .int (1 : Int32)]) (st := []) dX1_sees_3 lk_X1_21.1 lk_X1_21.2 (b := p) hpN hpK (by decide) rfl (by decide) rfl (Nat.le_of_ble_eq_true rfl) rfl rfl (Nat.le_of_ble_eq_true rfl) ⟨Nat.le_refl _, Nat.le_refl _, Nat.le_refl _⟩ ?_
  refine PAt.mono h (fun v κ gi1 gl2 hq => ?_)
  obtain ⟨rfl, r3, rfl, h⟩ := hq
  refine px_istore (ls2 := [some (.ref 30), some (.ref p), some (.int x2), some (.int x3), some (.int x4), some (.int x5), some (.int r3), none, none, none, none, none, none, none, none]) dX1_sees_6 (by decide) rfl ?_
  refine px_aload_n dX1_sees_8 rfl rfl ?_
  refine px_iload_n dX1_sees_9 rfl rfl ?_
  refine px_iconst (v := (2 : Int32)) dX1_sees_10 (by decide) ?_
  refine px_callV_I (As := [.int x2, .int (2 : Int32)]) (st := []) dX1_sees_11 lk_X1_21.1 lk_X1_21.2 (b := p) hpN hpK (by decide) rfl (by decide) rfl (Nat.le_of_ble_eq_true rfl) rfl rfl (Nat.le_of_ble_eq_true rfl) ⟨Nat.le_refl _, Nat.le_refl _, Nat.le_refl _⟩ ?_
  refine PAt.mono h (fun v κ gi4 gl5 hq => ?_)
  obtain ⟨rfl, r6, rfl, h⟩ := hq
  refine px_istore (ls2 := [some (.ref 30), some (.ref p), some (.int x2), some (.int x3), some (.int x4), some (.int x5), some (.int r3), some (.int r6), none, none, none, none, none, none, none]) dX1_sees_14 (by decide) rfl ?_
  refine px_aload_n dX1_sees_16 rfl rfl ?_
  refine gf_X1_9 rfl dX1_sees_17 zl_30 zk_30 rfl zr_30_0 zl_2 ?_
  refine px_iconst (v := (2 : Int32)) dX1_sees_20 (by decide) ?_
  refine px_iload dX1_sees_21 rfl ?_
  refine px_iconst (v := (0 : Int32)) dX1_sees_23 (by decide) ?_
  refine px_callV_I (As := [.int (2 : Int32), .int r3, .int (0 : Int32)]) (st := []) dX1_sees_24 lk_X1_29.1 lk_X1_29.2 (b := 2) zl_2 zk_2 (by decide) rfl (by decide) rfl (Nat.le_of_ble_eq_true rfl) rfl rfl (Nat.le_of_ble_eq_true rfl) ⟨Nat.le_refl _, Nat.le_refl _, Nat.le_refl _⟩ ?_
  refine PAt.mono h (fun v κ gi7 gl8 hq => ?_)
  obtain ⟨rfl, r9, rfl, h⟩ := hq
  refine px_iload dX1_sees_27 rfl ?_
  refine px_isub dX1_sees_29 ?_
  obtain ⟨z10, hz10⟩ : ∃ y : Int32, y = r9 - x4 := ⟨_, rfl⟩
  have h := h z10 hz10
  refine px_namei hz10 ?_
  refine px_istore (ls2 := [some (.ref 30), some (.ref p), some (.int x2), some (.int x3), some (.int x4), some (.int x5), some (.int r3), some (.int r6), some (.int z10), none, none, none, none, none, none]) dX1_sees_30 (by decide) rfl ?_
  refine px_aload_n dX1_sees_32 rfl rfl ?_
  refine gf_X1_9 rfl dX1_sees_33 zl_30 zk_30 rfl zr_30_0 zl_2 ?_
  refine px_iconst (v := (2 : Int32)) dX1_sees_36 (by decide) ?_
  refine px_iload dX1_sees_37 rfl ?_
  refine px_iconst (v := (1 : Int32)) dX1_sees_39 (by decide) ?_
  refine px_callV_I (As := [.int (2 : Int32), .int r3, .int (1 : Int32)]) (st := []) dX1_sees_40 lk_X1_29.1 lk_X1_29.2 (b := 2) zl_2 zk_2 (by decide) rfl (by decide) rfl (Nat.le_of_ble_eq_true rfl) rfl rfl (Nat.le_of_ble_eq_true rfl) ⟨Nat.le_refl _, Nat.le_refl _, Nat.le_refl _⟩ ?_
  refine PAt.mono h (fun v κ gi11 gl12 hq => ?_)
  obtain ⟨rfl, r13, rfl, h⟩ := hq
  refine px_iload dX1_sees_43 rfl ?_
  refine px_isub dX1_sees_45 ?_
  obtain ⟨z14, hz14⟩ : ∃ y : Int32, y = r13 - x5 := ⟨_, rfl⟩
  have h := h z14 hz14
  refine px_namei hz14 ?_
  refine px_istore (ls2 := [some (.ref 30), some (.ref p), some (.int x2), some (.int x3), some (.int x4), some (.int x5), some (.int r3), some (.int r6), some (.int z10), some (.int z14), none, none, none, none, none]) dX1_sees_46 (by decide) rfl ?_
  refine px_aload_n dX1_sees_48 rfl rfl ?_
  refine gf_X1_9 rfl dX1_sees_49 zl_30 zk_30 rfl zr_30_0 zl_2 ?_
  refine px_iconst (v := (2 : Int32)) dX1_sees_52 (by decide) ?_
  refine px_iload dX1_sees_53 rfl ?_
  refine px_iconst (v := (0 : Int32)) dX1_sees_55 (by decide) ?_
  refine px_callV_I (As := [.int (2 : Int32), .int r6, .int (0 : Int32)]) (st := []) dX1_sees_56 lk_X1_29.1 lk_X1_29.2 (b := 2) zl_2 zk_2 (by decide) rfl (by decide) rfl (Nat.le_of_ble_eq_true rfl) rfl rfl (Nat.le_of_ble_eq_true rfl) ⟨Nat.le_refl _, Nat.le_refl _, Nat.le_refl _⟩ ?_
  refine PAt.mono h (fun v κ gi15 gl16 hq => ?_)
  obtain ⟨rfl, r17, rfl, h⟩ := hq
  refine px_iload dX1_sees_59 rfl ?_
  refine px_isub dX1_sees_61 ?_
  obtain ⟨z18, hz18⟩ : ∃ y : Int32, y = r17 - x4 := ⟨_, rfl⟩
  have h := h z18 hz18
  refine px_namei hz18 ?_
  refine px_istore (ls2 := [some (.ref 30), some (.ref p), some (.int x2), some (.int x3), some (.int x4), some (.int x5), some (.int r3), some (.int r6), some (.int z10), some (.int z14), some (.int z18), none, none, none, none]) dX1_sees_62 (by decide) rfl ?_
  refine px_aload_n dX1_sees_64 rfl rfl ?_
  refine gf_X1_9 rfl dX1_sees_65 zl_30 zk_30 rfl zr_30_0 zl_2 ?_
  refine px_iconst (v := (2 : Int32)) dX1_sees_68 (by decide) ?_
  refine px_iload dX1_sees_69 rfl ?_
  refine px_iconst (v := (1 : Int32)) dX1_sees_71 (by decide) ?_
  refine px_callV_I (As := [.int (2 : Int32), .int r6, .int (1 : Int32)]) (st := []) dX1_sees_72 lk_X1_29.1 lk_X1_29.2 (b := 2) zl_2 zk_2 (by decide) rfl (by decide) rfl (Nat.le_of_ble_eq_true rfl) rfl rfl (Nat.le_of_ble_eq_true rfl) ⟨Nat.le_refl _, Nat.le_refl _, Nat.le_refl _⟩ ?_
  refine PAt.mono h (fun v κ gi19 gl20 hq => ?_)
  obtain ⟨rfl, r21, rfl, h⟩ := hq
  refine px_iload dX1_sees_75 rfl ?_
  refine px_isub dX1_sees_77 ?_
  obtain ⟨z22, hz22⟩ : ∃ y : Int32, y = r21 - x5 := ⟨_, rfl⟩
  have h := h z22 hz22
  refine px_namei hz22 ?_
  refine px_istore (ls2 := [some (.ref 30), some (.ref p), some (.int x2), some (.int x3), some (.int x4), some (.int x5), some (.int r3), some (.int r6), some (.int z10), some (.int z14), some (.int z18), some (.int z22), none, none, none]) dX1_sees_78 (by decide) rfl ?_
  refine px_iload dX1_sees_80 rfl ?_
  refine px_iload dX1_sees_82 rfl ?_
  refine px_imul dX1_sees_84 ?_
  refine px_iload dX1_sees_85 rfl ?_
  refine px_iload dX1_sees_87 rfl ?_
  refine px_imul dX1_sees_89 ?_
  refine px_iadd dX1_sees_90 ?_
  obtain ⟨z23, hz23⟩ : ∃ y : Int32, y = (z10 * z10) + (z14 * z14) := ⟨_, rfl⟩
  have h := h z23 hz23
  refine px_namei hz23 ?_
  refine px_istore (ls2 := [some (.ref 30), some (.ref p), some (.int x2), some (.int x3), some (.int x4), some (.int x5), some (.int r3), some (.int r6), some (.int z10), some (.int z14), some (.int z18), some (.int z22), some (.int z23), none, none]) dX1_sees_91 (by decide) rfl ?_
  refine px_iload dX1_sees_93 rfl ?_
  refine px_iload dX1_sees_95 rfl ?_
  refine px_imul dX1_sees_97 ?_
  refine px_iload dX1_sees_98 rfl ?_
  refine px_iload dX1_sees_100 rfl ?_
  refine px_imul dX1_sees_102 ?_
  refine px_iadd dX1_sees_103 ?_
  obtain ⟨z24, hz24⟩ : ∃ y : Int32, y = (z18 * z18) + (z22 * z22) := ⟨_, rfl⟩
  have h := h z24 hz24
  refine px_namei hz24 ?_
  refine px_istore (ls2 := [some (.ref 30), some (.ref p), some (.int x2), some (.int x3), some (.int x4), some (.int x5), some (.int r3), some (.int r6), some (.int z10), some (.int z14), some (.int z18), some (.int z22), some (.int z23), some (.int z24), none]) dX1_sees_104 (by decide) rfl ?_
  refine px_iload dX1_sees_106 rfl ?_
  refine px_if_eq (tgt := 116) dX1_sees_108 (by decide) ?_
  by_cases hc : z23 = 0
  · rw [if_pos hc] at h ⊢
    refine px_iconst (v := (0 : Int32)) dX1_sees_116 (by decide) ?_
    exact px_ireturn dX1_sees_117 rfl ⟨.boolean, rfl, rfl, by decide⟩ ⟨rfl, _, rfl, h⟩
  · rw [if_neg hc] at h ⊢
    refine px_iload dX1_sees_111 rfl ?_
    refine px_if_ne (tgt := 118) dX1_sees_113 (by decide) ?_
    by_cases hc : ¬ z24 = 0
    · rw [if_pos hc] at h ⊢
      refine px_iload dX1_sees_118 rfl ?_
      refine px_iload dX1_sees_120 rfl ?_
      refine px_imul dX1_sees_122 ?_
      refine px_iload dX1_sees_123 rfl ?_
      refine px_iload dX1_sees_125 rfl ?_
      refine px_imul dX1_sees_127 ?_
      refine px_isub dX1_sees_128 ?_
      obtain ⟨z25, hz25⟩ : ∃ y : Int32, y = (z10 * z22) - (z14 * z18) := ⟨_, rfl⟩
      have h := h z25 hz25
      refine px_namei hz25 ?_
      refine px_istore (ls2 := [some (.ref 30), some (.ref p), some (.int x2), some (.int x3), some (.int x4), some (.int x5), some (.int r3), some (.int r6), some (.int z10), some (.int z14), some (.int z18), some (.int z22), some (.int z23), some (.int z24), some (.int z25)]) dX1_sees_129 (by decide) rfl ?_
      refine px_aload_n dX1_sees_131 rfl rfl ?_
      refine px_iload_n dX1_sees_132 rfl rfl ?_
      refine px_iconst (v := (0 : Int32)) dX1_sees_133 (by decide) ?_
      refine px_callV_I (As := [.int x2, .int (0 : Int32)]) (st := []) dX1_sees_134 lk_X1_21.1 lk_X1_21.2 (b := p) hpN hpK (by decide) rfl (by decide) rfl (Nat.le_of_ble_eq_true rfl) rfl rfl (Nat.le_of_ble_eq_true rfl) ⟨Nat.le_refl _, Nat.le_refl _, Nat.le_refl _⟩ ?_
      refine PAt.mono h (fun v κ gi26 gl27 hq => ?_)
      obtain ⟨rfl, r28, rfl, h⟩ := hq
      refine px_bipush (v := (9 : Int32)) dX1_sees_137 (by decide) ?_
      refine px_icmp_ne (tgt := 170) dX1_sees_139 (by decide) ?_
      by_cases hc : ¬ r28 = (9 : Int32)
      · rw [if_pos hc] at h ⊢
        refine px_iload dX1_sees_170 rfl ?_
        refine px_if_ne (tgt := 200) dX1_sees_172 (by decide) ?_
        by_cases hc : ¬ z25 = 0
        · rw [if_pos hc] at h ⊢
          refine px_iconst (v := (0 : Int32)) dX1_sees_200 (by decide) ?_
          exact px_ireturn dX1_sees_201 rfl ⟨.boolean, rfl, rfl, by decide⟩ ⟨rfl, _, rfl, h⟩
        · rw [if_neg hc] at h ⊢
          refine px_iload dX1_sees_175 rfl ?_
          refine px_iload dX1_sees_177 rfl ?_
          refine px_imul dX1_sees_179 ?_
          refine px_iload dX1_sees_180 rfl ?_
          refine px_iload dX1_sees_182 rfl ?_
          refine px_imul dX1_sees_184 ?_
          refine px_iadd dX1_sees_185 ?_
          refine px_if_le (tgt := 200) dX1_sees_186 (by decide) ?_
          by_cases hc : ((z10 * z18) + (z14 * z22)) ≤ 0
          · rw [if_pos hc] at h ⊢
            refine px_iconst (v := (0 : Int32)) dX1_sees_200 (by decide) ?_
            exact px_ireturn dX1_sees_201 rfl ⟨.boolean, rfl, rfl, by decide⟩ ⟨rfl, _, rfl, h⟩
          · rw [if_neg hc] at h ⊢
            refine px_iload dX1_sees_189 rfl ?_
            refine px_iload dX1_sees_191 rfl ?_
            refine px_icmp_ge (tgt := 200) dX1_sees_193 (by decide) ?_
            by_cases hc : z24 ≤ z23
            · rw [if_pos hc] at h ⊢
              refine px_iconst (v := (0 : Int32)) dX1_sees_200 (by decide) ?_
              exact px_ireturn dX1_sees_201 rfl ⟨.boolean, rfl, rfl, by decide⟩ ⟨rfl, _, rfl, h⟩
            · rw [if_neg hc] at h ⊢
              refine px_iconst (v := (1 : Int32)) dX1_sees_196 (by decide) ?_
              refine px_goto (tgt := 201) dX1_sees_197 (by decide) ?_
              exact px_ireturn dX1_sees_201 rfl ⟨.boolean, rfl, rfl, by decide⟩ ⟨rfl, _, rfl, h⟩
      · rw [if_neg hc] at h ⊢
        refine px_iload_n dX1_sees_142 rfl rfl ?_
        refine px_if_eq (tgt := 159) dX1_sees_143 (by decide) ?_
        by_cases hc : x3 = 0
        · rw [if_pos hc] at h ⊢
          refine px_iload dX1_sees_159 rfl ?_
          refine px_if_ge (tgt := 168) dX1_sees_161 (by decide) ?_
          by_cases hc : 0 ≤ z25
          · rw [if_pos hc] at h ⊢
            refine px_iconst (v := (0 : Int32)) dX1_sees_168 (by decide) ?_
            exact px_ireturn dX1_sees_169 rfl ⟨.boolean, rfl, rfl, by decide⟩ ⟨rfl, _, rfl, h⟩
          · rw [if_neg hc] at h ⊢
            refine px_iconst (v := (1 : Int32)) dX1_sees_164 (by decide) ?_
            refine px_goto (tgt := 169) dX1_sees_165 (by decide) ?_
            exact px_ireturn dX1_sees_169 rfl ⟨.boolean, rfl, rfl, by decide⟩ ⟨rfl, _, rfl, h⟩
        · rw [if_neg hc] at h ⊢
          refine px_iload dX1_sees_146 rfl ?_
          refine px_if_le (tgt := 155) dX1_sees_148 (by decide) ?_
          by_cases hc : z25 ≤ 0
          · rw [if_pos hc] at h ⊢
            refine px_iconst (v := (0 : Int32)) dX1_sees_155 (by decide) ?_
            refine px_goto (tgt := 169) dX1_sees_156 (by decide) ?_
            exact px_ireturn dX1_sees_169 rfl ⟨.boolean, rfl, rfl, by decide⟩ ⟨rfl, _, rfl, h⟩
          · rw [if_neg hc] at h ⊢
            refine px_iconst (v := (1 : Int32)) dX1_sees_151 (by decide) ?_
            refine px_goto (tgt := 169) dX1_sees_152 (by decide) ?_
            exact px_ireturn dX1_sees_169 rfl ⟨.boolean, rfl, rfl, by decide⟩ ⟨rfl, _, rfl, h⟩
    · rw [if_neg hc] at h ⊢
      refine px_iconst (v := (0 : Int32)) dX1_sees_116 (by decide) ?_
      exact px_ireturn dX1_sees_117 rfl ⟨.boolean, rfl, rfl, by decide⟩ ⟨rfl, _, rfl, h⟩
