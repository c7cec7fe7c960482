/-! laid by program: X7 -/
def f_X7_placeOfToken  (gi : Gi) (gl : Gl) (Q : Int32 → Gi → Gl → Prop) : Prop :=
p_X8_placeOfToken  gi gl (fun (r3 : Int32) (gi1 : Gi) (gl2 : Gl) =>
Q r3 gi1 gl2)
set_option maxRecDepth 100000 in
theorem v_X7_placeOfToken  {gi : Gi} {gl : Gl} {Q : Int32 → Gi → Gl → Prop}  (h : f_X7_placeOfToken  gi gl Q) : p_X7_placeOfToken  gi gl Q := by
  unfold f_X7_placeOfToken at h
  show PAt mX7_placeOfToken NN NN κF 0 [some (.ref 21)] [] gi gl _
  refine px_aload_n dX7_placeOfToken_0 rfl rfl ?_
  refine gf_X7_16 rfl dX7_placeOfToken_1 zl_21 zk_21 rfl zr_21_0 zl_22 ?_
  refine px_callV_I (As := []) (st := []) dX7_placeOfToken_4 lk_X7_31.1 lk_X7_31.2 (b := 22) zl_22 zk_22 (by decide) rfl (by decide) rfl (Nat.le_of_ble_eq_true rfl) rfl rfl (Nat.le_of_ble_eq_true rfl) ⟨Nat.le_refl _, Nat.le_refl _, Nat.le_refl _⟩ ?_
  refine PAt.mono h (fun v κ gi1 gl2 hq => ?_)
  obtain ⟨rfl, r3, rfl, h⟩ := hq
  exact px_ireturn dX7_placeOfToken_7 rfl ⟨.int, rfl, rfl, rfl⟩ ⟨rfl, _, rfl, h⟩
abbrev p_X7_readsTown_17 (x2 : Int32) (gi : Gi) (gl : Gl) (Q : Int32 → Gi → Gl → Prop) : Prop := PAt mX7_readsTown NN NN κF 17 [some (.ref 21), none, some (.int x2)] [] gi gl (RiQ Q)
def f_X7_readsTown (x1 : Int32) (gi : Gi) (gl : Gl) (Q : Int32 → Gi → Gl → Prop) : Prop :=
p_X10_clear 8 gi gl (fun (gi1 : Gi) (gl2 : Gl) =>
p_X8_begin x1 gi1 gl2 (fun (gi3 : Gi) (gl4 : Gl) =>
p_X7_readsTown_17 (0 : Int32) gi3 gl4 Q))
def f_X7_readsTown_17 (x2 : Int32) (gi : Gi) (gl : Gl) (Q : Int32 → Gi → Gl → Prop) : Prop :=
if (60 : Int32) ≤ x2 then
(p_X8_ended  gi gl (fun (r3 : Int32) (gi1 : Gi) (gl2 : Gl) =>
(r3 = 0 ∨ r3 = 1) ∧
Q r3 gi1 gl2))
else
(p_X8_ended  gi gl (fun (r6 : Int32) (gi4 : Gi) (gl5 : Gl) =>
if ¬ r6 = 0 then
(p_X8_ended  gi4 gl5 (fun (r9 : Int32) (gi7 : Gi) (gl8 : Gl) =>
(r9 = 0 ∨ r9 = 1) ∧
Q r9 gi7 gl8))
else
(p_X7_readsStatement  gi4 gl5 (fun (r12 : Int32) (gi10 : Gi) (gl11 : Gl) =>
if r12 = 0 then
(Q (0 : Int32) gi10 gl11)
else
(p_X8_takesSemicolon  gi10 gl11 (fun (r15 : Int32) (gi13 : Gi) (gl14 : Gl) =>
if ¬ r15 = 0 then
(p_X10_tellStatement 8 gi13 gl14 (fun (gi16 : Gi) (gl17 : Gl) =>
p_X7_readsTown_17 (x2 + (1 : Int32)) gi16 gl17 Q))
else
(Q (0 : Int32) gi13 gl14)))))))
set_option maxRecDepth 100000 in
theorem v_X7_readsTown {x1 : Int32} {gi : Gi} {gl : Gl} {Q : Int32 → Gi → Gl → Prop}  (h : f_X7_readsTown x1 gi gl Q) : p_X7_readsTown x1 gi gl Q := by
  unfold f_X7_readsTown at h
  show PAt mX7_readsTown NN NN κF 0 [some (.ref 21), some (.int x1), none] [] gi gl _
  refine px_aload_n dX7_readsTown_0 rfl rfl ?_
  refine gf_X7_24 rfl dX7_readsTown_1 zl_21 zk_21 rfl zr_21_2 zl_8 ?_
  refine px_callV_V (As := []) (st := []) dX7_readsTown_4 lk_X7_35.1 lk_X7_35.2 (b := 8) zl_8 zk_8 (by decide) rfl (by decide) rfl (Nat.le_of_ble_eq_true rfl) rfl rfl (Nat.le_of_ble_eq_true rfl) ⟨Nat.le_refl _, Nat.le_refl _, Nat.le_refl _⟩ ?_
  refine PAt.mono h (fun v κ gi1 gl2 hq => ?_)
  obtain ⟨rfl, -, h⟩ := hq
  refine px_aload_n dX7_readsTown_7 rfl rfl ?_
  refine gf_X7_16 rfl dX7_readsTown_8 zl_21 zk_21 rfl zr_21_0 zl_22 ?_
  refine px_iload_n dX7_readsTown_11 rfl rfl ?_
  refine px_callV_V (As := [.int x1]) (st := []) dX7_readsTown_12 lk_X7_40.1 lk_X7_40.2 (b := 22) zl_22 zk_22 (by decide) rfl (by decide) rfl (Nat.le_of_ble_eq_true rfl) rfl rfl (Nat.le_of_ble_eq_true rfl) ⟨Nat.le_refl _, Nat.le_refl _, Nat.le_refl _⟩ ?_
  refine PAt.mono h (fun v κ gi3 gl4 hq => ?_)
  obtain ⟨rfl, -, h⟩ := hq
  refine px_iconst (v := (0 : Int32)) dX7_readsTown_15 (by decide) ?_
  refine px_istore_n (ls2 := [some (.ref 21), some (.int x1), some (.int (0 : Int32))]) (i := 2) rfl dX7_readsTown_16 (by decide) rfl ?_
  exact PAt.forget h (lsub_at ⟨rfl, ⟨rfl, trivial⟩⟩)
set_option maxRecDepth 100000 in
theorem v_X7_readsTown_17 {x2 : Int32} {gi : Gi} {gl : Gl} {Q : Int32 → Gi → Gl → Prop}  (h : f_X7_readsTown_17 x2 gi gl Q) : p_X7_readsTown_17 x2 gi gl Q := by
  unfold f_X7_readsTown_17 at h
  show PAt mX7_readsTown NN NN κF 17 [some (.ref 21), none, some (.int x2)] [] gi gl _
  refine px_iload_n dX7_readsTown_17 rfl rfl ?_
  refine px_bipush (v := (60 : Int32)) dX7_readsTown_18 (by decide) ?_
  refine px_icmp_ge (tgt := 65) dX7_readsTown_20 (by decide) ?_
  by_cases hc : (60 : Int32) ≤ x2
  · rw [if_pos hc] at h ⊢
    refine px_aload_n dX7_readsTown_65 rfl rfl ?_
    refine gf_X7_16 rfl dX7_readsTown_66 zl_21 zk_21 rfl zr_21_0 zl_22 ?_
    refine px_callV_I (As := []) (st := []) dX7_readsTown_69 lk_X7_44.1 lk_X7_44.2 (b := 22) zl_22 zk_22 (by decide) rfl (by decide) rfl (Nat.le_of_ble_eq_true rfl) rfl rfl (Nat.le_of_ble_eq_true rfl) ⟨Nat.le_refl _, Nat.le_refl _, Nat.le_refl _⟩ ?_
    refine PAt.mono h (fun v κ gi1 gl2 hq => ?_)
    obtain ⟨rfl, r3, rfl, h⟩ := hq
    obtain ⟨hz, h⟩ := h
    exact px_ireturn dX7_readsTown_72 rfl ⟨.boolean, rfl, rfl, nar01 hz⟩ ⟨rfl, _, rfl, h⟩
  · rw [if_neg hc] at h ⊢
    refine px_aload_n dX7_readsTown_23 rfl rfl ?_
    refine gf_X7_16 rfl dX7_readsTown_24 zl_21 zk_21 rfl zr_21_0 zl_22 ?_
    refine px_callV_I (As := []) (st := []) dX7_readsTown_27 lk_X7_44.1 lk_X7_44.2 (b := 22) zl_22 zk_22 (by decide) rfl (by decide) rfl (Nat.le_of_ble_eq_true rfl) rfl rfl (Nat.le_of_ble_eq_true rfl) ⟨Nat.le_refl _, Nat.le_refl _, Nat.le_refl _⟩ ?_
    refine PAt.mono h (fun v κ gi4 gl5 hq => ?_)
    obtain ⟨rfl, r6, rfl, h⟩ := hq
    refine px_if_ne (tgt := 65) dX7_readsTown_30 (by decide) ?_
    by_cases hc : ¬ r6 = 0
    · rw [if_pos hc] at h ⊢
      refine px_aload_n dX7_readsTown_65 rfl rfl ?_
      refine gf_X7_16 rfl dX7_readsTown_66 zl_21 zk_21 rfl zr_21_0 zl_22 ?_
      refine px_callV_I (As := []) (st := []) dX7_readsTown_69 lk_X7_44.1 lk_X7_44.2 (b := 22) zl_22 zk_22 (by decide) rfl (by decide) rfl (Nat.le_of_ble_eq_true rfl) rfl rfl (Nat.le_of_ble_eq_true rfl) ⟨Nat.le_refl _, Nat.le_refl _, Nat.le_refl _⟩ ?_
      refine PAt.mono h (fun v κ gi7 gl8 hq => ?_)
      obtain ⟨rfl, r9, rfl, h⟩ := hq
      obtain ⟨hz, h⟩ := h
      exact px_ireturn dX7_readsTown_72 rfl ⟨.boolean, rfl, rfl, nar01 hz⟩ ⟨rfl, _, rfl, h⟩
    · rw [if_neg hc] at h ⊢
      refine px_aload_n dX7_readsTown_33 rfl rfl ?_
      refine px_callV_I (As := []) (st := []) dX7_readsTown_34 lk_X7_48.1 lk_X7_48.2 (b := 21) zl_21 zk_21 (by decide) rfl (by decide) rfl (Nat.le_of_ble_eq_true rfl) rfl rfl (Nat.le_of_ble_eq_true rfl) ⟨Nat.le_refl _, Nat.le_refl _, Nat.le_refl _⟩ ?_
      refine PAt.mono h (fun v κ gi10 gl11 hq => ?_)
      obtain ⟨rfl, r12, rfl, h⟩ := hq
      refine px_if_eq (tgt := 50) dX7_readsTown_37 (by decide) ?_
      by_cases hc : r12 = 0
      · rw [if_pos hc] at h ⊢
        refine px_iconst (v := (0 : Int32)) dX7_readsTown_50 (by decide) ?_
        exact px_ireturn dX7_readsTown_51 rfl ⟨.boolean, rfl, rfl, by decide⟩ ⟨rfl, _, rfl, h⟩
      · rw [if_neg hc] at h ⊢
        refine px_aload_n dX7_readsTown_40 rfl rfl ?_
        refine gf_X7_16 rfl dX7_readsTown_41 zl_21 zk_21 rfl zr_21_0 zl_22 ?_
        refine px_callV_I (As := []) (st := []) dX7_readsTown_44 lk_X7_51.1 lk_X7_51.2 (b := 22) zl_22 zk_22 (by decide) rfl (by decide) rfl (Nat.le_of_ble_eq_true rfl) rfl rfl (Nat.le_of_ble_eq_true rfl) ⟨Nat.le_refl _, Nat.le_refl _, Nat.le_refl _⟩ ?_
        refine PAt.mono h (fun v κ gi13 gl14 hq => ?_)
        obtain ⟨rfl, r15, rfl, h⟩ := hq
        refine px_if_ne (tgt := 52) dX7_readsTown_47 (by decide) ?_
        by_cases hc : ¬ r15 = 0
        · rw [if_pos hc] at h ⊢
          refine px_aload_n dX7_readsTown_52 rfl rfl ?_
          refine gf_X7_24 rfl dX7_readsTown_53 zl_21 zk_21 rfl zr_21_2 zl_8 ?_
          refine px_callV_V (As := []) (st := []) dX7_readsTown_56 lk_X7_54.1 lk_X7_54.2 (b := 8) zl_8 zk_8 (by decide) rfl (by decide) rfl (Nat.le_of_ble_eq_true rfl) rfl rfl (Nat.le_of_ble_eq_true rfl) ⟨Nat.le_refl _, Nat.le_refl _, Nat.le_refl _⟩ ?_
          refine PAt.mono h (fun v κ gi16 gl17 hq => ?_)
          obtain ⟨rfl, -, h⟩ := hq
          refine px_iinc (v := x2 + (1 : Int32)) (ls2 := [some (.ref 21), none, some (.int (x2 + (1 : Int32)))]) dX7_readsTown_59 rfl rfl (by decide) rfl ?_
          refine px_goto (tgt := 17) dX7_readsTown_62 (by decide) ?_
          exact PAt.forget h (lsub_at ⟨rfl, ⟨rfl, trivial⟩⟩)
        · rw [if_neg hc] at h ⊢
          refine px_iconst (v := (0 : Int32)) dX7_readsTown_50 (by decide) ?_
          exact px_ireturn dX7_readsTown_51 rfl ⟨.boolean, rfl, rfl, by decide⟩ ⟨rfl, _, rfl, h⟩
abbrev p_X7_readsSigns_18 (x2 : Int32) (x3 : Int32) (gi : Gi) (gl : Gl) (Q : Int32 → Gi → Gl → Prop) : Prop := PAt mX7_readsSigns NN NN κF 18 [some (.ref 21), none, some (.int x2), some (.int x3)] [] gi gl (RiQ Q)
abbrev p_X7_readsSigns_59 (x2 : Int32) (gi : Gi) (gl : Gl) (Q : Int32 → Gi → Gl → Prop) : Prop := PAt mX7_readsSigns NN NN κF 59 [some (.ref 21), none, some (.int x2), none] [] gi gl (RiQ Q)
def f_X7_readsSigns (x1 : Int32) (gi : Gi) (gl : Gl) (Q : Int32 → Gi → Gl → Prop) : Prop :=
p_X8_begin x1 gi gl (fun (gi1 : Gi) (gl2 : Gl) =>
p_X5_size 14 gi1 gl2 (fun (r5 : Int32) (gi3 : Gi) (gl4 : Gl) =>
p_X7_readsSigns_18 r5 r5 gi3 gl4 Q))
def f_X7_readsSigns_18 (x2 : Int32) (x3 : Int32) (gi : Gi) (gl : Gl) (Q : Int32 → Gi → Gl → Prop) : Prop :=
if (12 : Int32) ≤ x3 then
(p_X7_readsSigns_59 x2 gi gl Q)
else
(p_X8_ended  gi gl (fun (r3 : Int32) (gi1 : Gi) (gl2 : Gl) =>
if ¬ r3 = 0 then
(p_X7_readsSigns_59 x2 gi1 gl2 Q)
else
(p_X7_readsSign  gi1 gl2 (fun (r6 : Int32) (gi4 : Gi) (gl5 : Gl) =>
if r6 = 0 then
(Q (0 : Int32) gi4 gl5)
else
(p_X8_takesSemicolon  gi4 gl5 (fun (r9 : Int32) (gi7 : Gi) (gl8 : Gl) =>
if ¬ r9 = 0 then
(p_X7_readsSigns_18 x2 (x3 + (1 : Int32)) gi7 gl8 Q)
else
(Q (0 : Int32) gi7 gl8)))))))
def f_X7_readsSigns_59 (x2 : Int32) (gi : Gi) (gl : Gl) (Q : Int32 → Gi → Gl → Prop) : Prop :=
p_X8_ended  gi gl (fun (r3 : Int32) (gi1 : Gi) (gl2 : Gl) =>
if r3 = 0 then
(Q (0 : Int32) gi1 gl2)
else
(p_X5_size 14 gi1 gl2 (fun (r6 : Int32) (gi4 : Gi) (gl5 : Gl) =>
if r6 ≤ x2 then
(Q (0 : Int32) gi4 gl5)
else
(Q (1 : Int32) gi4 gl5))))
set_option maxRecDepth 100000 in
theorem v_X7_readsSigns {x1 : Int32} {gi : Gi} {gl : Gl} {Q : Int32 → Gi → Gl → Prop}  (h : f_X7_readsSigns x1 gi gl Q) : p_X7_readsSigns x1 gi gl Q := by
  unfold f_X7_readsSigns at h
  show PAt mX7_readsSigns NN NN κF 0 [some (.ref 21), some (.int x1), none, none] [] gi gl _
  refine px_aload_n dX7_readsSigns_0 rfl rfl ?_
  refine gf_X7_16 rfl dX7_readsSigns_1 zl_21 zk_21 rfl zr_21_0 zl_22 ?_
  refine px_iload_n dX7_readsSigns_4 rfl rfl ?_
  refine px_callV_V (As := [.int x1]) (st := []) dX7_readsSigns_5 lk_X7_40.1 lk_X7_40.2 (b := 22) zl_22 zk_22 (by decide) rfl (by decide) rfl (Nat.le_of_ble_eq_true rfl) rfl rfl (Nat.le_of_ble_eq_true rfl) ⟨Nat.le_refl _, Nat.le_refl _, Nat.le_refl _⟩ ?_
  refine PAt.mono h (fun v κ gi1 gl2 hq => ?_)
  obtain ⟨rfl, -, h⟩ := hq
  refine px_aload_n dX7_readsSigns_8 rfl rfl ?_
  refine gf_X7_27 rfl dX7_readsSigns_9 zl_21 zk_21 rfl zr_21_3 zl_14 ?_
  refine px_callV_I (As := []) (st := []) dX7_readsSigns_12 lk_X7_57.1 lk_X7_57.2 (b := 14) zl_14 zk_14 (by decide) rfl (by decide) rfl (Nat.le_of_ble_eq_true rfl) rfl rfl (Nat.le_of_ble_eq_true rfl) ⟨Nat.le_refl _, Nat.le_refl _, Nat.le_refl _⟩ ?_
  refine PAt.mono h (fun v κ gi3 gl4 hq => ?_)
  obtain ⟨rfl, r5, rfl, h⟩ := hq
  refine px_istore_n (ls2 := [some (.ref 21), some (.int x1), some (.int r5), none]) (i := 2) rfl dX7_readsSigns_15 (by decide) rfl ?_
  refine px_iload_n dX7_readsSigns_16 rfl rfl ?_
  refine px_istore_n (ls2 := [some (.ref 21), some (.int x1), some (.int r5), some (.int r5)]) (i := 3) rfl dX7_readsSigns_17 (by decide) rfl ?_
  exact PAt.forget h (lsub_at ⟨rfl, ⟨rfl, ⟨rfl, trivial⟩⟩⟩)
set_option maxRecDepth 100000 in
theorem v_X7_readsSigns_18 {x2 : Int32} {x3 : Int32} {gi : Gi} {gl : Gl} {Q : Int32 → Gi → Gl → Prop}  (h : f_X7_readsSigns_18 x2 x3 gi gl Q) : p_X7_readsSigns_18 x2 x3 gi gl Q := by
  unfold f_X7_readsSigns_18 at h
  show PAt mX7_readsSigns NN NN κF 18 [some (.ref 21), none, some (.int x2), some (.int x3)] [] gi gl _
  refine px_iload_n dX7_readsSigns_18 rfl rfl ?_
  refine px_bipush (v := (12 : Int32)) dX7_readsSigns_19 (by decide) ?_
  refine px_icmp_ge (tgt := 59) dX7_readsSigns_21 (by decide) ?_
  by_cases hc : (12 : Int32) ≤ x3
  · rw [if_pos hc] at h ⊢
    exact PAt.forget h (lsub_at ⟨rfl, ⟨rfl, trivial⟩⟩)
  · rw [if_neg hc] at h ⊢
    refine px_aload_n dX7_readsSigns_24 rfl rfl ?_
    refine gf_X7_16 rfl dX7_readsSigns_25 zl_21 zk_21 rfl zr_21_0 zl_22 ?_
    refine px_callV_I (As := []) (st := []) dX7_readsSigns_28 lk_X7_44.1 lk_X7_44.2 (b := 22) zl_22 zk_22 (by decide) rfl (by decide) rfl (Nat.le_of_ble_eq_true rfl) rfl rfl (Nat.le_of_ble_eq_true rfl) ⟨Nat.le_refl _, Nat.le_refl _, Nat.le_refl _⟩ ?_
    refine PAt.mono h (fun v κ gi1 gl2 hq => ?_)
    obtain ⟨rfl, r3, rfl, h⟩ := hq
    refine px_if_ne (tgt := 59) dX7_readsSigns_31 (by decide) ?_
    by_cases hc : ¬ r3 = 0
    · rw [if_pos hc] at h ⊢
      exact PAt.forget h (lsub_at ⟨rfl, ⟨rfl, trivial⟩⟩)
    · rw [if_neg hc] at h ⊢
      refine px_aload_n dX7_readsSigns_34 rfl rfl ?_
      refine px_callV_I (As := []) (st := []) dX7_readsSigns_35 lk_X7_62.1 lk_X7_62.2 (b := 21) zl_21 zk_21 (by decide) rfl (by decide) rfl (Nat.le_of_ble_eq_true rfl) rfl rfl (Nat.le_of_ble_eq_true rfl) ⟨Nat.le_refl _, Nat.le_refl _, Nat.le_refl _⟩ ?_
      refine PAt.mono h (fun v κ gi4 gl5 hq => ?_)
      obtain ⟨rfl, r6, rfl, h⟩ := hq
      refine px_if_eq (tgt := 51) dX7_readsSigns_38 (by decide) ?_
      by_cases hc : r6 = 0
      · rw [if_pos hc] at h ⊢
        refine px_iconst (v := (0 : Int32)) dX7_readsSigns_51 (by decide) ?_
        exact px_ireturn dX7_readsSigns_52 rfl ⟨.boolean, rfl, rfl, by decide⟩ ⟨rfl, _, rfl, h⟩
      · rw [if_neg hc] at h ⊢
        refine px_aload_n dX7_readsSigns_41 rfl rfl ?_
        refine gf_X7_16 rfl dX7_readsSigns_42 zl_21 zk_21 rfl zr_21_0 zl_22 ?_
        refine px_callV_I (As := []) (st := []) dX7_readsSigns_45 lk_X7_51.1 lk_X7_51.2 (b := 22) zl_22 zk_22 (by decide) rfl (by decide) rfl (Nat.le_of_ble_eq_true rfl) rfl rfl (Nat.le_of_ble_eq_true rfl) ⟨Nat.le_refl _, Nat.le_refl _, Nat.le_refl _⟩ ?_
        refine PAt.mono h (fun v κ gi7 gl8 hq => ?_)
        obtain ⟨rfl, r9, rfl, h⟩ := hq
        refine px_if_ne (tgt := 53) dX7_readsSigns_48 (by decide) ?_
        by_cases hc : ¬ r9 = 0
        · rw [if_pos hc] at h ⊢
          refine px_iinc (v := x3 + (1 : Int32)) (ls2 := [some (.ref 21), none, some (.int x2), some (.int (x3 + (1 : Int32)))]) dX7_readsSigns_53 rfl rfl (by decide) rfl ?_
          refine px_goto (tgt := 18) dX7_readsSigns_56 (by decide) ?_
          exact PAt.forget h (lsub_at ⟨rfl, ⟨rfl, ⟨rfl, trivial⟩⟩⟩)
        · rw [if_neg hc] at h ⊢
          refine px_iconst (v := (0 : Int32)) dX7_readsSigns_51 (by decide) ?_
          exact px_ireturn dX7_readsSigns_52 rfl ⟨.boolean, rfl, rfl, by decide⟩ ⟨rfl, _, rfl, h⟩
set_option maxRecDepth 100000 in
theorem v_X7_readsSigns_59 {x2 : Int32} {gi : Gi} {gl : Gl} {Q : Int32 → Gi → Gl → Prop}  (h : f_X7_readsSigns_59 x2 gi gl Q) : p_X7_readsSigns_59 x2 gi gl Q := by
  unfold f_X7_readsSigns_59 at h
  show PAt mX7_readsSigns NN NN κF 59 [some (.ref 21), none, some (.int x2), none] [] gi gl _
  refine px_aload_n dX7_readsSigns_59 rfl rfl ?_
  refine gf_X7_16 rfl dX7_readsSigns_60 zl_21 zk_21 rfl zr_21_0 zl_22 ?_
  refine px_callV_I (As := []) (st := []) dX7_readsSigns_63 lk_X7_44.1 lk_X7_44.2 (b := 22) zl_22 zk_22 (by decide) rfl (by decide) rfl (Nat.le_of_ble_eq_true rfl) rfl rfl (Nat.le_of_ble_eq_true rfl) ⟨Nat.le_refl _, Nat.le_refl _, Nat.le_refl _⟩ ?_
  refine PAt.mono h (fun v κ gi1 gl2 hq => ?_)
  obtain ⟨rfl, r3, rfl, h⟩ := hq
  refine px_if_eq (tgt := 84) dX7_readsSigns_66 (by decide) ?_
  by_cases hc : r3 = 0
  · rw [if_pos hc] at h ⊢
    refine px_iconst (v := (0 : Int32)) dX7_readsSigns_84 (by decide) ?_
    exact px_ireturn dX7_readsSigns_85 rfl ⟨.boolean, rfl, rfl, by decide⟩ ⟨rfl, _, rfl, h⟩
  · rw [if_neg hc] at h ⊢
    refine px_aload_n dX7_readsSigns_69 rfl rfl ?_
    refine gf_X7_27 rfl dX7_readsSigns_70 zl_21 zk_21 rfl zr_21_3 zl_14 ?_
    refine px_callV_I (As := []) (st := []) dX7_readsSigns_73 lk_X7_57.1 lk_X7_57.2 (b := 14) zl_14 zk_14 (by decide) rfl (by decide) rfl (Nat.le_of_ble_eq_true rfl) rfl rfl (Nat.le_of_ble_eq_true rfl) ⟨Nat.le_refl _, Nat.le_refl _, Nat.le_refl _⟩ ?_
    refine PAt.mono h (fun v κ gi4 gl5 hq => ?_)
    obtain ⟨rfl, r6, rfl, h⟩ := hq
    refine px_iload_n dX7_readsSigns_76 rfl rfl ?_
    refine px_icmp_le (tgt := 84) dX7_readsSigns_77 (by decide) ?_
    by_cases hc : r6 ≤ x2
    · rw [if_pos hc] at h ⊢
      refine px_iconst (v := (0 : Int32)) dX7_readsSigns_84 (by decide) ?_
      exact px_ireturn dX7_readsSigns_85 rfl ⟨.boolean, rfl, rfl, by decide⟩ ⟨rfl, _, rfl, h⟩
    · rw [if_neg hc] at h ⊢
      refine px_iconst (v := (1 : Int32)) dX7_readsSigns_80 (by decide) ?_
      refine px_goto (tgt := 85) dX7_readsSigns_81 (by decide) ?_
      exact px_ireturn dX7_readsSigns_85 rfl ⟨.boolean, rfl, rfl, by decide⟩ ⟨rfl, _, rfl, h⟩
def f_X7_readsStatement  (gi : Gi) (gl : Gl) (Q : Int32 → Gi → Gl → Prop) : Prop :=
p_X8_takes 0 gi gl (fun (r3 : Int32) (gi1 : Gi) (gl2 : Gl) =>
if r3 = 0 then
(p_X8_takes 5 gi1 gl2 (fun (r6 : Int32) (gi4 : Gi) (gl5 : Gl) =>
if r6 = 0 then
(p_X8_takes 8 gi4 gl5 (fun (r9 : Int32) (gi7 : Gi) (gl8 : Gl) =>
if r9 = 0 then
(p_X8_takes 9 gi7 gl8 (fun (r12 : Int32) (gi10 : Gi) (gl11 : Gl) =>
if r12 = 0 then
(p_X8_takes 12 gi10 gl11 (fun (r15 : Int32) (gi13 : Gi) (gl14 : Gl) =>
if r15 = 0 then
(Q (0 : Int32) gi13 gl14)
else
(p_X7_readsSun  gi13 gl14 (fun (r18 : Int32) (gi16 : Gi) (gl17 : Gl) =>
if r18 = 0 then
(Q (0 : Int32) gi16 gl17)
else
(Q (1 : Int32) gi16 gl17)))))
else
(p_X7_readsClock  gi10 gl11 (fun (r21 : Int32) (gi19 : Gi) (gl20 : Gl) =>
(r21 = 0 ∨ r21 = 1) ∧
Q r21 gi19 gl20))))
else
(p_X7_readsPost  gi7 gl8 (fun (r24 : Int32) (gi22 : Gi) (gl23 : Gl) =>
(r24 = 0 ∨ r24 = 1) ∧
Q r24 gi22 gl23))))
else
(p_X7_readsTree  gi4 gl5 (fun (r27 : Int32) (gi25 : Gi) (gl26 : Gl) =>
(r27 = 0 ∨ r27 = 1) ∧
Q r27 gi25 gl26))))
else
(p_X7_readsThing  gi1 gl2 (fun (r30 : Int32) (gi28 : Gi) (gl29 : Gl) =>
(r30 = 0 ∨ r30 = 1) ∧
Q r30 gi28 gl29)))
set_option maxRecDepth 100000 in
theorem v_X7_readsStatement  {gi : Gi} {gl : Gl} {Q : Int32 → Gi → Gl → Prop}  (h : f_X7_readsStatement  gi gl Q) : p_X7_readsStatement  gi gl Q := by
  unfold f_X7_readsStatement at h
  show PAt mX7_readsStatement NN NN κF 0 [some (.ref 21)] [] gi gl _
  refine px_aload_n dX7_readsStatement_0 rfl rfl ?_
  refine gf_X7_16 rfl dX7_readsStatement_1 zl_21 zk_21 rfl zr_21_0 zl_22 ?_
  refine px_ldcS (i := 0) dX7_readsStatement_4 (by decide) rfl rfl ?_
  refine px_callV_I (As := [.ref (ROB + 0)]) (st := []) dX7_readsStatement_6 lk_X7_67.1 lk_X7_67.2 (b := 22) zl_22 zk_22 (by decide) rfl (by decide) rfl (Nat.le_of_ble_eq_true rfl) rfl rfl (Nat.le_of_ble_eq_true rfl) ⟨Nat.le_refl _, Nat.le_refl _, Nat.le_refl _⟩ ?_
  refine PAt.mono h (fun v κ gi1 gl2 hq => ?_)
  obtain ⟨rfl, r3, rfl, h⟩ := hq
  refine px_if_eq (tgt := 17) dX7_readsStatement_9 (by decide) ?_
  by_cases hc : r3 = 0
  · rw [if_pos hc] at h ⊢
    refine px_aload_n dX7_readsStatement_17 rfl rfl ?_
    refine gf_X7_16 rfl dX7_readsStatement_18 zl_21 zk_21 rfl zr_21_0 zl_22 ?_
    refine px_ldcS (i := 5) dX7_readsStatement_21 (by decide) rfl rfl ?_
    refine px_callV_I (As := [.ref (ROB + 5)]) (st := []) dX7_readsStatement_23 lk_X7_67.1 lk_X7_67.2 (b := 22) zl_22 zk_22 (by decide) rfl (by decide) rfl (Nat.le_of_ble_eq_true rfl) rfl rfl (Nat.le_of_ble_eq_true rfl) ⟨Nat.le_refl _, Nat.le_refl _, Nat.le_refl _⟩ ?_
    refine PAt.mono h (fun v κ gi4 gl5 hq => ?_)
    obtain ⟨rfl, r6, rfl, h⟩ := hq
    refine px_if_eq (tgt := 34) dX7_readsStatement_26 (by decide) ?_
    by_cases hc : r6 = 0
    · rw [if_pos hc] at h ⊢
      refine px_aload_n dX7_readsStatement_34 rfl rfl ?_
      refine gf_X7_16 rfl dX7_readsStatement_35 zl_21 zk_21 rfl zr_21_0 zl_22 ?_
      refine px_ldcS (i := 8) dX7_readsStatement_38 (by decide) rfl rfl ?_
      refine px_callV_I (As := [.ref (ROB + 8)]) (st := []) dX7_readsStatement_40 lk_X7_67.1 lk_X7_67.2 (b := 22) zl_22 zk_22 (by decide) rfl (by decide) rfl (Nat.le_of_ble_eq_true rfl) rfl rfl (Nat.le_of_ble_eq_true rfl) ⟨Nat.le_refl _, Nat.le_refl _, Nat.le_refl _⟩ ?_
      refine PAt.mono h (fun v κ gi7 gl8 hq => ?_)
      obtain ⟨rfl, r9, rfl, h⟩ := hq
      refine px_if_eq (tgt := 51) dX7_readsStatement_43 (by decide) ?_
      by_cases hc : r9 = 0
      · rw [if_pos hc] at h ⊢
        refine px_aload_n dX7_readsStatement_51 rfl rfl ?_
        refine gf_X7_16 rfl dX7_readsStatement_52 zl_21 zk_21 rfl zr_21_0 zl_22 ?_
        refine px_ldcS (i := 9) dX7_readsStatement_55 (by decide) rfl rfl ?_
        refine px_callV_I (As := [.ref (ROB + 9)]) (st := []) dX7_readsStatement_57 lk_X7_67.1 lk_X7_67.2 (b := 22) zl_22 zk_22 (by decide) rfl (by decide) rfl (Nat.le_of_ble_eq_true rfl) rfl rfl (Nat.le_of_ble_eq_true rfl) ⟨Nat.le_refl _, Nat.le_refl _, Nat.le_refl _⟩ ?_
        refine PAt.mono h (fun v κ gi10 gl11 hq => ?_)
        obtain ⟨rfl, r12, rfl, h⟩ := hq
        refine px_if_eq (tgt := 68) dX7_readsStatement_60 (by decide) ?_
        by_cases hc : r12 = 0
        · rw [if_pos hc] at h ⊢
          refine px_aload_n dX7_readsStatement_68 rfl rfl ?_
          refine gf_X7_16 rfl dX7_readsStatement_69 zl_21 zk_21 rfl zr_21_0 zl_22 ?_
          refine px_ldcS (i := 12) dX7_readsStatement_72 (by decide) rfl rfl ?_
          refine px_callV_I (As := [.ref (ROB + 12)]) (st := []) dX7_readsStatement_74 lk_X7_67.1 lk_X7_67.2 (b := 22) zl_22 zk_22 (by decide) rfl (by decide) rfl (Nat.le_of_ble_eq_true rfl) rfl rfl (Nat.le_of_ble_eq_true rfl) ⟨Nat.le_refl _, Nat.le_refl _, Nat.le_refl _⟩ ?_
          refine PAt.mono h (fun v κ gi13 gl14 hq => ?_)
          obtain ⟨rfl, r15, rfl, h⟩ := hq
          refine px_if_eq (tgt := 91) dX7_readsStatement_77 (by decide) ?_
          by_cases hc : r15 = 0
          · rw [if_pos hc] at h ⊢
            refine px_iconst (v := (0 : Int32)) dX7_readsStatement_91 (by decide) ?_
            exact px_ireturn dX7_readsStatement_92 rfl ⟨.boolean, rfl, rfl, by decide⟩ ⟨rfl, _, rfl, h⟩
          · rw [if_neg hc] at h ⊢
            refine px_aload_n dX7_readsStatement_80 rfl rfl ?_
            refine px_callV_I (As := []) (st := []) dX7_readsStatement_81 lk_X7_91.1 lk_X7_91.2 (b := 21) zl_21 zk_21 (by decide) rfl (by decide) rfl (Nat.le_of_ble_eq_true rfl) rfl rfl (Nat.le_of_ble_eq_true rfl) ⟨Nat.le_refl _, Nat.le_refl _, Nat.le_refl _⟩ ?_
            refine PAt.mono h (fun v κ gi16 gl17 hq => ?_)
            obtain ⟨rfl, r18, rfl, h⟩ := hq
            refine px_if_eq (tgt := 91) dX7_readsStatement_84 (by decide) ?_
            by_cases hc : r18 = 0
            · rw [if_pos hc] at h ⊢
              refine px_iconst (v := (0 : Int32)) dX7_readsStatement_91 (by decide) ?_
              exact px_ireturn dX7_readsStatement_92 rfl ⟨.boolean, rfl, rfl, by decide⟩ ⟨rfl, _, rfl, h⟩
            · rw [if_neg hc] at h ⊢
              refine px_iconst (v := (1 : Int32)) dX7_readsStatement_87 (by decide) ?_
              refine px_goto (tgt := 92) dX7_readsStatement_88 (by decide) ?_
              exact px_ireturn dX7_readsStatement_92 rfl ⟨.boolean, rfl, rfl, by decide⟩ ⟨rfl, _, rfl, h⟩
        · rw [if_neg hc] at h ⊢
          refine px_aload_n dX7_readsStatement_63 rfl rfl ?_
          refine px_callV_I (As := []) (st := []) dX7_readsStatement_64 lk_X7_86.1 lk_X7_86.2 (b := 21) zl_21 zk_21 (by decide) rfl (by decide) rfl (Nat.le_of_ble_eq_true rfl) rfl rfl (Nat.le_of_ble_eq_true rfl) ⟨Nat.le_refl _, Nat.le_refl _, Nat.le_refl _⟩ ?_
          refine PAt.mono h (fun v κ gi19 gl20 hq => ?_)
          obtain ⟨rfl, r21, rfl, h⟩ := hq
          obtain ⟨hz, h⟩ := h
          exact px_ireturn dX7_readsStatement_67 rfl ⟨.boolean, rfl, rfl, nar01 hz⟩ ⟨rfl, _, rfl, h⟩
      · rw [if_neg hc] at h ⊢
        refine px_aload_n dX7_readsStatement_46 rfl rfl ?_
        refine px_callV_I (As := []) (st := []) dX7_readsStatement_47 lk_X7_81.1 lk_X7_81.2 (b := 21) zl_21 zk_21 (by decide) rfl (by decide) rfl (Nat.le_of_ble_eq_true rfl) rfl rfl (Nat.le_of_ble_eq_true rfl) ⟨Nat.le_refl _, Nat.le_refl _, Nat.le_refl _⟩ ?_
        refine PAt.mono h (fun v κ gi22 gl23 hq => ?_)
        obtain ⟨rfl, r24, rfl, h⟩ := hq
        obtain ⟨hz, h⟩ := h
        exact px_ireturn dX7_readsStatement_50 rfl ⟨.boolean, rfl, rfl, nar01 hz⟩ ⟨rfl, _, rfl, h⟩
    · rw [if_neg hc] at h ⊢
      refine px_aload_n dX7_readsStatement_29 rfl rfl ?_
      refine px_callV_I (As := []) (st := []) dX7_readsStatement_30 lk_X7_76.1 lk_X7_76.2 (b := 21) zl_21 zk_21 (by decide) rfl (by decide) rfl (Nat.le_of_ble_eq_true rfl) rfl rfl (Nat.le_of_ble_eq_true rfl) ⟨Nat.le_refl _, Nat.le_refl _, Nat.le_refl _⟩ ?_
      refine PAt.mono h (fun v κ gi25 gl26 hq => ?_)
      obtain ⟨rfl, r27, rfl, h⟩ := hq
      obtain ⟨hz, h⟩ := h
      exact px_ireturn dX7_readsStatement_33 rfl ⟨.boolean, rfl, rfl, nar01 hz⟩ ⟨rfl, _, rfl, h⟩
  · rw [if_neg hc] at h ⊢
    refine px_aload_n dX7_readsStatement_12 rfl rfl ?_
    refine px_callV_I (As := []) (st := []) dX7_readsStatement_13 lk_X7_71.1 lk_X7_71.2 (b := 21) zl_21 zk_21 (by decide) rfl (by decide) rfl (Nat.le_of_ble_eq_true rfl) rfl rfl (Nat.le_of_ble_eq_true rfl) ⟨Nat.le_refl _, Nat.le_refl _, Nat.le_refl _⟩ ?_
    refine PAt.mono h (fun v κ gi28 gl29 hq => ?_)
    obtain ⟨rfl, r30, rfl, h⟩ := hq
    obtain ⟨hz, h⟩ := h
    exact px_ireturn dX7_readsStatement_16 rfl ⟨.boolean, rfl, rfl, nar01 hz⟩ ⟨rfl, _, rfl, h⟩
def f_X7_takesNewName (x1 : Int32) (gi : Gi) (gl : Gl) (Q : Int32 → Gi → Gl → Prop) : Prop :=
p_X8_wordHere  gi gl (fun (r3 : Int64) (gi1 : Gi) (gl2 : Gl) =>
if r3 = (0 : Int64) then
(Q (0 : Int32) gi1 gl2)
else
(p_X8_isReserved  gi1 gl2 (fun (r6 : Int32) (gi4 : Gi) (gl5 : Gl) =>
if ¬ r6 = 0 then
(Q (0 : Int32) gi4 gl5)
else
(p_X10_takesMore 8 x1 gi4 gl5 (fun (r9 : Int32) (gi7 : Gi) (gl8 : Gl) =>
if r9 = 0 then
(Q (0 : Int32) gi7 gl8)
else
(p_X10_knows 8 r3 gi7 gl8 (fun (r12 : Int32) (gi10 : Gi) (gl11 : Gl) =>
if r12 = 0 then
(p_X10_tell 8 x1 r3 gi10 gl11 (fun (gi13 : Gi) (gl14 : Gl) =>
p_X8_step  gi13 gl14 (fun (gi15 : Gi) (gl16 : Gl) =>
Q (1 : Int32) gi15 gl16)))
else
(Q (0 : Int32) gi10 gl11))))))))
set_option maxRecDepth 100000 in
theorem v_X7_takesNewName {x1 : Int32} {gi : Gi} {gl : Gl} {Q : Int32 → Gi → Gl → Prop}  (h : f_X7_takesNewName x1 gi gl Q) : p_X7_takesNewName x1 gi gl Q := by
  unfold f_X7_takesNewName at h
  show PAt mX7_takesNewName NN NN κF 0 [some (.ref 21), some (.int x1), none, none] [] gi gl _
  refine px_aload_n dX7_takesNewName_0 rfl rfl ?_
  refine gf_X7_16 rfl dX7_takesNewName_1 zl_21 zk_21 rfl zr_21_0 zl_22 ?_
  refine px_callV_L (As := []) (st := []) dX7_takesNewName_4 lk_X7_94.1 lk_X7_94.2 (b := 22) zl_22 zk_22 (by decide) rfl (by decide) rfl (Nat.le_of_ble_eq_true rfl) rfl rfl (Nat.le_of_ble_eq_true rfl) ⟨Nat.le_refl _, Nat.le_refl _, Nat.le_refl _⟩ ?_
  refine PAt.mono h (fun v κ gi1 gl2 hq => ?_)
  obtain ⟨rfl, r3, rfl, h⟩ := hq
  refine px_lstore_n (ls2 := [some (.ref 21), some (.int x1), some (.long r3), none]) (i := 2) rfl dX7_takesNewName_7 (by decide) rfl ?_
  refine px_lload_n dX7_takesNewName_8 rfl rfl ?_
  refine px_lconst (v := (0 : Int64)) dX7_takesNewName_9 (by decide) ?_
  refine px_lc_eq (tgt := 46) dX7_takesNewName_10 dX7_takesNewName_11 (by decide) ?_
  by_cases hc : r3 = (0 : Int64)
  · rw [if_pos hc] at h ⊢
    refine px_iconst (v := (0 : Int32)) dX7_takesNewName_46 (by decide) ?_
    exact px_ireturn dX7_takesNewName_47 rfl ⟨.boolean, rfl, rfl, by decide⟩ ⟨rfl, _, rfl, h⟩
  · rw [if_neg hc] at h ⊢
    refine px_aload_n dX7_takesNewName_14 rfl rfl ?_
    refine gf_X7_16 rfl dX7_takesNewName_15 zl_21 zk_21 rfl zr_21_0 zl_22 ?_
    refine px_callV_I (As := []) (st := []) dX7_takesNewName_18 lk_X7_98.1 lk_X7_98.2 (b := 22) zl_22 zk_22 (by decide) rfl (by decide) rfl (Nat.le_of_ble_eq_true rfl) rfl rfl (Nat.le_of_ble_eq_true rfl) ⟨Nat.le_refl _, Nat.le_refl _, Nat.le_refl _⟩ ?_
    refine PAt.mono h (fun v κ gi4 gl5 hq => ?_)
    obtain ⟨rfl, r6, rfl, h⟩ := hq
    refine px_if_ne (tgt := 46) dX7_takesNewName_21 (by decide) ?_
    by_cases hc : ¬ r6 = 0
    · rw [if_pos hc] at h ⊢
      refine px_iconst (v := (0 : Int32)) dX7_takesNewName_46 (by decide) ?_
      exact px_ireturn dX7_takesNewName_47 rfl ⟨.boolean, rfl, rfl, by decide⟩ ⟨rfl, _, rfl, h⟩
    · rw [if_neg hc] at h ⊢
      refine px_aload_n dX7_takesNewName_24 rfl rfl ?_
      refine gf_X7_24 rfl dX7_takesNewName_25 zl_21 zk_21 rfl zr_21_2 zl_8 ?_
      refine px_iload_n dX7_takesNewName_28 rfl rfl ?_
      refine px_callV_I (As := [.int x1]) (st := []) dX7_takesNewName_29 lk_X7_101.1 lk_X7_101.2 (b := 8) zl_8 zk_8 (by decide) rfl (by decide) rfl (Nat.le_of_ble_eq_true rfl) rfl rfl (Nat.le_of_ble_eq_true rfl) ⟨Nat.le_refl _, Nat.le_refl _, Nat.le_refl _⟩ ?_
      refine PAt.mono h (fun v κ gi7 gl8 hq => ?_)
      obtain ⟨rfl, r9, rfl, h⟩ := hq
      refine px_if_eq (tgt := 46) dX7_takesNewName_32 (by decide) ?_
      by_cases hc : r9 = 0
      · rw [if_pos hc] at h ⊢
        refine px_iconst (v := (0 : Int32)) dX7_takesNewName_46 (by decide) ?_
        exact px_ireturn dX7_takesNewName_47 rfl ⟨.boolean, rfl, rfl, by decide⟩ ⟨rfl, _, rfl, h⟩
      · rw [if_neg hc] at h ⊢
        refine px_aload_n dX7_takesNewName_35 rfl rfl ?_
        refine gf_X7_24 rfl dX7_takesNewName_36 zl_21 zk_21 rfl zr_21_2 zl_8 ?_
        refine px_lload_n dX7_takesNewName_39 rfl rfl ?_
        refine px_callV_I (As := [.long r3]) (st := []) dX7_takesNewName_40 lk_X7_105.1 lk_X7_105.2 (b := 8) zl_8 zk_8 (by decide) rfl (by decide) rfl (Nat.le_of_ble_eq_true rfl) rfl rfl (Nat.le_of_ble_eq_true rfl) ⟨Nat.le_refl _, Nat.le_refl _, Nat.le_refl _⟩ ?_
        refine PAt.mono h (fun v κ gi10 gl11 hq => ?_)
        obtain ⟨rfl, r12, rfl, h⟩ := hq
        refine px_if_eq (tgt := 48) dX7_takesNewName_43 (by decide) ?_
        by_cases hc : r12 = 0
        · rw [if_pos hc] at h ⊢
          refine px_aload_n dX7_takesNewName_48 rfl rfl ?_
          refine gf_X7_24 rfl dX7_takesNewName_49 zl_21 zk_21 rfl zr_21_2 zl_8 ?_
          refine px_iload_n dX7_takesNewName_52 rfl rfl ?_
          refine px_lload_n dX7_takesNewName_53 rfl rfl ?_
          refine px_callV_V (As := [.int x1, .long r3]) (st := []) dX7_takesNewName_54 lk_X7_109.1 lk_X7_109.2 (b := 8) zl_8 zk_8 (by decide) rfl (by decide) rfl (Nat.le_of_ble_eq_true rfl) rfl rfl (Nat.le_of_ble_eq_true rfl) ⟨Nat.le_refl _, Nat.le_refl _, Nat.le_refl _⟩ ?_
          refine PAt.mono h (fun v κ gi13 gl14 hq => ?_)
          obtain ⟨rfl, -, h⟩ := hq
          refine px_aload_n dX7_takesNewName_57 rfl rfl ?_
          refine gf_X7_16 rfl dX7_takesNewName_58 zl_21 zk_21 rfl zr_21_0 zl_22 ?_
          refine px_callV_V (As := []) (st := []) dX7_takesNewName_61 lk_X7_113.1 lk_X7_113.2 (b := 22) zl_22 zk_22 (by decide) rfl (by decide) rfl (Nat.le_of_ble_eq_true rfl) rfl rfl (Nat.le_of_ble_eq_true rfl) ⟨Nat.le_refl _, Nat.le_refl _, Nat.le_refl _⟩ ?_
          refine PAt.mono h (fun v κ gi15 gl16 hq => ?_)
          obtain ⟨rfl, -, h⟩ := hq
          refine px_iconst (v := (1 : Int32)) dX7_takesNewName_64 (by decide) ?_
          exact px_ireturn dX7_takesNewName_65 rfl ⟨.boolean, rfl, rfl, by decide⟩ ⟨rfl, _, rfl, h⟩
        · rw [if_neg hc] at h ⊢
          refine px_iconst (v := (0 : Int32)) dX7_takesNewName_46 (by decide) ?_
          exact px_ireturn dX7_takesNewName_47 rfl ⟨.boolean, rfl, rfl, by decide⟩ ⟨rfl, _, rfl, h⟩
abbrev p_X7_readsThing_50 (x1 : Int32) (s0 : Int32) (gi : Gi) (gl : Gl) (Q : Int32 → Gi → Gl → Prop) : Prop := PAt mX7_readsThing NN NN κF 50 [some (.ref 21), some (.int x1), none, none, none] [.int s0] gi gl (RiQ Q)
abbrev p_X7_readsThing_105 (x1 : Int32) (x2 : Int32) (x3 : Int32) (x4 : Int32) (gi : Gi) (gl : Gl) (Q : Int32 → Gi → Gl → Prop) : Prop := PAt mX7_readsThing NN NN κF 105 [some (.ref 21), some (.int x1), some (.int x2), some (.int x3), some (.int x4)] [] gi gl (RiQ Q)
def f_X7_readsThing  (gi : Gi) (gl : Gl) (Q : Int32 → Gi → Gl → Prop) : Prop :=
p_X7_takesNewName (0 : Int32) gi gl (fun (r3 : Int32) (gi1 : Gi) (gl2 : Gl) =>
if r3 = 0 then
(Q (0 : Int32) gi1 gl2)
else
(p_X8_takes 2 gi1 gl2 (fun (r6 : Int32) (gi4 : Gi) (gl5 : Gl) =>
if ¬ r6 = 0 then
(p_X8_takeNumber (0 : Int32) (3599 : Int32) gi4 gl5 (fun (r9 : Int32) (gi7 : Gi) (gl8 : Gl) =>
if ¬ r9 = ((-1) : Int32) then
(p_X8_takeGive  gi7 gl8 (fun (r12 : Int32) (gi10 : Gi) (gl11 : Gl) =>
p_X7_readsThing_50 r9 r12 gi10 gl11 Q))
else
(p_X7_readsThing_50 r9 ((-1) : Int32) gi7 gl8 Q)))
else
(Q (0 : Int32) gi4 gl5))))
def f_X7_readsThing_50 (x1 : Int32) (s0 : Int32) (gi : Gi) (gl : Gl) (Q : Int32 → Gi → Gl → Prop) : Prop :=
if ¬ s0 = ((-1) : Int32) then
(p_X8_takes 4 gi gl (fun (r3 : Int32) (gi1 : Gi) (gl2 : Gl) =>
if r3 = 0 then
(p_X7_readsThing_105 x1 s0 ((-1) : Int32) (0 : Int32) gi1 gl2 Q)
else
(p_X8_takeNumber x1 (3599 : Int32) gi1 gl2 (fun (r6 : Int32) (gi4 : Gi) (gl5 : Gl) =>
if ¬ r6 = ((-1) : Int32) then
(p_X8_takeGive  gi4 gl5 (fun (r9 : Int32) (gi7 : Gi) (gl8 : Gl) =>
p_X7_readsThing_105 x1 s0 r6 r9 gi7 gl8 Q))
else
(p_X7_readsThing_105 x1 s0 r6 ((-1) : Int32) gi4 gl5 Q)))))
else
(Q (0 : Int32) gi gl)
def f_X7_readsThing_105 (x1 : Int32) (x2 : Int32) (x3 : Int32) (x4 : Int32) (gi : Gi) (gl : Gl) (Q : Int32 → Gi → Gl → Prop) : Prop :=
p_X10_setLast 8 (0 : Int32) x1 x2 x3 x4 gi gl (fun (gi1 : Gi) (gl2 : Gl) =>
if x4 = ((-1) : Int32) then
(Q (0 : Int32) gi1 gl2)
else
(Q (1 : Int32) gi1 gl2))
set_option maxRecDepth 100000 in
theorem v_X7_readsThing  {gi : Gi} {gl : Gl} {Q : Int32 → Gi → Gl → Prop}  (h : f_X7_readsThing  gi gl Q) : p_X7_readsThing  gi gl Q := by
  unfold f_X7_readsThing at h
  show PAt mX7_readsThing NN NN κF 0 [some (.ref 21), none, none, none, none] [] gi gl _
  refine px_aload_n dX7_readsThing_0 rfl rfl ?_
  refine px_iconst (v := (0 : Int32)) dX7_readsThing_1 (by decide) ?_
  refine px_callV_I (As := [.int (0 : Int32)]) (st := []) dX7_readsThing_2 lk_X7_116.1 lk_X7_116.2 (b := 21) zl_21 zk_21 (by decide) rfl (by decide) rfl (Nat.le_of_ble_eq_true rfl) rfl rfl (Nat.le_of_ble_eq_true rfl) ⟨Nat.le_refl _, Nat.le_refl _, Nat.le_refl _⟩ ?_
  refine PAt.mono h (fun v κ gi1 gl2 hq => ?_)
  obtain ⟨rfl, r3, rfl, h⟩ := hq
  refine px_if_eq (tgt := 20) dX7_readsThing_5 (by decide) ?_
  by_cases hc : r3 = 0
  · rw [if_pos hc] at h ⊢
    refine px_iconst (v := (0 : Int32)) dX7_readsThing_20 (by decide) ?_
    exact px_ireturn dX7_readsThing_21 rfl ⟨.boolean, rfl, rfl, by decide⟩ ⟨rfl, _, rfl, h⟩
  · rw [if_neg hc] at h ⊢
    refine px_aload_n dX7_readsThing_8 rfl rfl ?_
    refine gf_X7_16 rfl dX7_readsThing_9 zl_21 zk_21 rfl zr_21_0 zl_22 ?_
    refine px_ldcS (i := 2) dX7_readsThing_12 (by decide) rfl rfl ?_
    refine px_callV_I (As := [.ref (ROB + 2)]) (st := []) dX7_readsThing_14 lk_X7_67.1 lk_X7_67.2 (b := 22) zl_22 zk_22 (by decide) rfl (by decide) rfl (Nat.le_of_ble_eq_true rfl) rfl rfl (Nat.le_of_ble_eq_true rfl) ⟨Nat.le_refl _, Nat.le_refl _, Nat.le_refl _⟩ ?_
    refine PAt.mono h (fun v κ gi4 gl5 hq => ?_)
    obtain ⟨rfl, r6, rfl, h⟩ := hq
    refine px_if_ne (tgt := 22) dX7_readsThing_17 (by decide) ?_
    by_cases hc : ¬ r6 = 0
    · rw [if_pos hc] at h ⊢
      refine px_aload_n dX7_readsThing_22 rfl rfl ?_
      refine gf_X7_16 rfl dX7_readsThing_23 zl_21 zk_21 rfl zr_21_0 zl_22 ?_
      refine px_iconst (v := (0 : Int32)) dX7_readsThing_26 (by decide) ?_
      refine px_sipush (v := (3599 : Int32)) dX7_readsThing_27 (by decide) ?_
      refine px_callV_I (As := [.int (0 : Int32), .int (3599 : Int32)]) (st := []) dX7_readsThing_30 lk_X7_121.1 lk_X7_121.2 (b := 22) zl_22 zk_22 (by decide) rfl (by decide) rfl (Nat.le_of_ble_eq_true rfl) rfl rfl (Nat.le_of_ble_eq_true rfl) ⟨Nat.le_refl _, Nat.le_refl _, Nat.le_refl _⟩ ?_
      refine PAt.mono h (fun v κ gi7 gl8 hq => ?_)
      obtain ⟨rfl, r9, rfl, h⟩ := hq
      refine px_istore_n (ls2 := [some (.ref 21), some (.int r9), none, none, none]) (i := 1) rfl dX7_readsThing_33 (by decide) rfl ?_
      refine px_iload_n dX7_readsThing_34 rfl rfl ?_
      refine px_iconst (v := ((-1) : Int32)) dX7_readsThing_35 (by decide) ?_
      refine px_icmp_ne (tgt := 43) dX7_readsThing_36 (by decide) ?_
      by_cases hc : ¬ r9 = ((-1) : Int32)
      · rw [if_pos hc] at h ⊢
        refine px_aload_n dX7_readsThing_43 rfl rfl ?_
        refine gf_X7_16 rfl dX7_readsThing_44 zl_21 zk_21 rfl zr_21_0 zl_22 ?_
        refine px_callV_I (As := []) (st := []) dX7_readsThing_47 lk_X7_125.1 lk_X7_125.2 (b := 22) zl_22 zk_22 (by decide) rfl (by decide) rfl (Nat.le_of_ble_eq_true rfl) rfl rfl (Nat.le_of_ble_eq_true rfl) ⟨Nat.le_refl _, Nat.le_refl _, Nat.le_refl _⟩ ?_
        refine PAt.mono h (fun v κ gi10 gl11 hq => ?_)
        obtain ⟨rfl, r12, rfl, h⟩ := hq
        exact PAt.forget h (lsub_at ⟨rfl, ⟨rfl, trivial⟩⟩)
      · rw [if_neg hc] at h ⊢
        refine px_iconst (v := ((-1) : Int32)) dX7_readsThing_39 (by decide) ?_
        refine px_goto (tgt := 50) dX7_readsThing_40 (by decide) ?_
        exact PAt.forget h (lsub_at ⟨rfl, ⟨rfl, trivial⟩⟩)
    · rw [if_neg hc] at h ⊢
      refine px_iconst (v := (0 : Int32)) dX7_readsThing_20 (by decide) ?_
      exact px_ireturn dX7_readsThing_21 rfl ⟨.boolean, rfl, rfl, by decide⟩ ⟨rfl, _, rfl, h⟩
set_option maxRecDepth 100000 in
theorem v_X7_readsThing_50 {x1 : Int32} {s0 : Int32} {gi : Gi} {gl : Gl} {Q : Int32 → Gi → Gl → Prop}  (h : f_X7_readsThing_50 x1 s0 gi gl Q) : p_X7_readsThing_50 x1 s0 gi gl Q := by
  unfold f_X7_readsThing_50 at h
  show PAt mX7_readsThing NN NN κF 50 [some (.ref 21), some (.int x1), none, none, none] [.int s0] gi gl _
  refine px_istore_n (ls2 := [some (.ref 21), some (.int x1), some (.int s0), none, none]) (i := 2) rfl dX7_readsThing_50 (by decide) rfl ?_
  refine px_iload_n dX7_readsThing_51 rfl rfl ?_
  refine px_iconst (v := ((-1) : Int32)) dX7_readsThing_52 (by decide) ?_
  refine px_icmp_ne (tgt := 58) dX7_readsThing_53 (by decide) ?_
  by_cases hc : ¬ s0 = ((-1) : Int32)
  · rw [if_pos hc] at h ⊢
    refine px_iconst (v := ((-1) : Int32)) dX7_readsThing_58 (by decide) ?_
    refine px_istore_n (ls2 := [some (.ref 21), some (.int x1), some (.int s0), some (.int ((-1) : Int32)), none]) (i := 3) rfl dX7_readsThing_59 (by decide) rfl ?_
    refine px_iconst (v := (0 : Int32)) dX7_readsThing_60 (by decide) ?_
    refine px_istore (ls2 := [some (.ref 21), some (.int x1), some (.int s0), some (.int ((-1) : Int32)), some (.int (0 : Int32))]) dX7_readsThing_61 (by decide) rfl ?_
    refine px_aload_n dX7_readsThing_63 rfl rfl ?_
    refine gf_X7_16 rfl dX7_readsThing_64 zl_21 zk_21 rfl zr_21_0 zl_22 ?_
    refine px_ldcS (i := 4) dX7_readsThing_67 (by decide) rfl rfl ?_
    refine px_callV_I (As := [.ref (ROB + 4)]) (st := []) dX7_readsThing_69 lk_X7_67.1 lk_X7_67.2 (b := 22) zl_22 zk_22 (by decide) rfl (by decide) rfl (Nat.le_of_ble_eq_true rfl) rfl rfl (Nat.le_of_ble_eq_true rfl) ⟨Nat.le_refl _, Nat.le_refl _, Nat.le_refl _⟩ ?_
    refine PAt.mono h (fun v κ gi1 gl2 hq => ?_)
    obtain ⟨rfl, r3, rfl, h⟩ := hq
    refine px_if_eq (tgt := 105) dX7_readsThing_72 (by decide) ?_
    by_cases hc : r3 = 0
    · rw [if_pos hc] at h ⊢
      exact PAt.forget h (lsub_at ⟨rfl, ⟨rfl, ⟨rfl, ⟨rfl, ⟨rfl, trivial⟩⟩⟩⟩⟩)
    · rw [if_neg hc] at h ⊢
      refine px_aload_n dX7_readsThing_75 rfl rfl ?_
      refine gf_X7_16 rfl dX7_readsThing_76 zl_21 zk_21 rfl zr_21_0 zl_22 ?_
      refine px_iload_n dX7_readsThing_79 rfl rfl ?_
      refine px_sipush (v := (3599 : Int32)) dX7_readsThing_80 (by decide) ?_
      refine px_callV_I (As := [.int x1, .int (3599 : Int32)]) (st := []) dX7_readsThing_83 lk_X7_121.1 lk_X7_121.2 (b := 22) zl_22 zk_22 (by decide) rfl (by decide) rfl (Nat.le_of_ble_eq_true rfl) rfl rfl (Nat.le_of_ble_eq_true rfl) ⟨Nat.le_refl _, Nat.le_refl _, Nat.le_refl _⟩ ?_
      refine PAt.mono h (fun v κ gi4 gl5 hq => ?_)
      obtain ⟨rfl, r6, rfl, h⟩ := hq
      refine px_istore_n (ls2 := [some (.ref 21), some (.int x1), some (.int s0), some (.int r6), some (.int (0 : Int32))]) (i := 3) rfl dX7_readsThing_86 (by decide) rfl ?_
      refine px_iload_n dX7_readsThing_87 rfl rfl ?_
      refine px_iconst (v := ((-1) : Int32)) dX7_readsThing_88 (by decide) ?_
      refine px_icmp_ne (tgt := 96) dX7_readsThing_89 (by decide) ?_
      by_cases hc : ¬ r6 = ((-1) : Int32)
      · rw [if_pos hc] at h ⊢
        refine px_aload_n dX7_readsThing_96 rfl rfl ?_
        refine gf_X7_16 rfl dX7_readsThing_97 zl_21 zk_21 rfl zr_21_0 zl_22 ?_
        refine px_callV_I (As := []) (st := []) dX7_readsThing_100 lk_X7_125.1 lk_X7_125.2 (b := 22) zl_22 zk_22 (by decide) rfl (by decide) rfl (Nat.le_of_ble_eq_true rfl) rfl rfl (Nat.le_of_ble_eq_true rfl) ⟨Nat.le_refl _, Nat.le_refl _, Nat.le_refl _⟩ ?_
        refine PAt.mono h (fun v κ gi7 gl8 hq => ?_)
        obtain ⟨rfl, r9, rfl, h⟩ := hq
        refine px_istore (ls2 := [some (.ref 21), some (.int x1), some (.int s0), some (.int r6), some (.int r9)]) dX7_readsThing_103 (by decide) rfl ?_
        exact PAt.forget h (lsub_at ⟨rfl, ⟨rfl, ⟨rfl, ⟨rfl, ⟨rfl, trivial⟩⟩⟩⟩⟩)
      · rw [if_neg hc] at h ⊢
        refine px_iconst (v := ((-1) : Int32)) dX7_readsThing_92 (by decide) ?_
        refine px_goto (tgt := 103) dX7_readsThing_93 (by decide) ?_
        refine px_istore (ls2 := [some (.ref 21), some (.int x1), some (.int s0), some (.int r6), some (.int ((-1) : Int32))]) dX7_readsThing_103 (by decide) rfl ?_
        exact PAt.forget h (lsub_at ⟨rfl, ⟨rfl, ⟨rfl, ⟨rfl, ⟨rfl, trivial⟩⟩⟩⟩⟩)
  · rw [if_neg hc] at h ⊢
    refine px_iconst (v := (0 : Int32)) dX7_readsThing_56 (by decide) ?_
    exact px_ireturn dX7_readsThing_57 rfl ⟨.boolean, rfl, rfl, by decide⟩ ⟨rfl, _, rfl, h⟩
set_option maxRecDepth 100000 in
theorem v_X7_readsThing_105 {x1 : Int32} {x2 : Int32} {x3 : Int32} {x4 : Int32} {gi : Gi} {gl : Gl} {Q : Int32 → Gi → Gl → Prop}  (h : f_X7_readsThing_105 x1 x2 x3 x4 gi gl Q) : p_X7_readsThing_105 x1 x2 x3 x4 gi gl Q := by
  unfold f_X7_readsThing_105 at h
  show PAt mX7_readsThing NN NN κF 105 [some (.ref 21), some (.int x1), some (.int x2), some (.int x3), some (.int x4)] [] gi gl _
  refine px_aload_n dX7_readsThing_105 rfl rfl ?_
  refine gf_X7_24 rfl dX7_readsThing_106 zl_21 zk_21 rfl zr_21_2 zl_8 ?_
  refine px_iconst (v := (0 : Int32)) dX7_readsThing_109 (by decide) ?_
  refine px_iload_n dX7_readsThing_110 rfl rfl ?_
  refine px_iload_n dX7_readsThing_111 rfl rfl ?_
  refine px_iload_n dX7_readsThing_112 rfl rfl ?_
  refine px_iload dX7_readsThing_113 rfl ?_
  refine px_callV_V (As := [.int (0 : Int32), .int x1, .int x2, .int x3, .int x4]) (st := []) dX7_readsThing_115 lk_X7_130.1 lk_X7_130.2 (b := 8) zl_8 zk_8 (by decide) rfl (by decide) rfl (Nat.le_of_ble_eq_true rfl) rfl rfl (Nat.le_of_ble_eq_true rfl) ⟨Nat.le_refl _, Nat.le_refl _, Nat.le_refl _⟩ ?_
  refine PAt.mono h (fun v κ gi1 gl2 hq => ?_)
  obtain ⟨rfl, -, h⟩ := hq
  refine px_iload dX7_readsThing_118 rfl ?_
  refine px_iconst (v := ((-1) : Int32)) dX7_readsThing_120 (by decide) ?_
  refine px_icmp_eq (tgt := 128) dX7_readsThing_121 (by decide) ?_
  by_cases hc : x4 = ((-1) : Int32)
  · rw [if_pos hc] at h ⊢
    refine px_iconst (v := (0 : Int32)) dX7_readsThing_128 (by decide) ?_
    exact px_ireturn dX7_readsThing_129 rfl ⟨.boolean, rfl, rfl, by decide⟩ ⟨rfl, _, rfl, h⟩
  · rw [if_neg hc] at h ⊢
    refine px_iconst (v := (1 : Int32)) dX7_readsThing_124 (by decide) ?_
    refine px_goto (tgt := 129) dX7_readsThing_125 (by decide) ?_
    exact px_ireturn dX7_readsThing_129 rfl ⟨.boolean, rfl, rfl, by decide⟩ ⟨rfl, _, rfl, h⟩
def f_X7_readsTree  (gi : Gi) (gl : Gl) (Q : Int32 → Gi → Gl → Prop) : Prop :=
p_X7_takesNewName (1 : Int32) gi gl (fun (r3 : Int32) (gi1 : Gi) (gl2 : Gl) =>
if r3 = 0 then
(Q (0 : Int32) gi1 gl2)
else
(p_X8_takes 6 gi1 gl2 (fun (r6 : Int32) (gi4 : Gi) (gl5 : Gl) =>
if ¬ r6 = 0 then
(p_X8_takeNumber (0 : Int32) (359 : Int32) gi4 gl5 (fun (r9 : Int32) (gi7 : Gi) (gl8 : Gl) =>
if r9 = ((-1) : Int32) then
(Q (0 : Int32) gi7 gl8)
else
(p_X8_takes 7 gi7 gl8 (fun (r12 : Int32) (gi10 : Gi) (gl11 : Gl) =>
if r12 = 0 then
(Q (0 : Int32) gi10 gl11)
else
(p_X8_numberHere  gi10 gl11 (fun (r15 : Int32) (gi13 : Gi) (gl14 : Gl) =>
if ¬ r15 = r9 then
(p_X8_takeNumber (0 : Int32) (359 : Int32) gi13 gl14 (fun (r18 : Int32) (gi16 : Gi) (gl17 : Gl) =>
p_X10_setLast 8 (1 : Int32) r9 r18 ((-1) : Int32) ((-1) : Int32) gi16 gl17 (fun (gi19 : Gi) (gl20 : Gl) =>
if r18 = ((-1) : Int32) then
(Q (0 : Int32) gi19 gl20)
else
(Q (1 : Int32) gi19 gl20))))
else
(Q (0 : Int32) gi13 gl14)))))))
else
(Q (0 : Int32) gi4 gl5))))
set_option maxRecDepth 100000 in
theorem v_X7_readsTree  {gi : Gi} {gl : Gl} {Q : Int32 → Gi → Gl → Prop}  (h : f_X7_readsTree  gi gl Q) : p_X7_readsTree  gi gl Q := by
  unfold f_X7_readsTree at h
  show PAt mX7_readsTree NN NN κF 0 [some (.ref 21), none, none] [] gi gl _
  refine px_aload_n dX7_readsTree_0 rfl rfl ?_
  refine px_iconst (v := (1 : Int32)) dX7_readsTree_1 (by decide) ?_
  refine px_callV_I (As := [.int (1 : Int32)]) (st := []) dX7_readsTree_2 lk_X7_116.1 lk_X7_116.2 (b := 21) zl_21 zk_21 (by decide) rfl (by decide) rfl (Nat.le_of_ble_eq_true rfl) rfl rfl (Nat.le_of_ble_eq_true rfl) ⟨Nat.le_refl _, Nat.le_refl _, Nat.le_refl _⟩ ?_
  refine PAt.mono h (fun v κ gi1 gl2 hq => ?_)
  obtain ⟨rfl, r3, rfl, h⟩ := hq
  refine px_if_eq (tgt := 20) dX7_readsTree_5 (by decide) ?_
  by_cases hc : r3 = 0
  · rw [if_pos hc] at h ⊢
    refine px_iconst (v := (0 : Int32)) dX7_readsTree_20 (by decide) ?_
    exact px_ireturn dX7_readsTree_21 rfl ⟨.boolean, rfl, rfl, by decide⟩ ⟨rfl, _, rfl, h⟩
  · rw [if_neg hc] at h ⊢
    refine px_aload_n dX7_readsTree_8 rfl rfl ?_
    refine gf_X7_16 rfl dX7_readsTree_9 zl_21 zk_21 rfl zr_21_0 zl_22 ?_
    refine px_ldcS (i := 6) dX7_readsTree_12 (by decide) rfl rfl ?_
    refine px_callV_I (As := [.ref (ROB + 6)]) (st := []) dX7_readsTree_14 lk_X7_67.1 lk_X7_67.2 (b := 22) zl_22 zk_22 (by decide) rfl (by decide) rfl (Nat.le_of_ble_eq_true rfl) rfl rfl (Nat.le_of_ble_eq_true rfl) ⟨Nat.le_refl _, Nat.le_refl _, Nat.le_refl _⟩ ?_
    refine PAt.mono h (fun v κ gi4 gl5 hq => ?_)
    obtain ⟨rfl, r6, rfl, h⟩ := hq
    refine px_if_ne (tgt := 22) dX7_readsTree_17 (by decide) ?_
    by_cases hc : ¬ r6 = 0
    · rw [if_pos hc] at h ⊢
      refine px_aload_n dX7_readsTree_22 rfl rfl ?_
      refine gf_X7_16 rfl dX7_readsTree_23 zl_21 zk_21 rfl zr_21_0 zl_22 ?_
      refine px_iconst (v := (0 : Int32)) dX7_readsTree_26 (by decide) ?_
      refine px_sipush (v := (359 : Int32)) dX7_readsTree_27 (by decide) ?_
      refine px_callV_I (As := [.int (0 : Int32), .int (359 : Int32)]) (st := []) dX7_readsTree_30 lk_X7_121.1 lk_X7_121.2 (b := 22) zl_22 zk_22 (by decide) rfl (by decide) rfl (Nat.le_of_ble_eq_true rfl) rfl rfl (Nat.le_of_ble_eq_true rfl) ⟨Nat.le_refl _, Nat.le_refl _, Nat.le_refl _⟩ ?_
      refine PAt.mono h (fun v κ gi7 gl8 hq => ?_)
      obtain ⟨rfl, r9, rfl, h⟩ := hq
      refine px_istore_n (ls2 := [some (.ref 21), some (.int r9), none]) (i := 1) rfl dX7_readsTree_33 (by decide) rfl ?_
      refine px_iload_n dX7_readsTree_34 rfl rfl ?_
      refine px_iconst (v := ((-1) : Int32)) dX7_readsTree_35 (by decide) ?_
      refine px_icmp_eq (tgt := 62) dX7_readsTree_36 (by decide) ?_
      by_cases hc : r9 = ((-1) : Int32)
      · rw [if_pos hc] at h ⊢
        refine px_iconst (v := (0 : Int32)) dX7_readsTree_62 (by decide) ?_
        exact px_ireturn dX7_readsTree_63 rfl ⟨.boolean, rfl, rfl, by decide⟩ ⟨rfl, _, rfl, h⟩
      · rw [if_neg hc] at h ⊢
        refine px_aload_n dX7_readsTree_39 rfl rfl ?_
        refine gf_X7_16 rfl dX7_readsTree_40 zl_21 zk_21 rfl zr_21_0 zl_22 ?_
        refine px_ldcS (i := 7) dX7_readsTree_43 (by decide) rfl rfl ?_
        refine px_callV_I (As := [.ref (ROB + 7)]) (st := []) dX7_readsTree_45 lk_X7_67.1 lk_X7_67.2 (b := 22) zl_22 zk_22 (by decide) rfl (by decide) rfl (Nat.le_of_ble_eq_true rfl) rfl rfl (Nat.le_of_ble_eq_true rfl) ⟨Nat.le_refl _, Nat.le_refl _, Nat.le_refl _⟩ ?_
        refine PAt.mono h (fun v κ gi10 gl11 hq => ?_)
        obtain ⟨rfl, r12, rfl, h⟩ := hq
        refine px_if_eq (tgt := 62) dX7_readsTree_48 (by decide) ?_
        by_cases hc : r12 = 0
        · rw [if_pos hc] at h ⊢
          refine px_iconst (v := (0 : Int32)) dX7_readsTree_62 (by decide) ?_
          exact px_ireturn dX7_readsTree_63 rfl ⟨.boolean, rfl, rfl, by decide⟩ ⟨rfl, _, rfl, h⟩
        · rw [if_neg hc] at h ⊢
          refine px_aload_n dX7_readsTree_51 rfl rfl ?_
          refine gf_X7_16 rfl dX7_readsTree_52 zl_21 zk_21 rfl zr_21_0 zl_22 ?_
          refine px_callV_I (As := []) (st := []) dX7_readsTree_55 lk_X7_138.1 lk_X7_138.2 (b := 22) zl_22 zk_22 (by decide) rfl (by decide) rfl (Nat.le_of_ble_eq_true rfl) rfl rfl (Nat.le_of_ble_eq_true rfl) ⟨Nat.le_refl _, Nat.le_refl _, Nat.le_refl _⟩ ?_
          refine PAt.mono h (fun v κ gi13 gl14 hq => ?_)
          obtain ⟨rfl, r15, rfl, h⟩ := hq
          refine px_iload_n dX7_readsTree_58 rfl rfl ?_
          refine px_icmp_ne (tgt := 64) dX7_readsTree_59 (by decide) ?_
          by_cases hc : ¬ r15 = r9
          · rw [if_pos hc] at h ⊢
            refine px_aload_n dX7_readsTree_64 rfl rfl ?_
            refine gf_X7_16 rfl dX7_readsTree_65 zl_21 zk_21 rfl zr_21_0 zl_22 ?_
            refine px_iconst (v := (0 : Int32)) dX7_readsTree_68 (by decide) ?_
            refine px_sipush (v := (359 : Int32)) dX7_readsTree_69 (by decide) ?_
            refine px_callV_I (As := [.int (0 : Int32), .int (359 : Int32)]) (st := []) dX7_readsTree_72 lk_X7_121.1 lk_X7_121.2 (b := 22) zl_22 zk_22 (by decide) rfl (by decide) rfl (Nat.le_of_ble_eq_true rfl) rfl rfl (Nat.le_of_ble_eq_true rfl) ⟨Nat.le_refl _, Nat.le_refl _, Nat.le_refl _⟩ ?_
            refine PAt.mono h (fun v κ gi16 gl17 hq => ?_)
            obtain ⟨rfl, r18, rfl, h⟩ := hq
            refine px_istore_n (ls2 := [some (.ref 21), some (.int r9), some (.int r18)]) (i := 2) rfl dX7_readsTree_75 (by decide) rfl ?_
            refine px_aload_n dX7_readsTree_76 rfl rfl ?_
            refine gf_X7_24 rfl dX7_readsTree_77 zl_21 zk_21 rfl zr_21_2 zl_8 ?_
            refine px_iconst (v := (1 : Int32)) dX7_readsTree_80 (by decide) ?_
            refine px_iload_n dX7_readsTree_81 rfl rfl ?_
            refine px_iload_n dX7_readsTree_82 rfl rfl ?_
            refine px_iconst (v := ((-1) : Int32)) dX7_readsTree_83 (by decide) ?_
            refine px_iconst (v := ((-1) : Int32)) dX7_readsTree_84 (by decide) ?_
            refine px_callV_V (As := [.int (1 : Int32), .int r9, .int r18, .int ((-1) : Int32), .int ((-1) : Int32)]) (st := []) dX7_readsTree_85 lk_X7_130.1 lk_X7_130.2 (b := 8) zl_8 zk_8 (by decide) rfl (by decide) rfl (Nat.le_of_ble_eq_true rfl) rfl rfl (Nat.le_of_ble_eq_true rfl) ⟨Nat.le_refl _, Nat.le_refl _, Nat.le_refl _⟩ ?_
            refine PAt.mono h (fun v κ gi19 gl20 hq => ?_)
            obtain ⟨rfl, -, h⟩ := hq
            refine px_iload_n dX7_readsTree_88 rfl rfl ?_
            refine px_iconst (v := ((-1) : Int32)) dX7_readsTree_89 (by decide) ?_
            refine px_icmp_eq (tgt := 97) dX7_readsTree_90 (by decide) ?_
            by_cases hc : r18 = ((-1) : Int32)
            · rw [if_pos hc] at h ⊢
              refine px_iconst (v := (0 : Int32)) dX7_readsTree_97 (by decide) ?_
              exact px_ireturn dX7_readsTree_98 rfl ⟨.boolean, rfl, rfl, by decide⟩ ⟨rfl, _, rfl, h⟩
            · rw [if_neg hc] at h ⊢
              refine px_iconst (v := (1 : Int32)) dX7_readsTree_93 (by decide) ?_
              refine px_goto (tgt := 98) dX7_readsTree_94 (by decide) ?_
              exact px_ireturn dX7_readsTree_98 rfl ⟨.boolean, rfl, rfl, by decide⟩ ⟨rfl, _, rfl, h⟩
          · rw [if_neg hc] at h ⊢
            refine px_iconst (v := (0 : Int32)) dX7_readsTree_62 (by decide) ?_
            exact px_ireturn dX7_readsTree_63 rfl ⟨.boolean, rfl, rfl, by decide⟩ ⟨rfl, _, rfl, h⟩
    · rw [if_neg hc] at h ⊢
      refine px_iconst (v := (0 : Int32)) dX7_readsTree_20 (by decide) ?_
      exact px_ireturn dX7_readsTree_21 rfl ⟨.boolean, rfl, rfl, by decide⟩ ⟨rfl, _, rfl, h⟩
abbrev p_X7_readsPost_60 (x1 : Int32) (x2 : Int32) (s0 : Int32) (gi : Gi) (gl : Gl) (Q : Int32 → Gi → Gl → Prop) : Prop := PAt mX7_readsPost NN NN κF 60 [some (.ref 21), some (.int x1), some (.int x2), none] [.int s0] gi gl (RiQ Q)
def f_X7_readsPost  (gi : Gi) (gl : Gl) (Q : Int32 → Gi → Gl → Prop) : Prop :=
p_X7_takesNewName (2 : Int32) gi gl (fun (r3 : Int32) (gi1 : Gi) (gl2 : Gl) =>
if ¬ r3 = 0 then
(p_X8_takeNumber (0 : Int32) (31 : Int32) gi1 gl2 (fun (r6 : Int32) (gi4 : Gi) (gl5 : Gl) =>
if ¬ r6 = ((-1) : Int32) then
(p_X8_takeNumber (0 : Int32) (31 : Int32) gi4 gl5 (fun (r9 : Int32) (gi7 : Gi) (gl8 : Gl) =>
if ¬ r9 = ((-1) : Int32) then
(p_X8_takeNumber (1 : Int32) (20 : Int32) gi7 gl8 (fun (r12 : Int32) (gi10 : Gi) (gl11 : Gl) =>
p_X7_readsPost_60 r6 r9 r12 gi10 gl11 Q))
else
(p_X7_readsPost_60 r6 r9 ((-1) : Int32) gi7 gl8 Q)))
else
(p_X7_readsPost_60 r6 ((-1) : Int32) ((-1) : Int32) gi4 gl5 Q)))
else
(Q (0 : Int32) gi1 gl2))
def f_X7_readsPost_60 (x1 : Int32) (x2 : Int32) (s0 : Int32) (gi : Gi) (gl : Gl) (Q : Int32 → Gi → Gl → Prop) : Prop :=
p_X10_setLast 8 (2 : Int32) x1 x2 s0 ((-1) : Int32) gi gl (fun (gi1 : Gi) (gl2 : Gl) =>
if s0 = ((-1) : Int32) then
(Q (0 : Int32) gi1 gl2)
else
(Q (1 : Int32) gi1 gl2))
set_option maxRecDepth 100000 in
theorem v_X7_readsPost  {gi : Gi} {gl : Gl} {Q : Int32 → Gi → Gl → Prop}  (h : f_X7_readsPost  gi gl Q) : p_X7_readsPost  gi gl Q := by
  unfold f_X7_readsPost at h
  show PAt mX7_readsPost NN NN κF 0 [some (.ref 21), none, none, none] [] gi gl _
  refine px_aload_n dX7_readsPost_0 rfl rfl ?_
  refine px_iconst (v := (2 : Int32)) dX7_readsPost_1 (by decide) ?_
  refine px_callV_I (As := [.int (2 : Int32)]) (st := []) dX7_readsPost_2 lk_X7_116.1 lk_X7_116.2 (b := 21) zl_21 zk_21 (by decide) rfl (by decide) rfl (Nat.le_of_ble_eq_true rfl) rfl rfl (Nat.le_of_ble_eq_true rfl) ⟨Nat.le_refl _, Nat.le_refl _, Nat.le_refl _⟩ ?_
  refine PAt.mono h (fun v κ gi1 gl2 hq => ?_)
  obtain ⟨rfl, r3, rfl, h⟩ := hq
  refine px_if_ne (tgt := 10) dX7_readsPost_5 (by decide) ?_
  by_cases hc : ¬ r3 = 0
  · rw [if_pos hc] at h ⊢
    refine px_aload_n dX7_readsPost_10 rfl rfl ?_
    refine gf_X7_16 rfl dX7_readsPost_11 zl_21 zk_21 rfl zr_21_0 zl_22 ?_
    refine px_iconst (v := (0 : Int32)) dX7_readsPost_14 (by decide) ?_
    refine px_bipush (v := (31 : Int32)) dX7_readsPost_15 (by decide) ?_
    refine px_callV_I (As := [.int (0 : Int32), .int (31 : Int32)]) (st := []) dX7_readsPost_17 lk_X7_121.1 lk_X7_121.2 (b := 22) zl_22 zk_22 (by decide) rfl (by decide) rfl (Nat.le_of_ble_eq_true rfl) rfl rfl (Nat.le_of_ble_eq_true rfl) ⟨Nat.le_refl _, Nat.le_refl _, Nat.le_refl _⟩ ?_
    refine PAt.mono h (fun v κ gi4 gl5 hq => ?_)
    obtain ⟨rfl, r6, rfl, h⟩ := hq
    refine px_istore_n (ls2 := [some (.ref 21), some (.int r6), none, none]) (i := 1) rfl dX7_readsPost_20 (by decide) rfl ?_
    refine px_iload_n dX7_readsPost_21 rfl rfl ?_
    refine px_iconst (v := ((-1) : Int32)) dX7_readsPost_22 (by decide) ?_
    refine px_icmp_ne (tgt := 30) dX7_readsPost_23 (by decide) ?_
    by_cases hc : ¬ r6 = ((-1) : Int32)
    · rw [if_pos hc] at h ⊢
      refine px_aload_n dX7_readsPost_30 rfl rfl ?_
      refine gf_X7_16 rfl dX7_readsPost_31 zl_21 zk_21 rfl zr_21_0 zl_22 ?_
      refine px_iconst (v := (0 : Int32)) dX7_readsPost_34 (by decide) ?_
      refine px_bipush (v := (31 : Int32)) dX7_readsPost_35 (by decide) ?_
      refine px_callV_I (As := [.int (0 : Int32), .int (31 : Int32)]) (st := []) dX7_readsPost_37 lk_X7_121.1 lk_X7_121.2 (b := 22) zl_22 zk_22 (by decide) rfl (by decide) rfl (Nat.le_of_ble_eq_true rfl) rfl rfl (Nat.le_of_ble_eq_true rfl) ⟨Nat.le_refl _, Nat.le_refl _, Nat.le_refl _⟩ ?_
      refine PAt.mono h (fun v κ gi7 gl8 hq => ?_)
      obtain ⟨rfl, r9, rfl, h⟩ := hq
      refine px_istore_n (ls2 := [some (.ref 21), some (.int r6), some (.int r9), none]) (i := 2) rfl dX7_readsPost_40 (by decide) rfl ?_
      refine px_iload_n dX7_readsPost_41 rfl rfl ?_
      refine px_iconst (v := ((-1) : Int32)) dX7_readsPost_42 (by decide) ?_
      refine px_icmp_ne (tgt := 50) dX7_readsPost_43 (by decide) ?_
      by_cases hc : ¬ r9 = ((-1) : Int32)
      · rw [if_pos hc] at h ⊢
        refine px_aload_n dX7_readsPost_50 rfl rfl ?_
        refine gf_X7_16 rfl dX7_readsPost_51 zl_21 zk_21 rfl zr_21_0 zl_22 ?_
        refine px_iconst (v := (1 : Int32)) dX7_readsPost_54 (by decide) ?_
        refine px_bipush (v := (20 : Int32)) dX7_readsPost_55 (by decide) ?_
        refine px_callV_I (As := [.int (1 : Int32), .int (20 : Int32)]) (st := []) dX7_readsPost_57 lk_X7_121.1 lk_X7_121.2 (b := 22) zl_22 zk_22 (by decide) rfl (by decide) rfl (Nat.le_of_ble_eq_true rfl) rfl rfl (Nat.le_of_ble_eq_true rfl) ⟨Nat.le_refl _, Nat.le_refl _, Nat.le_refl _⟩ ?_
        refine PAt.mono h (fun v κ gi10 gl11 hq => ?_)
        obtain ⟨rfl, r12, rfl, h⟩ := hq
        exact PAt.forget h (lsub_at ⟨rfl, ⟨rfl, ⟨rfl, trivial⟩⟩⟩)
      · rw [if_neg hc] at h ⊢
        refine px_iconst (v := ((-1) : Int32)) dX7_readsPost_46 (by decide) ?_
        refine px_goto (tgt := 60) dX7_readsPost_47 (by decide) ?_
        exact PAt.forget h (lsub_at ⟨rfl, ⟨rfl, ⟨rfl, trivial⟩⟩⟩)
    · rw [if_neg hc] at h ⊢
      refine px_iconst (v := ((-1) : Int32)) dX7_readsPost_26 (by decide) ?_
      refine px_goto (tgt := 40) dX7_readsPost_27 (by decide) ?_
      refine px_istore_n (ls2 := [some (.ref 21), some (.int r6), some (.int ((-1) : Int32)), none]) (i := 2) rfl dX7_readsPost_40 (by decide) rfl ?_
      refine px_iload_n dX7_readsPost_41 rfl rfl ?_
      refine px_iconst (v := ((-1) : Int32)) dX7_readsPost_42 (by decide) ?_
      refine px_icmp_ne_f (tgt := 50) dX7_readsPost_43 (by decide) (by decide) ?_
      refine px_iconst (v := ((-1) : Int32)) dX7_readsPost_46 (by decide) ?_
      refine px_goto (tgt := 60) dX7_readsPost_47 (by decide) ?_
      exact PAt.forget h (lsub_at ⟨rfl, ⟨rfl, ⟨rfl, trivial⟩⟩⟩)
  · rw [if_neg hc] at h ⊢
    refine px_iconst (v := (0 : Int32)) dX7_readsPost_8 (by decide) ?_
    exact px_ireturn dX7_readsPost_9 rfl ⟨.boolean, rfl, rfl, by decide⟩ ⟨rfl, _, rfl, h⟩
set_option maxRecDepth 100000 in
theorem v_X7_readsPost_60 {x1 : Int32} {x2 : Int32} {s0 : Int32} {gi : Gi} {gl : Gl} {Q : Int32 → Gi → Gl → Prop}  (h : f_X7_readsPost_60 x1 x2 s0 gi gl Q) : p_X7_readsPost_60 x1 x2 s0 gi gl Q := by
  unfold f_X7_readsPost_60 at h
  show PAt mX7_readsPost NN NN κF 60 [some (.ref 21), some (.int x1), some (.int x2), none] [.int s0] gi gl _
  refine px_istore_n (ls2 := [some (.ref 21), some (.int x1), some (.int x2), some (.int s0)]) (i := 3) rfl dX7_readsPost_60 (by decide) rfl ?_
  refine px_aload_n dX7_readsPost_61 rfl rfl ?_
  refine gf_X7_24 rfl dX7_readsPost_62 zl_21 zk_21 rfl zr_21_2 zl_8 ?_
  refine px_iconst (v := (2 : Int32)) dX7_readsPost_65 (by decide) ?_
  refine px_iload_n dX7_readsPost_66 rfl rfl ?_
  refine px_iload_n dX7_readsPost_67 rfl rfl ?_
  refine px_iload_n dX7_readsPost_68 rfl rfl ?_
  refine px_iconst (v := ((-1) : Int32)) dX7_readsPost_69 (by decide) ?_
  refine px_callV_V (As := [.int (2 : Int32), .int x1, .int x2, .int s0, .int ((-1) : Int32)]) (st := []) dX7_readsPost_70 lk_X7_130.1 lk_X7_130.2 (b := 8) zl_8 zk_8 (by decide) rfl (by decide) rfl (Nat.le_of_ble_eq_true rfl) rfl rfl (Nat.le_of_ble_eq_true rfl) ⟨Nat.le_refl _, Nat.le_refl _, Nat.le_refl _⟩ ?_
  refine PAt.mono h (fun v κ gi1 gl2 hq => ?_)
  obtain ⟨rfl, -, h⟩ := hq
  refine px_iload_n dX7_readsPost_73 rfl rfl ?_
  refine px_iconst (v := ((-1) : Int32)) dX7_readsPost_74 (by decide) ?_
  refine px_icmp_eq (tgt := 82) dX7_readsPost_75 (by decide) ?_
  by_cases hc : s0 = ((-1) : Int32)
  · rw [if_pos hc] at h ⊢
    refine px_iconst (v := (0 : Int32)) dX7_readsPost_82 (by decide) ?_
    exact px_ireturn dX7_readsPost_83 rfl ⟨.boolean, rfl, rfl, by decide⟩ ⟨rfl, _, rfl, h⟩
  · rw [if_neg hc] at h ⊢
    refine px_iconst (v := (1 : Int32)) dX7_readsPost_78 (by decide) ?_
    refine px_goto (tgt := 83) dX7_readsPost_79 (by decide) ?_
    exact px_ireturn dX7_readsPost_83 rfl ⟨.boolean, rfl, rfl, by decide⟩ ⟨rfl, _, rfl, h⟩
def f_X7_readsClock  (gi : Gi) (gl : Gl) (Q : Int32 → Gi → Gl → Prop) : Prop :=
p_X7_takesNewName (3 : Int32) gi gl (fun (r3 : Int32) (gi1 : Gi) (gl2 : Gl) =>
if r3 = 0 then
(Q (0 : Int32) gi1 gl2)
else
(p_X8_takes 10 gi1 gl2 (fun (r6 : Int32) (gi4 : Gi) (gl5 : Gl) =>
if ¬ r6 = 0 then
(p_X8_takeNumber (0 : Int32) (99 : Int32) gi4 gl5 (fun (r9 : Int32) (gi7 : Gi) (gl8 : Gl) =>
if r9 = ((-1) : Int32) then
(Q (0 : Int32) gi7 gl8)
else
(p_X8_takes 11 gi7 gl8 (fun (r12 : Int32) (gi10 : Gi) (gl11 : Gl) =>
if ¬ r12 = 0 then
(p_X8_takeNumber (0 : Int32) (99 : Int32) gi10 gl11 (fun (r15 : Int32) (gi13 : Gi) (gl14 : Gl) =>
p_X10_setLast 8 (3 : Int32) r9 r15 ((-1) : Int32) ((-1) : Int32) gi13 gl14 (fun (gi16 : Gi) (gl17 : Gl) =>
if r15 = ((-1) : Int32) then
(Q (0 : Int32) gi16 gl17)
else
(Q (1 : Int32) gi16 gl17))))
else
(Q (0 : Int32) gi10 gl11)))))
else
(Q (0 : Int32) gi4 gl5))))
set_option maxRecDepth 100000 in
theorem v_X7_readsClock  {gi : Gi} {gl : Gl} {Q : Int32 → Gi → Gl → Prop}  (h : f_X7_readsClock  gi gl Q) : p_X7_readsClock  gi gl Q := by
  unfold f_X7_readsClock at h
  show PAt mX7_readsClock NN NN κF 0 [some (.ref 21), none, none] [] gi gl _
  refine px_aload_n dX7_readsClock_0 rfl rfl ?_
  refine px_iconst (v := (3 : Int32)) dX7_readsClock_1 (by decide) ?_
  refine px_callV_I (As := [.int (3 : Int32)]) (st := []) dX7_readsClock_2 lk_X7_116.1 lk_X7_116.2 (b := 21) zl_21 zk_21 (by decide) rfl (by decide) rfl (Nat.le_of_ble_eq_true rfl) rfl rfl (Nat.le_of_ble_eq_true rfl) ⟨Nat.le_refl _, Nat.le_refl _, Nat.le_refl _⟩ ?_
  refine PAt.mono h (fun v κ gi1 gl2 hq => ?_)
  obtain ⟨rfl, r3, rfl, h⟩ := hq
  refine px_if_eq (tgt := 20) dX7_readsClock_5 (by decide) ?_
  by_cases hc : r3 = 0
  · rw [if_pos hc] at h ⊢
    refine px_iconst (v := (0 : Int32)) dX7_readsClock_20 (by decide) ?_
    exact px_ireturn dX7_readsClock_21 rfl ⟨.boolean, rfl, rfl, by decide⟩ ⟨rfl, _, rfl, h⟩
  · rw [if_neg hc] at h ⊢
    refine px_aload_n dX7_readsClock_8 rfl rfl ?_
    refine gf_X7_16 rfl dX7_readsClock_9 zl_21 zk_21 rfl zr_21_0 zl_22 ?_
    refine px_ldcS (i := 10) dX7_readsClock_12 (by decide) rfl rfl ?_
    refine px_callV_I (As := [.ref (ROB + 10)]) (st := []) dX7_readsClock_14 lk_X7_67.1 lk_X7_67.2 (b := 22) zl_22 zk_22 (by decide) rfl (by decide) rfl (Nat.le_of_ble_eq_true rfl) rfl rfl (Nat.le_of_ble_eq_true rfl) ⟨Nat.le_refl _, Nat.le_refl _, Nat.le_refl _⟩ ?_
    refine PAt.mono h (fun v κ gi4 gl5 hq => ?_)
    obtain ⟨rfl, r6, rfl, h⟩ := hq
    refine px_if_ne (tgt := 22) dX7_readsClock_17 (by decide) ?_
    by_cases hc : ¬ r6 = 0
    · rw [if_pos hc] at h ⊢
      refine px_aload_n dX7_readsClock_22 rfl rfl ?_
      refine gf_X7_16 rfl dX7_readsClock_23 zl_21 zk_21 rfl zr_21_0 zl_22 ?_
      refine px_iconst (v := (0 : Int32)) dX7_readsClock_26 (by decide) ?_
      refine px_bipush (v := (99 : Int32)) dX7_readsClock_27 (by decide) ?_
      refine px_callV_I (As := [.int (0 : Int32), .int (99 : Int32)]) (st := []) dX7_readsClock_29 lk_X7_121.1 lk_X7_121.2 (b := 22) zl_22 zk_22 (by decide) rfl (by decide) rfl (Nat.le_of_ble_eq_true rfl) rfl rfl (Nat.le_of_ble_eq_true rfl) ⟨Nat.le_refl _, Nat.le_refl _, Nat.le_refl _⟩ ?_
      refine PAt.mono h (fun v κ gi7 gl8 hq => ?_)
      obtain ⟨rfl, r9, rfl, h⟩ := hq
      refine px_istore_n (ls2 := [some (.ref 21), some (.int r9), none]) (i := 1) rfl dX7_readsClock_32 (by decide) rfl ?_
      refine px_iload_n dX7_readsClock_33 rfl rfl ?_
      refine px_iconst (v := ((-1) : Int32)) dX7_readsClock_34 (by decide) ?_
      refine px_icmp_eq (tgt := 50) dX7_readsClock_35 (by decide) ?_
      by_cases hc : r9 = ((-1) : Int32)
      · rw [if_pos hc] at h ⊢
        refine px_iconst (v := (0 : Int32)) dX7_readsClock_50 (by decide) ?_
        exact px_ireturn dX7_readsClock_51 rfl ⟨.boolean, rfl, rfl, by decide⟩ ⟨rfl, _, rfl, h⟩
      · rw [if_neg hc] at h ⊢
        refine px_aload_n dX7_readsClock_38 rfl rfl ?_
        refine gf_X7_16 rfl dX7_readsClock_39 zl_21 zk_21 rfl zr_21_0 zl_22 ?_
        refine px_ldcS (i := 11) dX7_readsClock_42 (by decide) rfl rfl ?_
        refine px_callV_I (As := [.ref (ROB + 11)]) (st := []) dX7_readsClock_44 lk_X7_67.1 lk_X7_67.2 (b := 22) zl_22 zk_22 (by decide) rfl (by decide) rfl (Nat.le_of_ble_eq_true rfl) rfl rfl (Nat.le_of_ble_eq_true rfl) ⟨Nat.le_refl _, Nat.le_refl _, Nat.le_refl _⟩ ?_
        refine PAt.mono h (fun v κ gi10 gl11 hq => ?_)
        obtain ⟨rfl, r12, rfl, h⟩ := hq
        refine px_if_ne (tgt := 52) dX7_readsClock_47 (by decide) ?_
        by_cases hc : ¬ r12 = 0
        · rw [if_pos hc] at h ⊢
          refine px_aload_n dX7_readsClock_52 rfl rfl ?_
          refine gf_X7_16 rfl dX7_readsClock_53 zl_21 zk_21 rfl zr_21_0 zl_22 ?_
          refine px_iconst (v := (0 : Int32)) dX7_readsClock_56 (by decide) ?_
          refine px_bipush (v := (99 : Int32)) dX7_readsClock_57 (by decide) ?_
          refine px_callV_I (As := [.int (0 : Int32), .int (99 : Int32)]) (st := []) dX7_readsClock_59 lk_X7_121.1 lk_X7_121.2 (b := 22) zl_22 zk_22 (by decide) rfl (by decide) rfl (Nat.le_of_ble_eq_true rfl) rfl rfl (Nat.le_of_ble_eq_true rfl) ⟨Nat.le_refl _, Nat.le_refl _, Nat.le_refl _⟩ ?_
          refine PAt.mono h (fun v κ gi13 gl14 hq => ?_)
          obtain ⟨rfl, r15, rfl, h⟩ := hq
          refine px_istore_n (ls2 := [some (.ref 21), some (.int r9), some (.int r15)]) (i := 2) rfl dX7_readsClock_62 (by decide) rfl ?_
          refine px_aload_n dX7_readsClock_63 rfl rfl ?_
          refine gf_X7_24 rfl dX7_readsClock_64 zl_21 zk_21 rfl zr_21_2 zl_8 ?_
          refine px_iconst (v := (3 : Int32)) dX7_readsClock_67 (by decide) ?_
          refine px_iload_n dX7_readsClock_68 rfl rfl ?_
          refine px_iload_n dX7_readsClock_69 rfl rfl ?_
          refine px_iconst (v := ((-1) : Int32)) dX7_readsClock_70 (by decide) ?_
          refine px_iconst (v := ((-1) : Int32)) dX7_readsClock_71 (by decide) ?_
          refine px_callV_V (As := [.int (3 : Int32), .int r9, .int r15, .int ((-1) : Int32), .int ((-1) : Int32)]) (st := []) dX7_readsClock_72 lk_X7_130.1 lk_X7_130.2 (b := 8) zl_8 zk_8 (by decide) rfl (by decide) rfl (Nat.le_of_ble_eq_true rfl) rfl rfl (Nat.le_of_ble_eq_true rfl) ⟨Nat.le_refl _, Nat.le_refl _, Nat.le_refl _⟩ ?_
          refine PAt.mono h (fun v κ gi16 gl17 hq => ?_)
          obtain ⟨rfl, -, h⟩ := hq
          refine px_iload_n dX7_readsClock_75 rfl rfl ?_
          refine px_iconst (v := ((-1) : Int32)) dX7_readsClock_76 (by decide) ?_
          refine px_icmp_eq (tgt := 84) dX7_readsClock_77 (by decide) ?_
          by_cases hc : r15 = ((-1) : Int32)
          · rw [if_pos hc] at h ⊢
            refine px_iconst (v := (0 : Int32)) dX7_readsClock_84 (by decide) ?_
            exact px_ireturn dX7_readsClock_85 rfl ⟨.boolean, rfl, rfl, by decide⟩ ⟨rfl, _, rfl, h⟩
          · rw [if_neg hc] at h ⊢
            refine px_iconst (v := (1 : Int32)) dX7_readsClock_80 (by decide) ?_
            refine px_goto (tgt := 85) dX7_readsClock_81 (by decide) ?_
            exact px_ireturn dX7_readsClock_85 rfl ⟨.boolean, rfl, rfl, by decide⟩ ⟨rfl, _, rfl, h⟩
        · rw [if_neg hc] at h ⊢
          refine px_iconst (v := (0 : Int32)) dX7_readsClock_50 (by decide) ?_
          exact px_ireturn dX7_readsClock_51 rfl ⟨.boolean, rfl, rfl, by decide⟩ ⟨rfl, _, rfl, h⟩
    · rw [if_neg hc] at h ⊢
      refine px_iconst (v := (0 : Int32)) dX7_readsClock_20 (by decide) ?_
      exact px_ireturn dX7_readsClock_21 rfl ⟨.boolean, rfl, rfl, by decide⟩ ⟨rfl, _, rfl, h⟩
abbrev p_X7_readsSun_105 (x1 : Int32) (x3 : Int32) (x4 : Int32) (s0 : Int32) (gi : Gi) (gl : Gl) (Q : Int32 → Gi → Gl → Prop) : Prop := PAt mX7_readsSun NN NN κF 105 [some (.ref 21), some (.int x1), none, some (.int x3), some (.int x4), none] [.int s0] gi gl (RiQ Q)
def f_X7_readsSun  (gi : Gi) (gl : Gl) (Q : Int32 → Gi → Gl → Prop) : Prop :=
p_X10_takesMore 8 (4 : Int32) gi gl (fun (r3 : Int32) (gi1 : Gi) (gl2 : Gl) =>
if ¬ r3 = 0 then
(p_X8_takeNumber (0 : Int32) (11 : Int32) gi1 gl2 (fun (r6 : Int32) (gi4 : Gi) (gl5 : Gl) =>
if ¬ r6 = ((-1) : Int32) then
(p_X10_sunRowsIn 8 r6 gi4 gl5 (fun (r9 : Int32) (gi7 : Gi) (gl8 : Gl) =>
p_X10_sunNumber 8 r6 (r9 - (1 : Int32)) (0 : Int32) gi7 gl8 (fun (r12 : Int32) (gi10 : Gi) (gl11 : Gl) =>
p_X8_takeNumber (r12 + (1 : Int32)) (719 : Int32) gi10 gl11 (fun (r15 : Int32) (gi13 : Gi) (gl14 : Gl) =>
if ¬ r15 = ((-1) : Int32) then
(p_X7_takeLong 13 14 gi13 gl14 (fun (r18 : Int32) (gi16 : Gi) (gl17 : Gl) =>
if ¬ r18 = (100 : Int32) then
(p_X7_takeLong 15 16 gi16 gl17 (fun (r21 : Int32) (gi19 : Gi) (gl20 : Gl) =>
p_X7_readsSun_105 r6 r15 r18 r21 gi19 gl20 Q))
else
(p_X7_readsSun_105 r6 r15 r18 (100 : Int32) gi16 gl17 Q)))
else
(p_X7_readsSun_105 r6 r15 (100 : Int32) (100 : Int32) gi13 gl14 Q)))))
else
(Q (0 : Int32) gi4 gl5)))
else
(Q (0 : Int32) gi1 gl2))
def f_X7_readsSun_105 (x1 : Int32) (x3 : Int32) (x4 : Int32) (s0 : Int32) (gi : Gi) (gl : Gl) (Q : Int32 → Gi → Gl → Prop) : Prop :=
if ¬ s0 = (100 : Int32) then
(p_X10_tellSun 8 x1 x3 x4 s0 gi gl (fun (gi1 : Gi) (gl2 : Gl) =>
Q (1 : Int32) gi1 gl2))
else
(Q (0 : Int32) gi gl)
set_option maxRecDepth 100000 in
theorem v_X7_readsSun  {gi : Gi} {gl : Gl} {Q : Int32 → Gi → Gl → Prop}  (h : f_X7_readsSun  gi gl Q) : p_X7_readsSun  gi gl Q := by
  unfold f_X7_readsSun at h
  show PAt mX7_readsSun NN NN κF 0 [some (.ref 21), none, none, none, none, none] [] gi gl _
  refine px_aload_n dX7_readsSun_0 rfl rfl ?_
  refine gf_X7_24 rfl dX7_readsSun_1 zl_21 zk_21 rfl zr_21_2 zl_8 ?_
  refine px_iconst (v := (4 : Int32)) dX7_readsSun_4 (by decide) ?_
  refine px_callV_I (As := [.int (4 : Int32)]) (st := []) dX7_readsSun_5 lk_X7_101.1 lk_X7_101.2 (b := 8) zl_8 zk_8 (by decide) rfl (by decide) rfl (Nat.le_of_ble_eq_true rfl) rfl rfl (Nat.le_of_ble_eq_true rfl) ⟨Nat.le_refl _, Nat.le_refl _, Nat.le_refl _⟩ ?_
  refine PAt.mono h (fun v κ gi1 gl2 hq => ?_)
  obtain ⟨rfl, r3, rfl, h⟩ := hq
  refine px_if_ne (tgt := 13) dX7_readsSun_8 (by decide) ?_
  by_cases hc : ¬ r3 = 0
  · rw [if_pos hc] at h ⊢
    refine px_aload_n dX7_readsSun_13 rfl rfl ?_
    refine gf_X7_16 rfl dX7_readsSun_14 zl_21 zk_21 rfl zr_21_0 zl_22 ?_
    refine px_iconst (v := (0 : Int32)) dX7_readsSun_17 (by decide) ?_
    refine px_bipush (v := (11 : Int32)) dX7_readsSun_18 (by decide) ?_
    refine px_callV_I (As := [.int (0 : Int32), .int (11 : Int32)]) (st := []) dX7_readsSun_20 lk_X7_121.1 lk_X7_121.2 (b := 22) zl_22 zk_22 (by decide) rfl (by decide) rfl (Nat.le_of_ble_eq_true rfl) rfl rfl (Nat.le_of_ble_eq_true rfl) ⟨Nat.le_refl _, Nat.le_refl _, Nat.le_refl _⟩ ?_
    refine PAt.mono h (fun v κ gi4 gl5 hq => ?_)
    obtain ⟨rfl, r6, rfl, h⟩ := hq
    refine px_istore_n (ls2 := [some (.ref 21), some (.int r6), none, none, none, none]) (i := 1) rfl dX7_readsSun_23 (by decide) rfl ?_
    refine px_iload_n dX7_readsSun_24 rfl rfl ?_
    refine px_iconst (v := ((-1) : Int32)) dX7_readsSun_25 (by decide) ?_
    refine px_icmp_ne (tgt := 31) dX7_readsSun_26 (by decide) ?_
    by_cases hc : ¬ r6 = ((-1) : Int32)
    · rw [if_pos hc] at h ⊢
      refine px_aload_n dX7_readsSun_31 rfl rfl ?_
      refine gf_X7_24 rfl dX7_readsSun_32 zl_21 zk_21 rfl zr_21_2 zl_8 ?_
      refine px_iload_n dX7_readsSun_35 rfl rfl ?_
      refine px_aload_n dX7_readsSun_36 rfl rfl ?_
      refine gf_X7_24 rfl dX7_readsSun_37 zl_21 zk_21 rfl zr_21_2 zl_8 ?_
      refine px_iload_n dX7_readsSun_40 rfl rfl ?_
      refine px_callV_I (As := [.int r6]) (st := [.int r6, .ref 8]) dX7_readsSun_41 lk_X7_145.1 lk_X7_145.2 (b := 8) zl_8 zk_8 (by decide) rfl (by decide) rfl (Nat.le_of_ble_eq_true rfl) rfl rfl (Nat.le_of_ble_eq_true rfl) ⟨Nat.le_refl _, Nat.le_refl _, Nat.le_refl _⟩ ?_
      refine PAt.mono h (fun v κ gi7 gl8 hq => ?_)
      obtain ⟨rfl, r9, rfl, h⟩ := hq
      refine px_iconst (v := (1 : Int32)) dX7_readsSun_44 (by decide) ?_
      refine px_isub dX7_readsSun_45 ?_
      refine px_iconst (v := (0 : Int32)) dX7_readsSun_46 (by decide) ?_
      refine px_callV_I (As := [.int r6, .int (r9 - (1 : Int32)), .int (0 : Int32)]) (st := []) dX7_readsSun_47 lk_X7_149.1 lk_X7_149.2 (b := 8) zl_8 zk_8 (by decide) rfl (by decide) rfl (Nat.le_of_ble_eq_true rfl) rfl rfl (Nat.le_of_ble_eq_true rfl) ⟨Nat.le_refl _, Nat.le_refl _, Nat.le_refl _⟩ ?_
      refine PAt.mono h (fun v κ gi10 gl11 hq => ?_)
      obtain ⟨rfl, r12, rfl, h⟩ := hq
      refine px_istore_n (ls2 := [some (.ref 21), some (.int r6), some (.int r12), none, none, none]) (i := 2) rfl dX7_readsSun_50 (by decide) rfl ?_
      refine px_aload_n dX7_readsSun_51 rfl rfl ?_
      refine gf_X7_16 rfl dX7_readsSun_52 zl_21 zk_21 rfl zr_21_0 zl_22 ?_
      refine px_iload_n dX7_readsSun_55 rfl rfl ?_
      refine px_iconst (v := (1 : Int32)) dX7_readsSun_56 (by decide) ?_
      refine px_iadd dX7_readsSun_57 ?_
      refine px_sipush (v := (719 : Int32)) dX7_readsSun_58 (by decide) ?_
      refine px_callV_I (As := [.int (r12 + (1 : Int32)), .int (719 : Int32)]) (st := []) dX7_readsSun_61 lk_X7_121.1 lk_X7_121.2 (b := 22) zl_22 zk_22 (by decide) rfl (by decide) rfl (Nat.le_of_ble_eq_true rfl) rfl rfl (Nat.le_of_ble_eq_true rfl) ⟨Nat.le_refl _, Nat.le_refl _, Nat.le_refl _⟩ ?_
      refine PAt.mono h (fun v κ gi13 gl14 hq => ?_)
      obtain ⟨rfl, r15, rfl, h⟩ := hq
      refine px_istore_n (ls2 := [some (.ref 21), some (.int r6), some (.int r12), some (.int r15), none, none]) (i := 3) rfl dX7_readsSun_64 (by decide) rfl ?_
      refine px_iload_n dX7_readsSun_65 rfl rfl ?_
      refine px_iconst (v := ((-1) : Int32)) dX7_readsSun_66 (by decide) ?_
      refine px_icmp_ne (tgt := 75) dX7_readsSun_67 (by decide) ?_
      by_cases hc : ¬ r15 = ((-1) : Int32)
      · rw [if_pos hc] at h ⊢
        refine px_aload_n dX7_readsSun_75 rfl rfl ?_
        refine px_ldcS (i := 13) dX7_readsSun_76 (by decide) rfl rfl ?_
        refine px_ldcS (i := 14) dX7_readsSun_78 (by decide) rfl rfl ?_
        refine px_callV_I (As := [.ref (ROB + 13), .ref (ROB + 14)]) (st := []) dX7_readsSun_80 lk_X7_157.1 lk_X7_157.2 (b := 21) zl_21 zk_21 (by decide) rfl (by decide) rfl (Nat.le_of_ble_eq_true rfl) rfl rfl (Nat.le_of_ble_eq_true rfl) ⟨Nat.le_refl _, Nat.le_refl _, Nat.le_refl _⟩ ?_
        refine PAt.mono h (fun v κ gi16 gl17 hq => ?_)
        obtain ⟨rfl, r18, rfl, h⟩ := hq
        refine px_istore (ls2 := [some (.ref 21), some (.int r6), some (.int r12), some (.int r15), some (.int r18), none]) dX7_readsSun_83 (by decide) rfl ?_
        refine px_iload dX7_readsSun_85 rfl ?_
        refine px_bipush (v := (100 : Int32)) dX7_readsSun_87 (by decide) ?_
        refine px_icmp_ne (tgt := 97) dX7_readsSun_89 (by decide) ?_
        by_cases hc : ¬ r18 = (100 : Int32)
        · rw [if_pos hc] at h ⊢
          refine px_aload_n dX7_readsSun_97 rfl rfl ?_
          refine px_ldcS (i := 15) dX7_readsSun_98 (by decide) rfl rfl ?_
          refine px_ldcS (i := 16) dX7_readsSun_100 (by decide) rfl rfl ?_
          refine px_callV_I (As := [.ref (ROB + 15), .ref (ROB + 16)]) (st := []) dX7_readsSun_102 lk_X7_157.1 lk_X7_157.2 (b := 21) zl_21 zk_21 (by decide) rfl (by decide) rfl (Nat.le_of_ble_eq_true rfl) rfl rfl (Nat.le_of_ble_eq_true rfl) ⟨Nat.le_refl _, Nat.le_refl _, Nat.le_refl _⟩ ?_
          refine PAt.mono h (fun v κ gi19 gl20 hq => ?_)
          obtain ⟨rfl, r21, rfl, h⟩ := hq
          exact PAt.forget h (lsub_at ⟨rfl, ⟨rfl, ⟨rfl, ⟨rfl, trivial⟩⟩⟩⟩)
        · rw [if_neg hc] at h ⊢
          refine px_bipush (v := (100 : Int32)) dX7_readsSun_92 (by decide) ?_
          refine px_goto (tgt := 105) dX7_readsSun_94 (by decide) ?_
          exact PAt.forget h (lsub_at ⟨rfl, ⟨rfl, ⟨rfl, ⟨rfl, trivial⟩⟩⟩⟩)
      · rw [if_neg hc] at h ⊢
        refine px_bipush (v := (100 : Int32)) dX7_readsSun_70 (by decide) ?_
        refine px_goto (tgt := 83) dX7_readsSun_72 (by decide) ?_
        refine px_istore (ls2 := [some (.ref 21), some (.int r6), some (.int r12), some (.int r15), some (.int (100 : Int32)), none]) dX7_readsSun_83 (by decide) rfl ?_
        refine px_iload dX7_readsSun_85 rfl ?_
        refine px_bipush (v := (100 : Int32)) dX7_readsSun_87 (by decide) ?_
        refine px_icmp_ne_f (tgt := 97) dX7_readsSun_89 (by decide) (by decide) ?_
        refine px_bipush (v := (100 : Int32)) dX7_readsSun_92 (by decide) ?_
        refine px_goto (tgt := 105) dX7_readsSun_94 (by decide) ?_
        exact PAt.forget h (lsub_at ⟨rfl, ⟨rfl, ⟨rfl, ⟨rfl, trivial⟩⟩⟩⟩)
    · rw [if_neg hc] at h ⊢
      refine px_iconst (v := (0 : Int32)) dX7_readsSun_29 (by decide) ?_
      exact px_ireturn dX7_readsSun_30 rfl ⟨.boolean, rfl, rfl, by decide⟩ ⟨rfl, _, rfl, h⟩
  · rw [if_neg hc] at h ⊢
    refine px_iconst (v := (0 : Int32)) dX7_readsSun_11 (by decide) ?_
    exact px_ireturn dX7_readsSun_12 rfl ⟨.boolean, rfl, rfl, by decide⟩ ⟨rfl, _, rfl, h⟩
set_option maxRecDepth 100000 in
theorem v_X7_readsSun_105 {x1 : Int32} {x3 : Int32} {x4 : Int32} {s0 : Int32} {gi : Gi} {gl : Gl} {Q : Int32 → Gi → Gl → Prop}  (h : f_X7_readsSun_105 x1 x3 x4 s0 gi gl Q) : p_X7_readsSun_105 x1 x3 x4 s0 gi gl Q := by
  unfold f_X7_readsSun_105 at h
  show PAt mX7_readsSun NN NN κF 105 [some (.ref 21), some (.int x1), none, some (.int x3), some (.int x4), none] [.int s0] gi gl _
  refine px_istore (ls2 := [some (.ref 21), some (.int x1), none, some (.int x3), some (.int x4), some (.int s0)]) dX7_readsSun_105 (by decide) rfl ?_
  refine px_iload dX7_readsSun_107 rfl ?_
  refine px_bipush (v := (100 : Int32)) dX7_readsSun_109 (by decide) ?_
  refine px_icmp_ne (tgt := 116) dX7_readsSun_111 (by decide) ?_
  by_cases hc : ¬ s0 = (100 : Int32)
  · rw [if_pos hc] at h ⊢
    refine px_aload_n dX7_readsSun_116 rfl rfl ?_
    refine gf_X7_24 rfl dX7_readsSun_117 zl_21 zk_21 rfl zr_21_2 zl_8 ?_
    refine px_iload_n dX7_readsSun_120 rfl rfl ?_
    refine px_iload_n dX7_readsSun_121 rfl rfl ?_
    refine px_iload dX7_readsSun_122 rfl ?_
    refine px_iload dX7_readsSun_124 rfl ?_
    refine px_callV_V (As := [.int x1, .int x3, .int x4, .int s0]) (st := []) dX7_readsSun_126 lk_X7_165.1 lk_X7_165.2 (b := 8) zl_8 zk_8 (by decide) rfl (by decide) rfl (Nat.le_of_ble_eq_true rfl) rfl rfl (Nat.le_of_ble_eq_true rfl) ⟨Nat.le_refl _, Nat.le_refl _, Nat.le_refl _⟩ ?_
    refine PAt.mono h (fun v κ gi1 gl2 hq => ?_)
    obtain ⟨rfl, -, h⟩ := hq
    refine px_iconst (v := (1 : Int32)) dX7_readsSun_129 (by decide) ?_
    exact px_ireturn dX7_readsSun_130 rfl ⟨.boolean, rfl, rfl, by decide⟩ ⟨rfl, _, rfl, h⟩
  · rw [if_neg hc] at h ⊢
    refine px_iconst (v := (0 : Int32)) dX7_readsSun_114 (by decide) ?_
    exact px_ireturn dX7_readsSun_115 rfl ⟨.boolean, rfl, rfl, by decide⟩ ⟨rfl, _, rfl, h⟩
abbrev p_X7_takeLong_27 (p : Nat) (q : Nat) (x3 : Int32) (gi : Gi) (gl : Gl) (Q : Int32 → Gi → Gl → Prop) : Prop := PAt mX7_takeLong NN NN κF 27 [some (.ref 21), none, none, some (.int x3), none] [] gi gl (RiQ Q)
def f_X7_takeLong (p : Nat) (q : Nat) (gi : Gi) (gl : Gl) (Q : Int32 → Gi → Gl → Prop) : Prop :=
p_X8_takes p gi gl (fun (r3 : Int32) (gi1 : Gi) (gl2 : Gl) =>
if ¬ r3 = 0 then
(p_X7_takeLong_27 p q r3 gi1 gl2 Q)
else
(p_X8_takes q gi1 gl2 (fun (r6 : Int32) (gi4 : Gi) (gl5 : Gl) =>
if ¬ r6 = 0 then
(p_X7_takeLong_27 p q r3 gi4 gl5 Q)
else
(Q (100 : Int32) gi4 gl5))))
def f_X7_takeLong_27 (p : Nat) (q : Nat) (x3 : Int32) (gi : Gi) (gl : Gl) (Q : Int32 → Gi → Gl → Prop) : Prop :=
p_X8_takeNumber (0 : Int32) (99 : Int32) gi gl (fun (r3 : Int32) (gi1 : Gi) (gl2 : Gl) =>
if ¬ r3 = ((-1) : Int32) then
(if x3 = 0 then
(Q (-r3) gi1 gl2)
else
(Q r3 gi1 gl2))
else
(Q (100 : Int32) gi1 gl2))
set_option maxRecDepth 100000 in
theorem v_X7_takeLong {p : Nat} {q : Nat} {gi : Gi} {gl : Gl} {Q : Int32 → Gi → Gl → Prop} (hpN : p < nJt) (hqN : q < nJt) (h : f_X7_takeLong p q gi gl Q) : p_X7_takeLong p q gi gl Q := by
  unfold f_X7_takeLong at h
  show PAt mX7_takeLong NN NN κF 0 [some (.ref 21), some (.ref (ROB + p)), some (.ref (ROB + q)), none, none] [] gi gl _
  refine px_aload_n dX7_takeLong_0 rfl rfl ?_
  refine gf_X7_16 rfl dX7_takeLong_1 zl_21 zk_21 rfl zr_21_0 zl_22 ?_
  refine px_aload_n dX7_takeLong_4 rfl rfl ?_
  refine px_callV_I (As := [.ref (ROB + p)]) (st := []) dX7_takeLong_5 lk_X7_67.1 lk_X7_67.2 (b := 22) zl_22 zk_22 (by decide) rfl (by decide) rfl (Nat.le_of_ble_eq_true rfl) rfl rfl (Nat.le_of_ble_eq_true rfl) ⟨Nat.le_refl _, Nat.le_refl _, Nat.le_refl _⟩ ?_
  refine PAt.mono h (fun v κ gi1 gl2 hq => ?_)
  obtain ⟨rfl, r3, rfl, h⟩ := hq
  refine px_istore_n (ls2 := [some (.ref 21), some (.ref (ROB + p)), some (.ref (ROB + q)), some (.int r3), none]) (i := 3) rfl dX7_takeLong_8 (by decide) rfl ?_
  refine px_iload_n dX7_takeLong_9 rfl rfl ?_
  refine px_if_ne (tgt := 27) dX7_takeLong_10 (by decide) ?_
  by_cases hc : ¬ r3 = 0
  · rw [if_pos hc] at h ⊢
    exact PAt.forget h (lsub_at ⟨rfl, ⟨rfl, trivial⟩⟩)
  · rw [if_neg hc] at h ⊢
    refine px_aload_n dX7_takeLong_13 rfl rfl ?_
    refine gf_X7_16 rfl dX7_takeLong_14 zl_21 zk_21 rfl zr_21_0 zl_22 ?_
    refine px_aload_n dX7_takeLong_17 rfl rfl ?_
    refine px_callV_I (As := [.ref (ROB + q)]) (st := []) dX7_takeLong_18 lk_X7_67.1 lk_X7_67.2 (b := 22) zl_22 zk_22 (by decide) rfl (by decide) rfl (Nat.le_of_ble_eq_true rfl) rfl rfl (Nat.le_of_ble_eq_true rfl) ⟨Nat.le_refl _, Nat.le_refl _, Nat.le_refl _⟩ ?_
    refine PAt.mono h (fun v κ gi4 gl5 hq => ?_)
    obtain ⟨rfl, r6, rfl, h⟩ := hq
    refine px_if_ne (tgt := 27) dX7_takeLong_21 (by decide) ?_
    by_cases hc : ¬ r6 = 0
    · rw [if_pos hc] at h ⊢
      exact PAt.forget h (lsub_at ⟨rfl, ⟨rfl, trivial⟩⟩)
    · rw [if_neg hc] at h ⊢
      refine px_bipush (v := (100 : Int32)) dX7_takeLong_24 (by decide) ?_
      exact px_ireturn dX7_takeLong_26 rfl ⟨.int, rfl, rfl, rfl⟩ ⟨rfl, _, rfl, h⟩
set_option maxRecDepth 100000 in
theorem v_X7_takeLong_27 {p : Nat} {q : Nat} {x3 : Int32} {gi : Gi} {gl : Gl} {Q : Int32 → Gi → Gl → Prop} (hpN : p < nJt) (hqN : q < nJt) (h : f_X7_takeLong_27 p q x3 gi gl Q) : p_X7_takeLong_27 p q x3 gi gl Q := by
  unfold f_X7_takeLong_27 at h
  show PAt mX7_takeLong NN NN κF 27 [some (.ref 21), none, none, some (.int x3), none] [] gi gl _
  refine px_aload_n dX7_takeLong_27 rfl rfl ?_
  refine gf_X7_16 rfl dX7_takeLong_28 zl_21 zk_21 rfl zr_21_0 zl_22 ?_
  refine px_iconst (v := (0 : Int32)) dX7_takeLong_31 (by decide) ?_
  refine px_bipush (v := (99 : Int32)) dX7_takeLong_32 (by decide) ?_
  refine px_callV_I (As := [.int (0 : Int32), .int (99 : Int32)]) (st := []) dX7_takeLong_34 lk_X7_121.1 lk_X7_121.2 (b := 22) zl_22 zk_22 (by decide) rfl (by decide) rfl (Nat.le_of_ble_eq_true rfl) rfl rfl (Nat.le_of_ble_eq_true rfl) ⟨Nat.le_refl _, Nat.le_refl _, Nat.le_refl _⟩ ?_
  refine PAt.mono h (fun v κ gi1 gl2 hq => ?_)
  obtain ⟨rfl, r3, rfl, h⟩ := hq
  refine px_istore (ls2 := [some (.ref 21), none, none, some (.int x3), some (.int r3)]) dX7_takeLong_37 (by decide) rfl ?_
  refine px_iload dX7_takeLong_39 rfl ?_
  refine px_iconst (v := ((-1) : Int32)) dX7_takeLong_41 (by decide) ?_
  refine px_icmp_ne (tgt := 48) dX7_takeLong_42 (by decide) ?_
  by_cases hc : ¬ r3 = ((-1) : Int32)
  · rw [if_pos hc] at h ⊢
    refine px_iload_n dX7_takeLong_48 rfl rfl ?_
    refine px_if_eq (tgt := 57) dX7_takeLong_49 (by decide) ?_
    by_cases hc : x3 = 0
    · rw [if_pos hc] at h ⊢
      refine px_iload dX7_takeLong_57 rfl ?_
      refine px_ineg dX7_takeLong_59 ?_
      exact px_ireturn dX7_takeLong_60 rfl ⟨.int, rfl, rfl, rfl⟩ ⟨rfl, _, rfl, h⟩
    · rw [if_neg hc] at h ⊢
      refine px_iload dX7_takeLong_52 rfl ?_
      refine px_goto (tgt := 60) dX7_takeLong_54 (by decide) ?_
      exact px_ireturn dX7_takeLong_60 rfl ⟨.int, rfl, rfl, rfl⟩ ⟨rfl, _, rfl, h⟩
  · rw [if_neg hc] at h ⊢
    refine px_bipush (v := (100 : Int32)) dX7_takeLong_45 (by decide) ?_
    exact px_ireturn dX7_takeLong_47 rfl ⟨.int, rfl, rfl, rfl⟩ ⟨rfl, _, rfl, h⟩
def f_X7_readsSign  (gi : Gi) (gl : Gl) (Q : Int32 → Gi → Gl → Prop) : Prop :=
p_X8_takes 17 gi gl (fun (r3 : Int32) (gi1 : Gi) (gl2 : Gl) =>
if r3 = 0 then
(p_X8_takes 18 gi1 gl2 (fun (r6 : Int32) (gi4 : Gi) (gl5 : Gl) =>
if r6 = 0 then
(p_X8_takes 6 gi4 gl5 (fun (r9 : Int32) (gi7 : Gi) (gl8 : Gl) =>
if r9 = 0 then
(p_X8_takes 7 gi7 gl8 (fun (r12 : Int32) (gi10 : Gi) (gl11 : Gl) =>
if r12 = 0 then
(p_X8_takes 19 gi10 gl11 (fun (r15 : Int32) (gi13 : Gi) (gl14 : Gl) =>
if r15 = 0 then
(p_X8_takes 9 gi13 gl14 (fun (r18 : Int32) (gi16 : Gi) (gl17 : Gl) =>
if r18 = 0 then
(p_X8_takes 20 gi16 gl17 (fun (r21 : Int32) (gi19 : Gi) (gl20 : Gl) =>
if r21 = 0 then
(p_X8_takes 21 gi19 gl20 (fun (r24 : Int32) (gi22 : Gi) (gl23 : Gl) =>
if r24 = 0 then
(p_X8_takes 22 gi22 gl23 (fun (r27 : Int32) (gi25 : Gi) (gl26 : Gl) =>
if r27 = 0 then
(p_X8_takes 23 gi25 gl26 (fun (r30 : Int32) (gi28 : Gi) (gl29 : Gl) =>
if r30 = 0 then
(Q (0 : Int32) gi28 gl29)
else
(p_X7_readsTwoPosts (9 : Int32) gi28 gl29 (fun (r33 : Int32) (gi31 : Gi) (gl32 : Gl) =>
if r33 = 0 then
(Q (0 : Int32) gi31 gl32)
else
(Q (1 : Int32) gi31 gl32)))))
else
(p_X7_readsTwoPosts (8 : Int32) gi25 gl26 (fun (r36 : Int32) (gi34 : Gi) (gl35 : Gl) =>
(r36 = 0 ∨ r36 = 1) ∧
Q r36 gi34 gl35))))
else
(p_X7_readsNumbered (7 : Int32) (9 : Int32) gi22 gl23 (fun (r39 : Int32) (gi37 : Gi) (gl38 : Gl) =>
(r39 = 0 ∨ r39 = 1) ∧
Q r39 gi37 gl38))))
else
(p_X7_readsNumbered (6 : Int32) (6 : Int32) gi19 gl20 (fun (r42 : Int32) (gi40 : Gi) (gl41 : Gl) =>
(r42 = 0 ∨ r42 = 1) ∧
Q r42 gi40 gl41))))
else
(p_X7_readsShownTime  gi16 gl17 (fun (r45 : Int32) (gi43 : Gi) (gl44 : Gl) =>
(r45 = 0 ∨ r45 = 1) ∧
Q r45 gi43 gl44))))
else
(p_X7_readsShadow  gi13 gl14 (fun (r48 : Int32) (gi46 : Gi) (gl47 : Gl) =>
(r48 = 0 ∨ r48 = 1) ∧
Q r48 gi46 gl47))))
else
(p_X7_readsNamed (3 : Int32) (1 : Int32) gi10 gl11 (fun (r51 : Int32) (gi49 : Gi) (gl50 : Gl) =>
(r51 = 0 ∨ r51 = 1) ∧
Q r51 gi49 gl50))))
else
(p_X7_readsNamed (2 : Int32) (1 : Int32) gi7 gl8 (fun (r54 : Int32) (gi52 : Gi) (gl53 : Gl) =>
(r54 = 0 ∨ r54 = 1) ∧
Q r54 gi52 gl53))))
else
(p_X7_readsNamed (1 : Int32) (0 : Int32) gi4 gl5 (fun (r57 : Int32) (gi55 : Gi) (gl56 : Gl) =>
(r57 = 0 ∨ r57 = 1) ∧
Q r57 gi55 gl56))))
else
(p_X7_readsNamed (0 : Int32) (0 : Int32) gi1 gl2 (fun (r60 : Int32) (gi58 : Gi) (gl59 : Gl) =>
(r60 = 0 ∨ r60 = 1) ∧
Q r60 gi58 gl59)))
set_option maxRecDepth 100000 in
theorem v_X7_readsSign  {gi : Gi} {gl : Gl} {Q : Int32 → Gi → Gl → Prop}  (h : f_X7_readsSign  gi gl Q) : p_X7_readsSign  gi gl Q := by
  unfold f_X7_readsSign at h
  show PAt mX7_readsSign NN NN κF 0 [some (.ref 21)] [] gi gl _
  refine px_aload_n dX7_readsSign_0 rfl rfl ?_
  refine gf_X7_16 rfl dX7_readsSign_1 zl_21 zk_21 rfl zr_21_0 zl_22 ?_
  refine px_ldcS (i := 17) dX7_readsSign_4 (by decide) rfl rfl ?_
  refine px_callV_I (As := [.ref (ROB + 17)]) (st := []) dX7_readsSign_6 lk_X7_67.1 lk_X7_67.2 (b := 22) zl_22 zk_22 (by decide) rfl (by decide) rfl (Nat.le_of_ble_eq_true rfl) rfl rfl (Nat.le_of_ble_eq_true rfl) ⟨Nat.le_refl _, Nat.le_refl _, Nat.le_refl _⟩ ?_
  refine PAt.mono h (fun v κ gi1 gl2 hq => ?_)
  obtain ⟨rfl, r3, rfl, h⟩ := hq
  refine px_if_eq (tgt := 19) dX7_readsSign_9 (by decide) ?_
  by_cases hc : r3 = 0
  · rw [if_pos hc] at h ⊢
    refine px_aload_n dX7_readsSign_19 rfl rfl ?_
    refine gf_X7_16 rfl dX7_readsSign_20 zl_21 zk_21 rfl zr_21_0 zl_22 ?_
    refine px_ldcS (i := 18) dX7_readsSign_23 (by decide) rfl rfl ?_
    refine px_callV_I (As := [.ref (ROB + 18)]) (st := []) dX7_readsSign_25 lk_X7_67.1 lk_X7_67.2 (b := 22) zl_22 zk_22 (by decide) rfl (by decide) rfl (Nat.le_of_ble_eq_true rfl) rfl rfl (Nat.le_of_ble_eq_true rfl) ⟨Nat.le_refl _, Nat.le_refl _, Nat.le_refl _⟩ ?_
    refine PAt.mono h (fun v κ gi4 gl5 hq => ?_)
    obtain ⟨rfl, r6, rfl, h⟩ := hq
    refine px_if_eq (tgt := 38) dX7_readsSign_28 (by decide) ?_
    by_cases hc : r6 = 0
    · rw [if_pos hc] at h ⊢
      refine px_aload_n dX7_readsSign_38 rfl rfl ?_
      refine gf_X7_16 rfl dX7_readsSign_39 zl_21 zk_21 rfl zr_21_0 zl_22 ?_
      refine px_ldcS (i := 6) dX7_readsSign_42 (by decide) rfl rfl ?_
      refine px_callV_I (As := [.ref (ROB + 6)]) (st := []) dX7_readsSign_44 lk_X7_67.1 lk_X7_67.2 (b := 22) zl_22 zk_22 (by decide) rfl (by decide) rfl (Nat.le_of_ble_eq_true rfl) rfl rfl (Nat.le_of_ble_eq_true rfl) ⟨Nat.le_refl _, Nat.le_refl _, Nat.le_refl _⟩ ?_
      refine PAt.mono h (fun v κ gi7 gl8 hq => ?_)
      obtain ⟨rfl, r9, rfl, h⟩ := hq
      refine px_if_eq (tgt := 57) dX7_readsSign_47 (by decide) ?_
      by_cases hc : r9 = 0
      · rw [if_pos hc] at h ⊢
        refine px_aload_n dX7_readsSign_57 rfl rfl ?_
        refine gf_X7_16 rfl dX7_readsSign_58 zl_21 zk_21 rfl zr_21_0 zl_22 ?_
        refine px_ldcS (i := 7) dX7_readsSign_61 (by decide) rfl rfl ?_
        refine px_callV_I (As := [.ref (ROB + 7)]) (st := []) dX7_readsSign_63 lk_X7_67.1 lk_X7_67.2 (b := 22) zl_22 zk_22 (by decide) rfl (by decide) rfl (Nat.le_of_ble_eq_true rfl) rfl rfl (Nat.le_of_ble_eq_true rfl) ⟨Nat.le_refl _, Nat.le_refl _, Nat.le_refl _⟩ ?_
        refine PAt.mono h (fun v κ gi10 gl11 hq => ?_)
        obtain ⟨rfl, r12, rfl, h⟩ := hq
        refine px_if_eq (tgt := 76) dX7_readsSign_66 (by decide) ?_
        by_cases hc : r12 = 0
        · rw [if_pos hc] at h ⊢
          refine px_aload_n dX7_readsSign_76 rfl rfl ?_
          refine gf_X7_16 rfl dX7_readsSign_77 zl_21 zk_21 rfl zr_21_0 zl_22 ?_
          refine px_ldcS (i := 19) dX7_readsSign_80 (by decide) rfl rfl ?_
          refine px_callV_I (As := [.ref (ROB + 19)]) (st := []) dX7_readsSign_82 lk_X7_67.1 lk_X7_67.2 (b := 22) zl_22 zk_22 (by decide) rfl (by decide) rfl (Nat.le_of_ble_eq_true rfl) rfl rfl (Nat.le_of_ble_eq_true rfl) ⟨Nat.le_refl _, Nat.le_refl _, Nat.le_refl _⟩ ?_
          refine PAt.mono h (fun v κ gi13 gl14 hq => ?_)
          obtain ⟨rfl, r15, rfl, h⟩ := hq
          refine px_if_eq (tgt := 93) dX7_readsSign_85 (by decide) ?_
          by_cases hc : r15 = 0
          · rw [if_pos hc] at h ⊢
            refine px_aload_n dX7_readsSign_93 rfl rfl ?_
            refine gf_X7_16 rfl dX7_readsSign_94 zl_21 zk_21 rfl zr_21_0 zl_22 ?_
            refine px_ldcS (i := 9) dX7_readsSign_97 (by decide) rfl rfl ?_
            refine px_callV_I (As := [.ref (ROB + 9)]) (st := []) dX7_readsSign_99 lk_X7_67.1 lk_X7_67.2 (b := 22) zl_22 zk_22 (by decide) rfl (by decide) rfl (Nat.le_of_ble_eq_true rfl) rfl rfl (Nat.le_of_ble_eq_true rfl) ⟨Nat.le_refl _, Nat.le_refl _, Nat.le_refl _⟩ ?_
            refine PAt.mono h (fun v κ gi16 gl17 hq => ?_)
            obtain ⟨rfl, r18, rfl, h⟩ := hq
            refine px_if_eq (tgt := 110) dX7_readsSign_102 (by decide) ?_
            by_cases hc : r18 = 0
            · rw [if_pos hc] at h ⊢
              refine px_aload_n dX7_readsSign_110 rfl rfl ?_
              refine gf_X7_16 rfl dX7_readsSign_111 zl_21 zk_21 rfl zr_21_0 zl_22 ?_
              refine px_ldcS (i := 20) dX7_readsSign_114 (by decide) rfl rfl ?_
              refine px_callV_I (As := [.ref (ROB + 20)]) (st := []) dX7_readsSign_116 lk_X7_67.1 lk_X7_67.2 (b := 22) zl_22 zk_22 (by decide) rfl (by decide) rfl (Nat.le_of_ble_eq_true rfl) rfl rfl (Nat.le_of_ble_eq_true rfl) ⟨Nat.le_refl _, Nat.le_refl _, Nat.le_refl _⟩ ?_
              refine PAt.mono h (fun v κ gi19 gl20 hq => ?_)
              obtain ⟨rfl, r21, rfl, h⟩ := hq
              refine px_if_eq (tgt := 131) dX7_readsSign_119 (by decide) ?_
              by_cases hc : r21 = 0
              · rw [if_pos hc] at h ⊢
                refine px_aload_n dX7_readsSign_131 rfl rfl ?_
                refine gf_X7_16 rfl dX7_readsSign_132 zl_21 zk_21 rfl zr_21_0 zl_22 ?_
                refine px_ldcS (i := 21) dX7_readsSign_135 (by decide) rfl rfl ?_
                refine px_callV_I (As := [.ref (ROB + 21)]) (st := []) dX7_readsSign_137 lk_X7_67.1 lk_X7_67.2 (b := 22) zl_22 zk_22 (by decide) rfl (by decide) rfl (Nat.le_of_ble_eq_true rfl) rfl rfl (Nat.le_of_ble_eq_true rfl) ⟨Nat.le_refl _, Nat.le_refl _, Nat.le_refl _⟩ ?_
                refine PAt.mono h (fun v κ gi22 gl23 hq => ?_)
                obtain ⟨rfl, r24, rfl, h⟩ := hq
                refine px_if_eq (tgt := 152) dX7_readsSign_140 (by decide) ?_
                by_cases hc : r24 = 0
                · rw [if_pos hc] at h ⊢
                  refine px_aload_n dX7_readsSign_152 rfl rfl ?_
                  refine gf_X7_16 rfl dX7_readsSign_153 zl_21 zk_21 rfl zr_21_0 zl_22 ?_
                  refine px_ldcS (i := 22) dX7_readsSign_156 (by decide) rfl rfl ?_
                  refine px_callV_I (As := [.ref (ROB + 22)]) (st := []) dX7_readsSign_158 lk_X7_67.1 lk_X7_67.2 (b := 22) zl_22 zk_22 (by decide) rfl (by decide) rfl (Nat.le_of_ble_eq_true rfl) rfl rfl (Nat.le_of_ble_eq_true rfl) ⟨Nat.le_refl _, Nat.le_refl _, Nat.le_refl _⟩ ?_
                  refine PAt.mono h (fun v κ gi25 gl26 hq => ?_)
                  obtain ⟨rfl, r27, rfl, h⟩ := hq
                  refine px_if_eq (tgt := 171) dX7_readsSign_161 (by decide) ?_
                  by_cases hc : r27 = 0
                  · rw [if_pos hc] at h ⊢
                    refine px_aload_n dX7_readsSign_171 rfl rfl ?_
                    refine gf_X7_16 rfl dX7_readsSign_172 zl_21 zk_21 rfl zr_21_0 zl_22 ?_
                    refine px_ldcS (i := 23) dX7_readsSign_175 (by decide) rfl rfl ?_
                    refine px_callV_I (As := [.ref (ROB + 23)]) (st := []) dX7_readsSign_177 lk_X7_67.1 lk_X7_67.2 (b := 22) zl_22 zk_22 (by decide) rfl (by decide) rfl (Nat.le_of_ble_eq_true rfl) rfl rfl (Nat.le_of_ble_eq_true rfl) ⟨Nat.le_refl _, Nat.le_refl _, Nat.le_refl _⟩ ?_
                    refine PAt.mono h (fun v κ gi28 gl29 hq => ?_)
                    obtain ⟨rfl, r30, rfl, h⟩ := hq
                    refine px_if_eq (tgt := 196) dX7_readsSign_180 (by decide) ?_
                    by_cases hc : r30 = 0
                    · rw [if_pos hc] at h ⊢
                      refine px_iconst (v := (0 : Int32)) dX7_readsSign_196 (by decide) ?_
                      exact px_ireturn dX7_readsSign_197 rfl ⟨.boolean, rfl, rfl, by decide⟩ ⟨rfl, _, rfl, h⟩
                    · rw [if_neg hc] at h ⊢
                      refine px_aload_n dX7_readsSign_183 rfl rfl ?_
                      refine px_bipush (v := (9 : Int32)) dX7_readsSign_184 (by decide) ?_
                      refine px_callV_I (As := [.int (9 : Int32)]) (st := []) dX7_readsSign_186 lk_X7_194.1 lk_X7_194.2 (b := 21) zl_21 zk_21 (by decide) rfl (by decide) rfl (Nat.le_of_ble_eq_true rfl) rfl rfl (Nat.le_of_ble_eq_true rfl) ⟨Nat.le_refl _, Nat.le_refl _, Nat.le_refl _⟩ ?_
                      refine PAt.mono h (fun v κ gi31 gl32 hq => ?_)
                      obtain ⟨rfl, r33, rfl, h⟩ := hq
                      refine px_if_eq (tgt := 196) dX7_readsSign_189 (by decide) ?_
                      by_cases hc : r33 = 0
                      · rw [if_pos hc] at h ⊢
                        refine px_iconst (v := (0 : Int32)) dX7_readsSign_196 (by decide) ?_
                        exact px_ireturn dX7_readsSign_197 rfl ⟨.boolean, rfl, rfl, by decide⟩ ⟨rfl, _, rfl, h⟩
                      · rw [if_neg hc] at h ⊢
                        refine px_iconst (v := (1 : Int32)) dX7_readsSign_192 (by decide) ?_
                        refine px_goto (tgt := 197) dX7_readsSign_193 (by decide) ?_
                        exact px_ireturn dX7_readsSign_197 rfl ⟨.boolean, rfl, rfl, by decide⟩ ⟨rfl, _, rfl, h⟩
                  · rw [if_neg hc] at h ⊢
                    refine px_aload_n dX7_readsSign_164 rfl rfl ?_
                    refine px_bipush (v := (8 : Int32)) dX7_readsSign_165 (by decide) ?_
                    refine px_callV_I (As := [.int (8 : Int32)]) (st := []) dX7_readsSign_167 lk_X7_194.1 lk_X7_194.2 (b := 21) zl_21 zk_21 (by decide) rfl (by decide) rfl (Nat.le_of_ble_eq_true rfl) rfl rfl (Nat.le_of_ble_eq_true rfl) ⟨Nat.le_refl _, Nat.le_refl _, Nat.le_refl _⟩ ?_
                    refine PAt.mono h (fun v κ gi34 gl35 hq => ?_)
                    obtain ⟨rfl, r36, rfl, h⟩ := hq
                    obtain ⟨hz, h⟩ := h
                    exact px_ireturn dX7_readsSign_170 rfl ⟨.boolean, rfl, rfl, nar01 hz⟩ ⟨rfl, _, rfl, h⟩
                · rw [if_neg hc] at h ⊢
                  refine px_aload_n dX7_readsSign_143 rfl rfl ?_
                  refine px_bipush (v := (7 : Int32)) dX7_readsSign_144 (by decide) ?_
                  refine px_bipush (v := (9 : Int32)) dX7_readsSign_146 (by decide) ?_
                  refine px_callV_I (As := [.int (7 : Int32), .int (9 : Int32)]) (st := []) dX7_readsSign_148 lk_X7_187.1 lk_X7_187.2 (b := 21) zl_21 zk_21 (by decide) rfl (by decide) rfl (Nat.le_of_ble_eq_true rfl) rfl rfl (Nat.le_of_ble_eq_true rfl) ⟨Nat.le_refl _, Nat.le_refl _, Nat.le_refl _⟩ ?_
                  refine PAt.mono h (fun v κ gi37 gl38 hq => ?_)
                  obtain ⟨rfl, r39, rfl, h⟩ := hq
                  obtain ⟨hz, h⟩ := h
                  exact px_ireturn dX7_readsSign_151 rfl ⟨.boolean, rfl, rfl, nar01 hz⟩ ⟨rfl, _, rfl, h⟩
              · rw [if_neg hc] at h ⊢
                refine px_aload_n dX7_readsSign_122 rfl rfl ?_
                refine px_bipush (v := (6 : Int32)) dX7_readsSign_123 (by decide) ?_
                refine px_bipush (v := (6 : Int32)) dX7_readsSign_125 (by decide) ?_
                refine px_callV_I (As := [.int (6 : Int32), .int (6 : Int32)]) (st := []) dX7_readsSign_127 lk_X7_187.1 lk_X7_187.2 (b := 21) zl_21 zk_21 (by decide) rfl (by decide) rfl (Nat.le_of_ble_eq_true rfl) rfl rfl (Nat.le_of_ble_eq_true rfl) ⟨Nat.le_refl _, Nat.le_refl _, Nat.le_refl _⟩ ?_
                refine PAt.mono h (fun v κ gi40 gl41 hq => ?_)
                obtain ⟨rfl, r42, rfl, h⟩ := hq
                obtain ⟨hz, h⟩ := h
                exact px_ireturn dX7_readsSign_130 rfl ⟨.boolean, rfl, rfl, nar01 hz⟩ ⟨rfl, _, rfl, h⟩
            · rw [if_neg hc] at h ⊢
              refine px_aload_n dX7_readsSign_105 rfl rfl ?_
              refine px_callV_I (As := []) (st := []) dX7_readsSign_106 lk_X7_182.1 lk_X7_182.2 (b := 21) zl_21 zk_21 (by decide) rfl (by decide) rfl (Nat.le_of_ble_eq_true rfl) rfl rfl (Nat.le_of_ble_eq_true rfl) ⟨Nat.le_refl _, Nat.le_refl _, Nat.le_refl _⟩ ?_
              refine PAt.mono h (fun v κ gi43 gl44 hq => ?_)
              obtain ⟨rfl, r45, rfl, h⟩ := hq
              obtain ⟨hz, h⟩ := h
              exact px_ireturn dX7_readsSign_109 rfl ⟨.boolean, rfl, rfl, nar01 hz⟩ ⟨rfl, _, rfl, h⟩
          · rw [if_neg hc] at h ⊢
            refine px_aload_n dX7_readsSign_88 rfl rfl ?_
            refine px_callV_I (As := []) (st := []) dX7_readsSign_89 lk_X7_179.1 lk_X7_179.2 (b := 21) zl_21 zk_21 (by decide) rfl (by decide) rfl (Nat.le_of_ble_eq_true rfl) rfl rfl (Nat.le_of_ble_eq_true rfl) ⟨Nat.le_refl _, Nat.le_refl _, Nat.le_refl _⟩ ?_
            refine PAt.mono h (fun v κ gi46 gl47 hq => ?_)
            obtain ⟨rfl, r48, rfl, h⟩ := hq
            obtain ⟨hz, h⟩ := h
            exact px_ireturn dX7_readsSign_92 rfl ⟨.boolean, rfl, rfl, nar01 hz⟩ ⟨rfl, _, rfl, h⟩
        · rw [if_neg hc] at h ⊢
          refine px_aload_n dX7_readsSign_69 rfl rfl ?_
          refine px_iconst (v := (3 : Int32)) dX7_readsSign_70 (by decide) ?_
          refine px_iconst (v := (1 : Int32)) dX7_readsSign_71 (by decide) ?_
          refine px_callV_I (As := [.int (3 : Int32), .int (1 : Int32)]) (st := []) dX7_readsSign_72 lk_X7_171.1 lk_X7_171.2 (b := 21) zl_21 zk_21 (by decide) rfl (by decide) rfl (Nat.le_of_ble_eq_true rfl) rfl rfl (Nat.le_of_ble_eq_true rfl) ⟨Nat.le_refl _, Nat.le_refl _, Nat.le_refl _⟩ ?_
          refine PAt.mono h (fun v κ gi49 gl50 hq => ?_)
          obtain ⟨rfl, r51, rfl, h⟩ := hq
          obtain ⟨hz, h⟩ := h
          exact px_ireturn dX7_readsSign_75 rfl ⟨.boolean, rfl, rfl, nar01 hz⟩ ⟨rfl, _, rfl, h⟩
      · rw [if_neg hc] at h ⊢
        refine px_aload_n dX7_readsSign_50 rfl rfl ?_
        refine px_iconst (v := (2 : Int32)) dX7_readsSign_51 (by decide) ?_
        refine px_iconst (v := (1 : Int32)) dX7_readsSign_52 (by decide) ?_
        refine px_callV_I (As := [.int (2 : Int32), .int (1 : Int32)]) (st := []) dX7_readsSign_53 lk_X7_171.1 lk_X7_171.2 (b := 21) zl_21 zk_21 (by decide) rfl (by decide) rfl (Nat.le_of_ble_eq_true rfl) rfl rfl (Nat.le_of_ble_eq_true rfl) ⟨Nat.le_refl _, Nat.le_refl _, Nat.le_refl _⟩ ?_
        refine PAt.mono h (fun v κ gi52 gl53 hq => ?_)
        obtain ⟨rfl, r54, rfl, h⟩ := hq
        obtain ⟨hz, h⟩ := h
        exact px_ireturn dX7_readsSign_56 rfl ⟨.boolean, rfl, rfl, nar01 hz⟩ ⟨rfl, _, rfl, h⟩
    · rw [if_neg hc] at h ⊢
      refine px_aload_n dX7_readsSign_31 rfl rfl ?_
      refine px_iconst (v := (1 : Int32)) dX7_readsSign_32 (by decide) ?_
      refine px_iconst (v := (0 : Int32)) dX7_readsSign_33 (by decide) ?_
      refine px_callV_I (As := [.int (1 : Int32), .int (0 : Int32)]) (st := []) dX7_readsSign_34 lk_X7_171.1 lk_X7_171.2 (b := 21) zl_21 zk_21 (by decide) rfl (by decide) rfl (Nat.le_of_ble_eq_true rfl) rfl rfl (Nat.le_of_ble_eq_true rfl) ⟨Nat.le_refl _, Nat.le_refl _, Nat.le_refl _⟩ ?_
      refine PAt.mono h (fun v κ gi55 gl56 hq => ?_)
      obtain ⟨rfl, r57, rfl, h⟩ := hq
      obtain ⟨hz, h⟩ := h
      exact px_ireturn dX7_readsSign_37 rfl ⟨.boolean, rfl, rfl, nar01 hz⟩ ⟨rfl, _, rfl, h⟩
  · rw [if_neg hc] at h ⊢
    refine px_aload_n dX7_readsSign_12 rfl rfl ?_
    refine px_iconst (v := (0 : Int32)) dX7_readsSign_13 (by decide) ?_
    refine px_iconst (v := (0 : Int32)) dX7_readsSign_14 (by decide) ?_
    refine px_callV_I (As := [.int (0 : Int32), .int (0 : Int32)]) (st := []) dX7_readsSign_15 lk_X7_171.1 lk_X7_171.2 (b := 21) zl_21 zk_21 (by decide) rfl (by decide) rfl (Nat.le_of_ble_eq_true rfl) rfl rfl (Nat.le_of_ble_eq_true rfl) ⟨Nat.le_refl _, Nat.le_refl _, Nat.le_refl _⟩ ?_
    refine PAt.mono h (fun v κ gi58 gl59 hq => ?_)
    obtain ⟨rfl, r60, rfl, h⟩ := hq
    obtain ⟨hz, h⟩ := h
    exact px_ireturn dX7_readsSign_18 rfl ⟨.boolean, rfl, rfl, nar01 hz⟩ ⟨rfl, _, rfl, h⟩
def f_X7_takeTold (x1 : Int32) (gi : Gi) (gl : Gl) (Q : Int32 → Gi → Gl → Prop) : Prop :=
p_X8_wordHere  gi gl (fun (r3 : Int64) (gi1 : Gi) (gl2 : Gl) =>
p_X10_find 2 x1 r3 gi1 gl2 (fun (r6 : Int32) (gi4 : Gi) (gl5 : Gl) =>
if r6 = ((-1) : Int32) then
(Q r6 gi4 gl5)
else
(p_X8_step  gi4 gl5 (fun (gi7 : Gi) (gl8 : Gl) =>
Q r6 gi7 gl8))))
set_option maxRecDepth 100000 in
theorem v_X7_takeTold {x1 : Int32} {gi : Gi} {gl : Gl} {Q : Int32 → Gi → Gl → Prop}  (h : f_X7_takeTold x1 gi gl Q) : p_X7_takeTold x1 gi gl Q := by
  unfold f_X7_takeTold at h
  show PAt mX7_takeTold NN NN κF 0 [some (.ref 21), some (.int x1), none] [] gi gl _
  refine px_aload_n dX7_takeTold_0 rfl rfl ?_
  refine gf_X7_20 rfl dX7_takeTold_1 zl_21 zk_21 rfl zr_21_1 zl_2 ?_
  refine px_iload_n dX7_takeTold_4 rfl rfl ?_
  refine px_aload_n dX7_takeTold_5 rfl rfl ?_
  refine gf_X7_16 rfl dX7_takeTold_6 zl_21 zk_21 rfl zr_21_0 zl_22 ?_
  refine px_callV_L (As := []) (st := [.int x1, .ref 2]) dX7_takeTold_9 lk_X7_94.1 lk_X7_94.2 (b := 22) zl_22 zk_22 (by decide) rfl (by decide) rfl (Nat.le_of_ble_eq_true rfl) rfl rfl (Nat.le_of_ble_eq_true rfl) ⟨Nat.le_refl _, Nat.le_refl _, Nat.le_refl _⟩ ?_
  refine PAt.mono h (fun v κ gi1 gl2 hq => ?_)
  obtain ⟨rfl, r3, rfl, h⟩ := hq
  refine px_callV_I (As := [.int x1, .long r3]) (st := []) dX7_takeTold_12 lk_X7_199.1 lk_X7_199.2 (b := 2) zl_2 zk_2 (by decide) rfl (by decide) rfl (Nat.le_of_ble_eq_true rfl) rfl rfl (Nat.le_of_ble_eq_true rfl) ⟨Nat.le_refl _, Nat.le_refl _, Nat.le_refl _⟩ ?_
  refine PAt.mono h (fun v κ gi4 gl5 hq => ?_)
  obtain ⟨rfl, r6, rfl, h⟩ := hq
  refine px_istore_n (ls2 := [some (.ref 21), some (.int x1), some (.int r6)]) (i := 2) rfl dX7_takeTold_15 (by decide) rfl ?_
  refine px_iload_n dX7_takeTold_16 rfl rfl ?_
  refine px_iconst (v := ((-1) : Int32)) dX7_takeTold_17 (by decide) ?_
  refine px_icmp_eq (tgt := 28) dX7_takeTold_18 (by decide) ?_
  by_cases hc : r6 = ((-1) : Int32)
  · rw [if_pos hc] at h ⊢
    refine px_iload_n dX7_takeTold_28 rfl rfl ?_
    exact px_ireturn dX7_takeTold_29 rfl ⟨.int, rfl, rfl, rfl⟩ ⟨rfl, _, rfl, h⟩
  · rw [if_neg hc] at h ⊢
    refine px_aload_n dX7_takeTold_21 rfl rfl ?_
    refine gf_X7_16 rfl dX7_takeTold_22 zl_21 zk_21 rfl zr_21_0 zl_22 ?_
    refine px_callV_V (As := []) (st := []) dX7_takeTold_25 lk_X7_113.1 lk_X7_113.2 (b := 22) zl_22 zk_22 (by decide) rfl (by decide) rfl (Nat.le_of_ble_eq_true rfl) rfl rfl (Nat.le_of_ble_eq_true rfl) ⟨Nat.le_refl _, Nat.le_refl _, Nat.le_refl _⟩ ?_
    refine PAt.mono h (fun v κ gi7 gl8 hq => ?_)
    obtain ⟨rfl, -, h⟩ := hq
    refine px_iload_n dX7_takeTold_28 rfl rfl ?_
    exact px_ireturn dX7_takeTold_29 rfl ⟨.int, rfl, rfl, rfl⟩ ⟨rfl, _, rfl, h⟩
def f_X7_readsNamed (x1 : Int32) (x2 : Int32) (gi : Gi) (gl : Gl) (Q : Int32 → Gi → Gl → Prop) : Prop :=
p_X7_takeTold x2 gi gl (fun (r3 : Int32) (gi1 : Gi) (gl2 : Gl) =>
if r3 = ((-1) : Int32) then
(Q (0 : Int32) gi1 gl2)
else
(p_X5_add 14 x1 r3 ((-1) : Int32) ((-1) : Int32) ((-1) : Int32) gi1 gl2 (fun (r6 : Int32) (gi4 : Gi) (gl5 : Gl) =>
if r6 = 0 then
(Q (0 : Int32) gi4 gl5)
else
(Q (1 : Int32) gi4 gl5))))
set_option maxRecDepth 100000 in
theorem v_X7_readsNamed {x1 : Int32} {x2 : Int32} {gi : Gi} {gl : Gl} {Q : Int32 → Gi → Gl → Prop}  (h : f_X7_readsNamed x1 x2 gi gl Q) : p_X7_readsNamed x1 x2 gi gl Q := by
  unfold f_X7_readsNamed at h
  show PAt mX7_readsNamed NN NN κF 0 [some (.ref 21), some (.int x1), some (.int x2), none] [] gi gl _
  refine px_aload_n dX7_readsNamed_0 rfl rfl ?_
  refine px_iload_n dX7_readsNamed_1 rfl rfl ?_
  refine px_callV_I (As := [.int x2]) (st := []) dX7_readsNamed_2 lk_X7_203.1 lk_X7_203.2 (b := 21) zl_21 zk_21 (by decide) rfl (by decide) rfl (Nat.le_of_ble_eq_true rfl) rfl rfl (Nat.le_of_ble_eq_true rfl) ⟨Nat.le_refl _, Nat.le_refl _, Nat.le_refl _⟩ ?_
  refine PAt.mono h (fun v κ gi1 gl2 hq => ?_)
  obtain ⟨rfl, r3, rfl, h⟩ := hq
  refine px_istore_n (ls2 := [some (.ref 21), some (.int x1), some (.int x2), some (.int r3)]) (i := 3) rfl dX7_readsNamed_5 (by decide) rfl ?_
  refine px_iload_n dX7_readsNamed_6 rfl rfl ?_
  refine px_iconst (v := ((-1) : Int32)) dX7_readsNamed_7 (by decide) ?_
  refine px_icmp_eq (tgt := 30) dX7_readsNamed_8 (by decide) ?_
  by_cases hc : r3 = ((-1) : Int32)
  · rw [if_pos hc] at h ⊢
    refine px_iconst (v := (0 : Int32)) dX7_readsNamed_30 (by decide) ?_
    exact px_ireturn dX7_readsNamed_31 rfl ⟨.boolean, rfl, rfl, by decide⟩ ⟨rfl, _, rfl, h⟩
  · rw [if_neg hc] at h ⊢
    refine px_aload_n dX7_readsNamed_11 rfl rfl ?_
    refine gf_X7_27 rfl dX7_readsNamed_12 zl_21 zk_21 rfl zr_21_3 zl_14 ?_
    refine px_iload_n dX7_readsNamed_15 rfl rfl ?_
    refine px_iload_n dX7_readsNamed_16 rfl rfl ?_
    refine px_iconst (v := ((-1) : Int32)) dX7_readsNamed_17 (by decide) ?_
    refine px_iconst (v := ((-1) : Int32)) dX7_readsNamed_18 (by decide) ?_
    refine px_iconst (v := ((-1) : Int32)) dX7_readsNamed_19 (by decide) ?_
    refine px_callV_I (As := [.int x1, .int r3, .int ((-1) : Int32), .int ((-1) : Int32), .int ((-1) : Int32)]) (st := []) dX7_readsNamed_20 lk_X7_206.1 lk_X7_206.2 (b := 14) zl_14 zk_14 (by decide) rfl (by decide) rfl (Nat.le_of_ble_eq_true rfl) rfl rfl (Nat.le_of_ble_eq_true rfl) ⟨Nat.le_refl _, Nat.le_refl _, Nat.le_refl _⟩ ?_
    refine PAt.mono h (fun v κ gi4 gl5 hq => ?_)
    obtain ⟨rfl, r6, rfl, h⟩ := hq
    refine px_if_eq (tgt := 30) dX7_readsNamed_23 (by decide) ?_
    by_cases hc : r6 = 0
    · rw [if_pos hc] at h ⊢
      refine px_iconst (v := (0 : Int32)) dX7_readsNamed_30 (by decide) ?_
      exact px_ireturn dX7_readsNamed_31 rfl ⟨.boolean, rfl, rfl, by decide⟩ ⟨rfl, _, rfl, h⟩
    · rw [if_neg hc] at h ⊢
      refine px_iconst (v := (1 : Int32)) dX7_readsNamed_26 (by decide) ?_
      refine px_goto (tgt := 31) dX7_readsNamed_27 (by decide) ?_
      exact px_ireturn dX7_readsNamed_31 rfl ⟨.boolean, rfl, rfl, by decide⟩ ⟨rfl, _, rfl, h⟩
def f_X7_readsNumbered (x1 : Int32) (x2 : Int32) (gi : Gi) (gl : Gl) (Q : Int32 → Gi → Gl → Prop) : Prop :=
p_X8_takeNumber (0 : Int32) x2 gi gl (fun (r3 : Int32) (gi1 : Gi) (gl2 : Gl) =>
if r3 = ((-1) : Int32) then
(Q (0 : Int32) gi1 gl2)
else
(p_X5_add 14 x1 r3 ((-1) : Int32) ((-1) : Int32) ((-1) : Int32) gi1 gl2 (fun (r6 : Int32) (gi4 : Gi) (gl5 : Gl) =>
if r6 = 0 then
(Q (0 : Int32) gi4 gl5)
else
(Q (1 : Int32) gi4 gl5))))
set_option maxRecDepth 100000 in
theorem v_X7_readsNumbered {x1 : Int32} {x2 : Int32} {gi : Gi} {gl : Gl} {Q : Int32 → Gi → Gl → Prop}  (h : f_X7_readsNumbered x1 x2 gi gl Q) : p_X7_readsNumbered x1 x2 gi gl Q := by
  unfold f_X7_readsNumbered at h
  show PAt mX7_readsNumbered NN NN κF 0 [some (.ref 21), some (.int x1), some (.int x2), none] [] gi gl _
  refine px_aload_n dX7_readsNumbered_0 rfl rfl ?_
  refine gf_X7_16 rfl dX7_readsNumbered_1 zl_21 zk_21 rfl zr_21_0 zl_22 ?_
  refine px_iconst (v := (0 : Int32)) dX7_readsNumbered_4 (by decide) ?_
  refine px_iload_n dX7_readsNumbered_5 rfl rfl ?_
  refine px_callV_I (As := [.int (0 : Int32), .int x2]) (st := []) dX7_readsNumbered_6 lk_X7_121.1 lk_X7_121.2 (b := 22) zl_22 zk_22 (by decide) rfl (by decide) rfl (Nat.le_of_ble_eq_true rfl) rfl rfl (Nat.le_of_ble_eq_true rfl) ⟨Nat.le_refl _, Nat.le_refl _, Nat.le_refl _⟩ ?_
  refine PAt.mono h (fun v κ gi1 gl2 hq => ?_)
  obtain ⟨rfl, r3, rfl, h⟩ := hq
  refine px_istore_n (ls2 := [some (.ref 21), some (.int x1), some (.int x2), some (.int r3)]) (i := 3) rfl dX7_readsNumbered_9 (by decide) rfl ?_
  refine px_iload_n dX7_readsNumbered_10 rfl rfl ?_
  refine px_iconst (v := ((-1) : Int32)) dX7_readsNumbered_11 (by decide) ?_
  refine px_icmp_eq (tgt := 34) dX7_readsNumbered_12 (by decide) ?_
  by_cases hc : r3 = ((-1) : Int32)
  · rw [if_pos hc] at h ⊢
    refine px_iconst (v := (0 : Int32)) dX7_readsNumbered_34 (by decide) ?_
    exact px_ireturn dX7_readsNumbered_35 rfl ⟨.boolean, rfl, rfl, by decide⟩ ⟨rfl, _, rfl, h⟩
  · rw [if_neg hc] at h ⊢
    refine px_aload_n dX7_readsNumbered_15 rfl rfl ?_
    refine gf_X7_27 rfl dX7_readsNumbered_16 zl_21 zk_21 rfl zr_21_3 zl_14 ?_
    refine px_iload_n dX7_readsNumbered_19 rfl rfl ?_
    refine px_iload_n dX7_readsNumbered_20 rfl rfl ?_
    refine px_iconst (v := ((-1) : Int32)) dX7_readsNumbered_21 (by decide) ?_
    refine px_iconst (v := ((-1) : Int32)) dX7_readsNumbered_22 (by decide) ?_
    refine px_iconst (v := ((-1) : Int32)) dX7_readsNumbered_23 (by decide) ?_
    refine px_callV_I (As := [.int x1, .int r3, .int ((-1) : Int32), .int ((-1) : Int32), .int ((-1) : Int32)]) (st := []) dX7_readsNumbered_24 lk_X7_206.1 lk_X7_206.2 (b := 14) zl_14 zk_14 (by decide) rfl (by decide) rfl (Nat.le_of_ble_eq_true rfl) rfl rfl (Nat.le_of_ble_eq_true rfl) ⟨Nat.le_refl _, Nat.le_refl _, Nat.le_refl _⟩ ?_
    refine PAt.mono h (fun v κ gi4 gl5 hq => ?_)
    obtain ⟨rfl, r6, rfl, h⟩ := hq
    refine px_if_eq (tgt := 34) dX7_readsNumbered_27 (by decide) ?_
    by_cases hc : r6 = 0
    · rw [if_pos hc] at h ⊢
      refine px_iconst (v := (0 : Int32)) dX7_readsNumbered_34 (by decide) ?_
      exact px_ireturn dX7_readsNumbered_35 rfl ⟨.boolean, rfl, rfl, by decide⟩ ⟨rfl, _, rfl, h⟩
    · rw [if_neg hc] at h ⊢
      refine px_iconst (v := (1 : Int32)) dX7_readsNumbered_30 (by decide) ?_
      refine px_goto (tgt := 35) dX7_readsNumbered_31 (by decide) ?_
      exact px_ireturn dX7_readsNumbered_35 rfl ⟨.boolean, rfl, rfl, by decide⟩ ⟨rfl, _, rfl, h⟩
abbrev p_X7_readsShadow_25 (x1 : Int32) (s0 : Int32) (gi : Gi) (gl : Gl) (Q : Int32 → Gi → Gl → Prop) : Prop := PAt mX7_readsShadow NN NN κF 25 [some (.ref 21), some (.int x1), none, none, none] [.int s0] gi gl (RiQ Q)
abbrev p_X7_readsShadow_62 (x1 : Int32) (x2 : Int32) (x3 : Int32) (s0 : Int32) (gi : Gi) (gl : Gl) (Q : Int32 → Gi → Gl → Prop) : Prop := PAt mX7_readsShadow NN NN κF 62 [some (.ref 21), some (.int x1), some (.int x2), some (.int x3), none] [.int s0] gi gl (RiQ Q)
def f_X7_readsShadow  (gi : Gi) (gl : Gl) (Q : Int32 → Gi → Gl → Prop) : Prop :=
p_X7_takeTold (2 : Int32) gi gl (fun (r3 : Int32) (gi1 : Gi) (gl2 : Gl) =>
if ¬ r3 = ((-1) : Int32) then
(p_X8_takeNumber (0 : Int32) (31 : Int32) gi1 gl2 (fun (r6 : Int32) (gi4 : Gi) (gl5 : Gl) =>
p_X7_readsShadow_25 r3 r6 gi4 gl5 Q))
else
(p_X7_readsShadow_25 r3 ((-1) : Int32) gi1 gl2 Q))
def f_X7_readsShadow_25 (x1 : Int32) (s0 : Int32) (gi : Gi) (gl : Gl) (Q : Int32 → Gi → Gl → Prop) : Prop :=
if ¬ s0 = ((-1) : Int32) then
(p_X8_takeNumber (0 : Int32) (31 : Int32) gi gl (fun (r3 : Int32) (gi1 : Gi) (gl2 : Gl) =>
if ¬ r3 = ((-1) : Int32) then
(p_X8_takeGive  gi1 gl2 (fun (r6 : Int32) (gi4 : Gi) (gl5 : Gl) =>
p_X7_readsShadow_62 x1 s0 r3 r6 gi4 gl5 Q))
else
(p_X7_readsShadow_62 x1 s0 r3 ((-1) : Int32) gi1 gl2 Q)))
else
(p_X7_readsShadow_62 x1 s0 ((-1) : Int32) ((-1) : Int32) gi gl Q)
def f_X7_readsShadow_62 (x1 : Int32) (x2 : Int32) (x3 : Int32) (s0 : Int32) (gi : Gi) (gl : Gl) (Q : Int32 → Gi → Gl → Prop) : Prop :=
if s0 = ((-1) : Int32) then
(Q (0 : Int32) gi gl)
else
(p_X5_add 14 (4 : Int32) x1 x2 x3 s0 gi gl (fun (r3 : Int32) (gi1 : Gi) (gl2 : Gl) =>
if r3 = 0 then
(Q (0 : Int32) gi1 gl2)
else
(Q (1 : Int32) gi1 gl2)))
set_option maxRecDepth 100000 in
theorem v_X7_readsShadow  {gi : Gi} {gl : Gl} {Q : Int32 → Gi → Gl → Prop}  (h : f_X7_readsShadow  gi gl Q) : p_X7_readsShadow  gi gl Q := by
  unfold f_X7_readsShadow at h
  show PAt mX7_readsShadow NN NN κF 0 [some (.ref 21), none, none, none, none] [] gi gl _
  refine px_aload_n dX7_readsShadow_0 rfl rfl ?_
  refine px_iconst (v := (2 : Int32)) dX7_readsShadow_1 (by decide) ?_
  refine px_callV_I (As := [.int (2 : Int32)]) (st := []) dX7_readsShadow_2 lk_X7_203.1 lk_X7_203.2 (b := 21) zl_21 zk_21 (by decide) rfl (by decide) rfl (Nat.le_of_ble_eq_true rfl) rfl rfl (Nat.le_of_ble_eq_true rfl) ⟨Nat.le_refl _, Nat.le_refl _, Nat.le_refl _⟩ ?_
  refine PAt.mono h (fun v κ gi1 gl2 hq => ?_)
  obtain ⟨rfl, r3, rfl, h⟩ := hq
  refine px_istore_n (ls2 := [some (.ref 21), some (.int r3), none, none, none]) (i := 1) rfl dX7_readsShadow_5 (by decide) rfl ?_
  refine px_iload_n dX7_readsShadow_6 rfl rfl ?_
  refine px_iconst (v := ((-1) : Int32)) dX7_readsShadow_7 (by decide) ?_
  refine px_icmp_ne (tgt := 15) dX7_readsShadow_8 (by decide) ?_
  by_cases hc : ¬ r3 = ((-1) : Int32)
  · rw [if_pos hc] at h ⊢
    refine px_aload_n dX7_readsShadow_15 rfl rfl ?_
    refine gf_X7_16 rfl dX7_readsShadow_16 zl_21 zk_21 rfl zr_21_0 zl_22 ?_
    refine px_iconst (v := (0 : Int32)) dX7_readsShadow_19 (by decide) ?_
    refine px_bipush (v := (31 : Int32)) dX7_readsShadow_20 (by decide) ?_
    refine px_callV_I (As := [.int (0 : Int32), .int (31 : Int32)]) (st := []) dX7_readsShadow_22 lk_X7_121.1 lk_X7_121.2 (b := 22) zl_22 zk_22 (by decide) rfl (by decide) rfl (Nat.le_of_ble_eq_true rfl) rfl rfl (Nat.le_of_ble_eq_true rfl) ⟨Nat.le_refl _, Nat.le_refl _, Nat.le_refl _⟩ ?_
    refine PAt.mono h (fun v κ gi4 gl5 hq => ?_)
    obtain ⟨rfl, r6, rfl, h⟩ := hq
    exact PAt.forget h (lsub_at ⟨rfl, ⟨rfl, trivial⟩⟩)
  · rw [if_neg hc] at h ⊢
    refine px_iconst (v := ((-1) : Int32)) dX7_readsShadow_11 (by decide) ?_
    refine px_goto (tgt := 25) dX7_readsShadow_12 (by decide) ?_
    exact PAt.forget h (lsub_at ⟨rfl, ⟨rfl, trivial⟩⟩)
set_option maxRecDepth 100000 in
theorem v_X7_readsShadow_25 {x1 : Int32} {s0 : Int32} {gi : Gi} {gl : Gl} {Q : Int32 → Gi → Gl → Prop}  (h : f_X7_readsShadow_25 x1 s0 gi gl Q) : p_X7_readsShadow_25 x1 s0 gi gl Q := by
  unfold f_X7_readsShadow_25 at h
  show PAt mX7_readsShadow NN NN κF 25 [some (.ref 21), some (.int x1), none, none, none] [.int s0] gi gl _
  refine px_istore_n (ls2 := [some (.ref 21), some (.int x1), some (.int s0), none, none]) (i := 2) rfl dX7_readsShadow_25 (by decide) rfl ?_
  refine px_iload_n dX7_readsShadow_26 rfl rfl ?_
  refine px_iconst (v := ((-1) : Int32)) dX7_readsShadow_27 (by decide) ?_
  refine px_icmp_ne (tgt := 35) dX7_readsShadow_28 (by decide) ?_
  by_cases hc : ¬ s0 = ((-1) : Int32)
  · rw [if_pos hc] at h ⊢
    refine px_aload_n dX7_readsShadow_35 rfl rfl ?_
    refine gf_X7_16 rfl dX7_readsShadow_36 zl_21 zk_21 rfl zr_21_0 zl_22 ?_
    refine px_iconst (v := (0 : Int32)) dX7_readsShadow_39 (by decide) ?_
    refine px_bipush (v := (31 : Int32)) dX7_readsShadow_40 (by decide) ?_
    refine px_callV_I (As := [.int (0 : Int32), .int (31 : Int32)]) (st := []) dX7_readsShadow_42 lk_X7_121.1 lk_X7_121.2 (b := 22) zl_22 zk_22 (by decide) rfl (by decide) rfl (Nat.le_of_ble_eq_true rfl) rfl rfl (Nat.le_of_ble_eq_true rfl) ⟨Nat.le_refl _, Nat.le_refl _, Nat.le_refl _⟩ ?_
    refine PAt.mono h (fun v κ gi1 gl2 hq => ?_)
    obtain ⟨rfl, r3, rfl, h⟩ := hq
    refine px_istore_n (ls2 := [some (.ref 21), some (.int x1), some (.int s0), some (.int r3), none]) (i := 3) rfl dX7_readsShadow_45 (by decide) rfl ?_
    refine px_iload_n dX7_readsShadow_46 rfl rfl ?_
    refine px_iconst (v := ((-1) : Int32)) dX7_readsShadow_47 (by decide) ?_
    refine px_icmp_ne (tgt := 55) dX7_readsShadow_48 (by decide) ?_
    by_cases hc : ¬ r3 = ((-1) : Int32)
    · rw [if_pos hc] at h ⊢
      refine px_aload_n dX7_readsShadow_55 rfl rfl ?_
      refine gf_X7_16 rfl dX7_readsShadow_56 zl_21 zk_21 rfl zr_21_0 zl_22 ?_
      refine px_callV_I (As := []) (st := []) dX7_readsShadow_59 lk_X7_125.1 lk_X7_125.2 (b := 22) zl_22 zk_22 (by decide) rfl (by decide) rfl (Nat.le_of_ble_eq_true rfl) rfl rfl (Nat.le_of_ble_eq_true rfl) ⟨Nat.le_refl _, Nat.le_refl _, Nat.le_refl _⟩ ?_
      refine PAt.mono h (fun v κ gi4 gl5 hq => ?_)
      obtain ⟨rfl, r6, rfl, h⟩ := hq
      exact PAt.forget h (lsub_at ⟨rfl, ⟨rfl, ⟨rfl, ⟨rfl, trivial⟩⟩⟩⟩)
    · rw [if_neg hc] at h ⊢
      refine px_iconst (v := ((-1) : Int32)) dX7_readsShadow_51 (by decide) ?_
      refine px_goto (tgt := 62) dX7_readsShadow_52 (by decide) ?_
      exact PAt.forget h (lsub_at ⟨rfl, ⟨rfl, ⟨rfl, ⟨rfl, trivial⟩⟩⟩⟩)
  · rw [if_neg hc] at h ⊢
    refine px_iconst (v := ((-1) : Int32)) dX7_readsShadow_31 (by decide) ?_
    refine px_goto (tgt := 45) dX7_readsShadow_32 (by decide) ?_
    refine px_istore_n (ls2 := [some (.ref 21), some (.int x1), some (.int s0), some (.int ((-1) : Int32)), none]) (i := 3) rfl dX7_readsShadow_45 (by decide) rfl ?_
    refine px_iload_n dX7_readsShadow_46 rfl rfl ?_
    refine px_iconst (v := ((-1) : Int32)) dX7_readsShadow_47 (by decide) ?_
    refine px_icmp_ne_f (tgt := 55) dX7_readsShadow_48 (by decide) (by decide) ?_
    refine px_iconst (v := ((-1) : Int32)) dX7_readsShadow_51 (by decide) ?_
    refine px_goto (tgt := 62) dX7_readsShadow_52 (by decide) ?_
    exact PAt.forget h (lsub_at ⟨rfl, ⟨rfl, ⟨rfl, ⟨rfl, trivial⟩⟩⟩⟩)
set_option maxRecDepth 100000 in
theorem v_X7_readsShadow_62 {x1 : Int32} {x2 : Int32} {x3 : Int32} {s0 : Int32} {gi : Gi} {gl : Gl} {Q : Int32 → Gi → Gl → Prop}  (h : f_X7_readsShadow_62 x1 x2 x3 s0 gi gl Q) : p_X7_readsShadow_62 x1 x2 x3 s0 gi gl Q := by
  unfold f_X7_readsShadow_62 at h
  show PAt mX7_readsShadow NN NN κF 62 [some (.ref 21), some (.int x1), some (.int x2), some (.int x3), none] [.int s0] gi gl _
  refine px_istore (ls2 := [some (.ref 21), some (.int x1), some (.int x2), some (.int x3), some (.int s0)]) dX7_readsShadow_62 (by decide) rfl ?_
  refine px_iload dX7_readsShadow_64 rfl ?_
  refine px_iconst (v := ((-1) : Int32)) dX7_readsShadow_66 (by decide) ?_
  refine px_icmp_eq (tgt := 90) dX7_readsShadow_67 (by decide) ?_
  by_cases hc : s0 = ((-1) : Int32)
  · rw [if_pos hc] at h ⊢
    refine px_iconst (v := (0 : Int32)) dX7_readsShadow_90 (by decide) ?_
    exact px_ireturn dX7_readsShadow_91 rfl ⟨.boolean, rfl, rfl, by decide⟩ ⟨rfl, _, rfl, h⟩
  · rw [if_neg hc] at h ⊢
    refine px_aload_n dX7_readsShadow_70 rfl rfl ?_
    refine gf_X7_27 rfl dX7_readsShadow_71 zl_21 zk_21 rfl zr_21_3 zl_14 ?_
    refine px_iconst (v := (4 : Int32)) dX7_readsShadow_74 (by decide) ?_
    refine px_iload_n dX7_readsShadow_75 rfl rfl ?_
    refine px_iload_n dX7_readsShadow_76 rfl rfl ?_
    refine px_iload_n dX7_readsShadow_77 rfl rfl ?_
    refine px_iload dX7_readsShadow_78 rfl ?_
    refine px_callV_I (As := [.int (4 : Int32), .int x1, .int x2, .int x3, .int s0]) (st := []) dX7_readsShadow_80 lk_X7_206.1 lk_X7_206.2 (b := 14) zl_14 zk_14 (by decide) rfl (by decide) rfl (Nat.le_of_ble_eq_true rfl) rfl rfl (Nat.le_of_ble_eq_true rfl) ⟨Nat.le_refl _, Nat.le_refl _, Nat.le_refl _⟩ ?_
    refine PAt.mono h (fun v κ gi1 gl2 hq => ?_)
    obtain ⟨rfl, r3, rfl, h⟩ := hq
    refine px_if_eq (tgt := 90) dX7_readsShadow_83 (by decide) ?_
    by_cases hc : r3 = 0
    · rw [if_pos hc] at h ⊢
      refine px_iconst (v := (0 : Int32)) dX7_readsShadow_90 (by decide) ?_
      exact px_ireturn dX7_readsShadow_91 rfl ⟨.boolean, rfl, rfl, by decide⟩ ⟨rfl, _, rfl, h⟩
    · rw [if_neg hc] at h ⊢
      refine px_iconst (v := (1 : Int32)) dX7_readsShadow_86 (by decide) ?_
      refine px_goto (tgt := 91) dX7_readsShadow_87 (by decide) ?_
      exact px_ireturn dX7_readsShadow_91 rfl ⟨.boolean, rfl, rfl, by decide⟩ ⟨rfl, _, rfl, h⟩
abbrev p_X7_readsShownTime_26 (x1 : Int32) (s0 : Int32) (gi : Gi) (gl : Gl) (Q : Int32 → Gi → Gl → Prop) : Prop := PAt mX7_readsShownTime NN NN κF 26 [some (.ref 21), some (.int x1), none] [.int s0] gi gl (RiQ Q)
def f_X7_readsShownTime  (gi : Gi) (gl : Gl) (Q : Int32 → Gi → Gl → Prop) : Prop :=
p_X7_takeTold (3 : Int32) gi gl (fun (r3 : Int32) (gi1 : Gi) (gl2 : Gl) =>
if ¬ r3 = ((-1) : Int32) then
(p_X8_takeNumber (0 : Int32) (719 : Int32) gi1 gl2 (fun (r6 : Int32) (gi4 : Gi) (gl5 : Gl) =>
p_X7_readsShownTime_26 r3 r6 gi4 gl5 Q))
else
(p_X7_readsShownTime_26 r3 ((-1) : Int32) gi1 gl2 Q))
def f_X7_readsShownTime_26 (x1 : Int32) (s0 : Int32) (gi : Gi) (gl : Gl) (Q : Int32 → Gi → Gl → Prop) : Prop :=
if s0 = ((-1) : Int32) then
(Q (0 : Int32) gi gl)
else
(p_X5_add 14 (5 : Int32) x1 s0 ((-1) : Int32) ((-1) : Int32) gi gl (fun (r3 : Int32) (gi1 : Gi) (gl2 : Gl) =>
if r3 = 0 then
(Q (0 : Int32) gi1 gl2)
else
(Q (1 : Int32) gi1 gl2)))
set_option maxRecDepth 100000 in
theorem v_X7_readsShownTime  {gi : Gi} {gl : Gl} {Q : Int32 → Gi → Gl → Prop}  (h : f_X7_readsShownTime  gi gl Q) : p_X7_readsShownTime  gi gl Q := by
  unfold f_X7_readsShownTime at h
  show PAt mX7_readsShownTime NN NN κF 0 [some (.ref 21), none, none] [] gi gl _
  refine px_aload_n dX7_readsShownTime_0 rfl rfl ?_
  refine px_iconst (v := (3 : Int32)) dX7_readsShownTime_1 (by decide) ?_
  refine px_callV_I (As := [.int (3 : Int32)]) (st := []) dX7_readsShownTime_2 lk_X7_203.1 lk_X7_203.2 (b := 21) zl_21 zk_21 (by decide) rfl (by decide) rfl (Nat.le_of_ble_eq_true rfl) rfl rfl (Nat.le_of_ble_eq_true rfl) ⟨Nat.le_refl _, Nat.le_refl _, Nat.le_refl _⟩ ?_
  refine PAt.mono h (fun v κ gi1 gl2 hq => ?_)
  obtain ⟨rfl, r3, rfl, h⟩ := hq
  refine px_istore_n (ls2 := [some (.ref 21), some (.int r3), none]) (i := 1) rfl dX7_readsShownTime_5 (by decide) rfl ?_
  refine px_iload_n dX7_readsShownTime_6 rfl rfl ?_
  refine px_iconst (v := ((-1) : Int32)) dX7_readsShownTime_7 (by decide) ?_
  refine px_icmp_ne (tgt := 15) dX7_readsShownTime_8 (by decide) ?_
  by_cases hc : ¬ r3 = ((-1) : Int32)
  · rw [if_pos hc] at h ⊢
    refine px_aload_n dX7_readsShownTime_15 rfl rfl ?_
    refine gf_X7_16 rfl dX7_readsShownTime_16 zl_21 zk_21 rfl zr_21_0 zl_22 ?_
    refine px_iconst (v := (0 : Int32)) dX7_readsShownTime_19 (by decide) ?_
    refine px_sipush (v := (719 : Int32)) dX7_readsShownTime_20 (by decide) ?_
    refine px_callV_I (As := [.int (0 : Int32), .int (719 : Int32)]) (st := []) dX7_readsShownTime_23 lk_X7_121.1 lk_X7_121.2 (b := 22) zl_22 zk_22 (by decide) rfl (by decide) rfl (Nat.le_of_ble_eq_true rfl) rfl rfl (Nat.le_of_ble_eq_true rfl) ⟨Nat.le_refl _, Nat.le_refl _, Nat.le_refl _⟩ ?_
    refine PAt.mono h (fun v κ gi4 gl5 hq => ?_)
    obtain ⟨rfl, r6, rfl, h⟩ := hq
    exact PAt.forget h (lsub_at ⟨rfl, ⟨rfl, trivial⟩⟩)
  · rw [if_neg hc] at h ⊢
    refine px_iconst (v := ((-1) : Int32)) dX7_readsShownTime_11 (by decide) ?_
    refine px_goto (tgt := 26) dX7_readsShownTime_12 (by decide) ?_
    exact PAt.forget h (lsub_at ⟨rfl, ⟨rfl, trivial⟩⟩)
set_option maxRecDepth 100000 in
theorem v_X7_readsShownTime_26 {x1 : Int32} {s0 : Int32} {gi : Gi} {gl : Gl} {Q : Int32 → Gi → Gl → Prop}  (h : f_X7_readsShownTime_26 x1 s0 gi gl Q) : p_X7_readsShownTime_26 x1 s0 gi gl Q := by
  unfold f_X7_readsShownTime_26 at h
  show PAt mX7_readsShownTime NN NN κF 26 [some (.ref 21), some (.int x1), none] [.int s0] gi gl _
  refine px_istore_n (ls2 := [some (.ref 21), some (.int x1), some (.int s0)]) (i := 2) rfl dX7_readsShownTime_26 (by decide) rfl ?_
  refine px_iload_n dX7_readsShownTime_27 rfl rfl ?_
  refine px_iconst (v := ((-1) : Int32)) dX7_readsShownTime_28 (by decide) ?_
  refine px_icmp_eq (tgt := 51) dX7_readsShownTime_29 (by decide) ?_
  by_cases hc : s0 = ((-1) : Int32)
  · rw [if_pos hc] at h ⊢
    refine px_iconst (v := (0 : Int32)) dX7_readsShownTime_51 (by decide) ?_
    exact px_ireturn dX7_readsShownTime_52 rfl ⟨.boolean, rfl, rfl, by decide⟩ ⟨rfl, _, rfl, h⟩
  · rw [if_neg hc] at h ⊢
    refine px_aload_n dX7_readsShownTime_32 rfl rfl ?_
    refine gf_X7_27 rfl dX7_readsShownTime_33 zl_21 zk_21 rfl zr_21_3 zl_14 ?_
    refine px_iconst (v := (5 : Int32)) dX7_readsShownTime_36 (by decide) ?_
    refine px_iload_n dX7_readsShownTime_37 rfl rfl ?_
    refine px_iload_n dX7_readsShownTime_38 rfl rfl ?_
    refine px_iconst (v := ((-1) : Int32)) dX7_readsShownTime_39 (by decide) ?_
    refine px_iconst (v := ((-1) : Int32)) dX7_readsShownTime_40 (by decide) ?_
    refine px_callV_I (As := [.int (5 : Int32), .int x1, .int s0, .int ((-1) : Int32), .int ((-1) : Int32)]) (st := []) dX7_readsShownTime_41 lk_X7_206.1 lk_X7_206.2 (b := 14) zl_14 zk_14 (by decide) rfl (by decide) rfl (Nat.le_of_ble_eq_true rfl) rfl rfl (Nat.le_of_ble_eq_true rfl) ⟨Nat.le_refl _, Nat.le_refl _, Nat.le_refl _⟩ ?_
    refine PAt.mono h (fun v κ gi1 gl2 hq => ?_)
    obtain ⟨rfl, r3, rfl, h⟩ := hq
    refine px_if_eq (tgt := 51) dX7_readsShownTime_44 (by decide) ?_
    by_cases hc : r3 = 0
    · rw [if_pos hc] at h ⊢
      refine px_iconst (v := (0 : Int32)) dX7_readsShownTime_51 (by decide) ?_
      exact px_ireturn dX7_readsShownTime_52 rfl ⟨.boolean, rfl, rfl, by decide⟩ ⟨rfl, _, rfl, h⟩
    · rw [if_neg hc] at h ⊢
      refine px_iconst (v := (1 : Int32)) dX7_readsShownTime_47 (by decide) ?_
      refine px_goto (tgt := 52) dX7_readsShownTime_48 (by decide) ?_
      exact px_ireturn dX7_readsShownTime_52 rfl ⟨.boolean, rfl, rfl, by decide⟩ ⟨rfl, _, rfl, h⟩
def f_X7_readsTwoPosts (x1 : Int32) (gi : Gi) (gl : Gl) (Q : Int32 → Gi → Gl → Prop) : Prop :=
p_X7_takeTold (2 : Int32) gi gl (fun (r3 : Int32) (gi1 : Gi) (gl2 : Gl) =>
if r3 = ((-1) : Int32) then
(Q (0 : Int32) gi1 gl2)
else
(p_X8_wordHere  gi1 gl2 (fun (r6 : Int64) (gi4 : Gi) (gl5 : Gl) =>
p_X10_find 2 (2 : Int32) r6 gi4 gl5 (fun (r9 : Int32) (gi7 : Gi) (gl8 : Gl) =>
if ¬ r9 = r3 then
(p_X7_takeTold (2 : Int32) gi7 gl8 (fun (r12 : Int32) (gi10 : Gi) (gl11 : Gl) =>
if r12 = ((-1) : Int32) then
(Q (0 : Int32) gi10 gl11)
else
(p_X5_add 14 x1 r3 r12 ((-1) : Int32) ((-1) : Int32) gi10 gl11 (fun (r15 : Int32) (gi13 : Gi) (gl14 : Gl) =>
if r15 = 0 then
(Q (0 : Int32) gi13 gl14)
else
(Q (1 : Int32) gi13 gl14)))))
else
(Q (0 : Int32) gi7 gl8)))))
set_option maxRecDepth 100000 in
theorem v_X7_readsTwoPosts {x1 : Int32} {gi : Gi} {gl : Gl} {Q : Int32 → Gi → Gl → Prop}  (h : f_X7_readsTwoPosts x1 gi gl Q) : p_X7_readsTwoPosts x1 gi gl Q := by
  unfold f_X7_readsTwoPosts at h
  show PAt mX7_readsTwoPosts NN NN κF 0 [some (.ref 21), some (.int x1), none, none] [] gi gl _
  refine px_aload_n dX7_readsTwoPosts_0 rfl rfl ?_
  refine px_iconst (v := (2 : Int32)) dX7_readsTwoPosts_1 (by decide) ?_
  refine px_callV_I (As := [.int (2 : Int32)]) (st := []) dX7_readsTwoPosts_2 lk_X7_203.1 lk_X7_203.2 (b := 21) zl_21 zk_21 (by decide) rfl (by decide) rfl (Nat.le_of_ble_eq_true rfl) rfl rfl (Nat.le_of_ble_eq_true rfl) ⟨Nat.le_refl _, Nat.le_refl _, Nat.le_refl _⟩ ?_
  refine PAt.mono h (fun v κ gi1 gl2 hq => ?_)
  obtain ⟨rfl, r3, rfl, h⟩ := hq
  refine px_istore_n (ls2 := [some (.ref 21), some (.int x1), some (.int r3), none]) (i := 2) rfl dX7_readsTwoPosts_5 (by decide) rfl ?_
  refine px_iload_n dX7_readsTwoPosts_6 rfl rfl ?_
  refine px_iconst (v := ((-1) : Int32)) dX7_readsTwoPosts_7 (by decide) ?_
  refine px_icmp_eq (tgt := 30) dX7_readsTwoPosts_8 (by decide) ?_
  by_cases hc : r3 = ((-1) : Int32)
  · rw [if_pos hc] at h ⊢
    refine px_iconst (v := (0 : Int32)) dX7_readsTwoPosts_30 (by decide) ?_
    exact px_ireturn dX7_readsTwoPosts_31 rfl ⟨.boolean, rfl, rfl, by decide⟩ ⟨rfl, _, rfl, h⟩
  · rw [if_neg hc] at h ⊢
    refine px_aload_n dX7_readsTwoPosts_11 rfl rfl ?_
    refine gf_X7_20 rfl dX7_readsTwoPosts_12 zl_21 zk_21 rfl zr_21_1 zl_2 ?_
    refine px_iconst (v := (2 : Int32)) dX7_readsTwoPosts_15 (by decide) ?_
    refine px_aload_n dX7_readsTwoPosts_16 rfl rfl ?_
    refine gf_X7_16 rfl dX7_readsTwoPosts_17 zl_21 zk_21 rfl zr_21_0 zl_22 ?_
    refine px_callV_L (As := []) (st := [.int (2 : Int32), .ref 2]) dX7_readsTwoPosts_20 lk_X7_94.1 lk_X7_94.2 (b := 22) zl_22 zk_22 (by decide) rfl (by decide) rfl (Nat.le_of_ble_eq_true rfl) rfl rfl (Nat.le_of_ble_eq_true rfl) ⟨Nat.le_refl _, Nat.le_refl _, Nat.le_refl _⟩ ?_
    refine PAt.mono h (fun v κ gi4 gl5 hq => ?_)
    obtain ⟨rfl, r6, rfl, h⟩ := hq
    refine px_callV_I (As := [.int (2 : Int32), .long r6]) (st := []) dX7_readsTwoPosts_23 lk_X7_199.1 lk_X7_199.2 (b := 2) zl_2 zk_2 (by decide) rfl (by decide) rfl (Nat.le_of_ble_eq_true rfl) rfl rfl (Nat.le_of_ble_eq_true rfl) ⟨Nat.le_refl _, Nat.le_refl _, Nat.le_refl _⟩ ?_
    refine PAt.mono h (fun v κ gi7 gl8 hq => ?_)
    obtain ⟨rfl, r9, rfl, h⟩ := hq
    refine px_iload_n dX7_readsTwoPosts_26 rfl rfl ?_
    refine px_icmp_ne (tgt := 32) dX7_readsTwoPosts_27 (by decide) ?_
    by_cases hc : ¬ r9 = r3
    · rw [if_pos hc] at h ⊢
      refine px_aload_n dX7_readsTwoPosts_32 rfl rfl ?_
      refine px_iconst (v := (2 : Int32)) dX7_readsTwoPosts_33 (by decide) ?_
      refine px_callV_I (As := [.int (2 : Int32)]) (st := []) dX7_readsTwoPosts_34 lk_X7_203.1 lk_X7_203.2 (b := 21) zl_21 zk_21 (by decide) rfl (by decide) rfl (Nat.le_of_ble_eq_true rfl) rfl rfl (Nat.le_of_ble_eq_true rfl) ⟨Nat.le_refl _, Nat.le_refl _, Nat.le_refl _⟩ ?_
      refine PAt.mono h (fun v κ gi10 gl11 hq => ?_)
      obtain ⟨rfl, r12, rfl, h⟩ := hq
      refine px_istore_n (ls2 := [some (.ref 21), some (.int x1), some (.int r3), some (.int r12)]) (i := 3) rfl dX7_readsTwoPosts_37 (by decide) rfl ?_
      refine px_iload_n dX7_readsTwoPosts_38 rfl rfl ?_
      refine px_iconst (v := ((-1) : Int32)) dX7_readsTwoPosts_39 (by decide) ?_
      refine px_icmp_eq (tgt := 62) dX7_readsTwoPosts_40 (by decide) ?_
      by_cases hc : r12 = ((-1) : Int32)
      · rw [if_pos hc] at h ⊢
        refine px_iconst (v := (0 : Int32)) dX7_readsTwoPosts_62 (by decide) ?_
        exact px_ireturn dX7_readsTwoPosts_63 rfl ⟨.boolean, rfl, rfl, by decide⟩ ⟨rfl, _, rfl, h⟩
      · rw [if_neg hc] at h ⊢
        refine px_aload_n dX7_readsTwoPosts_43 rfl rfl ?_
        refine gf_X7_27 rfl dX7_readsTwoPosts_44 zl_21 zk_21 rfl zr_21_3 zl_14 ?_
        refine px_iload_n dX7_readsTwoPosts_47 rfl rfl ?_
        refine px_iload_n dX7_readsTwoPosts_48 rfl rfl ?_
        refine px_iload_n dX7_readsTwoPosts_49 rfl rfl ?_
        refine px_iconst (v := ((-1) : Int32)) dX7_readsTwoPosts_50 (by decide) ?_
        refine px_iconst (v := ((-1) : Int32)) dX7_readsTwoPosts_51 (by decide) ?_
        refine px_callV_I (As := [.int x1, .int r3, .int r12, .int ((-1) : Int32), .int ((-1) : Int32)]) (st := []) dX7_readsTwoPosts_52 lk_X7_206.1 lk_X7_206.2 (b := 14) zl_14 zk_14 (by decide) rfl (by decide) rfl (Nat.le_of_ble_eq_true rfl) rfl rfl (Nat.le_of_ble_eq_true rfl) ⟨Nat.le_refl _, Nat.le_refl _, Nat.le_refl _⟩ ?_
        refine PAt.mono h (fun v κ gi13 gl14 hq => ?_)
        obtain ⟨rfl, r15, rfl, h⟩ := hq
        refine px_if_eq (tgt := 62) dX7_readsTwoPosts_55 (by decide) ?_
        by_cases hc : r15 = 0
        · rw [if_pos hc] at h ⊢
          refine px_iconst (v := (0 : Int32)) dX7_readsTwoPosts_62 (by decide) ?_
          exact px_ireturn dX7_readsTwoPosts_63 rfl ⟨.boolean, rfl, rfl, by decide⟩ ⟨rfl, _, rfl, h⟩
        · rw [if_neg hc] at h ⊢
          refine px_iconst (v := (1 : Int32)) dX7_readsTwoPosts_58 (by decide) ?_
          refine px_goto (tgt := 63) dX7_readsTwoPosts_59 (by decide) ?_
          exact px_ireturn dX7_readsTwoPosts_63 rfl ⟨.boolean, rfl, rfl, by decide⟩ ⟨rfl, _, rfl, h⟩
    · rw [if_neg hc] at h ⊢
      refine px_iconst (v := (0 : Int32)) dX7_readsTwoPosts_30 (by decide) ?_
      exact px_ireturn dX7_readsTwoPosts_31 rfl ⟨.boolean, rfl, rfl, by decide⟩ ⟨rfl, _, rfl, h⟩
