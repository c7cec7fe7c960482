/-! laid by program: X11 -/
def f_X11_feed (x1 : Int32) (x2 : Int32) (x3 : Int32) (x4 : Int32) (x5 : Int32) (gi : Gi) (gl : Gl) (Q : Int32 → Gi → Gl → Prop) : Prop :=
if (gi 0 13) ≤ (1180 : Int32) then
(p_X11_putOnTape x1 gi gl (fun (gi1 : Gi) (gl2 : Gl) =>
p_X11_putOnTape x2 gi1 gl2 (fun (gi3 : Gi) (gl4 : Gl) =>
p_X11_putOnTape x3 gi3 gl4 (fun (gi5 : Gi) (gl6 : Gl) =>
p_X11_putOnTape x4 gi5 gl6 (fun (gi7 : Gi) (gl8 : Gl) =>
p_X11_putOnTape x5 gi7 gl8 (fun (gi9 : Gi) (gl10 : Gl) =>
Q (gi9 0 13) gi9 gl10))))))
else
(Q ((-1) : Int32) gi gl)
set_option maxRecDepth 100000 in
theorem v_X11_feed {x1 : Int32} {x2 : Int32} {x3 : Int32} {x4 : Int32} {x5 : Int32} {gi : Gi} {gl : Gl} {Q : Int32 → Gi → Gl → Prop}  (h : f_X11_feed x1 x2 x3 x4 x5 gi gl Q) : p_X11_feed x1 x2 x3 x4 x5 gi gl Q := by
  unfold f_X11_feed at h
  show PAt mX11_feed NN NN κF 0 [some (.ref 0), some (.int x1), some (.int x2), some (.int x3), some (.int x4), some (.int x5)] [] gi gl _
  refine px_aload_n dX11_feed_0 rfl rfl ?_
  refine gf_X11_97 rfl dX11_feed_1 zl_0 zk_0 ?_
  refine px_sipush (v := (1180 : Int32)) dX11_feed_4 (by decide) ?_
  refine px_icmp_le (tgt := 12) dX11_feed_7 (by decide) ?_
  by_cases hc : (gi 0 13) ≤ (1180 : Int32)
  · rw [if_pos hc] at h ⊢
    refine px_aload_n dX11_feed_12 rfl rfl ?_
    refine px_iload_n dX11_feed_13 rfl rfl ?_
    refine px_callV_V (As := [.int x1]) (st := []) dX11_feed_14 lk_X11_100.1 lk_X11_100.2 (b := 0) zl_0 zk_0 (by decide) rfl (by decide) rfl (Nat.le_of_ble_eq_true rfl) rfl rfl (Nat.le_of_ble_eq_true rfl) ⟨Nat.le_refl _, Nat.le_refl _, Nat.le_refl _⟩ ?_
    refine PAt.mono h (fun v κ gi1 gl2 hq => ?_)
    obtain ⟨rfl, -, h⟩ := hq
    refine px_aload_n dX11_feed_17 rfl rfl ?_
    refine px_iload_n dX11_feed_18 rfl rfl ?_
    refine px_callV_V (As := [.int x2]) (st := []) dX11_feed_19 lk_X11_100.1 lk_X11_100.2 (b := 0) zl_0 zk_0 (by decide) rfl (by decide) rfl (Nat.le_of_ble_eq_true rfl) rfl rfl (Nat.le_of_ble_eq_true rfl) ⟨Nat.le_refl _, Nat.le_refl _, Nat.le_refl _⟩ ?_
    refine PAt.mono h (fun v κ gi3 gl4 hq => ?_)
    obtain ⟨rfl, -, h⟩ := hq
    refine px_aload_n dX11_feed_22 rfl rfl ?_
    refine px_iload_n dX11_feed_23 rfl rfl ?_
    refine px_callV_V (As := [.int x3]) (st := []) dX11_feed_24 lk_X11_100.1 lk_X11_100.2 (b := 0) zl_0 zk_0 (by decide) rfl (by decide) rfl (Nat.le_of_ble_eq_true rfl) rfl rfl (Nat.le_of_ble_eq_true rfl) ⟨Nat.le_refl _, Nat.le_refl _, Nat.le_refl _⟩ ?_
    refine PAt.mono h (fun v κ gi5 gl6 hq => ?_)
    obtain ⟨rfl, -, h⟩ := hq
    refine px_aload_n dX11_feed_27 rfl rfl ?_
    refine px_iload dX11_feed_28 rfl ?_
    refine px_callV_V (As := [.int x4]) (st := []) dX11_feed_30 lk_X11_100.1 lk_X11_100.2 (b := 0) zl_0 zk_0 (by decide) rfl (by decide) rfl (Nat.le_of_ble_eq_true rfl) rfl rfl (Nat.le_of_ble_eq_true rfl) ⟨Nat.le_refl _, Nat.le_refl _, Nat.le_refl _⟩ ?_
    refine PAt.mono h (fun v κ gi7 gl8 hq => ?_)
    obtain ⟨rfl, -, h⟩ := hq
    refine px_aload_n dX11_feed_33 rfl rfl ?_
    refine px_iload dX11_feed_34 rfl ?_
    refine px_callV_V (As := [.int x5]) (st := []) dX11_feed_36 lk_X11_100.1 lk_X11_100.2 (b := 0) zl_0 zk_0 (by decide) rfl (by decide) rfl (Nat.le_of_ble_eq_true rfl) rfl rfl (Nat.le_of_ble_eq_true rfl) ⟨Nat.le_refl _, Nat.le_refl _, Nat.le_refl _⟩ ?_
    refine PAt.mono h (fun v κ gi9 gl10 hq => ?_)
    obtain ⟨rfl, -, h⟩ := hq
    refine px_aload_n dX11_feed_39 rfl rfl ?_
    refine gf_X11_97 rfl dX11_feed_40 zl_0 zk_0 ?_
    exact px_ireturn dX11_feed_43 rfl ⟨.int, rfl, rfl, rfl⟩ ⟨rfl, _, rfl, h⟩
  · rw [if_neg hc] at h ⊢
    refine px_iconst (v := ((-1) : Int32)) dX11_feed_10 (by decide) ?_
    exact px_ireturn dX11_feed_11 rfl ⟨.int, rfl, rfl, rfl⟩ ⟨rfl, _, rfl, h⟩
def f_X11_town (x1 : Int32) (gi : Gi) (gl : Gl) (Q : Int32 → Gi → Gl → Prop) : Prop :=
if x1 < 0 then
(Q ((-2) : Int32) gi gl)
else
(if x1 ≤ (gi 0 13) then
(p_X7_readsTown x1 gi gl (fun (r3 : Int32) (gi1 : Gi) (gl2 : Gl) =>
p_X11_endText r3 gi1 gl2 (fun (gi4 : Gi) (gl5 : Gl) =>
if ¬ r3 = 0 then
(p_X10_copyFrom 2 8 gi4 gl5 (fun (gi6 : Gi) (gl7 : Gl) =>
p_X0_clear 33 gi6 gl7 (fun (gi8 : Gi) (gl9 : Gl) =>
∀ gi10 : Gi, gi10 = uI gi8 0 (upd (gi8 0) 12 (0 : Int32)) →
∀ gi11 : Gi, gi11 = uI gi10 0 (upd (gi10 0) 14 ((gi10 0 14) + (1 : Int32))) →
p_X10_countOf 2 (5 : Int32) gi11 gl9 (fun (r14 : Int32) (gi12 : Gi) (gl13 : Gl) =>
Q r14 gi12 gl13))))
else
(Q ((-1) : Int32) gi4 gl5))))
else
(Q ((-2) : Int32) gi gl))
set_option maxRecDepth 100000 in
theorem v_X11_town {x1 : Int32} {gi : Gi} {gl : Gl} {Q : Int32 → Gi → Gl → Prop}  (h : f_X11_town x1 gi gl Q) : p_X11_town x1 gi gl Q := by
  unfold f_X11_town at h
  show PAt mX11_town NN NN κF 0 [some (.ref 0), some (.int x1), none] [] gi gl _
  refine px_iload_n dX11_town_0 rfl rfl ?_
  refine px_if_lt (tgt := 12) dX11_town_1 (by decide) ?_
  by_cases hc : x1 < 0
  · rw [if_pos hc] at h ⊢
    refine px_bipush (v := ((-2) : Int32)) dX11_town_12 (by decide) ?_
    exact px_ireturn dX11_town_14 rfl ⟨.int, rfl, rfl, rfl⟩ ⟨rfl, _, rfl, h⟩
  · rw [if_neg hc] at h ⊢
    refine px_iload_n dX11_town_4 rfl rfl ?_
    refine px_aload_n dX11_town_5 rfl rfl ?_
    refine gf_X11_97 rfl dX11_town_6 zl_0 zk_0 ?_
    refine px_icmp_le (tgt := 15) dX11_town_9 (by decide) ?_
    by_cases hc : x1 ≤ (gi 0 13)
    · rw [if_pos hc] at h ⊢
      refine px_aload_n dX11_town_15 rfl rfl ?_
      refine gf_X11_35 rfl dX11_town_16 zl_0 zk_0 rfl zr_0_4 zl_21 ?_
      refine px_iload_n dX11_town_19 rfl rfl ?_
      refine px_callV_I (As := [.int x1]) (st := []) dX11_town_20 lk_X11_104.1 lk_X11_104.2 (b := 21) zl_21 zk_21 (by decide) rfl (by decide) rfl (Nat.le_of_ble_eq_true rfl) rfl rfl (Nat.le_of_ble_eq_true rfl) ⟨Nat.le_refl _, Nat.le_refl _, Nat.le_refl _⟩ ?_
      refine PAt.mono h (fun v κ gi1 gl2 hq => ?_)
      obtain ⟨rfl, r3, rfl, h⟩ := hq
      refine px_istore_n (ls2 := [some (.ref 0), some (.int x1), some (.int r3)]) (i := 2) rfl dX11_town_23 (by decide) rfl ?_
      refine px_aload_n dX11_town_24 rfl rfl ?_
      refine px_iload_n dX11_town_25 rfl rfl ?_
      refine px_callV_V (As := [.int r3]) (st := []) dX11_town_26 lk_X11_108.1 lk_X11_108.2 (b := 0) zl_0 zk_0 (by decide) rfl (by decide) rfl (Nat.le_of_ble_eq_true rfl) rfl rfl (Nat.le_of_ble_eq_true rfl) ⟨Nat.le_refl _, Nat.le_refl _, Nat.le_refl _⟩ ?_
      refine PAt.mono h (fun v κ gi4 gl5 hq => ?_)
      obtain ⟨rfl, -, h⟩ := hq
      refine px_iload_n dX11_town_29 rfl rfl ?_
      refine px_if_ne (tgt := 35) dX11_town_30 (by decide) ?_
      by_cases hc : ¬ r3 = 0
      · rw [if_pos hc] at h ⊢
        refine px_aload_n dX11_town_35 rfl rfl ?_
        refine gf_X11_16 rfl dX11_town_36 zl_0 zk_0 rfl zr_0_1 zl_2 ?_
        refine px_aload_n dX11_town_39 rfl rfl ?_
        refine gf_X11_20 rfl dX11_town_40 zl_0 zk_0 rfl zr_0_2 zl_8 ?_
        refine px_callV_V (As := [.ref 8]) (st := []) dX11_town_43 lk_X11_112.1 lk_X11_112.2 (b := 2) zl_2 zk_2 (by decide) rfl (by decide) rfl (Nat.le_of_ble_eq_true rfl) rfl rfl (Nat.le_of_ble_eq_true rfl) ⟨Nat.le_refl _, Nat.le_refl _, Nat.le_refl _⟩ ?_
        refine PAt.mono h (fun v κ gi6 gl7 hq => ?_)
        obtain ⟨rfl, -, h⟩ := hq
        refine px_aload_n dX11_town_46 rfl rfl ?_
        refine gf_X11_85 rfl dX11_town_47 zl_0 zk_0 rfl zr_0_10 zl_33 ?_
        refine px_callV_V (As := []) (st := []) dX11_town_50 lk_X11_115.1 lk_X11_115.2 (b := 33) zl_33 zk_33 (by decide) rfl (by decide) rfl (Nat.le_of_ble_eq_true rfl) rfl rfl (Nat.le_of_ble_eq_true rfl) ⟨Nat.le_refl _, Nat.le_refl _, Nat.le_refl _⟩ ?_
        refine PAt.mono h (fun v κ gi8 gl9 hq => ?_)
        obtain ⟨rfl, -, h⟩ := hq
        refine px_aload_n dX11_town_53 rfl rfl ?_
        refine px_iconst (v := (0 : Int32)) dX11_town_54 (by decide) ?_
        refine pf_X11_118 rfl dX11_town_55 zl_0 zk_0 ?_
        obtain ⟨gi10, hgi10⟩ : ∃ y : Gi, y = uI gi8 0 (upd (gi8 0) 12 (0 : Int32)) := ⟨_, rfl⟩
        have h := h gi10 hgi10
        refine px_namegi hgi10 ?_
        refine px_aload_n dX11_town_58 rfl rfl ?_
        refine px_dup dX11_town_59 rfl ?_
        refine gf_X11_121 rfl dX11_town_60 zl_0 zk_0 ?_
        refine px_iconst (v := (1 : Int32)) dX11_town_63 (by decide) ?_
        refine px_iadd dX11_town_64 ?_
        refine pf_X11_121 rfl dX11_town_65 zl_0 zk_0 ?_
        obtain ⟨gi11, hgi11⟩ : ∃ y : Gi, y = uI gi10 0 (upd (gi10 0) 14 ((gi10 0 14) + (1 : Int32))) := ⟨_, rfl⟩
        have h := h gi11 hgi11
        refine px_namegi hgi11 ?_
        refine px_aload_n dX11_town_68 rfl rfl ?_
        refine gf_X11_16 rfl dX11_town_69 zl_0 zk_0 rfl zr_0_1 zl_2 ?_
        refine px_iconst (v := (5 : Int32)) dX11_town_72 (by decide) ?_
        refine px_callV_I (As := [.int (5 : Int32)]) (st := []) dX11_town_73 lk_X11_124.1 lk_X11_124.2 (b := 2) zl_2 zk_2 (by decide) rfl (by decide) rfl (Nat.le_of_ble_eq_true rfl) rfl rfl (Nat.le_of_ble_eq_true rfl) ⟨Nat.le_refl _, Nat.le_refl _, Nat.le_refl _⟩ ?_
        refine PAt.mono h (fun v κ gi12 gl13 hq => ?_)
        obtain ⟨rfl, r14, rfl, h⟩ := hq
        exact px_ireturn dX11_town_76 rfl ⟨.int, rfl, rfl, rfl⟩ ⟨rfl, _, rfl, h⟩
      · rw [if_neg hc] at h ⊢
        refine px_iconst (v := ((-1) : Int32)) dX11_town_33 (by decide) ?_
        exact px_ireturn dX11_town_34 rfl ⟨.int, rfl, rfl, rfl⟩ ⟨rfl, _, rfl, h⟩
    · rw [if_neg hc] at h ⊢
      refine px_bipush (v := ((-2) : Int32)) dX11_town_12 (by decide) ?_
      exact px_ireturn dX11_town_14 rfl ⟨.int, rfl, rfl, rfl⟩ ⟨rfl, _, rfl, h⟩
def f_X11_picture (x1 : Int32) (gi : Gi) (gl : Gl) (Q : Int32 → Gi → Gl → Prop) : Prop :=
if x1 < 0 then
(Q ((-2) : Int32) gi gl)
else
(if x1 ≤ (gi 0 13) then
(p_X0_size 33 gi gl (fun (r3 : Int32) (gi1 : Gi) (gl2 : Gl) =>
if r3 < (8 : Int32) then
(p_X5_clear 14 gi1 gl2 (fun (gi4 : Gi) (gl5 : Gl) =>
p_X7_readsSigns x1 gi4 gl5 (fun (r8 : Int32) (gi6 : Gi) (gl7 : Gl) =>
p_X11_endText r8 gi6 gl7 (fun (gi9 : Gi) (gl10 : Gl) =>
if ¬ r8 = 0 then
(p_X2_fill 14 gi9 gl10 (fun (gi11 : Gi) (gl12 : Gl) =>
p_X0_add 33 14 gi11 gl12 (fun (r15 : Int32) (gi13 : Gi) (gl14 : Gl) =>
Q r15 gi13 gl14)))
else
(Q ((-1) : Int32) gi9 gl10)))))
else
(Q ((-3) : Int32) gi1 gl2)))
else
(Q ((-2) : Int32) gi gl))
set_option maxRecDepth 100000 in
theorem v_X11_picture {x1 : Int32} {gi : Gi} {gl : Gl} {Q : Int32 → Gi → Gl → Prop}  (h : f_X11_picture x1 gi gl Q) : p_X11_picture x1 gi gl Q := by
  unfold f_X11_picture at h
  show PAt mX11_picture NN NN κF 0 [some (.ref 0), some (.int x1), none] [] gi gl _
  refine px_iload_n dX11_picture_0 rfl rfl ?_
  refine px_if_lt (tgt := 12) dX11_picture_1 (by decide) ?_
  by_cases hc : x1 < 0
  · rw [if_pos hc] at h ⊢
    refine px_bipush (v := ((-2) : Int32)) dX11_picture_12 (by decide) ?_
    exact px_ireturn dX11_picture_14 rfl ⟨.int, rfl, rfl, rfl⟩ ⟨rfl, _, rfl, h⟩
  · rw [if_neg hc] at h ⊢
    refine px_iload_n dX11_picture_4 rfl rfl ?_
    refine px_aload_n dX11_picture_5 rfl rfl ?_
    refine gf_X11_97 rfl dX11_picture_6 zl_0 zk_0 ?_
    refine px_icmp_le (tgt := 15) dX11_picture_9 (by decide) ?_
    by_cases hc : x1 ≤ (gi 0 13)
    · rw [if_pos hc] at h ⊢
      refine px_aload_n dX11_picture_15 rfl rfl ?_
      refine gf_X11_85 rfl dX11_picture_16 zl_0 zk_0 rfl zr_0_10 zl_33 ?_
      refine px_callV_I (As := []) (st := []) dX11_picture_19 lk_X11_128.1 lk_X11_128.2 (b := 33) zl_33 zk_33 (by decide) rfl (by decide) rfl (Nat.le_of_ble_eq_true rfl) rfl rfl (Nat.le_of_ble_eq_true rfl) ⟨Nat.le_refl _, Nat.le_refl _, Nat.le_refl _⟩ ?_
      refine PAt.mono h (fun v κ gi1 gl2 hq => ?_)
      obtain ⟨rfl, r3, rfl, h⟩ := hq
      refine px_bipush (v := (8 : Int32)) dX11_picture_22 (by decide) ?_
      refine px_icmp_lt (tgt := 30) dX11_picture_24 (by decide) ?_
      by_cases hc : r3 < (8 : Int32)
      · rw [if_pos hc] at h ⊢
        refine px_aload_n dX11_picture_30 rfl rfl ?_
        refine gf_X11_26 rfl dX11_picture_31 zl_0 zk_0 rfl zr_0_3 zl_14 ?_
        refine px_callV_V (As := []) (st := []) dX11_picture_34 lk_X11_132.1 lk_X11_132.2 (b := 14) zl_14 zk_14 (by decide) rfl (by decide) rfl (Nat.le_of_ble_eq_true rfl) rfl rfl (Nat.le_of_ble_eq_true rfl) ⟨Nat.le_refl _, Nat.le_refl _, Nat.le_refl _⟩ ?_
        refine PAt.mono h (fun v κ gi4 gl5 hq => ?_)
        obtain ⟨rfl, -, h⟩ := hq
        refine px_aload_n dX11_picture_37 rfl rfl ?_
        refine gf_X11_35 rfl dX11_picture_38 zl_0 zk_0 rfl zr_0_4 zl_21 ?_
        refine px_iload_n dX11_picture_41 rfl rfl ?_
        refine px_callV_I (As := [.int x1]) (st := []) dX11_picture_42 lk_X11_133.1 lk_X11_133.2 (b := 21) zl_21 zk_21 (by decide) rfl (by decide) rfl (Nat.le_of_ble_eq_true rfl) rfl rfl (Nat.le_of_ble_eq_true rfl) ⟨Nat.le_refl _, Nat.le_refl _, Nat.le_refl _⟩ ?_
        refine PAt.mono h (fun v κ gi6 gl7 hq => ?_)
        obtain ⟨rfl, r8, rfl, h⟩ := hq
        refine px_istore_n (ls2 := [some (.ref 0), some (.int x1), some (.int r8)]) (i := 2) rfl dX11_picture_45 (by decide) rfl ?_
        refine px_aload_n dX11_picture_46 rfl rfl ?_
        refine px_iload_n dX11_picture_47 rfl rfl ?_
        refine px_callV_V (As := [.int r8]) (st := []) dX11_picture_48 lk_X11_108.1 lk_X11_108.2 (b := 0) zl_0 zk_0 (by decide) rfl (by decide) rfl (Nat.le_of_ble_eq_true rfl) rfl rfl (Nat.le_of_ble_eq_true rfl) ⟨Nat.le_refl _, Nat.le_refl _, Nat.le_refl _⟩ ?_
        refine PAt.mono h (fun v κ gi9 gl10 hq => ?_)
        obtain ⟨rfl, -, h⟩ := hq
        refine px_iload_n dX11_picture_51 rfl rfl ?_
        refine px_if_ne (tgt := 57) dX11_picture_52 (by decide) ?_
        by_cases hc : ¬ r8 = 0
        · rw [if_pos hc] at h ⊢
          refine px_aload_n dX11_picture_57 rfl rfl ?_
          refine gf_X11_53 rfl dX11_picture_58 zl_0 zk_0 rfl zr_0_6 zl_24 ?_
          refine px_aload_n dX11_picture_61 rfl rfl ?_
          refine gf_X11_26 rfl dX11_picture_62 zl_0 zk_0 rfl zr_0_3 zl_14 ?_
          refine px_callV_V (As := [.ref 14]) (st := []) dX11_picture_65 lk_X11_136.1 lk_X11_136.2 (b := 24) zl_24 zk_24 (by decide) rfl (by decide) rfl (Nat.le_of_ble_eq_true rfl) rfl rfl (Nat.le_of_ble_eq_true rfl) ⟨Nat.le_refl _, Nat.le_refl _, Nat.le_refl _⟩ ?_
          refine PAt.mono h (fun v κ gi11 gl12 hq => ?_)
          obtain ⟨rfl, -, h⟩ := hq
          refine px_aload_n dX11_picture_68 rfl rfl ?_
          refine gf_X11_85 rfl dX11_picture_69 zl_0 zk_0 rfl zr_0_10 zl_33 ?_
          refine px_aload_n dX11_picture_72 rfl rfl ?_
          refine gf_X11_26 rfl dX11_picture_73 zl_0 zk_0 rfl zr_0_3 zl_14 ?_
          refine px_callV_I (As := [.ref 14]) (st := []) dX11_picture_76 lk_X11_140.1 lk_X11_140.2 (b := 33) zl_33 zk_33 (by decide) rfl (by decide) rfl (Nat.le_of_ble_eq_true rfl) rfl rfl (Nat.le_of_ble_eq_true rfl) ⟨Nat.le_refl _, Nat.le_refl _, Nat.le_refl _⟩ ?_
          refine PAt.mono h (fun v κ gi13 gl14 hq => ?_)
          obtain ⟨rfl, r15, rfl, h⟩ := hq
          exact px_ireturn dX11_picture_79 rfl ⟨.int, rfl, rfl, rfl⟩ ⟨rfl, _, rfl, h⟩
        · rw [if_neg hc] at h ⊢
          refine px_iconst (v := ((-1) : Int32)) dX11_picture_55 (by decide) ?_
          exact px_ireturn dX11_picture_56 rfl ⟨.int, rfl, rfl, rfl⟩ ⟨rfl, _, rfl, h⟩
      · rw [if_neg hc] at h ⊢
        refine px_bipush (v := ((-3) : Int32)) dX11_picture_27 (by decide) ?_
        exact px_ireturn dX11_picture_29 rfl ⟨.int, rfl, rfl, rfl⟩ ⟨rfl, _, rfl, h⟩
    · rw [if_neg hc] at h ⊢
      refine px_bipush (v := ((-2) : Int32)) dX11_picture_12 (by decide) ?_
      exact px_ireturn dX11_picture_14 rfl ⟨.int, rfl, rfl, rfl⟩ ⟨rfl, _, rfl, h⟩
def f_X11_more (x1 : Int32) (x2 : Int32) (gi : Gi) (gl : Gl) (Q : Int32 → Gi → Gl → Prop) : Prop :=
p_X0_get 33 x1 gi gl (fun (o18 : Option Nat) (gi1 : Gi) (gl2 : Gl) =>
(o18 = none →
Q ((-2) : Int32) gi1 gl2) ∧
(∀ b3 : Nat, o18 = some b3 → b3 < NN → sK b3 = 5 →
if x2 < 0 then
(Q ((-2) : Int32) gi1 gl2)
else
(if x2 ≤ (gi1 0 13) then
(p_X5_copyFrom 14 b3 gi1 gl2 (fun (gi4 : Gi) (gl5 : Gl) =>
p_X7_readsSigns x2 gi4 gl5 (fun (r8 : Int32) (gi6 : Gi) (gl7 : Gl) =>
p_X11_endText r8 gi6 gl7 (fun (gi9 : Gi) (gl10 : Gl) =>
if ¬ r8 = 0 then
(p_X2_fill 14 gi9 gl10 (fun (gi11 : Gi) (gl12 : Gl) =>
p_X5_copyFrom b3 14 gi11 gl12 (fun (gi13 : Gi) (gl14 : Gl) =>
p_X5_size b3 gi13 gl14 (fun (r17 : Int32) (gi15 : Gi) (gl16 : Gl) =>
Q r17 gi15 gl16))))
else
(Q ((-1) : Int32) gi9 gl10)))))
else
(Q ((-2) : Int32) gi1 gl2))))
set_option maxRecDepth 100000 in
theorem v_X11_more {x1 : Int32} {x2 : Int32} {gi : Gi} {gl : Gl} {Q : Int32 → Gi → Gl → Prop}  (h : f_X11_more x1 x2 gi gl Q) : p_X11_more x1 x2 gi gl Q := by
  unfold f_X11_more at h
  show PAt mX11_more NN NN κF 0 [some (.ref 0), some (.int x1), some (.int x2), none, none] [] gi gl _
  refine px_aload_n dX11_more_0 rfl rfl ?_
  refine gf_X11_85 rfl dX11_more_1 zl_0 zk_0 rfl zr_0_10 zl_33 ?_
  refine px_iload_n dX11_more_4 rfl rfl ?_
  refine px_callV_A (As := [.int x1]) (st := []) dX11_more_5 lk_X11_144.1 lk_X11_144.2 (b := 33) zl_33 zk_33 (by decide) rfl (by decide) rfl (Nat.le_of_ble_eq_true rfl) ⟨_, rfl⟩ rfl (Nat.le_of_ble_eq_true rfl) ⟨Nat.le_refl _, Nat.le_refl _, Nat.le_refl _⟩ ?_
  refine PAt.mono h (fun v κ gi1 gl2 hq => ?_)
  rcases hq with ⟨rfl, ⟨rfl, hq⟩ | ⟨b3, rfl, hb3N, hb3K, hq⟩⟩
  · have h := hq.1 rfl
    refine px_astore_nN (ls2 := [some (.ref 0), some (.int x1), some (.int x2), some (.null), none]) (i := 3) rfl dX11_more_8 (by decide) rfl ?_
    refine px_aload_nN dX11_more_9 rfl rfl ?_
    refine px_ifnullN (tgt := 25) dX11_more_10 (by decide) ?_
    refine px_bipush (v := ((-2) : Int32)) dX11_more_25 (by decide) ?_
    exact px_ireturn dX11_more_27 rfl ⟨.int, rfl, rfl, rfl⟩ ⟨rfl, _, rfl, h⟩
  · have h := hq.2 b3 rfl hb3N hb3K
    refine px_astore_n (ls2 := [some (.ref 0), some (.int x1), some (.int x2), some (.ref b3), none]) (i := 3) rfl dX11_more_8 (by decide) rfl ?_
    refine px_aload_n dX11_more_9 rfl rfl ?_
    refine px_ifnull (tgt := 25) dX11_more_10 (by decide) ?_
    refine px_iload_n dX11_more_13 rfl rfl ?_
    refine px_if_lt (tgt := 25) dX11_more_14 (by decide) ?_
    by_cases hc : x2 < 0
    · rw [if_pos hc] at h ⊢
      refine px_bipush (v := ((-2) : Int32)) dX11_more_25 (by decide) ?_
      exact px_ireturn dX11_more_27 rfl ⟨.int, rfl, rfl, rfl⟩ ⟨rfl, _, rfl, h⟩
    · rw [if_neg hc] at h ⊢
      refine px_iload_n dX11_more_17 rfl rfl ?_
      refine px_aload_n dX11_more_18 rfl rfl ?_
      refine gf_X11_97 rfl dX11_more_19 zl_0 zk_0 ?_
      refine px_icmp_le (tgt := 28) dX11_more_22 (by decide) ?_
      by_cases hc : x2 ≤ (gi1 0 13)
      · rw [if_pos hc] at h ⊢
        refine px_aload_n dX11_more_28 rfl rfl ?_
        refine gf_X11_26 rfl dX11_more_29 zl_0 zk_0 rfl zr_0_3 zl_14 ?_
        refine px_aload_n dX11_more_32 rfl rfl ?_
        refine px_callV_V (As := [.ref b3]) (st := []) dX11_more_33 lk_X11_148.1 lk_X11_148.2 (b := 14) zl_14 zk_14 (by decide) rfl (by decide) rfl (Nat.le_of_ble_eq_true rfl) rfl rfl (Nat.le_of_ble_eq_true rfl) ⟨Nat.le_refl _, Nat.le_refl _, Nat.le_refl _⟩ ?_
        refine PAt.mono h (fun v κ gi4 gl5 hq => ?_)
        obtain ⟨rfl, -, h⟩ := hq
        refine px_aload_n dX11_more_36 rfl rfl ?_
        refine gf_X11_35 rfl dX11_more_37 zl_0 zk_0 rfl zr_0_4 zl_21 ?_
        refine px_iload_n dX11_more_40 rfl rfl ?_
        refine px_callV_I (As := [.int x2]) (st := []) dX11_more_41 lk_X11_133.1 lk_X11_133.2 (b := 21) zl_21 zk_21 (by decide) rfl (by decide) rfl (Nat.le_of_ble_eq_true rfl) rfl rfl (Nat.le_of_ble_eq_true rfl) ⟨Nat.le_refl _, Nat.le_refl _, Nat.le_refl _⟩ ?_
        refine PAt.mono h (fun v κ gi6 gl7 hq => ?_)
        obtain ⟨rfl, r8, rfl, h⟩ := hq
        refine px_istore (ls2 := [some (.ref 0), some (.int x1), some (.int x2), some (.ref b3), some (.int r8)]) dX11_more_44 (by decide) rfl ?_
        refine px_aload_n dX11_more_46 rfl rfl ?_
        refine px_iload dX11_more_47 rfl ?_
        refine px_callV_V (As := [.int r8]) (st := []) dX11_more_49 lk_X11_108.1 lk_X11_108.2 (b := 0) zl_0 zk_0 (by decide) rfl (by decide) rfl (Nat.le_of_ble_eq_true rfl) rfl rfl (Nat.le_of_ble_eq_true rfl) ⟨Nat.le_refl _, Nat.le_refl _, Nat.le_refl _⟩ ?_
        refine PAt.mono h (fun v κ gi9 gl10 hq => ?_)
        obtain ⟨rfl, -, h⟩ := hq
        refine px_iload dX11_more_52 rfl ?_
        refine px_if_ne (tgt := 59) dX11_more_54 (by decide) ?_
        by_cases hc : ¬ r8 = 0
        · rw [if_pos hc] at h ⊢
          refine px_aload_n dX11_more_59 rfl rfl ?_
          refine gf_X11_53 rfl dX11_more_60 zl_0 zk_0 rfl zr_0_6 zl_24 ?_
          refine px_aload_n dX11_more_63 rfl rfl ?_
          refine gf_X11_26 rfl dX11_more_64 zl_0 zk_0 rfl zr_0_3 zl_14 ?_
          refine px_callV_V (As := [.ref 14]) (st := []) dX11_more_67 lk_X11_136.1 lk_X11_136.2 (b := 24) zl_24 zk_24 (by decide) rfl (by decide) rfl (Nat.le_of_ble_eq_true rfl) rfl rfl (Nat.le_of_ble_eq_true rfl) ⟨Nat.le_refl _, Nat.le_refl _, Nat.le_refl _⟩ ?_
          refine PAt.mono h (fun v κ gi11 gl12 hq => ?_)
          obtain ⟨rfl, -, h⟩ := hq
          refine px_aload_n dX11_more_70 rfl rfl ?_
          refine px_aload_n dX11_more_71 rfl rfl ?_
          refine gf_X11_26 rfl dX11_more_72 zl_0 zk_0 rfl zr_0_3 zl_14 ?_
          refine px_callV_V (As := [.ref 14]) (st := []) dX11_more_75 lk_X11_148.1 lk_X11_148.2 (b := b3) hb3N hb3K (by decide) rfl (by decide) rfl (Nat.le_of_ble_eq_true rfl) rfl rfl (Nat.le_of_ble_eq_true rfl) ⟨Nat.le_refl _, Nat.le_refl _, Nat.le_refl _⟩ ?_
          refine PAt.mono h (fun v κ gi13 gl14 hq => ?_)
          obtain ⟨rfl, -, h⟩ := hq
          refine px_aload_n dX11_more_78 rfl rfl ?_
          refine px_callV_I (As := []) (st := []) dX11_more_79 lk_X11_150.1 lk_X11_150.2 (b := b3) hb3N hb3K (by decide) rfl (by decide) rfl (Nat.le_of_ble_eq_true rfl) rfl rfl (Nat.le_of_ble_eq_true rfl) ⟨Nat.le_refl _, Nat.le_refl _, Nat.le_refl _⟩ ?_
          refine PAt.mono h (fun v κ gi15 gl16 hq => ?_)
          obtain ⟨rfl, r17, rfl, h⟩ := hq
          exact px_ireturn dX11_more_82 rfl ⟨.int, rfl, rfl, rfl⟩ ⟨rfl, _, rfl, h⟩
        · rw [if_neg hc] at h ⊢
          refine px_iconst (v := ((-1) : Int32)) dX11_more_57 (by decide) ?_
          exact px_ireturn dX11_more_58 rfl ⟨.int, rfl, rfl, rfl⟩ ⟨rfl, _, rfl, h⟩
      · rw [if_neg hc] at h ⊢
        refine px_bipush (v := ((-2) : Int32)) dX11_more_25 (by decide) ?_
        exact px_ireturn dX11_more_27 rfl ⟨.int, rfl, rfl, rfl⟩ ⟨rfl, _, rfl, h⟩
def f_X11_fault  (gi : Gi) (gl : Gl) (Q : Int32 → Gi → Gl → Prop) : Prop :=
Q (gi 0 15) gi gl
set_option maxRecDepth 100000 in
theorem v_X11_fault  {gi : Gi} {gl : Gl} {Q : Int32 → Gi → Gl → Prop}  (h : f_X11_fault  gi gl Q) : p_X11_fault  gi gl Q := by
  unfold f_X11_fault at h
  show PAt mX11_fault NN NN κF 0 [some (.ref 0)] [] gi gl _
  refine px_aload_n dX11_fault_0 rfl rfl ?_
  refine gf_X11_93 rfl dX11_fault_1 zl_0 zk_0 ?_
  exact px_ireturn dX11_fault_4 rfl ⟨.int, rfl, rfl, rfl⟩ ⟨rfl, _, rfl, h⟩
def f_X11_told (x1 : Int32) (gi : Gi) (gl : Gl) (Q : Int32 → Gi → Gl → Prop) : Prop :=
if x1 < (200 : Int32) then
(if x1 < (100 : Int32) then
(p_X10_countOf 2 x1 gi gl (fun (r3 : Int32) (gi1 : Gi) (gl2 : Gl) =>
Q r3 gi1 gl2))
else
(p_X10_of 2 (0 : Int32) ((x1 - (100 : Int32)) / (4 : Int32)) (jr (x1 - (100 : Int32)) (4 : Int32)) gi gl (fun (r6 : Int32) (gi4 : Gi) (gl5 : Gl) =>
Q r6 gi4 gl5)))
else
(p_X10_of 2 (2 : Int32) ((x1 - (200 : Int32)) / (3 : Int32)) (jr (x1 - (200 : Int32)) (3 : Int32)) gi gl (fun (r9 : Int32) (gi7 : Gi) (gl8 : Gl) =>
Q r9 gi7 gl8))
set_option maxRecDepth 100000 in
theorem v_X11_told {x1 : Int32} {gi : Gi} {gl : Gl} {Q : Int32 → Gi → Gl → Prop}  (h : f_X11_told x1 gi gl Q) : p_X11_told x1 gi gl Q := by
  unfold f_X11_told at h
  show PAt mX11_told NN NN κF 0 [some (.ref 0), some (.int x1)] [] gi gl _
  refine px_iload_n dX11_told_0 rfl rfl ?_
  refine px_sipush (v := (200 : Int32)) dX11_told_1 (by decide) ?_
  refine px_icmp_lt (tgt := 30) dX11_told_4 (by decide) ?_
  by_cases hc : x1 < (200 : Int32)
  · rw [if_pos hc] at h ⊢
    refine px_iload_n dX11_told_30 rfl rfl ?_
    refine px_bipush (v := (100 : Int32)) dX11_told_31 (by decide) ?_
    refine px_icmp_lt (tgt := 57) dX11_told_33 (by decide) ?_
    by_cases hc : x1 < (100 : Int32)
    · rw [if_pos hc] at h ⊢
      refine px_aload_n dX11_told_57 rfl rfl ?_
      refine gf_X11_16 rfl dX11_told_58 zl_0 zk_0 rfl zr_0_1 zl_2 ?_
      refine px_iload_n dX11_told_61 rfl rfl ?_
      refine px_callV_I (As := [.int x1]) (st := []) dX11_told_62 lk_X11_124.1 lk_X11_124.2 (b := 2) zl_2 zk_2 (by decide) rfl (by decide) rfl (Nat.le_of_ble_eq_true rfl) rfl rfl (Nat.le_of_ble_eq_true rfl) ⟨Nat.le_refl _, Nat.le_refl _, Nat.le_refl _⟩ ?_
      refine PAt.mono h (fun v κ gi1 gl2 hq => ?_)
      obtain ⟨rfl, r3, rfl, h⟩ := hq
      exact px_ireturn dX11_told_65 rfl ⟨.int, rfl, rfl, rfl⟩ ⟨rfl, _, rfl, h⟩
    · rw [if_neg hc] at h ⊢
      refine px_aload_n dX11_told_36 rfl rfl ?_
      refine gf_X11_16 rfl dX11_told_37 zl_0 zk_0 rfl zr_0_1 zl_2 ?_
      refine px_iconst (v := (0 : Int32)) dX11_told_40 (by decide) ?_
      refine px_iload_n dX11_told_41 rfl rfl ?_
      refine px_bipush (v := (100 : Int32)) dX11_told_42 (by decide) ?_
      refine px_isub dX11_told_44 ?_
      refine px_iconst (v := (4 : Int32)) dX11_told_45 (by decide) ?_
      refine px_idiv dX11_told_46 (by decide) ?_
      refine px_iload_n dX11_told_47 rfl rfl ?_
      refine px_bipush (v := (100 : Int32)) dX11_told_48 (by decide) ?_
      refine px_isub dX11_told_50 ?_
      refine px_iconst (v := (4 : Int32)) dX11_told_51 (by decide) ?_
      refine px_irem dX11_told_52 (by decide) ?_
      refine px_callV_I (As := [.int (0 : Int32), .int ((x1 - (100 : Int32)) / (4 : Int32)), .int (jr (x1 - (100 : Int32)) (4 : Int32))]) (st := []) dX11_told_53 lk_X11_151.1 lk_X11_151.2 (b := 2) zl_2 zk_2 (by decide) rfl (by decide) rfl (Nat.le_of_ble_eq_true rfl) rfl rfl (Nat.le_of_ble_eq_true rfl) ⟨Nat.le_refl _, Nat.le_refl _, Nat.le_refl _⟩ ?_
      refine PAt.mono h (fun v κ gi4 gl5 hq => ?_)
      obtain ⟨rfl, r6, rfl, h⟩ := hq
      exact px_ireturn dX11_told_56 rfl ⟨.int, rfl, rfl, rfl⟩ ⟨rfl, _, rfl, h⟩
  · rw [if_neg hc] at h ⊢
    refine px_aload_n dX11_told_7 rfl rfl ?_
    refine gf_X11_16 rfl dX11_told_8 zl_0 zk_0 rfl zr_0_1 zl_2 ?_
    refine px_iconst (v := (2 : Int32)) dX11_told_11 (by decide) ?_
    refine px_iload_n dX11_told_12 rfl rfl ?_
    refine px_sipush (v := (200 : Int32)) dX11_told_13 (by decide) ?_
    refine px_isub dX11_told_16 ?_
    refine px_iconst (v := (3 : Int32)) dX11_told_17 (by decide) ?_
    refine px_idiv dX11_told_18 (by decide) ?_
    refine px_iload_n dX11_told_19 rfl rfl ?_
    refine px_sipush (v := (200 : Int32)) dX11_told_20 (by decide) ?_
    refine px_isub dX11_told_23 ?_
    refine px_iconst (v := (3 : Int32)) dX11_told_24 (by decide) ?_
    refine px_irem dX11_told_25 (by decide) ?_
    refine px_callV_I (As := [.int (2 : Int32), .int ((x1 - (200 : Int32)) / (3 : Int32)), .int (jr (x1 - (200 : Int32)) (3 : Int32))]) (st := []) dX11_told_26 lk_X11_151.1 lk_X11_151.2 (b := 2) zl_2 zk_2 (by decide) rfl (by decide) rfl (Nat.le_of_ble_eq_true rfl) rfl rfl (Nat.le_of_ble_eq_true rfl) ⟨Nat.le_refl _, Nat.le_refl _, Nat.le_refl _⟩ ?_
    refine PAt.mono h (fun v κ gi7 gl8 hq => ?_)
    obtain ⟨rfl, r9, rfl, h⟩ := hq
    exact px_ireturn dX11_told_29 rfl ⟨.int, rfl, rfl, rfl⟩ ⟨rfl, _, rfl, h⟩
def f_X11_sign (x1 : Int32) (x2 : Int32) (x3 : Int32) (gi : Gi) (gl : Gl) (Q : Int32 → Gi → Gl → Prop) : Prop :=
p_X0_get 33 x1 gi gl (fun (o7 : Option Nat) (gi1 : Gi) (gl2 : Gl) =>
(o7 = none →
Q ((-1) : Int32) gi1 gl2) ∧
(∀ b3 : Nat, o7 = some b3 → b3 < NN → sK b3 = 5 →
p_X5_tells b3 x2 x3 gi1 gl2 (fun (r6 : Int32) (gi4 : Gi) (gl5 : Gl) =>
Q r6 gi4 gl5)))
set_option maxRecDepth 100000 in
theorem v_X11_sign {x1 : Int32} {x2 : Int32} {x3 : Int32} {gi : Gi} {gl : Gl} {Q : Int32 → Gi → Gl → Prop}  (h : f_X11_sign x1 x2 x3 gi gl Q) : p_X11_sign x1 x2 x3 gi gl Q := by
  unfold f_X11_sign at h
  show PAt mX11_sign NN NN κF 0 [some (.ref 0), some (.int x1), some (.int x2), some (.int x3), none] [] gi gl _
  refine px_aload_n dX11_sign_0 rfl rfl ?_
  refine gf_X11_85 rfl dX11_sign_1 zl_0 zk_0 rfl zr_0_10 zl_33 ?_
  refine px_iload_n dX11_sign_4 rfl rfl ?_
  refine px_callV_A (As := [.int x1]) (st := []) dX11_sign_5 lk_X11_144.1 lk_X11_144.2 (b := 33) zl_33 zk_33 (by decide) rfl (by decide) rfl (Nat.le_of_ble_eq_true rfl) ⟨_, rfl⟩ rfl (Nat.le_of_ble_eq_true rfl) ⟨Nat.le_refl _, Nat.le_refl _, Nat.le_refl _⟩ ?_
  refine PAt.mono h (fun v κ gi1 gl2 hq => ?_)
  rcases hq with ⟨rfl, ⟨rfl, hq⟩ | ⟨b3, rfl, hb3N, hb3K, hq⟩⟩
  · have h := hq.1 rfl
    refine px_astoreN (ls2 := [some (.ref 0), some (.int x1), some (.int x2), some (.int x3), some (.null)]) dX11_sign_8 (by decide) rfl ?_
    refine px_aloadN dX11_sign_10 rfl ?_
    refine px_ifnonnullN (tgt := 19) dX11_sign_12 (by decide) ?_
    refine px_iconst (v := ((-1) : Int32)) dX11_sign_15 (by decide) ?_
    refine px_goto (tgt := 26) dX11_sign_16 (by decide) ?_
    exact px_ireturn dX11_sign_26 rfl ⟨.int, rfl, rfl, rfl⟩ ⟨rfl, _, rfl, h⟩
  · have h := hq.2 b3 rfl hb3N hb3K
    refine px_astore (ls2 := [some (.ref 0), some (.int x1), some (.int x2), some (.int x3), some (.ref b3)]) dX11_sign_8 (by decide) rfl ?_
    refine px_aload dX11_sign_10 rfl ?_
    refine px_ifnonnull (tgt := 19) dX11_sign_12 (by decide) ?_
    refine px_aload dX11_sign_19 rfl ?_
    refine px_iload_n dX11_sign_21 rfl rfl ?_
    refine px_iload_n dX11_sign_22 rfl rfl ?_
    refine px_callV_I (As := [.int x2, .int x3]) (st := []) dX11_sign_23 lk_X11_155.1 lk_X11_155.2 (b := b3) hb3N hb3K (by decide) rfl (by decide) rfl (Nat.le_of_ble_eq_true rfl) rfl rfl (Nat.le_of_ble_eq_true rfl) ⟨Nat.le_refl _, Nat.le_refl _, Nat.le_refl _⟩ ?_
    refine PAt.mono h (fun v κ gi4 gl5 hq => ?_)
    obtain ⟨rfl, r6, rfl, h⟩ := hq
    exact px_ireturn dX11_sign_26 rfl ⟨.int, rfl, rfl, rfl⟩ ⟨rfl, _, rfl, h⟩
def f_X11_lets (x1 : Int32) (x2 : Int32) (x3 : Int32) (x4 : Int32) (gi : Gi) (gl : Gl) (Q : Int32 → Gi → Gl → Prop) : Prop :=
p_X0_get 33 x1 gi gl (fun (o13 : Option Nat) (gi1 : Gi) (gl2 : Gl) =>
(o13 = none →
Q ((-1) : Int32) gi1 gl2) ∧
(∀ b3 : Nat, o13 = some b3 → b3 < NN → sK b3 = 5 →
p_X5_has b3 x2 gi1 gl2 (fun (r6 : Int32) (gi4 : Gi) (gl5 : Gl) =>
if r6 = 0 then
(Q ((-1) : Int32) gi4 gl5)
else
(p_X11_isMoment x3 x4 gi4 gl5 (fun (r9 : Int32) (gi7 : Gi) (gl8 : Gl) =>
if ¬ r9 = 0 then
(p_X2_allows b3 x2 x3 x4 gi7 gl8 (fun (r12 : Int32) (gi10 : Gi) (gl11 : Gl) =>
if r12 = 0 then
(Q (0 : Int32) gi10 gl11)
else
(Q (1 : Int32) gi10 gl11)))
else
(Q ((-1) : Int32) gi7 gl8))))))
set_option maxRecDepth 100000 in
theorem v_X11_lets {x1 : Int32} {x2 : Int32} {x3 : Int32} {x4 : Int32} {gi : Gi} {gl : Gl} {Q : Int32 → Gi → Gl → Prop}  (h : f_X11_lets x1 x2 x3 x4 gi gl Q) : p_X11_lets x1 x2 x3 x4 gi gl Q := by
  unfold f_X11_lets at h
  show PAt mX11_lets NN NN κF 0 [some (.ref 0), some (.int x1), some (.int x2), some (.int x3), some (.int x4), none] [] gi gl _
  refine px_aload_n dX11_lets_0 rfl rfl ?_
  refine gf_X11_85 rfl dX11_lets_1 zl_0 zk_0 rfl zr_0_10 zl_33 ?_
  refine px_iload_n dX11_lets_4 rfl rfl ?_
  refine px_callV_A (As := [.int x1]) (st := []) dX11_lets_5 lk_X11_144.1 lk_X11_144.2 (b := 33) zl_33 zk_33 (by decide) rfl (by decide) rfl (Nat.le_of_ble_eq_true rfl) ⟨_, rfl⟩ rfl (Nat.le_of_ble_eq_true rfl) ⟨Nat.le_refl _, Nat.le_refl _, Nat.le_refl _⟩ ?_
  refine PAt.mono h (fun v κ gi1 gl2 hq => ?_)
  rcases hq with ⟨rfl, ⟨rfl, hq⟩ | ⟨b3, rfl, hb3N, hb3K, hq⟩⟩
  · have h := hq.1 rfl
    refine px_astoreN (ls2 := [some (.ref 0), some (.int x1), some (.int x2), some (.int x3), some (.int x4), some (.null)]) dX11_lets_8 (by decide) rfl ?_
    refine px_aloadN dX11_lets_10 rfl ?_
    refine px_ifnullN (tgt := 33) dX11_lets_12 (by decide) ?_
    refine px_iconst (v := ((-1) : Int32)) dX11_lets_33 (by decide) ?_
    exact px_ireturn dX11_lets_34 rfl ⟨.int, rfl, rfl, rfl⟩ ⟨rfl, _, rfl, h⟩
  · have h := hq.2 b3 rfl hb3N hb3K
    refine px_astore (ls2 := [some (.ref 0), some (.int x1), some (.int x2), some (.int x3), some (.int x4), some (.ref b3)]) dX11_lets_8 (by decide) rfl ?_
    refine px_aload dX11_lets_10 rfl ?_
    refine px_ifnull (tgt := 33) dX11_lets_12 (by decide) ?_
    refine px_aload dX11_lets_15 rfl ?_
    refine px_iload_n dX11_lets_17 rfl rfl ?_
    refine px_callV_I (As := [.int x2]) (st := []) dX11_lets_18 lk_X11_159.1 lk_X11_159.2 (b := b3) hb3N hb3K (by decide) rfl (by decide) rfl (Nat.le_of_ble_eq_true rfl) rfl rfl (Nat.le_of_ble_eq_true rfl) ⟨Nat.le_refl _, Nat.le_refl _, Nat.le_refl _⟩ ?_
    refine PAt.mono h (fun v κ gi4 gl5 hq => ?_)
    obtain ⟨rfl, r6, rfl, h⟩ := hq
    refine px_if_eq (tgt := 33) dX11_lets_21 (by decide) ?_
    by_cases hc : r6 = 0
    · rw [if_pos hc] at h ⊢
      refine px_iconst (v := ((-1) : Int32)) dX11_lets_33 (by decide) ?_
      exact px_ireturn dX11_lets_34 rfl ⟨.int, rfl, rfl, rfl⟩ ⟨rfl, _, rfl, h⟩
    · rw [if_neg hc] at h ⊢
      refine px_iload_n dX11_lets_24 rfl rfl ?_
      refine px_iload dX11_lets_25 rfl ?_
      refine px_callS_I (As := [.int x3, .int x4]) (st := []) dX11_lets_27 lk_X11_162.1 lk_X11_162.2 (by decide) rfl (Nat.le_of_ble_eq_true rfl) rfl rfl (Nat.le_of_ble_eq_true rfl) ⟨Nat.le_refl _, Nat.le_refl _, Nat.le_refl _⟩ ?_
      refine PAt.mono h (fun v κ gi7 gl8 hq => ?_)
      obtain ⟨rfl, r9, rfl, h⟩ := hq
      refine px_if_ne (tgt := 35) dX11_lets_30 (by decide) ?_
      by_cases hc : ¬ r9 = 0
      · rw [if_pos hc] at h ⊢
        refine px_aload_n dX11_lets_35 rfl rfl ?_
        refine gf_X11_53 rfl dX11_lets_36 zl_0 zk_0 rfl zr_0_6 zl_24 ?_
        refine px_aload dX11_lets_39 rfl ?_
        refine px_iload_n dX11_lets_41 rfl rfl ?_
        refine px_iload_n dX11_lets_42 rfl rfl ?_
        refine px_iload dX11_lets_43 rfl ?_
        refine px_callV_I (As := [.ref b3, .int x2, .int x3, .int x4]) (st := []) dX11_lets_45 lk_X11_166.1 lk_X11_166.2 (b := 24) zl_24 zk_24 (by decide) rfl (by decide) rfl (Nat.le_of_ble_eq_true rfl) rfl rfl (Nat.le_of_ble_eq_true rfl) ⟨Nat.le_refl _, Nat.le_refl _, Nat.le_refl _⟩ ?_
        refine PAt.mono h (fun v κ gi10 gl11 hq => ?_)
        obtain ⟨rfl, r12, rfl, h⟩ := hq
        refine px_if_eq (tgt := 55) dX11_lets_48 (by decide) ?_
        by_cases hc : r12 = 0
        · rw [if_pos hc] at h ⊢
          refine px_iconst (v := (0 : Int32)) dX11_lets_55 (by decide) ?_
          exact px_ireturn dX11_lets_56 rfl ⟨.int, rfl, rfl, rfl⟩ ⟨rfl, _, rfl, h⟩
        · rw [if_neg hc] at h ⊢
          refine px_iconst (v := (1 : Int32)) dX11_lets_51 (by decide) ?_
          refine px_goto (tgt := 56) dX11_lets_52 (by decide) ?_
          exact px_ireturn dX11_lets_56 rfl ⟨.int, rfl, rfl, rfl⟩ ⟨rfl, _, rfl, h⟩
      · rw [if_neg hc] at h ⊢
        refine px_iconst (v := ((-1) : Int32)) dX11_lets_33 (by decide) ?_
        exact px_ireturn dX11_lets_34 rfl ⟨.int, rfl, rfl, rfl⟩ ⟨rfl, _, rfl, h⟩
abbrev p_X11_shadow_60 (x4 : Int32) (s0 : Int32) (gi : Gi) (gl : Gl) (Q : Int32 → Gi → Gl → Prop) : Prop := PAt mX11_shadow NN NN κF 60 [some (.ref 0), none, none, none, some (.int x4), none, none, none] [.int s0] gi gl (RiQ Q)
def f_X11_shadow (x1 : Int32) (x2 : Int32) (x3 : Int32) (x4 : Int32) (gi : Gi) (gl : Gl) (Q : Int32 → Gi → Gl → Prop) : Prop :=
if x4 < 0 then
(Q ((-1000000) : Int32) gi gl)
else
(if (3 : Int32) < x4 then
(Q ((-1000000) : Int32) gi gl)
else
(p_X9_goesTo x1 gi gl (fun (r3 : Int32) (gi1 : Gi) (gl2 : Gl) =>
if r3 = 0 then
(Q ((-1000000) : Int32) gi1 gl2)
else
(p_X9_shines x2 x3 gi1 gl2 (fun (r6 : Int32) (gi4 : Gi) (gl5 : Gl) =>
if ¬ r6 = 0 then
(if (2 : Int32) ≤ x4 then
(p_X9_upperY  gi4 gl5 (fun (r9 : Int32) (gi7 : Gi) (gl8 : Gl) =>
p_X11_shadow_60 x4 r9 gi7 gl8 Q))
else
(p_X9_upperX  gi4 gl5 (fun (r12 : Int32) (gi10 : Gi) (gl11 : Gl) =>
p_X11_shadow_60 x4 r12 gi10 gl11 Q)))
else
(Q ((-1000000) : Int32) gi4 gl5))))))
def f_X11_shadow_60 (x4 : Int32) (s0 : Int32) (gi : Gi) (gl : Gl) (Q : Int32 → Gi → Gl → Prop) : Prop :=
p_X9_lower  gi gl (fun (r3 : Int32) (gi1 : Gi) (gl2 : Gl) =>
p_X11_divisorOf s0.toInt64 r3.toInt64 gi1 gl2 (fun (r6 : Int64) (gi4 : Gi) (gl5 : Gl) =>
∀ z7 : Int32, z7 = r6.toInt32 →
if 0 < z7 then
(if ¬ (jr x4 (2 : Int32)) = 0 then
(¬ z7 = 0 ∧
Q (r3 / z7) gi4 gl5)
else
(¬ z7 = 0 ∧
Q (s0 / z7) gi4 gl5))
else
(Q ((-1000000) : Int32) gi4 gl5)))
set_option maxRecDepth 100000 in
theorem v_X11_shadow {x1 : Int32} {x2 : Int32} {x3 : Int32} {x4 : Int32} {gi : Gi} {gl : Gl} {Q : Int32 → Gi → Gl → Prop}  (h : f_X11_shadow x1 x2 x3 x4 gi gl Q) : p_X11_shadow x1 x2 x3 x4 gi gl Q := by
  unfold f_X11_shadow at h
  show PAt mX11_shadow NN NN κF 0 [some (.ref 0), some (.int x1), some (.int x2), some (.int x3), some (.int x4), none, none, none] [] gi gl _
  refine px_iload dX11_shadow_0 rfl ?_
  refine px_if_lt (tgt := 34) dX11_shadow_2 (by decide) ?_
  by_cases hc : x4 < 0
  · rw [if_pos hc] at h ⊢
    refine px_ldc (v := ((-1000000) : Int32)) dX11_shadow_34 w_881 ?_
    exact px_ireturn dX11_shadow_36 rfl ⟨.int, rfl, rfl, rfl⟩ ⟨rfl, _, rfl, h⟩
  · rw [if_neg hc] at h ⊢
    refine px_iload dX11_shadow_5 rfl ?_
    refine px_iconst (v := (3 : Int32)) dX11_shadow_7 (by decide) ?_
    refine px_icmp_gt (tgt := 34) dX11_shadow_8 (by decide) ?_
    by_cases hc : (3 : Int32) < x4
    · rw [if_pos hc] at h ⊢
      refine px_ldc (v := ((-1000000) : Int32)) dX11_shadow_34 w_881 ?_
      exact px_ireturn dX11_shadow_36 rfl ⟨.int, rfl, rfl, rfl⟩ ⟨rfl, _, rfl, h⟩
    · rw [if_neg hc] at h ⊢
      refine px_aload_n dX11_shadow_11 rfl rfl ?_
      refine gf_X11_44 rfl dX11_shadow_12 zl_0 zk_0 rfl zr_0_5 zl_23 ?_
      refine px_iload_n dX11_shadow_15 rfl rfl ?_
      refine px_callV_I (As := [.int x1]) (st := []) dX11_shadow_16 lk_X11_170.1 lk_X11_170.2 (b := 23) zl_23 zk_23 (by decide) rfl (by decide) rfl (Nat.le_of_ble_eq_true rfl) rfl rfl (Nat.le_of_ble_eq_true rfl) ⟨Nat.le_refl _, Nat.le_refl _, Nat.le_refl _⟩ ?_
      refine PAt.mono h (fun v κ gi1 gl2 hq => ?_)
      obtain ⟨rfl, r3, rfl, h⟩ := hq
      refine px_if_eq (tgt := 34) dX11_shadow_19 (by decide) ?_
      by_cases hc : r3 = 0
      · rw [if_pos hc] at h ⊢
        refine px_ldc (v := ((-1000000) : Int32)) dX11_shadow_34 w_881 ?_
        exact px_ireturn dX11_shadow_36 rfl ⟨.int, rfl, rfl, rfl⟩ ⟨rfl, _, rfl, h⟩
      · rw [if_neg hc] at h ⊢
        refine px_aload_n dX11_shadow_22 rfl rfl ?_
        refine gf_X11_44 rfl dX11_shadow_23 zl_0 zk_0 rfl zr_0_5 zl_23 ?_
        refine px_iload_n dX11_shadow_26 rfl rfl ?_
        refine px_iload_n dX11_shadow_27 rfl rfl ?_
        refine px_callV_I (As := [.int x2, .int x3]) (st := []) dX11_shadow_28 lk_X11_173.1 lk_X11_173.2 (b := 23) zl_23 zk_23 (by decide) rfl (by decide) rfl (Nat.le_of_ble_eq_true rfl) rfl rfl (Nat.le_of_ble_eq_true rfl) ⟨Nat.le_refl _, Nat.le_refl _, Nat.le_refl _⟩ ?_
        refine PAt.mono h (fun v κ gi4 gl5 hq => ?_)
        obtain ⟨rfl, r6, rfl, h⟩ := hq
        refine px_if_ne (tgt := 37) dX11_shadow_31 (by decide) ?_
        by_cases hc : ¬ r6 = 0
        · rw [if_pos hc] at h ⊢
          refine px_iload dX11_shadow_37 rfl ?_
          refine px_iconst (v := (2 : Int32)) dX11_shadow_39 (by decide) ?_
          refine px_icmp_ge (tgt := 53) dX11_shadow_40 (by decide) ?_
          by_cases hc : (2 : Int32) ≤ x4
          · rw [if_pos hc] at h ⊢
            refine px_aload_n dX11_shadow_53 rfl rfl ?_
            refine gf_X11_44 rfl dX11_shadow_54 zl_0 zk_0 rfl zr_0_5 zl_23 ?_
            refine px_callV_I (As := []) (st := []) dX11_shadow_57 lk_X11_180.1 lk_X11_180.2 (b := 23) zl_23 zk_23 (by decide) rfl (by decide) rfl (Nat.le_of_ble_eq_true rfl) rfl rfl (Nat.le_of_ble_eq_true rfl) ⟨Nat.le_refl _, Nat.le_refl _, Nat.le_refl _⟩ ?_
            refine PAt.mono h (fun v κ gi7 gl8 hq => ?_)
            obtain ⟨rfl, r9, rfl, h⟩ := hq
            exact PAt.forget h (lsub_at ⟨rfl, ⟨rfl, trivial⟩⟩)
          · rw [if_neg hc] at h ⊢
            refine px_aload_n dX11_shadow_43 rfl rfl ?_
            refine gf_X11_44 rfl dX11_shadow_44 zl_0 zk_0 rfl zr_0_5 zl_23 ?_
            refine px_callV_I (As := []) (st := []) dX11_shadow_47 lk_X11_177.1 lk_X11_177.2 (b := 23) zl_23 zk_23 (by decide) rfl (by decide) rfl (Nat.le_of_ble_eq_true rfl) rfl rfl (Nat.le_of_ble_eq_true rfl) ⟨Nat.le_refl _, Nat.le_refl _, Nat.le_refl _⟩ ?_
            refine PAt.mono h (fun v κ gi10 gl11 hq => ?_)
            obtain ⟨rfl, r12, rfl, h⟩ := hq
            refine px_goto (tgt := 60) dX11_shadow_50 (by decide) ?_
            exact PAt.forget h (lsub_at ⟨rfl, ⟨rfl, trivial⟩⟩)
        · rw [if_neg hc] at h ⊢
          refine px_ldc (v := ((-1000000) : Int32)) dX11_shadow_34 w_881 ?_
          exact px_ireturn dX11_shadow_36 rfl ⟨.int, rfl, rfl, rfl⟩ ⟨rfl, _, rfl, h⟩
set_option maxRecDepth 100000 in
theorem v_X11_shadow_60 {x4 : Int32} {s0 : Int32} {gi : Gi} {gl : Gl} {Q : Int32 → Gi → Gl → Prop}  (h : f_X11_shadow_60 x4 s0 gi gl Q) : p_X11_shadow_60 x4 s0 gi gl Q := by
  unfold f_X11_shadow_60 at h
  show PAt mX11_shadow NN NN κF 60 [some (.ref 0), none, none, none, some (.int x4), none, none, none] [.int s0] gi gl _
  refine px_istore (ls2 := [some (.ref 0), none, none, none, some (.int x4), some (.int s0), none, none]) dX11_shadow_60 (by decide) rfl ?_
  refine px_aload_n dX11_shadow_62 rfl rfl ?_
  refine gf_X11_44 rfl dX11_shadow_63 zl_0 zk_0 rfl zr_0_5 zl_23 ?_
  refine px_callV_I (As := []) (st := []) dX11_shadow_66 lk_X11_183.1 lk_X11_183.2 (b := 23) zl_23 zk_23 (by decide) rfl (by decide) rfl (Nat.le_of_ble_eq_true rfl) rfl rfl (Nat.le_of_ble_eq_true rfl) ⟨Nat.le_refl _, Nat.le_refl _, Nat.le_refl _⟩ ?_
  refine PAt.mono h (fun v κ gi1 gl2 hq => ?_)
  obtain ⟨rfl, r3, rfl, h⟩ := hq
  refine px_istore (ls2 := [some (.ref 0), none, none, none, some (.int x4), some (.int s0), some (.int r3), none]) dX11_shadow_69 (by decide) rfl ?_
  refine px_iload dX11_shadow_71 rfl ?_
  refine px_i2l dX11_shadow_73 ?_
  refine px_iload dX11_shadow_74 rfl ?_
  refine px_i2l dX11_shadow_76 ?_
  refine px_callS_L (As := [.long s0.toInt64, .long r3.toInt64]) (st := []) dX11_shadow_77 lk_X11_186.1 lk_X11_186.2 (by decide) rfl (Nat.le_of_ble_eq_true rfl) rfl rfl (Nat.le_of_ble_eq_true rfl) ⟨Nat.le_refl _, Nat.le_refl _, Nat.le_refl _⟩ ?_
  refine PAt.mono h (fun v κ gi4 gl5 hq => ?_)
  obtain ⟨rfl, r6, rfl, h⟩ := hq
  refine px_l2i dX11_shadow_80 ?_
  obtain ⟨z7, hz7⟩ : ∃ y : Int32, y = r6.toInt32 := ⟨_, rfl⟩
  have h := h z7 hz7
  refine px_namei hz7 ?_
  refine px_istore (ls2 := [some (.ref 0), none, none, none, some (.int x4), some (.int s0), some (.int r3), some (.int z7)]) dX11_shadow_81 (by decide) rfl ?_
  refine px_iload dX11_shadow_83 rfl ?_
  refine px_if_gt (tgt := 91) dX11_shadow_85 (by decide) ?_
  by_cases hc : 0 < z7
  · rw [if_pos hc] at h ⊢
    refine px_iload dX11_shadow_91 rfl ?_
    refine px_iconst (v := (2 : Int32)) dX11_shadow_93 (by decide) ?_
    refine px_irem dX11_shadow_94 (by decide) ?_
    refine px_if_ne (tgt := 106) dX11_shadow_95 (by decide) ?_
    by_cases hc : ¬ (jr x4 (2 : Int32)) = 0
    · rw [if_pos hc] at h ⊢
      refine px_iload dX11_shadow_106 rfl ?_
      refine px_iload dX11_shadow_108 rfl ?_
      obtain ⟨hne, h⟩ := h
      refine px_idiv dX11_shadow_110 hne ?_
      exact px_ireturn dX11_shadow_111 rfl ⟨.int, rfl, rfl, rfl⟩ ⟨rfl, _, rfl, h⟩
    · rw [if_neg hc] at h ⊢
      refine px_iload dX11_shadow_98 rfl ?_
      refine px_iload dX11_shadow_100 rfl ?_
      obtain ⟨hne, h⟩ := h
      refine px_idiv dX11_shadow_102 hne ?_
      refine px_goto (tgt := 111) dX11_shadow_103 (by decide) ?_
      exact px_ireturn dX11_shadow_111 rfl ⟨.int, rfl, rfl, rfl⟩ ⟨rfl, _, rfl, h⟩
  · rw [if_neg hc] at h ⊢
    refine px_ldc (v := ((-1000000) : Int32)) dX11_shadow_88 w_881 ?_
    exact px_ireturn dX11_shadow_90 rfl ⟨.int, rfl, rfl, rfl⟩ ⟨rfl, _, rfl, h⟩
def f_X11_all (x1 : Int32) (gi : Gi) (gl : Gl) (Q : Int32 → Gi → Gl → Prop) : Prop :=
p_X0_get 33 x1 gi gl (fun (o11 : Option Nat) (gi1 : Gi) (gl2 : Gl) =>
(o11 = none →
Q ((-1) : Int32) gi1 gl2) ∧
(∀ b3 : Nat, o11 = some b3 → b3 < NN → sK b3 = 5 →
p_X5_moments b3 gi1 gl2 (fun (o10 : Option Nat) (gi4 : Gi) (gl5 : Gl) =>
(o10 = none →
False) ∧
(∀ b6 : Nat, o10 = some b6 → b6 < NN → sK b6 = 4 →
p_X4_momentCount b6 gi4 gl5 (fun (r9 : Int32) (gi7 : Gi) (gl8 : Gl) =>
Q r9 gi7 gl8)))))
set_option maxRecDepth 100000 in
theorem v_X11_all {x1 : Int32} {gi : Gi} {gl : Gl} {Q : Int32 → Gi → Gl → Prop}  (h : f_X11_all x1 gi gl Q) : p_X11_all x1 gi gl Q := by
  unfold f_X11_all at h
  show PAt mX11_all NN NN κF 0 [some (.ref 0), some (.int x1), none] [] gi gl _
  refine px_aload_n dX11_all_0 rfl rfl ?_
  refine gf_X11_85 rfl dX11_all_1 zl_0 zk_0 rfl zr_0_10 zl_33 ?_
  refine px_iload_n dX11_all_4 rfl rfl ?_
  refine px_callV_A (As := [.int x1]) (st := []) dX11_all_5 lk_X11_144.1 lk_X11_144.2 (b := 33) zl_33 zk_33 (by decide) rfl (by decide) rfl (Nat.le_of_ble_eq_true rfl) ⟨_, rfl⟩ rfl (Nat.le_of_ble_eq_true rfl) ⟨Nat.le_refl _, Nat.le_refl _, Nat.le_refl _⟩ ?_
  refine PAt.mono h (fun v κ gi1 gl2 hq => ?_)
  rcases hq with ⟨rfl, ⟨rfl, hq⟩ | ⟨b3, rfl, hb3N, hb3K, hq⟩⟩
  · have h := hq.1 rfl
    refine px_astore_nN (ls2 := [some (.ref 0), some (.int x1), some (.null)]) (i := 2) rfl dX11_all_8 (by decide) rfl ?_
    refine px_aload_nN dX11_all_9 rfl rfl ?_
    refine px_ifnonnullN (tgt := 17) dX11_all_10 (by decide) ?_
    refine px_iconst (v := ((-1) : Int32)) dX11_all_13 (by decide) ?_
    refine px_goto (tgt := 24) dX11_all_14 (by decide) ?_
    exact px_ireturn dX11_all_24 rfl ⟨.int, rfl, rfl, rfl⟩ ⟨rfl, _, rfl, h⟩
  · have h := hq.2 b3 rfl hb3N hb3K
    refine px_astore_n (ls2 := [some (.ref 0), some (.int x1), some (.ref b3)]) (i := 2) rfl dX11_all_8 (by decide) rfl ?_
    refine px_aload_n dX11_all_9 rfl rfl ?_
    refine px_ifnonnull (tgt := 17) dX11_all_10 (by decide) ?_
    refine px_aload_n dX11_all_17 rfl rfl ?_
    refine px_callV_A (As := []) (st := []) dX11_all_18 lk_X11_190.1 lk_X11_190.2 (b := b3) hb3N hb3K (by decide) rfl (by decide) rfl (Nat.le_of_ble_eq_true rfl) ⟨_, rfl⟩ rfl (Nat.le_of_ble_eq_true rfl) ⟨Nat.le_refl _, Nat.le_refl _, Nat.le_refl _⟩ ?_
    refine PAt.mono h (fun v κ gi4 gl5 hq => ?_)
    rcases hq with ⟨rfl, ⟨rfl, hq⟩ | ⟨b6, rfl, hb6N, hb6K, hq⟩⟩
    · have h := hq.1 rfl
      exact h.elim
    · have h := hq.2 b6 rfl hb6N hb6K
      refine px_callV_I (As := []) (st := []) dX11_all_21 lk_X11_194.1 lk_X11_194.2 (b := b6) hb6N hb6K (by decide) rfl (by decide) rfl (Nat.le_of_ble_eq_true rfl) rfl rfl (Nat.le_of_ble_eq_true rfl) ⟨Nat.le_refl _, Nat.le_refl _, Nat.le_refl _⟩ ?_
      refine PAt.mono h (fun v κ gi7 gl8 hq => ?_)
      obtain ⟨rfl, r9, rfl, h⟩ := hq
      exact px_ireturn dX11_all_24 rfl ⟨.int, rfl, rfl, rfl⟩ ⟨rfl, _, rfl, h⟩
def f_X11_days (x1 : Int32) (x2 : Int32) (gi : Gi) (gl : Gl) (Q : Int32 → Gi → Gl → Prop) : Prop :=
p_X0_get 33 x1 gi gl (fun (o18 : Option Nat) (gi1 : Gi) (gl2 : Gl) =>
(o18 = none →
Q ((-1) : Int32) gi1 gl2) ∧
(∀ b3 : Nat, o18 = some b3 → b3 < NN → sK b3 = 5 →
if ((-1) : Int32) ≤ x2 then
(if ¬ x2 = ((-1) : Int32) then
(p_X5_moments b3 gi1 gl2 (fun (o10 : Option Nat) (gi4 : Gi) (gl5 : Gl) =>
(o10 = none →
False) ∧
(∀ b6 : Nat, o10 = some b6 → b6 < NN → sK b6 = 4 →
p_X4_dayAt b6 x2 gi4 gl5 (fun (r9 : Int32) (gi7 : Gi) (gl8 : Gl) =>
Q r9 gi7 gl8))))
else
(p_X5_moments b3 gi1 gl2 (fun (o17 : Option Nat) (gi11 : Gi) (gl12 : Gl) =>
(o17 = none →
False) ∧
(∀ b13 : Nat, o17 = some b13 → b13 < NN → sK b13 = 4 →
p_X4_dayCount b13 gi11 gl12 (fun (r16 : Int32) (gi14 : Gi) (gl15 : Gl) =>
Q r16 gi14 gl15)))))
else
(Q ((-1) : Int32) gi1 gl2)))
set_option maxRecDepth 100000 in
theorem v_X11_days {x1 : Int32} {x2 : Int32} {gi : Gi} {gl : Gl} {Q : Int32 → Gi → Gl → Prop}  (h : f_X11_days x1 x2 gi gl Q) : p_X11_days x1 x2 gi gl Q := by
  unfold f_X11_days at h
  show PAt mX11_days NN NN κF 0 [some (.ref 0), some (.int x1), some (.int x2), none] [] gi gl _
  refine px_aload_n dX11_days_0 rfl rfl ?_
  refine gf_X11_85 rfl dX11_days_1 zl_0 zk_0 rfl zr_0_10 zl_33 ?_
  refine px_iload_n dX11_days_4 rfl rfl ?_
  refine px_callV_A (As := [.int x1]) (st := []) dX11_days_5 lk_X11_144.1 lk_X11_144.2 (b := 33) zl_33 zk_33 (by decide) rfl (by decide) rfl (Nat.le_of_ble_eq_true rfl) ⟨_, rfl⟩ rfl (Nat.le_of_ble_eq_true rfl) ⟨Nat.le_refl _, Nat.le_refl _, Nat.le_refl _⟩ ?_
  refine PAt.mono h (fun v κ gi1 gl2 hq => ?_)
  rcases hq with ⟨rfl, ⟨rfl, hq⟩ | ⟨b3, rfl, hb3N, hb3K, hq⟩⟩
  · have h := hq.1 rfl
    refine px_astore_nN (ls2 := [some (.ref 0), some (.int x1), some (.int x2), some (.null)]) (i := 3) rfl dX11_days_8 (by decide) rfl ?_
    refine px_aload_nN dX11_days_9 rfl rfl ?_
    refine px_ifnullN (tgt := 18) dX11_days_10 (by decide) ?_
    refine px_iconst (v := ((-1) : Int32)) dX11_days_18 (by decide) ?_
    exact px_ireturn dX11_days_19 rfl ⟨.int, rfl, rfl, rfl⟩ ⟨rfl, _, rfl, h⟩
  · have h := hq.2 b3 rfl hb3N hb3K
    refine px_astore_n (ls2 := [some (.ref 0), some (.int x1), some (.int x2), some (.ref b3)]) (i := 3) rfl dX11_days_8 (by decide) rfl ?_
    refine px_aload_n dX11_days_9 rfl rfl ?_
    refine px_ifnull (tgt := 18) dX11_days_10 (by decide) ?_
    refine px_iload_n dX11_days_13 rfl rfl ?_
    refine px_iconst (v := ((-1) : Int32)) dX11_days_14 (by decide) ?_
    refine px_icmp_ge (tgt := 20) dX11_days_15 (by decide) ?_
    by_cases hc : ((-1) : Int32) ≤ x2
    · rw [if_pos hc] at h ⊢
      refine px_iload_n dX11_days_20 rfl rfl ?_
      refine px_iconst (v := ((-1) : Int32)) dX11_days_21 (by decide) ?_
      refine px_icmp_ne (tgt := 35) dX11_days_22 (by decide) ?_
      by_cases hc : ¬ x2 = ((-1) : Int32)
      · rw [if_pos hc] at h ⊢
        refine px_aload_n dX11_days_35 rfl rfl ?_
        refine px_callV_A (As := []) (st := []) dX11_days_36 lk_X11_190.1 lk_X11_190.2 (b := b3) hb3N hb3K (by decide) rfl (by decide) rfl (Nat.le_of_ble_eq_true rfl) ⟨_, rfl⟩ rfl (Nat.le_of_ble_eq_true rfl) ⟨Nat.le_refl _, Nat.le_refl _, Nat.le_refl _⟩ ?_
        refine PAt.mono h (fun v κ gi4 gl5 hq => ?_)
        rcases hq with ⟨rfl, ⟨rfl, hq⟩ | ⟨b6, rfl, hb6N, hb6K, hq⟩⟩
        · have h := hq.1 rfl
          refine px_iload_n dX11_days_39 rfl rfl ?_
          exact h.elim
        · have h := hq.2 b6 rfl hb6N hb6K
          refine px_iload_n dX11_days_39 rfl rfl ?_
          refine px_callV_I (As := [.int x2]) (st := []) dX11_days_40 lk_X11_202.1 lk_X11_202.2 (b := b6) hb6N hb6K (by decide) rfl (by decide) rfl (Nat.le_of_ble_eq_true rfl) rfl rfl (Nat.le_of_ble_eq_true rfl) ⟨Nat.le_refl _, Nat.le_refl _, Nat.le_refl _⟩ ?_
          refine PAt.mono h (fun v κ gi7 gl8 hq => ?_)
          obtain ⟨rfl, r9, rfl, h⟩ := hq
          exact px_ireturn dX11_days_43 rfl ⟨.int, rfl, rfl, rfl⟩ ⟨rfl, _, rfl, h⟩
      · rw [if_neg hc] at h ⊢
        refine px_aload_n dX11_days_25 rfl rfl ?_
        refine px_callV_A (As := []) (st := []) dX11_days_26 lk_X11_190.1 lk_X11_190.2 (b := b3) hb3N hb3K (by decide) rfl (by decide) rfl (Nat.le_of_ble_eq_true rfl) ⟨_, rfl⟩ rfl (Nat.le_of_ble_eq_true rfl) ⟨Nat.le_refl _, Nat.le_refl _, Nat.le_refl _⟩ ?_
        refine PAt.mono h (fun v κ gi11 gl12 hq => ?_)
        rcases hq with ⟨rfl, ⟨rfl, hq⟩ | ⟨b13, rfl, hb13N, hb13K, hq⟩⟩
        · have h := hq.1 rfl
          exact h.elim
        · have h := hq.2 b13 rfl hb13N hb13K
          refine px_callV_I (As := []) (st := []) dX11_days_29 lk_X11_199.1 lk_X11_199.2 (b := b13) hb13N hb13K (by decide) rfl (by decide) rfl (Nat.le_of_ble_eq_true rfl) rfl rfl (Nat.le_of_ble_eq_true rfl) ⟨Nat.le_refl _, Nat.le_refl _, Nat.le_refl _⟩ ?_
          refine PAt.mono h (fun v κ gi14 gl15 hq => ?_)
          obtain ⟨rfl, r16, rfl, h⟩ := hq
          refine px_goto (tgt := 43) dX11_days_32 (by decide) ?_
          exact px_ireturn dX11_days_43 rfl ⟨.int, rfl, rfl, rfl⟩ ⟨rfl, _, rfl, h⟩
    · rw [if_neg hc] at h ⊢
      refine px_iconst (v := ((-1) : Int32)) dX11_days_18 (by decide) ?_
      exact px_ireturn dX11_days_19 rfl ⟨.int, rfl, rfl, rfl⟩ ⟨rfl, _, rfl, h⟩
def f_X11_runs (x1 : Int32) (x2 : Int32) (x3 : Int32) (gi : Gi) (gl : Gl) (Q : Int32 → Gi → Gl → Prop) : Prop :=
p_X0_get 33 x1 gi gl (fun (o18 : Option Nat) (gi1 : Gi) (gl2 : Gl) =>
(o18 = none →
Q ((-1) : Int32) gi1 gl2) ∧
(∀ b3 : Nat, o18 = some b3 → b3 < NN → sK b3 = 5 →
if ((-1) : Int32) ≤ x2 then
(if ¬ x2 = ((-1) : Int32) then
(p_X5_moments b3 gi1 gl2 (fun (o10 : Option Nat) (gi4 : Gi) (gl5 : Gl) =>
(o10 = none →
False) ∧
(∀ b6 : Nat, o10 = some b6 → b6 < NN → sK b6 = 4 →
p_X4_runAt b6 x2 x3 gi4 gl5 (fun (r9 : Int32) (gi7 : Gi) (gl8 : Gl) =>
Q r9 gi7 gl8))))
else
(if ¬ x3 = 0 then
(Q ((-1) : Int32) gi1 gl2)
else
(p_X5_moments b3 gi1 gl2 (fun (o17 : Option Nat) (gi11 : Gi) (gl12 : Gl) =>
(o17 = none →
False) ∧
(∀ b13 : Nat, o17 = some b13 → b13 < NN → sK b13 = 4 →
p_X4_runCount b13 gi11 gl12 (fun (r16 : Int32) (gi14 : Gi) (gl15 : Gl) =>
Q r16 gi14 gl15))))))
else
(Q ((-1) : Int32) gi1 gl2)))
set_option maxRecDepth 100000 in
theorem v_X11_runs {x1 : Int32} {x2 : Int32} {x3 : Int32} {gi : Gi} {gl : Gl} {Q : Int32 → Gi → Gl → Prop}  (h : f_X11_runs x1 x2 x3 gi gl Q) : p_X11_runs x1 x2 x3 gi gl Q := by
  unfold f_X11_runs at h
  show PAt mX11_runs NN NN κF 0 [some (.ref 0), some (.int x1), some (.int x2), some (.int x3), none] [] gi gl _
  refine px_aload_n dX11_runs_0 rfl rfl ?_
  refine gf_X11_85 rfl dX11_runs_1 zl_0 zk_0 rfl zr_0_10 zl_33 ?_
  refine px_iload_n dX11_runs_4 rfl rfl ?_
  refine px_callV_A (As := [.int x1]) (st := []) dX11_runs_5 lk_X11_144.1 lk_X11_144.2 (b := 33) zl_33 zk_33 (by decide) rfl (by decide) rfl (Nat.le_of_ble_eq_true rfl) ⟨_, rfl⟩ rfl (Nat.le_of_ble_eq_true rfl) ⟨Nat.le_refl _, Nat.le_refl _, Nat.le_refl _⟩ ?_
  refine PAt.mono h (fun v κ gi1 gl2 hq => ?_)
  rcases hq with ⟨rfl, ⟨rfl, hq⟩ | ⟨b3, rfl, hb3N, hb3K, hq⟩⟩
  · have h := hq.1 rfl
    refine px_astoreN (ls2 := [some (.ref 0), some (.int x1), some (.int x2), some (.int x3), some (.null)]) dX11_runs_8 (by decide) rfl ?_
    refine px_aloadN dX11_runs_10 rfl ?_
    refine px_ifnullN (tgt := 20) dX11_runs_12 (by decide) ?_
    refine px_iconst (v := ((-1) : Int32)) dX11_runs_20 (by decide) ?_
    exact px_ireturn dX11_runs_21 rfl ⟨.int, rfl, rfl, rfl⟩ ⟨rfl, _, rfl, h⟩
  · have h := hq.2 b3 rfl hb3N hb3K
    refine px_astore (ls2 := [some (.ref 0), some (.int x1), some (.int x2), some (.int x3), some (.ref b3)]) dX11_runs_8 (by decide) rfl ?_
    refine px_aload dX11_runs_10 rfl ?_
    refine px_ifnull (tgt := 20) dX11_runs_12 (by decide) ?_
    refine px_iload_n dX11_runs_15 rfl rfl ?_
    refine px_iconst (v := ((-1) : Int32)) dX11_runs_16 (by decide) ?_
    refine px_icmp_ge (tgt := 22) dX11_runs_17 (by decide) ?_
    by_cases hc : ((-1) : Int32) ≤ x2
    · rw [if_pos hc] at h ⊢
      refine px_iload_n dX11_runs_22 rfl rfl ?_
      refine px_iconst (v := ((-1) : Int32)) dX11_runs_23 (by decide) ?_
      refine px_icmp_ne (tgt := 44) dX11_runs_24 (by decide) ?_
      by_cases hc : ¬ x2 = ((-1) : Int32)
      · rw [if_pos hc] at h ⊢
        refine px_aload dX11_runs_44 rfl ?_
        refine px_callV_A (As := []) (st := []) dX11_runs_46 lk_X11_190.1 lk_X11_190.2 (b := b3) hb3N hb3K (by decide) rfl (by decide) rfl (Nat.le_of_ble_eq_true rfl) ⟨_, rfl⟩ rfl (Nat.le_of_ble_eq_true rfl) ⟨Nat.le_refl _, Nat.le_refl _, Nat.le_refl _⟩ ?_
        refine PAt.mono h (fun v κ gi4 gl5 hq => ?_)
        rcases hq with ⟨rfl, ⟨rfl, hq⟩ | ⟨b6, rfl, hb6N, hb6K, hq⟩⟩
        · have h := hq.1 rfl
          refine px_iload_n dX11_runs_49 rfl rfl ?_
          refine px_iload_n dX11_runs_50 rfl rfl ?_
          exact h.elim
        · have h := hq.2 b6 rfl hb6N hb6K
          refine px_iload_n dX11_runs_49 rfl rfl ?_
          refine px_iload_n dX11_runs_50 rfl rfl ?_
          refine px_callV_I (As := [.int x2, .int x3]) (st := []) dX11_runs_51 lk_X11_208.1 lk_X11_208.2 (b := b6) hb6N hb6K (by decide) rfl (by decide) rfl (Nat.le_of_ble_eq_true rfl) rfl rfl (Nat.le_of_ble_eq_true rfl) ⟨Nat.le_refl _, Nat.le_refl _, Nat.le_refl _⟩ ?_
          refine PAt.mono h (fun v κ gi7 gl8 hq => ?_)
          obtain ⟨rfl, r9, rfl, h⟩ := hq
          exact px_ireturn dX11_runs_54 rfl ⟨.int, rfl, rfl, rfl⟩ ⟨rfl, _, rfl, h⟩
      · rw [if_neg hc] at h ⊢
        refine px_iload_n dX11_runs_27 rfl rfl ?_
        refine px_if_ne (tgt := 42) dX11_runs_28 (by decide) ?_
        by_cases hc : ¬ x3 = 0
        · rw [if_pos hc] at h ⊢
          refine px_iconst (v := ((-1) : Int32)) dX11_runs_42 (by decide) ?_
          exact px_ireturn dX11_runs_43 rfl ⟨.int, rfl, rfl, rfl⟩ ⟨rfl, _, rfl, h⟩
        · rw [if_neg hc] at h ⊢
          refine px_aload dX11_runs_31 rfl ?_
          refine px_callV_A (As := []) (st := []) dX11_runs_33 lk_X11_190.1 lk_X11_190.2 (b := b3) hb3N hb3K (by decide) rfl (by decide) rfl (Nat.le_of_ble_eq_true rfl) ⟨_, rfl⟩ rfl (Nat.le_of_ble_eq_true rfl) ⟨Nat.le_refl _, Nat.le_refl _, Nat.le_refl _⟩ ?_
          refine PAt.mono h (fun v κ gi11 gl12 hq => ?_)
          rcases hq with ⟨rfl, ⟨rfl, hq⟩ | ⟨b13, rfl, hb13N, hb13K, hq⟩⟩
          · have h := hq.1 rfl
            exact h.elim
          · have h := hq.2 b13 rfl hb13N hb13K
            refine px_callV_I (As := []) (st := []) dX11_runs_36 lk_X11_205.1 lk_X11_205.2 (b := b13) hb13N hb13K (by decide) rfl (by decide) rfl (Nat.le_of_ble_eq_true rfl) rfl rfl (Nat.le_of_ble_eq_true rfl) ⟨Nat.le_refl _, Nat.le_refl _, Nat.le_refl _⟩ ?_
            refine PAt.mono h (fun v κ gi14 gl15 hq => ?_)
            obtain ⟨rfl, r16, rfl, h⟩ := hq
            refine px_goto (tgt := 43) dX11_runs_39 (by decide) ?_
            exact px_ireturn dX11_runs_43 rfl ⟨.int, rfl, rfl, rfl⟩ ⟨rfl, _, rfl, h⟩
    · rw [if_neg hc] at h ⊢
      refine px_iconst (v := ((-1) : Int32)) dX11_runs_20 (by decide) ?_
      exact px_ireturn dX11_runs_21 rfl ⟨.int, rfl, rfl, rfl⟩ ⟨rfl, _, rfl, h⟩
abbrev p_X11_judge_29 (b3 : Nat) (x2 : Int32) (x3 : Int32) (x5 : Int32) (gi : Gi) (gl : Gl) (Q : Int32 → Gi → Gl → Prop) : Prop := PAt mX11_judge NN NN κF 29 [some (.ref 0), none, some (.int x2), some (.int x3), some (.ref b3), some (.int x5)] [] gi gl (RiQ Q)
def f_X11_judge (x1 : Int32) (x2 : Int32) (x3 : Int32) (gi : Gi) (gl : Gl) (Q : Int32 → Gi → Gl → Prop) : Prop :=
p_X0_get 33 x1 gi gl (fun (o7 : Option Nat) (gi1 : Gi) (gl2 : Gl) =>
(o7 = none →
Q ((-2) : Int32) gi1 gl2) ∧
(∀ b3 : Nat, o7 = some b3 → b3 < NN → sK b3 = 5 →
p_X11_isMoment x2 x3 gi1 gl2 (fun (r6 : Int32) (gi4 : Gi) (gl5 : Gl) =>
if ¬ r6 = 0 then
(p_X11_judge_29 b3 x2 x3 (0 : Int32) gi4 gl5 Q)
else
(Q ((-2) : Int32) gi4 gl5))))
def f_X11_judge_29 (b3 : Nat) (x2 : Int32) (x3 : Int32) (x5 : Int32) (gi : Gi) (gl : Gl) (Q : Int32 → Gi → Gl → Prop) : Prop :=
p_X5_size b3 gi gl (fun (r3 : Int32) (gi1 : Gi) (gl2 : Gl) =>
if r3 ≤ x5 then
(Q ((-1) : Int32) gi1 gl2)
else
(p_X2_allows b3 x5 x2 x3 gi1 gl2 (fun (r6 : Int32) (gi4 : Gi) (gl5 : Gl) =>
if ¬ r6 = 0 then
(p_X11_judge_29 b3 x2 x3 (x5 + (1 : Int32)) gi4 gl5 Q)
else
(Q x5 gi4 gl5))))
set_option maxRecDepth 100000 in
theorem v_X11_judge {x1 : Int32} {x2 : Int32} {x3 : Int32} {gi : Gi} {gl : Gl} {Q : Int32 → Gi → Gl → Prop}  (h : f_X11_judge x1 x2 x3 gi gl Q) : p_X11_judge x1 x2 x3 gi gl Q := by
  unfold f_X11_judge at h
  show PAt mX11_judge NN NN κF 0 [some (.ref 0), some (.int x1), some (.int x2), some (.int x3), none, none] [] gi gl _
  refine px_aload_n dX11_judge_0 rfl rfl ?_
  refine gf_X11_85 rfl dX11_judge_1 zl_0 zk_0 rfl zr_0_10 zl_33 ?_
  refine px_iload_n dX11_judge_4 rfl rfl ?_
  refine px_callV_A (As := [.int x1]) (st := []) dX11_judge_5 lk_X11_144.1 lk_X11_144.2 (b := 33) zl_33 zk_33 (by decide) rfl (by decide) rfl (Nat.le_of_ble_eq_true rfl) ⟨_, rfl⟩ rfl (Nat.le_of_ble_eq_true rfl) ⟨Nat.le_refl _, Nat.le_refl _, Nat.le_refl _⟩ ?_
  refine PAt.mono h (fun v κ gi1 gl2 hq => ?_)
  rcases hq with ⟨rfl, ⟨rfl, hq⟩ | ⟨b3, rfl, hb3N, hb3K, hq⟩⟩
  · have h := hq.1 rfl
    refine px_astoreN (ls2 := [some (.ref 0), some (.int x1), some (.int x2), some (.int x3), some (.null), none]) dX11_judge_8 (by decide) rfl ?_
    refine px_aloadN dX11_judge_10 rfl ?_
    refine px_ifnullN (tgt := 23) dX11_judge_12 (by decide) ?_
    refine px_bipush (v := ((-2) : Int32)) dX11_judge_23 (by decide) ?_
    exact px_ireturn dX11_judge_25 rfl ⟨.int, rfl, rfl, rfl⟩ ⟨rfl, _, rfl, h⟩
  · have h := hq.2 b3 rfl hb3N hb3K
    refine px_astore (ls2 := [some (.ref 0), some (.int x1), some (.int x2), some (.int x3), some (.ref b3), none]) dX11_judge_8 (by decide) rfl ?_
    refine px_aload dX11_judge_10 rfl ?_
    refine px_ifnull (tgt := 23) dX11_judge_12 (by decide) ?_
    refine px_iload_n dX11_judge_15 rfl rfl ?_
    refine px_iload_n dX11_judge_16 rfl rfl ?_
    refine px_callS_I (As := [.int x2, .int x3]) (st := []) dX11_judge_17 lk_X11_162.1 lk_X11_162.2 (by decide) rfl (Nat.le_of_ble_eq_true rfl) rfl rfl (Nat.le_of_ble_eq_true rfl) ⟨Nat.le_refl _, Nat.le_refl _, Nat.le_refl _⟩ ?_
    refine PAt.mono h (fun v κ gi4 gl5 hq => ?_)
    obtain ⟨rfl, r6, rfl, h⟩ := hq
    refine px_if_ne (tgt := 26) dX11_judge_20 (by decide) ?_
    by_cases hc : ¬ r6 = 0
    · rw [if_pos hc] at h ⊢
      refine px_iconst (v := (0 : Int32)) dX11_judge_26 (by decide) ?_
      refine px_istore (ls2 := [some (.ref 0), some (.int x1), some (.int x2), some (.int x3), some (.ref b3), some (.int (0 : Int32))]) dX11_judge_27 (by decide) rfl ?_
      exact PAt.forget h (lsub_at ⟨rfl, ⟨rfl, ⟨rfl, ⟨rfl, ⟨rfl, trivial⟩⟩⟩⟩⟩)
    · rw [if_neg hc] at h ⊢
      refine px_bipush (v := ((-2) : Int32)) dX11_judge_23 (by decide) ?_
      exact px_ireturn dX11_judge_25 rfl ⟨.int, rfl, rfl, rfl⟩ ⟨rfl, _, rfl, h⟩
set_option maxRecDepth 100000 in
theorem v_X11_judge_29 {b3 : Nat} {x2 : Int32} {x3 : Int32} {x5 : Int32} {gi : Gi} {gl : Gl} {Q : Int32 → Gi → Gl → Prop} (hb3N : b3 < NN) (hb3K : sK b3 = 5) (h : f_X11_judge_29 b3 x2 x3 x5 gi gl Q) : p_X11_judge_29 b3 x2 x3 x5 gi gl Q := by
  unfold f_X11_judge_29 at h
  show PAt mX11_judge NN NN κF 29 [some (.ref 0), none, some (.int x2), some (.int x3), some (.ref b3), some (.int x5)] [] gi gl _
  refine px_iload dX11_judge_29 rfl ?_
  refine px_aload dX11_judge_31 rfl ?_
  refine px_callV_I (As := []) (st := [.int x5]) dX11_judge_33 lk_X11_150.1 lk_X11_150.2 (b := b3) hb3N hb3K (by decide) rfl (by decide) rfl (Nat.le_of_ble_eq_true rfl) rfl rfl (Nat.le_of_ble_eq_true rfl) ⟨Nat.le_refl _, Nat.le_refl _, Nat.le_refl _⟩ ?_
  refine PAt.mono h (fun v κ gi1 gl2 hq => ?_)
  obtain ⟨rfl, r3, rfl, h⟩ := hq
  refine px_icmp_ge (tgt := 64) dX11_judge_36 (by decide) ?_
  by_cases hc : r3 ≤ x5
  · rw [if_pos hc] at h ⊢
    refine px_iconst (v := ((-1) : Int32)) dX11_judge_64 (by decide) ?_
    exact px_ireturn dX11_judge_65 rfl ⟨.int, rfl, rfl, rfl⟩ ⟨rfl, _, rfl, h⟩
  · rw [if_neg hc] at h ⊢
    refine px_aload_n dX11_judge_39 rfl rfl ?_
    refine gf_X11_53 rfl dX11_judge_40 zl_0 zk_0 rfl zr_0_6 zl_24 ?_
    refine px_aload dX11_judge_43 rfl ?_
    refine px_iload dX11_judge_45 rfl ?_
    refine px_iload_n dX11_judge_47 rfl rfl ?_
    refine px_iload_n dX11_judge_48 rfl rfl ?_
    refine px_callV_I (As := [.ref b3, .int x5, .int x2, .int x3]) (st := []) dX11_judge_49 lk_X11_166.1 lk_X11_166.2 (b := 24) zl_24 zk_24 (by decide) rfl (by decide) rfl (Nat.le_of_ble_eq_true rfl) rfl rfl (Nat.le_of_ble_eq_true rfl) ⟨Nat.le_refl _, Nat.le_refl _, Nat.le_refl _⟩ ?_
    refine PAt.mono h (fun v κ gi4 gl5 hq => ?_)
    obtain ⟨rfl, r6, rfl, h⟩ := hq
    refine px_if_ne (tgt := 58) dX11_judge_52 (by decide) ?_
    by_cases hc : ¬ r6 = 0
    · rw [if_pos hc] at h ⊢
      refine px_iinc (v := x5 + (1 : Int32)) (ls2 := [some (.ref 0), none, some (.int x2), some (.int x3), some (.ref b3), some (.int (x5 + (1 : Int32)))]) dX11_judge_58 rfl rfl (by decide) rfl ?_
      refine px_goto (tgt := 29) dX11_judge_61 (by decide) ?_
      exact PAt.forget h (lsub_at ⟨rfl, ⟨rfl, ⟨rfl, ⟨rfl, ⟨rfl, trivial⟩⟩⟩⟩⟩)
    · rw [if_neg hc] at h ⊢
      refine px_iload dX11_judge_55 rfl ?_
      exact px_ireturn dX11_judge_57 rfl ⟨.int, rfl, rfl, rfl⟩ ⟨rfl, _, rfl, h⟩
def f_X11_quarrel (x1 : Int32) (gi : Gi) (gl : Gl) (Q : Int32 → Gi → Gl → Prop) : Prop :=
p_X0_get 33 x1 gi gl (fun (o9 : Option Nat) (gi1 : Gi) (gl2 : Gl) =>
(o9 = none →
Q ((-1) : Int32) gi1 gl2) ∧
(∀ b3 : Nat, o9 = some b3 → b3 < NN → sK b3 = 5 →
p_X6_weigh b3 gi1 gl2 (fun (gi4 : Gi) (gl5 : Gl) =>
p_X6_smallestQuarrel  gi4 gl5 (fun (r8 : Int32) (gi6 : Gi) (gl7 : Gl) =>
Q r8 gi6 gl7))))
set_option maxRecDepth 100000 in
theorem v_X11_quarrel {x1 : Int32} {gi : Gi} {gl : Gl} {Q : Int32 → Gi → Gl → Prop}  (h : f_X11_quarrel x1 gi gl Q) : p_X11_quarrel x1 gi gl Q := by
  unfold f_X11_quarrel at h
  show PAt mX11_quarrel NN NN κF 0 [some (.ref 0), some (.int x1), none] [] gi gl _
  refine px_aload_n dX11_quarrel_0 rfl rfl ?_
  refine gf_X11_85 rfl dX11_quarrel_1 zl_0 zk_0 rfl zr_0_10 zl_33 ?_
  refine px_iload_n dX11_quarrel_4 rfl rfl ?_
  refine px_callV_A (As := [.int x1]) (st := []) dX11_quarrel_5 lk_X11_144.1 lk_X11_144.2 (b := 33) zl_33 zk_33 (by decide) rfl (by decide) rfl (Nat.le_of_ble_eq_true rfl) ⟨_, rfl⟩ rfl (Nat.le_of_ble_eq_true rfl) ⟨Nat.le_refl _, Nat.le_refl _, Nat.le_refl _⟩ ?_
  refine PAt.mono h (fun v κ gi1 gl2 hq => ?_)
  rcases hq with ⟨rfl, ⟨rfl, hq⟩ | ⟨b3, rfl, hb3N, hb3K, hq⟩⟩
  · have h := hq.1 rfl
    refine px_astore_nN (ls2 := [some (.ref 0), some (.int x1), some (.null)]) (i := 2) rfl dX11_quarrel_8 (by decide) rfl ?_
    refine px_aload_nN dX11_quarrel_9 rfl rfl ?_
    refine px_ifnonnullN (tgt := 15) dX11_quarrel_10 (by decide) ?_
    refine px_iconst (v := ((-1) : Int32)) dX11_quarrel_13 (by decide) ?_
    exact px_ireturn dX11_quarrel_14 rfl ⟨.int, rfl, rfl, rfl⟩ ⟨rfl, _, rfl, h⟩
  · have h := hq.2 b3 rfl hb3N hb3K
    refine px_astore_n (ls2 := [some (.ref 0), some (.int x1), some (.ref b3)]) (i := 2) rfl dX11_quarrel_8 (by decide) rfl ?_
    refine px_aload_n dX11_quarrel_9 rfl rfl ?_
    refine px_ifnonnull (tgt := 15) dX11_quarrel_10 (by decide) ?_
    refine px_aload_n dX11_quarrel_15 rfl rfl ?_
    refine gf_X11_62 rfl dX11_quarrel_16 zl_0 zk_0 rfl zr_0_7 zl_25 ?_
    refine px_aload_n dX11_quarrel_19 rfl rfl ?_
    refine px_callV_V (As := [.ref b3]) (st := []) dX11_quarrel_20 lk_X11_211.1 lk_X11_211.2 (b := 25) zl_25 zk_25 (by decide) rfl (by decide) rfl (Nat.le_of_ble_eq_true rfl) rfl rfl (Nat.le_of_ble_eq_true rfl) ⟨Nat.le_refl _, Nat.le_refl _, Nat.le_refl _⟩ ?_
    refine PAt.mono h (fun v κ gi4 gl5 hq => ?_)
    obtain ⟨rfl, -, h⟩ := hq
    refine px_aload_n dX11_quarrel_23 rfl rfl ?_
    refine gf_X11_62 rfl dX11_quarrel_24 zl_0 zk_0 rfl zr_0_7 zl_25 ?_
    refine px_callV_I (As := []) (st := []) dX11_quarrel_27 lk_X11_214.1 lk_X11_214.2 (b := 25) zl_25 zk_25 (by decide) rfl (by decide) rfl (Nat.le_of_ble_eq_true rfl) rfl rfl (Nat.le_of_ble_eq_true rfl) ⟨Nat.le_refl _, Nat.le_refl _, Nat.le_refl _⟩ ?_
    refine PAt.mono h (fun v κ gi6 gl7 hq => ?_)
    obtain ⟨rfl, r8, rfl, h⟩ := hq
    exact px_ireturn dX11_quarrel_30 rfl ⟨.int, rfl, rfl, rfl⟩ ⟨rfl, _, rfl, h⟩
def f_X11_doubt (x1 : Int32) (x2 : Int32) (gi : Gi) (gl : Gl) (Q : Int32 → Gi → Gl → Prop) : Prop :=
p_X0_get 33 x1 gi gl (fun (o12 : Option Nat) (gi1 : Gi) (gl2 : Gl) =>
(o12 = none →
Q ((-1) : Int32) gi1 gl2) ∧
(∀ b3 : Nat, o12 = some b3 → b3 < NN → sK b3 = 5 →
if x2 < 0 then
(Q ((-1) : Int32) gi1 gl2)
else
(if x2 ≤ (1 : Int32) then
(p_X6_weigh b3 gi1 gl2 (fun (gi4 : Gi) (gl5 : Gl) =>
if ¬ x2 = 0 then
(p_X6_rivals  gi4 gl5 (fun (r8 : Int32) (gi6 : Gi) (gl7 : Gl) =>
Q r8 gi6 gl7))
else
(p_X6_smallestDoubt  gi4 gl5 (fun (r11 : Int32) (gi9 : Gi) (gl10 : Gl) =>
Q r11 gi9 gl10))))
else
(Q ((-1) : Int32) gi1 gl2))))
set_option maxRecDepth 100000 in
theorem v_X11_doubt {x1 : Int32} {x2 : Int32} {gi : Gi} {gl : Gl} {Q : Int32 → Gi → Gl → Prop}  (h : f_X11_doubt x1 x2 gi gl Q) : p_X11_doubt x1 x2 gi gl Q := by
  unfold f_X11_doubt at h
  show PAt mX11_doubt NN NN κF 0 [some (.ref 0), some (.int x1), some (.int x2), none] [] gi gl _
  refine px_aload_n dX11_doubt_0 rfl rfl ?_
  refine gf_X11_85 rfl dX11_doubt_1 zl_0 zk_0 rfl zr_0_10 zl_33 ?_
  refine px_iload_n dX11_doubt_4 rfl rfl ?_
  refine px_callV_A (As := [.int x1]) (st := []) dX11_doubt_5 lk_X11_144.1 lk_X11_144.2 (b := 33) zl_33 zk_33 (by decide) rfl (by decide) rfl (Nat.le_of_ble_eq_true rfl) ⟨_, rfl⟩ rfl (Nat.le_of_ble_eq_true rfl) ⟨Nat.le_refl _, Nat.le_refl _, Nat.le_refl _⟩ ?_
  refine PAt.mono h (fun v κ gi1 gl2 hq => ?_)
  rcases hq with ⟨rfl, ⟨rfl, hq⟩ | ⟨b3, rfl, hb3N, hb3K, hq⟩⟩
  · have h := hq.1 rfl
    refine px_astore_nN (ls2 := [some (.ref 0), some (.int x1), some (.int x2), some (.null)]) (i := 3) rfl dX11_doubt_8 (by decide) rfl ?_
    refine px_aload_nN dX11_doubt_9 rfl rfl ?_
    refine px_ifnullN (tgt := 22) dX11_doubt_10 (by decide) ?_
    refine px_iconst (v := ((-1) : Int32)) dX11_doubt_22 (by decide) ?_
    exact px_ireturn dX11_doubt_23 rfl ⟨.int, rfl, rfl, rfl⟩ ⟨rfl, _, rfl, h⟩
  · have h := hq.2 b3 rfl hb3N hb3K
    refine px_astore_n (ls2 := [some (.ref 0), some (.int x1), some (.int x2), some (.ref b3)]) (i := 3) rfl dX11_doubt_8 (by decide) rfl ?_
    refine px_aload_n dX11_doubt_9 rfl rfl ?_
    refine px_ifnull (tgt := 22) dX11_doubt_10 (by decide) ?_
    refine px_iload_n dX11_doubt_13 rfl rfl ?_
    refine px_if_lt (tgt := 22) dX11_doubt_14 (by decide) ?_
    by_cases hc : x2 < 0
    · rw [if_pos hc] at h ⊢
      refine px_iconst (v := ((-1) : Int32)) dX11_doubt_22 (by decide) ?_
      exact px_ireturn dX11_doubt_23 rfl ⟨.int, rfl, rfl, rfl⟩ ⟨rfl, _, rfl, h⟩
    · rw [if_neg hc] at h ⊢
      refine px_iload_n dX11_doubt_17 rfl rfl ?_
      refine px_iconst (v := (1 : Int32)) dX11_doubt_18 (by decide) ?_
      refine px_icmp_le (tgt := 24) dX11_doubt_19 (by decide) ?_
      by_cases hc : x2 ≤ (1 : Int32)
      · rw [if_pos hc] at h ⊢
        refine px_aload_n dX11_doubt_24 rfl rfl ?_
        refine gf_X11_62 rfl dX11_doubt_25 zl_0 zk_0 rfl zr_0_7 zl_25 ?_
        refine px_aload_n dX11_doubt_28 rfl rfl ?_
        refine px_callV_V (As := [.ref b3]) (st := []) dX11_doubt_29 lk_X11_211.1 lk_X11_211.2 (b := 25) zl_25 zk_25 (by decide) rfl (by decide) rfl (Nat.le_of_ble_eq_true rfl) rfl rfl (Nat.le_of_ble_eq_true rfl) ⟨Nat.le_refl _, Nat.le_refl _, Nat.le_refl _⟩ ?_
        refine PAt.mono h (fun v κ gi4 gl5 hq => ?_)
        obtain ⟨rfl, -, h⟩ := hq
        refine px_iload_n dX11_doubt_32 rfl rfl ?_
        refine px_if_ne (tgt := 46) dX11_doubt_33 (by decide) ?_
        by_cases hc : ¬ x2 = 0
        · rw [if_pos hc] at h ⊢
          refine px_aload_n dX11_doubt_46 rfl rfl ?_
          refine gf_X11_62 rfl dX11_doubt_47 zl_0 zk_0 rfl zr_0_7 zl_25 ?_
          refine px_callV_I (As := []) (st := []) dX11_doubt_50 lk_X11_220.1 lk_X11_220.2 (b := 25) zl_25 zk_25 (by decide) rfl (by decide) rfl (Nat.le_of_ble_eq_true rfl) rfl rfl (Nat.le_of_ble_eq_true rfl) ⟨Nat.le_refl _, Nat.le_refl _, Nat.le_refl _⟩ ?_
          refine PAt.mono h (fun v κ gi6 gl7 hq => ?_)
          obtain ⟨rfl, r8, rfl, h⟩ := hq
          exact px_ireturn dX11_doubt_53 rfl ⟨.int, rfl, rfl, rfl⟩ ⟨rfl, _, rfl, h⟩
        · rw [if_neg hc] at h ⊢
          refine px_aload_n dX11_doubt_36 rfl rfl ?_
          refine gf_X11_62 rfl dX11_doubt_37 zl_0 zk_0 rfl zr_0_7 zl_25 ?_
          refine px_callV_I (As := []) (st := []) dX11_doubt_40 lk_X11_217.1 lk_X11_217.2 (b := 25) zl_25 zk_25 (by decide) rfl (by decide) rfl (Nat.le_of_ble_eq_true rfl) rfl rfl (Nat.le_of_ble_eq_true rfl) ⟨Nat.le_refl _, Nat.le_refl _, Nat.le_refl _⟩ ?_
          refine PAt.mono h (fun v κ gi9 gl10 hq => ?_)
          obtain ⟨rfl, r11, rfl, h⟩ := hq
          refine px_goto (tgt := 53) dX11_doubt_43 (by decide) ?_
          exact px_ireturn dX11_doubt_53 rfl ⟨.int, rfl, rfl, rfl⟩ ⟨rfl, _, rfl, h⟩
      · rw [if_neg hc] at h ⊢
        refine px_iconst (v := ((-1) : Int32)) dX11_doubt_22 (by decide) ?_
        exact px_ireturn dX11_doubt_23 rfl ⟨.int, rfl, rfl, rfl⟩ ⟨rfl, _, rfl, h⟩
abbrev p_X11_stood_28 (b3 : Nat) (x2 : Int32) (x3 : Int32) (x5 : Int32) (x6 : Int32) (gi : Gi) (gl : Gl) (Q : Int32 → Gi → Gl → Prop) : Prop := PAt mX11_stood NN NN κF 28 [some (.ref 0), none, some (.int x2), some (.int x3), some (.ref b3), some (.int x5), some (.int x6)] [] gi gl (RiQ Q)
def f_X11_stood (x1 : Int32) (x2 : Int32) (x3 : Int32) (gi : Gi) (gl : Gl) (Q : Int32 → Gi → Gl → Prop) : Prop :=
p_X0_get 33 x1 gi gl (fun (o4 : Option Nat) (gi1 : Gi) (gl2 : Gl) =>
(o4 = none →
Q ((-1) : Int32) gi1 gl2) ∧
(∀ b3 : Nat, o4 = some b3 → b3 < NN → sK b3 = 5 →
if ((-1) : Int32) ≤ x3 then
(p_X11_stood_28 b3 x2 x3 (0 : Int32) (0 : Int32) gi1 gl2 Q)
else
(Q ((-1) : Int32) gi1 gl2)))
def f_X11_stood_28 (b3 : Nat) (x2 : Int32) (x3 : Int32) (x5 : Int32) (x6 : Int32) (gi : Gi) (gl : Gl) (Q : Int32 → Gi → Gl → Prop) : Prop :=
if (1024 : Int32) ≤ x6 then
(if ¬ x3 = ((-1) : Int32) then
(Q ((-1) : Int32) gi gl)
else
(Q x5 gi gl))
else
(p_X1_seesAll b3 x2 (jr x6 (32 : Int32)) (x6 / (32 : Int32)) gi gl (fun (r3 : Int32) (gi1 : Gi) (gl2 : Gl) =>
if r3 = 0 then
(p_X11_stood_28 b3 x2 x3 x5 (x6 + (1 : Int32)) gi1 gl2 Q)
else
(if ¬ x5 = x3 then
(p_X11_stood_28 b3 x2 x3 (x5 + (1 : Int32)) (x6 + (1 : Int32)) gi1 gl2 Q)
else
(Q x6 gi1 gl2))))
set_option maxRecDepth 100000 in
theorem v_X11_stood {x1 : Int32} {x2 : Int32} {x3 : Int32} {gi : Gi} {gl : Gl} {Q : Int32 → Gi → Gl → Prop}  (h : f_X11_stood x1 x2 x3 gi gl Q) : p_X11_stood x1 x2 x3 gi gl Q := by
  unfold f_X11_stood at h
  show PAt mX11_stood NN NN κF 0 [some (.ref 0), some (.int x1), some (.int x2), some (.int x3), none, none, none] [] gi gl _
  refine px_aload_n dX11_stood_0 rfl rfl ?_
  refine gf_X11_85 rfl dX11_stood_1 zl_0 zk_0 rfl zr_0_10 zl_33 ?_
  refine px_iload_n dX11_stood_4 rfl rfl ?_
  refine px_callV_A (As := [.int x1]) (st := []) dX11_stood_5 lk_X11_144.1 lk_X11_144.2 (b := 33) zl_33 zk_33 (by decide) rfl (by decide) rfl (Nat.le_of_ble_eq_true rfl) ⟨_, rfl⟩ rfl (Nat.le_of_ble_eq_true rfl) ⟨Nat.le_refl _, Nat.le_refl _, Nat.le_refl _⟩ ?_
  refine PAt.mono h (fun v κ gi1 gl2 hq => ?_)
  rcases hq with ⟨rfl, ⟨rfl, hq⟩ | ⟨b3, rfl, hb3N, hb3K, hq⟩⟩
  · have h := hq.1 rfl
    refine px_astoreN (ls2 := [some (.ref 0), some (.int x1), some (.int x2), some (.int x3), some (.null), none, none]) dX11_stood_8 (by decide) rfl ?_
    refine px_aloadN dX11_stood_10 rfl ?_
    refine px_ifnullN (tgt := 20) dX11_stood_12 (by decide) ?_
    refine px_iconst (v := ((-1) : Int32)) dX11_stood_20 (by decide) ?_
    exact px_ireturn dX11_stood_21 rfl ⟨.int, rfl, rfl, rfl⟩ ⟨rfl, _, rfl, h⟩
  · have h := hq.2 b3 rfl hb3N hb3K
    refine px_astore (ls2 := [some (.ref 0), some (.int x1), some (.int x2), some (.int x3), some (.ref b3), none, none]) dX11_stood_8 (by decide) rfl ?_
    refine px_aload dX11_stood_10 rfl ?_
    refine px_ifnull (tgt := 20) dX11_stood_12 (by decide) ?_
    refine px_iload_n dX11_stood_15 rfl rfl ?_
    refine px_iconst (v := ((-1) : Int32)) dX11_stood_16 (by decide) ?_
    refine px_icmp_ge (tgt := 22) dX11_stood_17 (by decide) ?_
    by_cases hc : ((-1) : Int32) ≤ x3
    · rw [if_pos hc] at h ⊢
      refine px_iconst (v := (0 : Int32)) dX11_stood_22 (by decide) ?_
      refine px_istore (ls2 := [some (.ref 0), some (.int x1), some (.int x2), some (.int x3), some (.ref b3), some (.int (0 : Int32)), none]) dX11_stood_23 (by decide) rfl ?_
      refine px_iconst (v := (0 : Int32)) dX11_stood_25 (by decide) ?_
      refine px_istore (ls2 := [some (.ref 0), some (.int x1), some (.int x2), some (.int x3), some (.ref b3), some (.int (0 : Int32)), some (.int (0 : Int32))]) dX11_stood_26 (by decide) rfl ?_
      exact PAt.forget h (lsub_at ⟨rfl, ⟨rfl, ⟨rfl, ⟨rfl, ⟨rfl, ⟨rfl, trivial⟩⟩⟩⟩⟩⟩)
    · rw [if_neg hc] at h ⊢
      refine px_iconst (v := ((-1) : Int32)) dX11_stood_20 (by decide) ?_
      exact px_ireturn dX11_stood_21 rfl ⟨.int, rfl, rfl, rfl⟩ ⟨rfl, _, rfl, h⟩
set_option maxRecDepth 100000 in
theorem v_X11_stood_28 {b3 : Nat} {x2 : Int32} {x3 : Int32} {x5 : Int32} {x6 : Int32} {gi : Gi} {gl : Gl} {Q : Int32 → Gi → Gl → Prop} (hb3N : b3 < NN) (hb3K : sK b3 = 5) (h : f_X11_stood_28 b3 x2 x3 x5 x6 gi gl Q) : p_X11_stood_28 b3 x2 x3 x5 x6 gi gl Q := by
  unfold f_X11_stood_28 at h
  show PAt mX11_stood NN NN κF 28 [some (.ref 0), none, some (.int x2), some (.int x3), some (.ref b3), some (.int x5), some (.int x6)] [] gi gl _
  refine px_iload dX11_stood_28 rfl ?_
  refine px_sipush (v := (1024 : Int32)) dX11_stood_30 (by decide) ?_
  refine px_icmp_ge (tgt := 77) dX11_stood_33 (by decide) ?_
  by_cases hc : (1024 : Int32) ≤ x6
  · rw [if_pos hc] at h ⊢
    refine px_iload_n dX11_stood_77 rfl rfl ?_
    refine px_iconst (v := ((-1) : Int32)) dX11_stood_78 (by decide) ?_
    refine px_icmp_ne (tgt := 87) dX11_stood_79 (by decide) ?_
    by_cases hc : ¬ x3 = ((-1) : Int32)
    · rw [if_pos hc] at h ⊢
      refine px_iconst (v := ((-1) : Int32)) dX11_stood_87 (by decide) ?_
      exact px_ireturn dX11_stood_88 rfl ⟨.int, rfl, rfl, rfl⟩ ⟨rfl, _, rfl, h⟩
    · rw [if_neg hc] at h ⊢
      refine px_iload dX11_stood_82 rfl ?_
      refine px_goto (tgt := 88) dX11_stood_84 (by decide) ?_
      exact px_ireturn dX11_stood_88 rfl ⟨.int, rfl, rfl, rfl⟩ ⟨rfl, _, rfl, h⟩
  · rw [if_neg hc] at h ⊢
    refine px_aload_n dX11_stood_36 rfl rfl ?_
    refine gf_X11_69 rfl dX11_stood_37 zl_0 zk_0 rfl zr_0_8 zl_30 ?_
    refine px_aload dX11_stood_40 rfl ?_
    refine px_iload_n dX11_stood_42 rfl rfl ?_
    refine px_iload dX11_stood_43 rfl ?_
    refine px_bipush (v := (32 : Int32)) dX11_stood_45 (by decide) ?_
    refine px_irem dX11_stood_47 (by decide) ?_
    refine px_iload dX11_stood_48 rfl ?_
    refine px_bipush (v := (32 : Int32)) dX11_stood_50 (by decide) ?_
    refine px_idiv dX11_stood_52 (by decide) ?_
    refine px_callV_I (As := [.ref b3, .int x2, .int (jr x6 (32 : Int32)), .int (x6 / (32 : Int32))]) (st := []) dX11_stood_53 lk_X11_223.1 lk_X11_223.2 (b := 30) zl_30 zk_30 (by decide) rfl (by decide) rfl (Nat.le_of_ble_eq_true rfl) rfl rfl (Nat.le_of_ble_eq_true rfl) ⟨Nat.le_refl _, Nat.le_refl _, Nat.le_refl _⟩ ?_
    refine PAt.mono h (fun v κ gi1 gl2 hq => ?_)
    obtain ⟨rfl, r3, rfl, h⟩ := hq
    refine px_if_eq (tgt := 71) dX11_stood_56 (by decide) ?_
    by_cases hc : r3 = 0
    · rw [if_pos hc] at h ⊢
      refine px_iinc (v := x6 + (1 : Int32)) (ls2 := [some (.ref 0), none, some (.int x2), some (.int x3), some (.ref b3), some (.int x5), some (.int (x6 + (1 : Int32)))]) dX11_stood_71 rfl rfl (by decide) rfl ?_
      refine px_goto (tgt := 28) dX11_stood_74 (by decide) ?_
      exact PAt.forget h (lsub_at ⟨rfl, ⟨rfl, ⟨rfl, ⟨rfl, ⟨rfl, ⟨rfl, trivial⟩⟩⟩⟩⟩⟩)
    · rw [if_neg hc] at h ⊢
      refine px_iload dX11_stood_59 rfl ?_
      refine px_iload_n dX11_stood_61 rfl rfl ?_
      refine px_icmp_ne (tgt := 68) dX11_stood_62 (by decide) ?_
      by_cases hc : ¬ x5 = x3
      · rw [if_pos hc] at h ⊢
        refine px_iinc (v := x5 + (1 : Int32)) (ls2 := [some (.ref 0), none, some (.int x2), some (.int x3), some (.ref b3), some (.int (x5 + (1 : Int32))), some (.int x6)]) dX11_stood_68 rfl rfl (by decide) rfl ?_
        refine px_iinc (v := x6 + (1 : Int32)) (ls2 := [some (.ref 0), none, some (.int x2), some (.int x3), some (.ref b3), some (.int (x5 + (1 : Int32))), some (.int (x6 + (1 : Int32)))]) dX11_stood_71 rfl rfl (by decide) rfl ?_
        refine px_goto (tgt := 28) dX11_stood_74 (by decide) ?_
        exact PAt.forget h (lsub_at ⟨rfl, ⟨rfl, ⟨rfl, ⟨rfl, ⟨rfl, ⟨rfl, trivial⟩⟩⟩⟩⟩⟩)
      · rw [if_neg hc] at h ⊢
        refine px_iload dX11_stood_65 rfl ?_
        exact px_ireturn dX11_stood_67 rfl ⟨.int, rfl, rfl, rfl⟩ ⟨rfl, _, rfl, h⟩
abbrev p_X11_late_44 (b3 : Nat) (x4 : Int32) (gi : Gi) (gl : Gl) (Q : Int32 → Gi → Gl → Prop) : Prop := PAt mX11_late NN NN κF 44 [some (.ref 0), none, none, some (.ref b3), some (.int x4)] [] gi gl (RiQ Q)
def f_X11_late (x1 : Int32) (x2 : Int32) (gi : Gi) (gl : Gl) (Q : Int32 → Gi → Gl → Prop) : Prop :=
p_X0_get 33 x1 gi gl (fun (o7 : Option Nat) (gi1 : Gi) (gl2 : Gl) =>
(o7 = none →
Q ((-1) : Int32) gi1 gl2) ∧
(∀ b3 : Nat, o7 = some b3 → b3 < NN → sK b3 = 5 →
if x2 < ((-1) : Int32) then
(Q ((-1) : Int32) gi1 gl2)
else
(if x2 ≤ (99 : Int32) then
(if x2 = ((-1) : Int32) then
(p_X11_late_44 b3 (0 : Int32) gi1 gl2 Q)
else
(p_X2_countLater b3 x2 gi1 gl2 (fun (r6 : Int32) (gi4 : Gi) (gl5 : Gl) =>
Q r6 gi4 gl5)))
else
(Q ((-1) : Int32) gi1 gl2))))
def f_X11_late_44 (b3 : Nat) (x4 : Int32) (gi : Gi) (gl : Gl) (Q : Int32 → Gi → Gl → Prop) : Prop :=
if (99 : Int32) < x4 then
(Q ((-1) : Int32) gi gl)
else
(p_X2_countLater b3 x4 gi gl (fun (r3 : Int32) (gi1 : Gi) (gl2 : Gl) =>
if r3 ≤ 0 then
(p_X11_late_44 b3 (x4 + (1 : Int32)) gi1 gl2 Q)
else
(Q x4 gi1 gl2)))
set_option maxRecDepth 100000 in
theorem v_X11_late {x1 : Int32} {x2 : Int32} {gi : Gi} {gl : Gl} {Q : Int32 → Gi → Gl → Prop}  (h : f_X11_late x1 x2 gi gl Q) : p_X11_late x1 x2 gi gl Q := by
  unfold f_X11_late at h
  show PAt mX11_late NN NN κF 0 [some (.ref 0), some (.int x1), some (.int x2), none, none] [] gi gl _
  refine px_aload_n dX11_late_0 rfl rfl ?_
  refine gf_X11_85 rfl dX11_late_1 zl_0 zk_0 rfl zr_0_10 zl_33 ?_
  refine px_iload_n dX11_late_4 rfl rfl ?_
  refine px_callV_A (As := [.int x1]) (st := []) dX11_late_5 lk_X11_144.1 lk_X11_144.2 (b := 33) zl_33 zk_33 (by decide) rfl (by decide) rfl (Nat.le_of_ble_eq_true rfl) ⟨_, rfl⟩ rfl (Nat.le_of_ble_eq_true rfl) ⟨Nat.le_refl _, Nat.le_refl _, Nat.le_refl _⟩ ?_
  refine PAt.mono h (fun v κ gi1 gl2 hq => ?_)
  rcases hq with ⟨rfl, ⟨rfl, hq⟩ | ⟨b3, rfl, hb3N, hb3K, hq⟩⟩
  · have h := hq.1 rfl
    refine px_astore_nN (ls2 := [some (.ref 0), some (.int x1), some (.int x2), some (.null), none]) (i := 3) rfl dX11_late_8 (by decide) rfl ?_
    refine px_aload_nN dX11_late_9 rfl rfl ?_
    refine px_ifnullN (tgt := 24) dX11_late_10 (by decide) ?_
    refine px_iconst (v := ((-1) : Int32)) dX11_late_24 (by decide) ?_
    exact px_ireturn dX11_late_25 rfl ⟨.int, rfl, rfl, rfl⟩ ⟨rfl, _, rfl, h⟩
  · have h := hq.2 b3 rfl hb3N hb3K
    refine px_astore_n (ls2 := [some (.ref 0), some (.int x1), some (.int x2), some (.ref b3), none]) (i := 3) rfl dX11_late_8 (by decide) rfl ?_
    refine px_aload_n dX11_late_9 rfl rfl ?_
    refine px_ifnull (tgt := 24) dX11_late_10 (by decide) ?_
    refine px_iload_n dX11_late_13 rfl rfl ?_
    refine px_iconst (v := ((-1) : Int32)) dX11_late_14 (by decide) ?_
    refine px_icmp_lt (tgt := 24) dX11_late_15 (by decide) ?_
    by_cases hc : x2 < ((-1) : Int32)
    · rw [if_pos hc] at h ⊢
      refine px_iconst (v := ((-1) : Int32)) dX11_late_24 (by decide) ?_
      exact px_ireturn dX11_late_25 rfl ⟨.int, rfl, rfl, rfl⟩ ⟨rfl, _, rfl, h⟩
    · rw [if_neg hc] at h ⊢
      refine px_iload_n dX11_late_18 rfl rfl ?_
      refine px_bipush (v := (99 : Int32)) dX11_late_19 (by decide) ?_
      refine px_icmp_le (tgt := 26) dX11_late_21 (by decide) ?_
      by_cases hc : x2 ≤ (99 : Int32)
      · rw [if_pos hc] at h ⊢
        refine px_iload_n dX11_late_26 rfl rfl ?_
        refine px_iconst (v := ((-1) : Int32)) dX11_late_27 (by decide) ?_
        refine px_icmp_eq (tgt := 41) dX11_late_28 (by decide) ?_
        by_cases hc : x2 = ((-1) : Int32)
        · rw [if_pos hc] at h ⊢
          refine px_iconst (v := (0 : Int32)) dX11_late_41 (by decide) ?_
          refine px_istore (ls2 := [some (.ref 0), some (.int x1), some (.int x2), some (.ref b3), some (.int (0 : Int32))]) dX11_late_42 (by decide) rfl ?_
          exact PAt.forget h (lsub_at ⟨rfl, ⟨rfl, ⟨rfl, trivial⟩⟩⟩)
        · rw [if_neg hc] at h ⊢
          refine px_aload_n dX11_late_31 rfl rfl ?_
          refine gf_X11_53 rfl dX11_late_32 zl_0 zk_0 rfl zr_0_6 zl_24 ?_
          refine px_aload_n dX11_late_35 rfl rfl ?_
          refine px_iload_n dX11_late_36 rfl rfl ?_
          refine px_callV_I (As := [.ref b3, .int x2]) (st := []) dX11_late_37 lk_X11_227.1 lk_X11_227.2 (b := 24) zl_24 zk_24 (by decide) rfl (by decide) rfl (Nat.le_of_ble_eq_true rfl) rfl rfl (Nat.le_of_ble_eq_true rfl) ⟨Nat.le_refl _, Nat.le_refl _, Nat.le_refl _⟩ ?_
          refine PAt.mono h (fun v κ gi4 gl5 hq => ?_)
          obtain ⟨rfl, r6, rfl, h⟩ := hq
          exact px_ireturn dX11_late_40 rfl ⟨.int, rfl, rfl, rfl⟩ ⟨rfl, _, rfl, h⟩
      · rw [if_neg hc] at h ⊢
        refine px_iconst (v := ((-1) : Int32)) dX11_late_24 (by decide) ?_
        exact px_ireturn dX11_late_25 rfl ⟨.int, rfl, rfl, rfl⟩ ⟨rfl, _, rfl, h⟩
set_option maxRecDepth 100000 in
theorem v_X11_late_44 {b3 : Nat} {x4 : Int32} {gi : Gi} {gl : Gl} {Q : Int32 → Gi → Gl → Prop} (hb3N : b3 < NN) (hb3K : sK b3 = 5) (h : f_X11_late_44 b3 x4 gi gl Q) : p_X11_late_44 b3 x4 gi gl Q := by
  unfold f_X11_late_44 at h
  show PAt mX11_late NN NN κF 44 [some (.ref 0), none, none, some (.ref b3), some (.int x4)] [] gi gl _
  refine px_iload dX11_late_44 rfl ?_
  refine px_bipush (v := (99 : Int32)) dX11_late_46 (by decide) ?_
  refine px_icmp_gt (tgt := 73) dX11_late_48 (by decide) ?_
  by_cases hc : (99 : Int32) < x4
  · rw [if_pos hc] at h ⊢
    refine px_iconst (v := ((-1) : Int32)) dX11_late_73 (by decide) ?_
    exact px_ireturn dX11_late_74 rfl ⟨.int, rfl, rfl, rfl⟩ ⟨rfl, _, rfl, h⟩
  · rw [if_neg hc] at h ⊢
    refine px_aload_n dX11_late_51 rfl rfl ?_
    refine gf_X11_53 rfl dX11_late_52 zl_0 zk_0 rfl zr_0_6 zl_24 ?_
    refine px_aload_n dX11_late_55 rfl rfl ?_
    refine px_iload dX11_late_56 rfl ?_
    refine px_callV_I (As := [.ref b3, .int x4]) (st := []) dX11_late_58 lk_X11_227.1 lk_X11_227.2 (b := 24) zl_24 zk_24 (by decide) rfl (by decide) rfl (Nat.le_of_ble_eq_true rfl) rfl rfl (Nat.le_of_ble_eq_true rfl) ⟨Nat.le_refl _, Nat.le_refl _, Nat.le_refl _⟩ ?_
    refine PAt.mono h (fun v κ gi1 gl2 hq => ?_)
    obtain ⟨rfl, r3, rfl, h⟩ := hq
    refine px_if_le (tgt := 67) dX11_late_61 (by decide) ?_
    by_cases hc : r3 ≤ 0
    · rw [if_pos hc] at h ⊢
      refine px_iinc (v := x4 + (1 : Int32)) (ls2 := [some (.ref 0), none, none, some (.ref b3), some (.int (x4 + (1 : Int32)))]) dX11_late_67 rfl rfl (by decide) rfl ?_
      refine px_goto (tgt := 44) dX11_late_70 (by decide) ?_
      exact PAt.forget h (lsub_at ⟨rfl, ⟨rfl, ⟨rfl, trivial⟩⟩⟩)
    · rw [if_neg hc] at h ⊢
      refine px_iload dX11_late_64 rfl ?_
      exact px_ireturn dX11_late_66 rfl ⟨.int, rfl, rfl, rfl⟩ ⟨rfl, _, rfl, h⟩
def f_X11_couples (x1 : Int32) (x2 : Int32) (x3 : Int32) (x4 : Int32) (x5 : Int32) (gi : Gi) (gl : Gl) (Q : Int64 → Gi → Gl → Prop) : Prop :=
p_X0_get 33 x1 gi gl (fun (o27 : Option Nat) (gi1 : Gi) (gl2 : Gl) =>
(o27 = none →
p_X0_get 33 x2 gi1 gl2 (fun (o26 : Option Nat) (gi23 : Gi) (gl24 : Gl) =>
(o26 = none →
Q ((-1) : Int64) gi23 gl24) ∧
(∀ b25 : Nat, o26 = some b25 → b25 < NN → sK b25 = 5 →
Q ((-1) : Int64) gi23 gl24))) ∧
(∀ b3 : Nat, o27 = some b3 → b3 < NN → sK b3 = 5 →
p_X0_get 33 x2 gi1 gl2 (fun (o22 : Option Nat) (gi4 : Gi) (gl5 : Gl) =>
(o22 = none →
Q ((-1) : Int64) gi4 gl5) ∧
(∀ b6 : Nat, o22 = some b6 → b6 < NN → sK b6 = 5 →
if x5 < 0 then
(Q ((-1) : Int64) gi4 gl5)
else
(if x5 ≤ (2 : Int32) then
(if x3 < ((-719) : Int32) then
(Q ((-1) : Int64) gi4 gl5)
else
(if (719 : Int32) < x4 then
(Q ((-1) : Int64) gi4 gl5)
else
(if x3 ≤ x4 then
(p_X5_moments b3 gi4 gl5 (fun (o21 : Option Nat) (gi7 : Gi) (gl8 : Gl) =>
(o21 = none →
p_X5_moments b6 gi7 gl8 (fun (o20 : Option Nat) (gi17 : Gi) (gl18 : Gl) =>
(o20 = none →
False) ∧
(∀ b19 : Nat, o20 = some b19 → b19 < NN → sK b19 = 4 →
False))) ∧
(∀ b9 : Nat, o21 = some b9 → b9 < NN → sK b9 = 4 →
p_X5_moments b6 gi7 gl8 (fun (o16 : Option Nat) (gi10 : Gi) (gl11 : Gl) =>
(o16 = none →
False) ∧
(∀ b12 : Nat, o16 = some b12 → b12 < NN → sK b12 = 4 →
p_X11_couplesOf b9 b12 x3 x4 x5 gi10 gl11 (fun (r15 : Int64) (gi13 : Gi) (gl14 : Gl) =>
Q r15 gi13 gl14))))))
else
(Q ((-1) : Int64) gi4 gl5))))
else
(Q ((-1) : Int64) gi4 gl5))))))
set_option maxRecDepth 100000 in
theorem v_X11_couples {x1 : Int32} {x2 : Int32} {x3 : Int32} {x4 : Int32} {x5 : Int32} {gi : Gi} {gl : Gl} {Q : Int64 → Gi → Gl → Prop}  (h : f_X11_couples x1 x2 x3 x4 x5 gi gl Q) : p_X11_couples x1 x2 x3 x4 x5 gi gl Q := by
  unfold f_X11_couples at h
  show PAt mX11_couples NN NN κF 0 [some (.ref 0), some (.int x1), some (.int x2), some (.int x3), some (.int x4), some (.int x5), none, none] [] gi gl _
  refine px_aload_n dX11_couples_0 rfl rfl ?_
  refine gf_X11_85 rfl dX11_couples_1 zl_0 zk_0 rfl zr_0_10 zl_33 ?_
  refine px_iload_n dX11_couples_4 rfl rfl ?_
  refine px_callV_A (As := [.int x1]) (st := []) dX11_couples_5 lk_X11_144.1 lk_X11_144.2 (b := 33) zl_33 zk_33 (by decide) rfl (by decide) rfl (Nat.le_of_ble_eq_true rfl) ⟨_, rfl⟩ rfl (Nat.le_of_ble_eq_true rfl) ⟨Nat.le_refl _, Nat.le_refl _, Nat.le_refl _⟩ ?_
  refine PAt.mono h (fun v κ gi1 gl2 hq => ?_)
  rcases hq with ⟨rfl, ⟨rfl, hq⟩ | ⟨b3, rfl, hb3N, hb3K, hq⟩⟩
  · have h := hq.1 rfl
    refine px_astoreN (ls2 := [some (.ref 0), some (.int x1), some (.int x2), some (.int x3), some (.int x4), some (.int x5), some (.null), none]) dX11_couples_8 (by decide) rfl ?_
    refine px_aload_n dX11_couples_10 rfl rfl ?_
    refine gf_X11_85 rfl dX11_couples_11 zl_0 zk_0 rfl zr_0_10 zl_33 ?_
    refine px_iload_n dX11_couples_14 rfl rfl ?_
    refine px_callV_A (As := [.int x2]) (st := []) dX11_couples_15 lk_X11_144.1 lk_X11_144.2 (b := 33) zl_33 zk_33 (by decide) rfl (by decide) rfl (Nat.le_of_ble_eq_true rfl) ⟨_, rfl⟩ rfl (Nat.le_of_ble_eq_true rfl) ⟨Nat.le_refl _, Nat.le_refl _, Nat.le_refl _⟩ ?_
    refine PAt.mono h (fun v κ gi23 gl24 hq => ?_)
    rcases hq with ⟨rfl, ⟨rfl, hq⟩ | ⟨b25, rfl, hb25N, hb25K, hq⟩⟩
    · have h := hq.1 rfl
      refine px_astoreN (ls2 := [some (.ref 0), some (.int x1), some (.int x2), some (.int x3), some (.int x4), some (.int x5), some (.null), some (.null)]) dX11_couples_18 (by decide) rfl ?_
      refine px_aloadN dX11_couples_20 rfl ?_
      refine px_ifnullN (tgt := 41) dX11_couples_22 (by decide) ?_
      refine px_ldc2 (v := ((-1) : Int64)) dX11_couples_41 w_1031 ?_
      exact px_lreturn dX11_couples_44 rfl rfl ⟨rfl, _, rfl, h⟩
    · have h := hq.2 b25 rfl hb25N hb25K
      refine px_astore (ls2 := [some (.ref 0), some (.int x1), some (.int x2), some (.int x3), some (.int x4), some (.int x5), some (.null), some (.ref b25)]) dX11_couples_18 (by decide) rfl ?_
      refine px_aloadN dX11_couples_20 rfl ?_
      refine px_ifnullN (tgt := 41) dX11_couples_22 (by decide) ?_
      refine px_ldc2 (v := ((-1) : Int64)) dX11_couples_41 w_1031 ?_
      exact px_lreturn dX11_couples_44 rfl rfl ⟨rfl, _, rfl, h⟩
  · have h := hq.2 b3 rfl hb3N hb3K
    refine px_astore (ls2 := [some (.ref 0), some (.int x1), some (.int x2), some (.int x3), some (.int x4), some (.int x5), some (.ref b3), none]) dX11_couples_8 (by decide) rfl ?_
    refine px_aload_n dX11_couples_10 rfl rfl ?_
    refine gf_X11_85 rfl dX11_couples_11 zl_0 zk_0 rfl zr_0_10 zl_33 ?_
    refine px_iload_n dX11_couples_14 rfl rfl ?_
    refine px_callV_A (As := [.int x2]) (st := []) dX11_couples_15 lk_X11_144.1 lk_X11_144.2 (b := 33) zl_33 zk_33 (by decide) rfl (by decide) rfl (Nat.le_of_ble_eq_true rfl) ⟨_, rfl⟩ rfl (Nat.le_of_ble_eq_true rfl) ⟨Nat.le_refl _, Nat.le_refl _, Nat.le_refl _⟩ ?_
    refine PAt.mono h (fun v κ gi4 gl5 hq => ?_)
    rcases hq with ⟨rfl, ⟨rfl, hq⟩ | ⟨b6, rfl, hb6N, hb6K, hq⟩⟩
    · have h := hq.1 rfl
      refine px_astoreN (ls2 := [some (.ref 0), some (.int x1), some (.int x2), some (.int x3), some (.int x4), some (.int x5), some (.ref b3), some (.null)]) dX11_couples_18 (by decide) rfl ?_
      refine px_aload dX11_couples_20 rfl ?_
      refine px_ifnull (tgt := 41) dX11_couples_22 (by decide) ?_
      refine px_aloadN dX11_couples_25 rfl ?_
      refine px_ifnullN (tgt := 41) dX11_couples_27 (by decide) ?_
      refine px_ldc2 (v := ((-1) : Int64)) dX11_couples_41 w_1031 ?_
      exact px_lreturn dX11_couples_44 rfl rfl ⟨rfl, _, rfl, h⟩
    · have h := hq.2 b6 rfl hb6N hb6K
      refine px_astore (ls2 := [some (.ref 0), some (.int x1), some (.int x2), some (.int x3), some (.int x4), some (.int x5), some (.ref b3), some (.ref b6)]) dX11_couples_18 (by decide) rfl ?_
      refine px_aload dX11_couples_20 rfl ?_
      refine px_ifnull (tgt := 41) dX11_couples_22 (by decide) ?_
      refine px_aload dX11_couples_25 rfl ?_
      refine px_ifnull (tgt := 41) dX11_couples_27 (by decide) ?_
      refine px_iload dX11_couples_30 rfl ?_
      refine px_if_lt (tgt := 41) dX11_couples_32 (by decide) ?_
      by_cases hc : x5 < 0
      · rw [if_pos hc] at h ⊢
        refine px_ldc2 (v := ((-1) : Int64)) dX11_couples_41 w_1031 ?_
        exact px_lreturn dX11_couples_44 rfl rfl ⟨rfl, _, rfl, h⟩
      · rw [if_neg hc] at h ⊢
        refine px_iload dX11_couples_35 rfl ?_
        refine px_iconst (v := (2 : Int32)) dX11_couples_37 (by decide) ?_
        refine px_icmp_le (tgt := 45) dX11_couples_38 (by decide) ?_
        by_cases hc : x5 ≤ (2 : Int32)
        · rw [if_pos hc] at h ⊢
          refine px_iload_n dX11_couples_45 rfl rfl ?_
          refine px_sipush (v := ((-719) : Int32)) dX11_couples_46 (by decide) ?_
          refine px_icmp_lt (tgt := 66) dX11_couples_49 (by decide) ?_
          by_cases hc : x3 < ((-719) : Int32)
          · rw [if_pos hc] at h ⊢
            refine px_ldc2 (v := ((-1) : Int64)) dX11_couples_66 w_1031 ?_
            exact px_lreturn dX11_couples_69 rfl rfl ⟨rfl, _, rfl, h⟩
          · rw [if_neg hc] at h ⊢
            refine px_iload dX11_couples_52 rfl ?_
            refine px_sipush (v := (719 : Int32)) dX11_couples_54 (by decide) ?_
            refine px_icmp_gt (tgt := 66) dX11_couples_57 (by decide) ?_
            by_cases hc : (719 : Int32) < x4
            · rw [if_pos hc] at h ⊢
              refine px_ldc2 (v := ((-1) : Int64)) dX11_couples_66 w_1031 ?_
              exact px_lreturn dX11_couples_69 rfl rfl ⟨rfl, _, rfl, h⟩
            · rw [if_neg hc] at h ⊢
              refine px_iload_n dX11_couples_60 rfl rfl ?_
              refine px_iload dX11_couples_61 rfl ?_
              refine px_icmp_le (tgt := 70) dX11_couples_63 (by decide) ?_
              by_cases hc : x3 ≤ x4
              · rw [if_pos hc] at h ⊢
                refine px_aload dX11_couples_70 rfl ?_
                refine px_callV_A (As := []) (st := []) dX11_couples_72 lk_X11_190.1 lk_X11_190.2 (b := b3) hb3N hb3K (by decide) rfl (by decide) rfl (Nat.le_of_ble_eq_true rfl) ⟨_, rfl⟩ rfl (Nat.le_of_ble_eq_true rfl) ⟨Nat.le_refl _, Nat.le_refl _, Nat.le_refl _⟩ ?_
                refine PAt.mono h (fun v κ gi7 gl8 hq => ?_)
                rcases hq with ⟨rfl, ⟨rfl, hq⟩ | ⟨b9, rfl, hb9N, hb9K, hq⟩⟩
                · have h := hq.1 rfl
                  refine px_aload dX11_couples_75 rfl ?_
                  refine px_callV_A (As := []) (st := [.null]) dX11_couples_77 lk_X11_190.1 lk_X11_190.2 (b := b6) hb6N hb6K (by decide) rfl (by decide) rfl (Nat.le_of_ble_eq_true rfl) ⟨_, rfl⟩ rfl (Nat.le_of_ble_eq_true rfl) ⟨Nat.le_refl _, Nat.le_refl _, Nat.le_refl _⟩ ?_
                  refine PAt.mono h (fun v κ gi17 gl18 hq => ?_)
                  rcases hq with ⟨rfl, ⟨rfl, hq⟩ | ⟨b19, rfl, hb19N, hb19K, hq⟩⟩
                  · have h := hq.1 rfl
                    refine px_iload_n dX11_couples_80 rfl rfl ?_
                    refine px_iload dX11_couples_81 rfl ?_
                    refine px_iload dX11_couples_83 rfl ?_
                    exact h.elim
                  · have h := hq.2 b19 rfl hb19N hb19K
                    refine px_iload_n dX11_couples_80 rfl rfl ?_
                    refine px_iload dX11_couples_81 rfl ?_
                    refine px_iload dX11_couples_83 rfl ?_
                    exact h.elim
                · have h := hq.2 b9 rfl hb9N hb9K
                  refine px_aload dX11_couples_75 rfl ?_
                  refine px_callV_A (As := []) (st := [.ref b9]) dX11_couples_77 lk_X11_190.1 lk_X11_190.2 (b := b6) hb6N hb6K (by decide) rfl (by decide) rfl (Nat.le_of_ble_eq_true rfl) ⟨_, rfl⟩ rfl (Nat.le_of_ble_eq_true rfl) ⟨Nat.le_refl _, Nat.le_refl _, Nat.le_refl _⟩ ?_
                  refine PAt.mono h (fun v κ gi10 gl11 hq => ?_)
                  rcases hq with ⟨rfl, ⟨rfl, hq⟩ | ⟨b12, rfl, hb12N, hb12K, hq⟩⟩
                  · have h := hq.1 rfl
                    refine px_iload_n dX11_couples_80 rfl rfl ?_
                    refine px_iload dX11_couples_81 rfl ?_
                    refine px_iload dX11_couples_83 rfl ?_
                    exact h.elim
                  · have h := hq.2 b12 rfl hb12N hb12K
                    refine px_iload_n dX11_couples_80 rfl rfl ?_
                    refine px_iload dX11_couples_81 rfl ?_
                    refine px_iload dX11_couples_83 rfl ?_
                    refine px_callS_L (As := [.ref b9, .ref b12, .int x3, .int x4, .int x5]) (st := []) dX11_couples_85 lk_X11_233.1 lk_X11_233.2 (by decide) rfl (Nat.le_of_ble_eq_true rfl) rfl rfl (Nat.le_of_ble_eq_true rfl) ⟨Nat.le_refl _, Nat.le_refl _, Nat.le_refl _⟩ ?_
                    refine PAt.mono h (fun v κ gi13 gl14 hq => ?_)
                    obtain ⟨rfl, r15, rfl, h⟩ := hq
                    exact px_lreturn dX11_couples_88 rfl rfl ⟨rfl, _, rfl, h⟩
              · rw [if_neg hc] at h ⊢
                refine px_ldc2 (v := ((-1) : Int64)) dX11_couples_66 w_1031 ?_
                exact px_lreturn dX11_couples_69 rfl rfl ⟨rfl, _, rfl, h⟩
        · rw [if_neg hc] at h ⊢
          refine px_ldc2 (v := ((-1) : Int64)) dX11_couples_41 w_1031 ?_
          exact px_lreturn dX11_couples_44 rfl rfl ⟨rfl, _, rfl, h⟩
def f_X11_weight (x1 : Int32) (x2 : Int32) (gi : Gi) (gl : Gl) (Q : Int32 → Gi → Gl → Prop) : Prop :=
if x2 < 0 then
(Q (0 : Int32) gi gl)
else
(if x2 ≤ (99 : Int32) then
(p_X0_setWeight 33 x1 x2 gi gl (fun (r3 : Int32) (gi1 : Gi) (gl2 : Gl) =>
(r3 = 0 ∨ r3 = 1) ∧
Q r3 gi1 gl2))
else
(Q (0 : Int32) gi gl))
set_option maxRecDepth 100000 in
theorem v_X11_weight {x1 : Int32} {x2 : Int32} {gi : Gi} {gl : Gl} {Q : Int32 → Gi → Gl → Prop}  (h : f_X11_weight x1 x2 gi gl Q) : p_X11_weight x1 x2 gi gl Q := by
  unfold f_X11_weight at h
  show PAt mX11_weight NN NN κF 0 [some (.ref 0), some (.int x1), some (.int x2)] [] gi gl _
  refine px_iload_n dX11_weight_0 rfl rfl ?_
  refine px_if_lt (tgt := 10) dX11_weight_1 (by decide) ?_
  by_cases hc : x2 < 0
  · rw [if_pos hc] at h ⊢
    refine px_iconst (v := (0 : Int32)) dX11_weight_10 (by decide) ?_
    exact px_ireturn dX11_weight_11 rfl ⟨.boolean, rfl, rfl, by decide⟩ ⟨rfl, _, rfl, h⟩
  · rw [if_neg hc] at h ⊢
    refine px_iload_n dX11_weight_4 rfl rfl ?_
    refine px_bipush (v := (99 : Int32)) dX11_weight_5 (by decide) ?_
    refine px_icmp_le (tgt := 12) dX11_weight_7 (by decide) ?_
    by_cases hc : x2 ≤ (99 : Int32)
    · rw [if_pos hc] at h ⊢
      refine px_aload_n dX11_weight_12 rfl rfl ?_
      refine gf_X11_85 rfl dX11_weight_13 zl_0 zk_0 rfl zr_0_10 zl_33 ?_
      refine px_iload_n dX11_weight_16 rfl rfl ?_
      refine px_iload_n dX11_weight_17 rfl rfl ?_
      refine px_callV_I (As := [.int x1, .int x2]) (st := []) dX11_weight_18 lk_X11_237.1 lk_X11_237.2 (b := 33) zl_33 zk_33 (by decide) rfl (by decide) rfl (Nat.le_of_ble_eq_true rfl) rfl rfl (Nat.le_of_ble_eq_true rfl) ⟨Nat.le_refl _, Nat.le_refl _, Nat.le_refl _⟩ ?_
      refine PAt.mono h (fun v κ gi1 gl2 hq => ?_)
      obtain ⟨rfl, r3, rfl, h⟩ := hq
      obtain ⟨hz, h⟩ := h
      exact px_ireturn dX11_weight_21 rfl ⟨.boolean, rfl, rfl, nar01 hz⟩ ⟨rfl, _, rfl, h⟩
    · rw [if_neg hc] at h ⊢
      refine px_iconst (v := (0 : Int32)) dX11_weight_10 (by decide) ?_
      exact px_ireturn dX11_weight_11 rfl ⟨.boolean, rfl, rfl, by decide⟩ ⟨rfl, _, rfl, h⟩
abbrev p_X11_likely_38 (b3 : Nat) (x2 : Int32) (x4 : Int32) (x5 : Int32) (x6 : Int32) (x7 : Int32) (gi : Gi) (gl : Gl) (Q : Int64 → Gi → Gl → Prop) : Prop := PAt mX11_likely NN NN κF 38 [some (.ref 0), none, some (.int x2), some (.ref b3), some (.int x4), some (.int x5), some (.int x6), some (.int x7), none, none] [] gi gl (RlQ Q)
def f_X11_likely (x1 : Int32) (x2 : Int32) (gi : Gi) (gl : Gl) (Q : Int64 → Gi → Gl → Prop) : Prop :=
p_X0_get 33 x1 gi gl (fun (o4 : Option Nat) (gi1 : Gi) (gl2 : Gl) =>
(o4 = none →
Q ((-1) : Int64) gi1 gl2) ∧
(∀ b3 : Nat, o4 = some b3 → b3 < NN → sK b3 = 5 →
if x2 < 0 then
(Q ((-1) : Int64) gi1 gl2)
else
(if x2 ≤ (2 : Int32) then
(p_X11_likely_38 b3 x2 (0 : Int32) ((-1) : Int32) (0 : Int32) (0 : Int32) gi1 gl2 Q)
else
(Q ((-1) : Int64) gi1 gl2))))
def f_X11_likely_38 (b3 : Nat) (x2 : Int32) (x4 : Int32) (x5 : Int32) (x6 : Int32) (x7 : Int32) (gi : Gi) (gl : Gl) (Q : Int64 → Gi → Gl → Prop) : Prop :=
if (120 : Int32) ≤ x7 then
(p_X11_divisorOf x4.toInt64 x6.toInt64 gi gl (fun (r3 : Int64) (gi1 : Gi) (gl2 : Gl) =>
if x6 ≤ 0 then
(Q ((-1) : Int64) gi1 gl2)
else
(if (0 : Int64) < r3 then
(if ¬ x2 = 0 then
(if ¬ x2 = (1 : Int32) then
(¬ r3 = 0 ∧
Q (x6.toInt64 / r3) gi1 gl2)
else
(¬ r3 = 0 ∧
Q (x4.toInt64 / r3) gi1 gl2))
else
(Q x5.toInt64 gi1 gl2))
else
(Q ((-1) : Int64) gi1 gl2))))
else
(p_X5_moments b3 gi gl (fun (o29 : Option Nat) (gi4 : Gi) (gl5 : Gl) =>
(o29 = none →
False) ∧
(∀ b6 : Nat, o29 = some b6 → b6 < NN → sK b6 = 4 →
p_X4_dayRow b6 x7 gi4 gl5 (fun (r9 : Int32) (gi7 : Gi) (gl8 : Gl) =>
p_X5_moments b3 gi7 gl8 (fun (o28 : Option Nat) (gi10 : Gi) (gl11 : Gl) =>
(o28 = none →
False) ∧
(∀ b12 : Nat, o28 = some b12 → b12 < NN → sK b12 = 4 →
p_X4_minutesIn b12 (jr x7 (12 : Int32)) gi10 gl11 (fun (r15 : Int32) (gi13 : Gi) (gl14 : Gl) =>
p_X0_weightOf 33 (jr x7 (12 : Int32)) gi13 gl14 (fun (r18 : Int32) (gi16 : Gi) (gl17 : Gl) =>
∀ z19 : Int32, z19 = r15 * r18 →
p_J6_bitCount_0f7a4 r9 gi16 gl17 (fun (r22 : Int32) (gi20 : Gi) (gl21 : Gl) =>
∀ z23 : Int32, z23 = x6 + (z19 * r22) →
if r9 = 0 then
(p_X11_likely_38 b3 x2 x4 x5 z23 (x7 + (1 : Int32)) gi20 gl21 Q)
else
(if z19 ≤ x4 then
(p_X11_likely_38 b3 x2 x4 x5 z23 (x7 + (1 : Int32)) gi20 gl21 Q)
else
(p_X11_lowest r9 gi20 gl21 (fun (r26 : Int32) (gi24 : Gi) (gl25 : Gl) =>
∀ z27 : Int32, z27 = (x7 * (30 : Int32)) + r26 →
p_X11_likely_38 b3 x2 z19 z27 z23 (x7 + (1 : Int32)) gi24 gl25 Q))))))))))))
set_option maxRecDepth 100000 in
theorem v_X11_likely {x1 : Int32} {x2 : Int32} {gi : Gi} {gl : Gl} {Q : Int64 → Gi → Gl → Prop}  (h : f_X11_likely x1 x2 gi gl Q) : p_X11_likely x1 x2 gi gl Q := by
  unfold f_X11_likely at h
  show PAt mX11_likely NN NN κF 0 [some (.ref 0), some (.int x1), some (.int x2), none, none, none, none, none, none, none] [] gi gl _
  refine px_aload_n dX11_likely_0 rfl rfl ?_
  refine gf_X11_85 rfl dX11_likely_1 zl_0 zk_0 rfl zr_0_10 zl_33 ?_
  refine px_iload_n dX11_likely_4 rfl rfl ?_
  refine px_callV_A (As := [.int x1]) (st := []) dX11_likely_5 lk_X11_144.1 lk_X11_144.2 (b := 33) zl_33 zk_33 (by decide) rfl (by decide) rfl (Nat.le_of_ble_eq_true rfl) ⟨_, rfl⟩ rfl (Nat.le_of_ble_eq_true rfl) ⟨Nat.le_refl _, Nat.le_refl _, Nat.le_refl _⟩ ?_
  refine PAt.mono h (fun v κ gi1 gl2 hq => ?_)
  rcases hq with ⟨rfl, ⟨rfl, hq⟩ | ⟨b3, rfl, hb3N, hb3K, hq⟩⟩
  · have h := hq.1 rfl
    refine px_astore_nN (ls2 := [some (.ref 0), some (.int x1), some (.int x2), some (.null), none, none, none, none, none, none]) (i := 3) rfl dX11_likely_8 (by decide) rfl ?_
    refine px_aload_nN dX11_likely_9 rfl rfl ?_
    refine px_ifnullN (tgt := 22) dX11_likely_10 (by decide) ?_
    refine px_ldc2 (v := ((-1) : Int64)) dX11_likely_22 w_1031 ?_
    exact px_lreturn dX11_likely_25 rfl rfl ⟨rfl, _, rfl, h⟩
  · have h := hq.2 b3 rfl hb3N hb3K
    refine px_astore_n (ls2 := [some (.ref 0), some (.int x1), some (.int x2), some (.ref b3), none, none, none, none, none, none]) (i := 3) rfl dX11_likely_8 (by decide) rfl ?_
    refine px_aload_n dX11_likely_9 rfl rfl ?_
    refine px_ifnull (tgt := 22) dX11_likely_10 (by decide) ?_
    refine px_iload_n dX11_likely_13 rfl rfl ?_
    refine px_if_lt (tgt := 22) dX11_likely_14 (by decide) ?_
    by_cases hc : x2 < 0
    · rw [if_pos hc] at h ⊢
      refine px_ldc2 (v := ((-1) : Int64)) dX11_likely_22 w_1031 ?_
      exact px_lreturn dX11_likely_25 rfl rfl ⟨rfl, _, rfl, h⟩
    · rw [if_neg hc] at h ⊢
      refine px_iload_n dX11_likely_17 rfl rfl ?_
      refine px_iconst (v := (2 : Int32)) dX11_likely_18 (by decide) ?_
      refine px_icmp_le (tgt := 26) dX11_likely_19 (by decide) ?_
      by_cases hc : x2 ≤ (2 : Int32)
      · rw [if_pos hc] at h ⊢
        refine px_iconst (v := (0 : Int32)) dX11_likely_26 (by decide) ?_
        refine px_istore (ls2 := [some (.ref 0), some (.int x1), some (.int x2), some (.ref b3), some (.int (0 : Int32)), none, none, none, none, none]) dX11_likely_27 (by decide) rfl ?_
        refine px_iconst (v := ((-1) : Int32)) dX11_likely_29 (by decide) ?_
        refine px_istore (ls2 := [some (.ref 0), some (.int x1), some (.int x2), some (.ref b3), some (.int (0 : Int32)), some (.int ((-1) : Int32)), none, none, none, none]) dX11_likely_30 (by decide) rfl ?_
        refine px_iconst (v := (0 : Int32)) dX11_likely_32 (by decide) ?_
        refine px_istore (ls2 := [some (.ref 0), some (.int x1), some (.int x2), some (.ref b3), some (.int (0 : Int32)), some (.int ((-1) : Int32)), some (.int (0 : Int32)), none, none, none]) dX11_likely_33 (by decide) rfl ?_
        refine px_iconst (v := (0 : Int32)) dX11_likely_35 (by decide) ?_
        refine px_istore (ls2 := [some (.ref 0), some (.int x1), some (.int x2), some (.ref b3), some (.int (0 : Int32)), some (.int ((-1) : Int32)), some (.int (0 : Int32)), some (.int (0 : Int32)), none, none]) dX11_likely_36 (by decide) rfl ?_
        exact PAt.forget h (lsub_at ⟨rfl, ⟨rfl, ⟨rfl, ⟨rfl, ⟨rfl, ⟨rfl, ⟨rfl, trivial⟩⟩⟩⟩⟩⟩⟩)
      · rw [if_neg hc] at h ⊢
        refine px_ldc2 (v := ((-1) : Int64)) dX11_likely_22 w_1031 ?_
        exact px_lreturn dX11_likely_25 rfl rfl ⟨rfl, _, rfl, h⟩
set_option maxRecDepth 100000 in
theorem v_X11_likely_38 {b3 : Nat} {x2 : Int32} {x4 : Int32} {x5 : Int32} {x6 : Int32} {x7 : Int32} {gi : Gi} {gl : Gl} {Q : Int64 → Gi → Gl → Prop} (hb3N : b3 < NN) (hb3K : sK b3 = 5) (h : f_X11_likely_38 b3 x2 x4 x5 x6 x7 gi gl Q) : p_X11_likely_38 b3 x2 x4 x5 x6 x7 gi gl Q := by
  unfold f_X11_likely_38 at h
  show PAt mX11_likely NN NN κF 38 [some (.ref 0), none, some (.int x2), some (.ref b3), some (.int x4), some (.int x5), some (.int x6), some (.int x7), none, none] [] gi gl _
  refine px_iload dX11_likely_38 rfl ?_
  refine px_bipush (v := (120 : Int32)) dX11_likely_40 (by decide) ?_
  refine px_icmp_ge (tgt := 131) dX11_likely_42 (by decide) ?_
  by_cases hc : (120 : Int32) ≤ x7
  · rw [if_pos hc] at h ⊢
    refine px_iload dX11_likely_131 rfl ?_
    refine px_i2l dX11_likely_133 ?_
    refine px_iload dX11_likely_134 rfl ?_
    refine px_i2l dX11_likely_136 ?_
    refine px_callS_L (As := [.long x4.toInt64, .long x6.toInt64]) (st := []) dX11_likely_137 lk_X11_186.1 lk_X11_186.2 (by decide) rfl (Nat.le_of_ble_eq_true rfl) rfl rfl (Nat.le_of_ble_eq_true rfl) ⟨Nat.le_refl _, Nat.le_refl _, Nat.le_refl _⟩ ?_
    refine PAt.mono h (fun v κ gi1 gl2 hq => ?_)
    obtain ⟨rfl, r3, rfl, h⟩ := hq
    refine px_lstore (ls2 := [some (.ref 0), none, some (.int x2), some (.ref b3), some (.int x4), some (.int x5), some (.int x6), some (.long r3), none, none]) dX11_likely_140 (by decide) rfl ?_
    refine px_iload dX11_likely_142 rfl ?_
    refine px_if_le (tgt := 154) dX11_likely_144 (by decide) ?_
    by_cases hc : x6 ≤ 0
    · rw [if_pos hc] at h ⊢
      refine px_ldc2 (v := ((-1) : Int64)) dX11_likely_154 w_1031 ?_
      exact px_lreturn dX11_likely_157 rfl rfl ⟨rfl, _, rfl, h⟩
    · rw [if_neg hc] at h ⊢
      refine px_lload dX11_likely_147 rfl ?_
      refine px_lconst (v := (0 : Int64)) dX11_likely_149 (by decide) ?_
      refine px_lc_gt (tgt := 158) dX11_likely_150 dX11_likely_151 (by decide) ?_
      by_cases hc : (0 : Int64) < r3
      · rw [if_pos hc] at h ⊢
        refine px_iload_n dX11_likely_158 rfl rfl ?_
        refine px_if_ne (tgt := 166) dX11_likely_159 (by decide) ?_
        by_cases hc : ¬ x2 = 0
        · rw [if_pos hc] at h ⊢
          refine px_iload_n dX11_likely_166 rfl rfl ?_
          refine px_iconst (v := (1 : Int32)) dX11_likely_167 (by decide) ?_
          refine px_icmp_ne (tgt := 180) dX11_likely_168 (by decide) ?_
          by_cases hc : ¬ x2 = (1 : Int32)
          · rw [if_pos hc] at h ⊢
            refine px_iload dX11_likely_180 rfl ?_
            refine px_i2l dX11_likely_182 ?_
            refine px_lload dX11_likely_183 rfl ?_
            obtain ⟨hne, h⟩ := h
            refine px_ldiv dX11_likely_185 hne ?_
            exact px_lreturn dX11_likely_186 rfl rfl ⟨rfl, _, rfl, h⟩
          · rw [if_neg hc] at h ⊢
            refine px_iload dX11_likely_171 rfl ?_
            refine px_i2l dX11_likely_173 ?_
            refine px_lload dX11_likely_174 rfl ?_
            obtain ⟨hne, h⟩ := h
            refine px_ldiv dX11_likely_176 hne ?_
            refine px_goto (tgt := 186) dX11_likely_177 (by decide) ?_
            exact px_lreturn dX11_likely_186 rfl rfl ⟨rfl, _, rfl, h⟩
        · rw [if_neg hc] at h ⊢
          refine px_iload dX11_likely_162 rfl ?_
          refine px_i2l dX11_likely_164 ?_
          exact px_lreturn dX11_likely_165 rfl rfl ⟨rfl, _, rfl, h⟩
      · rw [if_neg hc] at h ⊢
        refine px_ldc2 (v := ((-1) : Int64)) dX11_likely_154 w_1031 ?_
        exact px_lreturn dX11_likely_157 rfl rfl ⟨rfl, _, rfl, h⟩
  · rw [if_neg hc] at h ⊢
    refine px_aload_n dX11_likely_45 rfl rfl ?_
    refine px_callV_A (As := []) (st := []) dX11_likely_46 lk_X11_190.1 lk_X11_190.2 (b := b3) hb3N hb3K (by decide) rfl (by decide) rfl (Nat.le_of_ble_eq_true rfl) ⟨_, rfl⟩ rfl (Nat.le_of_ble_eq_true rfl) ⟨Nat.le_refl _, Nat.le_refl _, Nat.le_refl _⟩ ?_
    refine PAt.mono h (fun v κ gi4 gl5 hq => ?_)
    rcases hq with ⟨rfl, ⟨rfl, hq⟩ | ⟨b6, rfl, hb6N, hb6K, hq⟩⟩
    · have h := hq.1 rfl
      refine px_iload dX11_likely_49 rfl ?_
      exact h.elim
    · have h := hq.2 b6 rfl hb6N hb6K
      refine px_iload dX11_likely_49 rfl ?_
      refine px_callV_I (As := [.int x7]) (st := []) dX11_likely_51 lk_X11_240.1 lk_X11_240.2 (b := b6) hb6N hb6K (by decide) rfl (by decide) rfl (Nat.le_of_ble_eq_true rfl) rfl rfl (Nat.le_of_ble_eq_true rfl) ⟨Nat.le_refl _, Nat.le_refl _, Nat.le_refl _⟩ ?_
      refine PAt.mono h (fun v κ gi7 gl8 hq => ?_)
      obtain ⟨rfl, r9, rfl, h⟩ := hq
      refine px_istore (ls2 := [some (.ref 0), none, some (.int x2), some (.ref b3), some (.int x4), some (.int x5), some (.int x6), some (.int x7), some (.int r9), none]) dX11_likely_54 (by decide) rfl ?_
      refine px_aload_n dX11_likely_56 rfl rfl ?_
      refine px_callV_A (As := []) (st := []) dX11_likely_57 lk_X11_190.1 lk_X11_190.2 (b := b3) hb3N hb3K (by decide) rfl (by decide) rfl (Nat.le_of_ble_eq_true rfl) ⟨_, rfl⟩ rfl (Nat.le_of_ble_eq_true rfl) ⟨Nat.le_refl _, Nat.le_refl _, Nat.le_refl _⟩ ?_
      refine PAt.mono h (fun v κ gi10 gl11 hq => ?_)
      rcases hq with ⟨rfl, ⟨rfl, hq⟩ | ⟨b12, rfl, hb12N, hb12K, hq⟩⟩
      · have h := hq.1 rfl
        refine px_iload dX11_likely_60 rfl ?_
        refine px_bipush (v := (12 : Int32)) dX11_likely_62 (by decide) ?_
        refine px_irem dX11_likely_64 (by decide) ?_
        exact h.elim
      · have h := hq.2 b12 rfl hb12N hb12K
        refine px_iload dX11_likely_60 rfl ?_
        refine px_bipush (v := (12 : Int32)) dX11_likely_62 (by decide) ?_
        refine px_irem dX11_likely_64 (by decide) ?_
        refine px_callV_I (As := [.int (jr x7 (12 : Int32))]) (st := []) dX11_likely_65 lk_X11_243.1 lk_X11_243.2 (b := b12) hb12N hb12K (by decide) rfl (by decide) rfl (Nat.le_of_ble_eq_true rfl) rfl rfl (Nat.le_of_ble_eq_true rfl) ⟨Nat.le_refl _, Nat.le_refl _, Nat.le_refl _⟩ ?_
        refine PAt.mono h (fun v κ gi13 gl14 hq => ?_)
        obtain ⟨rfl, r15, rfl, h⟩ := hq
        refine px_aload_n dX11_likely_68 rfl rfl ?_
        refine gf_X11_85 rfl dX11_likely_69 zl_0 zk_0 rfl zr_0_10 zl_33 ?_
        refine px_iload dX11_likely_72 rfl ?_
        refine px_bipush (v := (12 : Int32)) dX11_likely_74 (by decide) ?_
        refine px_irem dX11_likely_76 (by decide) ?_
        refine px_callV_I (As := [.int (jr x7 (12 : Int32))]) (st := [.int r15]) dX11_likely_77 lk_X11_246.1 lk_X11_246.2 (b := 33) zl_33 zk_33 (by decide) rfl (by decide) rfl (Nat.le_of_ble_eq_true rfl) rfl rfl (Nat.le_of_ble_eq_true rfl) ⟨Nat.le_refl _, Nat.le_refl _, Nat.le_refl _⟩ ?_
        refine PAt.mono h (fun v κ gi16 gl17 hq => ?_)
        obtain ⟨rfl, r18, rfl, h⟩ := hq
        refine px_imul dX11_likely_80 ?_
        obtain ⟨z19, hz19⟩ : ∃ y : Int32, y = r15 * r18 := ⟨_, rfl⟩
        have h := h z19 hz19
        refine px_namei hz19 ?_
        refine px_istore (ls2 := [some (.ref 0), none, some (.int x2), some (.ref b3), some (.int x4), some (.int x5), some (.int x6), some (.int x7), some (.int r9), some (.int z19)]) dX11_likely_81 (by decide) rfl ?_
        refine px_iload dX11_likely_83 rfl ?_
        refine px_iload dX11_likely_85 rfl ?_
        refine px_iload dX11_likely_87 rfl ?_
        refine px_callS_I (As := [.int r9]) (st := [.int z19, .int x6]) dX11_likely_89 lk_X11_249.1 lk_X11_249.2 (by decide) rfl (Nat.le_of_ble_eq_true rfl) rfl rfl (Nat.le_of_ble_eq_true rfl) ⟨Nat.le_refl _, Nat.le_refl _, Nat.le_refl _⟩ ?_
        refine PAt.mono h (fun v κ gi20 gl21 hq => ?_)
        obtain ⟨rfl, r22, rfl, h⟩ := hq
        refine px_imul dX11_likely_92 ?_
        refine px_iadd dX11_likely_93 ?_
        obtain ⟨z23, hz23⟩ : ∃ y : Int32, y = x6 + (z19 * r22) := ⟨_, rfl⟩
        have h := h z23 hz23
        refine px_namei hz23 ?_
        refine px_istore (ls2 := [some (.ref 0), none, some (.int x2), some (.ref b3), some (.int x4), some (.int x5), some (.int z23), some (.int x7), some (.int r9), some (.int z19)]) dX11_likely_94 (by decide) rfl ?_
        refine px_iload dX11_likely_96 rfl ?_
        refine px_if_eq (tgt := 125) dX11_likely_98 (by decide) ?_
        by_cases hc : r9 = 0
        · rw [if_pos hc] at h ⊢
          refine px_iinc (v := x7 + (1 : Int32)) (ls2 := [some (.ref 0), none, some (.int x2), some (.ref b3), some (.int x4), some (.int x5), some (.int z23), some (.int (x7 + (1 : Int32))), some (.int r9), some (.int z19)]) dX11_likely_125 rfl rfl (by decide) rfl ?_
          refine px_goto (tgt := 38) dX11_likely_128 (by decide) ?_
          exact PAt.forget h (lsub_at ⟨rfl, ⟨rfl, ⟨rfl, ⟨rfl, ⟨rfl, ⟨rfl, ⟨rfl, trivial⟩⟩⟩⟩⟩⟩⟩)
        · rw [if_neg hc] at h ⊢
          refine px_iload dX11_likely_101 rfl ?_
          refine px_iload dX11_likely_103 rfl ?_
          refine px_icmp_le (tgt := 125) dX11_likely_105 (by decide) ?_
          by_cases hc : z19 ≤ x4
          · rw [if_pos hc] at h ⊢
            refine px_iinc (v := x7 + (1 : Int32)) (ls2 := [some (.ref 0), none, some (.int x2), some (.ref b3), some (.int x4), some (.int x5), some (.int z23), some (.int (x7 + (1 : Int32))), some (.int r9), some (.int z19)]) dX11_likely_125 rfl rfl (by decide) rfl ?_
            refine px_goto (tgt := 38) dX11_likely_128 (by decide) ?_
            exact PAt.forget h (lsub_at ⟨rfl, ⟨rfl, ⟨rfl, ⟨rfl, ⟨rfl, ⟨rfl, ⟨rfl, trivial⟩⟩⟩⟩⟩⟩⟩)
          · rw [if_neg hc] at h ⊢
            refine px_iload dX11_likely_108 rfl ?_
            refine px_istore (ls2 := [some (.ref 0), none, some (.int x2), some (.ref b3), some (.int z19), some (.int x5), some (.int z23), some (.int x7), some (.int r9), some (.int z19)]) dX11_likely_110 (by decide) rfl ?_
            refine px_iload dX11_likely_112 rfl ?_
            refine px_bipush (v := (30 : Int32)) dX11_likely_114 (by decide) ?_
            refine px_imul dX11_likely_116 ?_
            refine px_iload dX11_likely_117 rfl ?_
            refine px_callS_I (As := [.int r9]) (st := [.int (x7 * (30 : Int32))]) dX11_likely_119 lk_X11_254.1 lk_X11_254.2 (by decide) rfl (Nat.le_of_ble_eq_true rfl) rfl rfl (Nat.le_of_ble_eq_true rfl) ⟨Nat.le_refl _, Nat.le_refl _, Nat.le_refl _⟩ ?_
            refine PAt.mono h (fun v κ gi24 gl25 hq => ?_)
            obtain ⟨rfl, r26, rfl, h⟩ := hq
            refine px_iadd dX11_likely_122 ?_
            obtain ⟨z27, hz27⟩ : ∃ y : Int32, y = (x7 * (30 : Int32)) + r26 := ⟨_, rfl⟩
            have h := h z27 hz27
            refine px_namei hz27 ?_
            refine px_istore (ls2 := [some (.ref 0), none, some (.int x2), some (.ref b3), some (.int z19), some (.int z27), some (.int z23), some (.int x7), some (.int r9), some (.int z19)]) dX11_likely_123 (by decide) rfl ?_
            refine px_iinc (v := x7 + (1 : Int32)) (ls2 := [some (.ref 0), none, some (.int x2), some (.ref b3), some (.int z19), some (.int z27), some (.int z23), some (.int (x7 + (1 : Int32))), some (.int r9), some (.int z19)]) dX11_likely_125 rfl rfl (by decide) rfl ?_
            refine px_goto (tgt := 38) dX11_likely_128 (by decide) ?_
            exact PAt.forget h (lsub_at ⟨rfl, ⟨rfl, ⟨rfl, ⟨rfl, ⟨rfl, ⟨rfl, ⟨rfl, trivial⟩⟩⟩⟩⟩⟩⟩)
def f_X11_look (x1 : Int32) (x2 : Int32) (x3 : Int32) (gi : Gi) (gl : Gl) (Q : Int64 → Gi → Gl → Prop) : Prop :=
p_X0_get 33 x1 gi gl (fun (o13 : Option Nat) (gi1 : Gi) (gl2 : Gl) =>
(o13 = none →
Q ((-1) : Int64) gi1 gl2) ∧
(∀ b3 : Nat, o13 = some b3 → b3 < NN → sK b3 = 5 →
if x3 < 0 then
(Q ((-1) : Int64) gi1 gl2)
else
(if (1 : Int32) < x3 then
(Q ((-1) : Int64) gi1 gl2)
else
(p_X3_finds b3 x2 gi1 gl2 (fun (r6 : Int32) (gi4 : Gi) (gl5 : Gl) =>
if ¬ r6 = 0 then
(if ¬ x3 = 0 then
(p_X3_dayCount  gi4 gl5 (fun (r9 : Int32) (gi7 : Gi) (gl8 : Gl) =>
Q r9.toInt64 gi7 gl8))
else
(p_X3_together  gi4 gl5 (fun (r12 : Int64) (gi10 : Gi) (gl11 : Gl) =>
Q r12 gi10 gl11)))
else
(Q ((-1) : Int64) gi4 gl5))))))
set_option maxRecDepth 100000 in
theorem v_X11_look {x1 : Int32} {x2 : Int32} {x3 : Int32} {gi : Gi} {gl : Gl} {Q : Int64 → Gi → Gl → Prop}  (h : f_X11_look x1 x2 x3 gi gl Q) : p_X11_look x1 x2 x3 gi gl Q := by
  unfold f_X11_look at h
  show PAt mX11_look NN NN κF 0 [some (.ref 0), some (.int x1), some (.int x2), some (.int x3), none] [] gi gl _
  refine px_aload_n dX11_look_0 rfl rfl ?_
  refine gf_X11_85 rfl dX11_look_1 zl_0 zk_0 rfl zr_0_10 zl_33 ?_
  refine px_iload_n dX11_look_4 rfl rfl ?_
  refine px_callV_A (As := [.int x1]) (st := []) dX11_look_5 lk_X11_144.1 lk_X11_144.2 (b := 33) zl_33 zk_33 (by decide) rfl (by decide) rfl (Nat.le_of_ble_eq_true rfl) ⟨_, rfl⟩ rfl (Nat.le_of_ble_eq_true rfl) ⟨Nat.le_refl _, Nat.le_refl _, Nat.le_refl _⟩ ?_
  refine PAt.mono h (fun v κ gi1 gl2 hq => ?_)
  rcases hq with ⟨rfl, ⟨rfl, hq⟩ | ⟨b3, rfl, hb3N, hb3K, hq⟩⟩
  · have h := hq.1 rfl
    refine px_astoreN (ls2 := [some (.ref 0), some (.int x1), some (.int x2), some (.int x3), some (.null)]) dX11_look_8 (by decide) rfl ?_
    refine px_aloadN dX11_look_10 rfl ?_
    refine px_ifnullN (tgt := 37) dX11_look_12 (by decide) ?_
    refine px_ldc2 (v := ((-1) : Int64)) dX11_look_37 w_1031 ?_
    exact px_lreturn dX11_look_40 rfl rfl ⟨rfl, _, rfl, h⟩
  · have h := hq.2 b3 rfl hb3N hb3K
    refine px_astore (ls2 := [some (.ref 0), some (.int x1), some (.int x2), some (.int x3), some (.ref b3)]) dX11_look_8 (by decide) rfl ?_
    refine px_aload dX11_look_10 rfl ?_
    refine px_ifnull (tgt := 37) dX11_look_12 (by decide) ?_
    refine px_iload_n dX11_look_15 rfl rfl ?_
    refine px_if_lt (tgt := 37) dX11_look_16 (by decide) ?_
    by_cases hc : x3 < 0
    · rw [if_pos hc] at h ⊢
      refine px_ldc2 (v := ((-1) : Int64)) dX11_look_37 w_1031 ?_
      exact px_lreturn dX11_look_40 rfl rfl ⟨rfl, _, rfl, h⟩
    · rw [if_neg hc] at h ⊢
      refine px_iload_n dX11_look_19 rfl rfl ?_
      refine px_iconst (v := (1 : Int32)) dX11_look_20 (by decide) ?_
      refine px_icmp_gt (tgt := 37) dX11_look_21 (by decide) ?_
      by_cases hc : (1 : Int32) < x3
      · rw [if_pos hc] at h ⊢
        refine px_ldc2 (v := ((-1) : Int64)) dX11_look_37 w_1031 ?_
        exact px_lreturn dX11_look_40 rfl rfl ⟨rfl, _, rfl, h⟩
      · rw [if_neg hc] at h ⊢
        refine px_aload_n dX11_look_24 rfl rfl ?_
        refine gf_X11_78 rfl dX11_look_25 zl_0 zk_0 rfl zr_0_9 zl_31 ?_
        refine px_aload dX11_look_28 rfl ?_
        refine px_iload_n dX11_look_30 rfl rfl ?_
        refine px_callV_I (As := [.ref b3, .int x2]) (st := []) dX11_look_31 lk_X11_257.1 lk_X11_257.2 (b := 31) zl_31 zk_31 (by decide) rfl (by decide) rfl (Nat.le_of_ble_eq_true rfl) rfl rfl (Nat.le_of_ble_eq_true rfl) ⟨Nat.le_refl _, Nat.le_refl _, Nat.le_refl _⟩ ?_
        refine PAt.mono h (fun v κ gi4 gl5 hq => ?_)
        obtain ⟨rfl, r6, rfl, h⟩ := hq
        refine px_if_ne (tgt := 41) dX11_look_34 (by decide) ?_
        by_cases hc : ¬ r6 = 0
        · rw [if_pos hc] at h ⊢
          refine px_iload_n dX11_look_41 rfl rfl ?_
          refine px_if_ne (tgt := 55) dX11_look_42 (by decide) ?_
          by_cases hc : ¬ x3 = 0
          · rw [if_pos hc] at h ⊢
            refine px_aload_n dX11_look_55 rfl rfl ?_
            refine gf_X11_78 rfl dX11_look_56 zl_0 zk_0 rfl zr_0_9 zl_31 ?_
            refine px_callV_I (As := []) (st := []) dX11_look_59 lk_X11_265.1 lk_X11_265.2 (b := 31) zl_31 zk_31 (by decide) rfl (by decide) rfl (Nat.le_of_ble_eq_true rfl) rfl rfl (Nat.le_of_ble_eq_true rfl) ⟨Nat.le_refl _, Nat.le_refl _, Nat.le_refl _⟩ ?_
            refine PAt.mono h (fun v κ gi7 gl8 hq => ?_)
            obtain ⟨rfl, r9, rfl, h⟩ := hq
            refine px_i2l dX11_look_62 ?_
            exact px_lreturn dX11_look_63 rfl rfl ⟨rfl, _, rfl, h⟩
          · rw [if_neg hc] at h ⊢
            refine px_aload_n dX11_look_45 rfl rfl ?_
            refine gf_X11_78 rfl dX11_look_46 zl_0 zk_0 rfl zr_0_9 zl_31 ?_
            refine px_callV_L (As := []) (st := []) dX11_look_49 lk_X11_261.1 lk_X11_261.2 (b := 31) zl_31 zk_31 (by decide) rfl (by decide) rfl (Nat.le_of_ble_eq_true rfl) rfl rfl (Nat.le_of_ble_eq_true rfl) ⟨Nat.le_refl _, Nat.le_refl _, Nat.le_refl _⟩ ?_
            refine PAt.mono h (fun v κ gi10 gl11 hq => ?_)
            obtain ⟨rfl, r12, rfl, h⟩ := hq
            refine px_goto (tgt := 63) dX11_look_52 (by decide) ?_
            exact px_lreturn dX11_look_63 rfl rfl ⟨rfl, _, rfl, h⟩
        · rw [if_neg hc] at h ⊢
          refine px_ldc2 (v := ((-1) : Int64)) dX11_look_37 w_1031 ?_
          exact px_lreturn dX11_look_40 rfl rfl ⟨rfl, _, rfl, h⟩
def f_X11_next (x1 : Int32) (gi : Gi) (gl : Gl) (Q : Int32 → Gi → Gl → Prop) : Prop :=
p_X0_get 33 x1 gi gl (fun (o7 : Option Nat) (gi1 : Gi) (gl2 : Gl) =>
(o7 = none →
Q ((-1) : Int32) gi1 gl2) ∧
(∀ b3 : Nat, o7 = some b3 → b3 < NN → sK b3 = 5 →
p_X3_leastOf b3 gi1 gl2 (fun (r6 : Int32) (gi4 : Gi) (gl5 : Gl) =>
Q r6 gi4 gl5)))
set_option maxRecDepth 100000 in
theorem v_X11_next {x1 : Int32} {gi : Gi} {gl : Gl} {Q : Int32 → Gi → Gl → Prop}  (h : f_X11_next x1 gi gl Q) : p_X11_next x1 gi gl Q := by
  unfold f_X11_next at h
  show PAt mX11_next NN NN κF 0 [some (.ref 0), some (.int x1), none] [] gi gl _
  refine px_aload_n dX11_next_0 rfl rfl ?_
  refine gf_X11_85 rfl dX11_next_1 zl_0 zk_0 rfl zr_0_10 zl_33 ?_
  refine px_iload_n dX11_next_4 rfl rfl ?_
  refine px_callV_A (As := [.int x1]) (st := []) dX11_next_5 lk_X11_144.1 lk_X11_144.2 (b := 33) zl_33 zk_33 (by decide) rfl (by decide) rfl (Nat.le_of_ble_eq_true rfl) ⟨_, rfl⟩ rfl (Nat.le_of_ble_eq_true rfl) ⟨Nat.le_refl _, Nat.le_refl _, Nat.le_refl _⟩ ?_
  refine PAt.mono h (fun v κ gi1 gl2 hq => ?_)
  rcases hq with ⟨rfl, ⟨rfl, hq⟩ | ⟨b3, rfl, hb3N, hb3K, hq⟩⟩
  · have h := hq.1 rfl
    refine px_astore_nN (ls2 := [some (.ref 0), some (.int x1), some (.null)]) (i := 2) rfl dX11_next_8 (by decide) rfl ?_
    refine px_aload_nN dX11_next_9 rfl rfl ?_
    refine px_ifnonnullN (tgt := 17) dX11_next_10 (by decide) ?_
    refine px_iconst (v := ((-1) : Int32)) dX11_next_13 (by decide) ?_
    refine px_goto (tgt := 25) dX11_next_14 (by decide) ?_
    exact px_ireturn dX11_next_25 rfl ⟨.int, rfl, rfl, rfl⟩ ⟨rfl, _, rfl, h⟩
  · have h := hq.2 b3 rfl hb3N hb3K
    refine px_astore_n (ls2 := [some (.ref 0), some (.int x1), some (.ref b3)]) (i := 2) rfl dX11_next_8 (by decide) rfl ?_
    refine px_aload_n dX11_next_9 rfl rfl ?_
    refine px_ifnonnull (tgt := 17) dX11_next_10 (by decide) ?_
    refine px_aload_n dX11_next_17 rfl rfl ?_
    refine gf_X11_78 rfl dX11_next_18 zl_0 zk_0 rfl zr_0_9 zl_31 ?_
    refine px_aload_n dX11_next_21 rfl rfl ?_
    refine px_callV_I (As := [.ref b3]) (st := []) dX11_next_22 lk_X11_266.1 lk_X11_266.2 (b := 31) zl_31 zk_31 (by decide) rfl (by decide) rfl (Nat.le_of_ble_eq_true rfl) rfl rfl (Nat.le_of_ble_eq_true rfl) ⟨Nat.le_refl _, Nat.le_refl _, Nat.le_refl _⟩ ?_
    refine PAt.mono h (fun v κ gi4 gl5 hq => ?_)
    obtain ⟨rfl, r6, rfl, h⟩ := hq
    exact px_ireturn dX11_next_25 rfl ⟨.int, rfl, rfl, rfl⟩ ⟨rfl, _, rfl, h⟩
def f_X11_cloud (x1 : Int32) (x2 : Int32) (gi : Gi) (gl : Gl) (Q : Int32 → Gi → Gl → Prop) : Prop :=
if x1 ≤ 0 then
(Q ((-1) : Int32) gi gl)
else
(p_X0_size 33 gi gl (fun (r3 : Int32) (gi1 : Gi) (gl2 : Gl) =>
if (ja x1 r3) = 0 then
(if ¬ x2 = 0 then
(if ¬ x2 = (1 : Int32) then
(if ¬ x2 = (2 : Int32) then
(Q ((-1) : Int32) gi1 gl2)
else
(p_X0_mostMeeting 33 x1 gi1 gl2 (fun (r6 : Int32) (gi4 : Gi) (gl5 : Gl) =>
Q r6 gi4 gl5)))
else
(p_X0_firstCommon 33 x1 gi1 gl2 (fun (r9 : Int32) (gi7 : Gi) (gl8 : Gl) =>
Q r9 gi7 gl8)))
else
(p_X0_commonCount 33 x1 gi1 gl2 (fun (r12 : Int32) (gi10 : Gi) (gl11 : Gl) =>
Q r12 gi10 gl11)))
else
(Q ((-1) : Int32) gi1 gl2)))
set_option maxRecDepth 100000 in
theorem v_X11_cloud {x1 : Int32} {x2 : Int32} {gi : Gi} {gl : Gl} {Q : Int32 → Gi → Gl → Prop}  (h : f_X11_cloud x1 x2 gi gl Q) : p_X11_cloud x1 x2 gi gl Q := by
  unfold f_X11_cloud at h
  show PAt mX11_cloud NN NN κF 0 [some (.ref 0), some (.int x1), some (.int x2)] [] gi gl _
  refine px_iload_n dX11_cloud_0 rfl rfl ?_
  refine px_if_le (tgt := 16) dX11_cloud_1 (by decide) ?_
  by_cases hc : x1 ≤ 0
  · rw [if_pos hc] at h ⊢
    refine px_iconst (v := ((-1) : Int32)) dX11_cloud_16 (by decide) ?_
    exact px_ireturn dX11_cloud_17 rfl ⟨.int, rfl, rfl, rfl⟩ ⟨rfl, _, rfl, h⟩
  · rw [if_neg hc] at h ⊢
    refine px_iload_n dX11_cloud_4 rfl rfl ?_
    refine px_aload_n dX11_cloud_5 rfl rfl ?_
    refine gf_X11_85 rfl dX11_cloud_6 zl_0 zk_0 rfl zr_0_10 zl_33 ?_
    refine px_callV_I (As := []) (st := [.int x1]) dX11_cloud_9 lk_X11_128.1 lk_X11_128.2 (b := 33) zl_33 zk_33 (by decide) rfl (by decide) rfl (Nat.le_of_ble_eq_true rfl) rfl rfl (Nat.le_of_ble_eq_true rfl) ⟨Nat.le_refl _, Nat.le_refl _, Nat.le_refl _⟩ ?_
    refine PAt.mono h (fun v κ gi1 gl2 hq => ?_)
    obtain ⟨rfl, r3, rfl, h⟩ := hq
    refine px_ishr dX11_cloud_12 ?_
    refine px_if_eq (tgt := 18) dX11_cloud_13 (by decide) ?_
    by_cases hc : (ja x1 r3) = 0
    · rw [if_pos hc] at h ⊢
      refine px_iload_n dX11_cloud_18 rfl rfl ?_
      refine px_if_ne (tgt := 31) dX11_cloud_19 (by decide) ?_
      by_cases hc : ¬ x2 = 0
      · rw [if_pos hc] at h ⊢
        refine px_iload_n dX11_cloud_31 rfl rfl ?_
        refine px_iconst (v := (1 : Int32)) dX11_cloud_32 (by decide) ?_
        refine px_icmp_ne (tgt := 45) dX11_cloud_33 (by decide) ?_
        by_cases hc : ¬ x2 = (1 : Int32)
        · rw [if_pos hc] at h ⊢
          refine px_iload_n dX11_cloud_45 rfl rfl ?_
          refine px_iconst (v := (2 : Int32)) dX11_cloud_46 (by decide) ?_
          refine px_icmp_ne (tgt := 61) dX11_cloud_47 (by decide) ?_
          by_cases hc : ¬ x2 = (2 : Int32)
          · rw [if_pos hc] at h ⊢
            refine px_iconst (v := ((-1) : Int32)) dX11_cloud_61 (by decide) ?_
            exact px_ireturn dX11_cloud_62 rfl ⟨.int, rfl, rfl, rfl⟩ ⟨rfl, _, rfl, h⟩
          · rw [if_neg hc] at h ⊢
            refine px_aload_n dX11_cloud_50 rfl rfl ?_
            refine gf_X11_85 rfl dX11_cloud_51 zl_0 zk_0 rfl zr_0_10 zl_33 ?_
            refine px_iload_n dX11_cloud_54 rfl rfl ?_
            refine px_callV_I (As := [.int x1]) (st := []) dX11_cloud_55 lk_X11_275.1 lk_X11_275.2 (b := 33) zl_33 zk_33 (by decide) rfl (by decide) rfl (Nat.le_of_ble_eq_true rfl) rfl rfl (Nat.le_of_ble_eq_true rfl) ⟨Nat.le_refl _, Nat.le_refl _, Nat.le_refl _⟩ ?_
            refine PAt.mono h (fun v κ gi4 gl5 hq => ?_)
            obtain ⟨rfl, r6, rfl, h⟩ := hq
            refine px_goto (tgt := 62) dX11_cloud_58 (by decide) ?_
            exact px_ireturn dX11_cloud_62 rfl ⟨.int, rfl, rfl, rfl⟩ ⟨rfl, _, rfl, h⟩
        · rw [if_neg hc] at h ⊢
          refine px_aload_n dX11_cloud_36 rfl rfl ?_
          refine gf_X11_85 rfl dX11_cloud_37 zl_0 zk_0 rfl zr_0_10 zl_33 ?_
          refine px_iload_n dX11_cloud_40 rfl rfl ?_
          refine px_callV_I (As := [.int x1]) (st := []) dX11_cloud_41 lk_X11_272.1 lk_X11_272.2 (b := 33) zl_33 zk_33 (by decide) rfl (by decide) rfl (Nat.le_of_ble_eq_true rfl) rfl rfl (Nat.le_of_ble_eq_true rfl) ⟨Nat.le_refl _, Nat.le_refl _, Nat.le_refl _⟩ ?_
          refine PAt.mono h (fun v κ gi7 gl8 hq => ?_)
          obtain ⟨rfl, r9, rfl, h⟩ := hq
          exact px_ireturn dX11_cloud_44 rfl ⟨.int, rfl, rfl, rfl⟩ ⟨rfl, _, rfl, h⟩
      · rw [if_neg hc] at h ⊢
        refine px_aload_n dX11_cloud_22 rfl rfl ?_
        refine gf_X11_85 rfl dX11_cloud_23 zl_0 zk_0 rfl zr_0_10 zl_33 ?_
        refine px_iload_n dX11_cloud_26 rfl rfl ?_
        refine px_callV_I (As := [.int x1]) (st := []) dX11_cloud_27 lk_X11_269.1 lk_X11_269.2 (b := 33) zl_33 zk_33 (by decide) rfl (by decide) rfl (Nat.le_of_ble_eq_true rfl) rfl rfl (Nat.le_of_ble_eq_true rfl) ⟨Nat.le_refl _, Nat.le_refl _, Nat.le_refl _⟩ ?_
        refine PAt.mono h (fun v κ gi10 gl11 hq => ?_)
        obtain ⟨rfl, r12, rfl, h⟩ := hq
        exact px_ireturn dX11_cloud_30 rfl ⟨.int, rfl, rfl, rfl⟩ ⟨rfl, _, rfl, h⟩
    · rw [if_neg hc] at h ⊢
      refine px_iconst (v := ((-1) : Int32)) dX11_cloud_16 (by decide) ?_
      exact px_ireturn dX11_cloud_17 rfl ⟨.int, rfl, rfl, rfl⟩ ⟨rfl, _, rfl, h⟩
def f_X11_image  (gi : Gi) (gl : Gl) (Q : Int32 → Gi → Gl → Prop) : Prop :=
if (gi 0 12) < (4 : Int32) then
(vp_in (gi 0 12) 4 ∧
∀ b1 : Nat, b1 = 93 + 59 * (gi 0 12).toNatClampNeg →
p_X0_copyFrom b1 33 gi gl (fun (gi2 : Gi) (gl3 : Gl) =>
∀ gi4 : Gi, gi4 = uI gi2 0 (upd (gi2 0) 12 ((gi2 0 12) + (1 : Int32))) →
Q ((gi4 0 12) - (1 : Int32)) gi4 gl3))
else
(Q ((-1) : Int32) gi gl)
set_option maxRecDepth 100000 in
theorem v_X11_image  {gi : Gi} {gl : Gl} {Q : Int32 → Gi → Gl → Prop}  (h : f_X11_image  gi gl Q) : p_X11_image  gi gl Q := by
  unfold f_X11_image at h
  show PAt mX11_image NN NN κF 0 [some (.ref 0)] [] gi gl _
  refine px_aload_n dX11_image_0 rfl rfl ?_
  refine gf_X11_118 rfl dX11_image_1 zl_0 zk_0 ?_
  refine px_aload_n dX11_image_4 rfl rfl ?_
  refine gf_X11_89 rfl dX11_image_5 zl_0 zk_0 rfl zr_0_11 zl_92 ?_
  refine px_alen (n := 4) (t0 := 5) (v := (4 : Int32)) dX11_image_8 zl_92 zk_92 zs_92 (by decide) (fun _ => rfl) (by decide) ?_
  refine px_icmp_lt (tgt := 14) dX11_image_9 (by decide) ?_
  by_cases hc : (gi 0 12) < (4 : Int32)
  · rw [if_pos hc] at h ⊢
    refine px_aload_n dX11_image_14 rfl rfl ?_
    refine gf_X11_89 rfl dX11_image_15 zl_0 zk_0 rfl zr_0_11 zl_92 ?_
    refine px_aload_n dX11_image_18 rfl rfl ?_
    refine gf_X11_118 rfl dX11_image_19 zl_0 zk_0 ?_
    obtain ⟨hi, h⟩ := h
    obtain ⟨b1, hb1⟩ : ∃ y : Nat, y = 93 + 59 * (gi 0 12).toNatClampNeg := ⟨_, rfl⟩
    have h := h b1 hb1
    have hb1N : b1 < NN := by rw [hb1]; exact (lyB_l hi)
    have hb1K : sK b1 = 0 := by rw [hb1]; exact (lyB_k hi)
    refine px_aaload (n := 4) (t0 := 5) dX11_image_22 zl_92 zk_92 zs_92 (by decide) (fun _ => rfl) hi rfl (b := b1) (by rw [hb1]; exact (lyB_r hi)) hb1N ?_
    refine px_aload_n dX11_image_23 rfl rfl ?_
    refine gf_X11_85 rfl dX11_image_24 zl_0 zk_0 rfl zr_0_10 zl_33 ?_
    refine px_callV_V (As := [.ref 33]) (st := []) dX11_image_27 lk_X11_278.1 lk_X11_278.2 (b := b1) hb1N hb1K (by decide) rfl (by decide) rfl (Nat.le_of_ble_eq_true rfl) rfl rfl (Nat.le_of_ble_eq_true rfl) ⟨Nat.le_refl _, Nat.le_refl _, Nat.le_refl _⟩ ?_
    refine PAt.mono h (fun v κ gi2 gl3 hq => ?_)
    obtain ⟨rfl, -, h⟩ := hq
    refine px_aload_n dX11_image_30 rfl rfl ?_
    refine px_dup dX11_image_31 rfl ?_
    refine gf_X11_118 rfl dX11_image_32 zl_0 zk_0 ?_
    refine px_iconst (v := (1 : Int32)) dX11_image_35 (by decide) ?_
    refine px_iadd dX11_image_36 ?_
    refine pf_X11_118 rfl dX11_image_37 zl_0 zk_0 ?_
    obtain ⟨gi4, hgi4⟩ : ∃ y : Gi, y = uI gi2 0 (upd (gi2 0) 12 ((gi2 0 12) + (1 : Int32))) := ⟨_, rfl⟩
    have h := h gi4 hgi4
    refine px_namegi hgi4 ?_
    refine px_aload_n dX11_image_40 rfl rfl ?_
    refine gf_X11_118 rfl dX11_image_41 zl_0 zk_0 ?_
    refine px_iconst (v := (1 : Int32)) dX11_image_44 (by decide) ?_
    refine px_isub dX11_image_45 ?_
    exact px_ireturn dX11_image_46 rfl ⟨.int, rfl, rfl, rfl⟩ ⟨rfl, _, rfl, h⟩
  · rw [if_neg hc] at h ⊢
    refine px_iconst (v := ((-1) : Int32)) dX11_image_12 (by decide) ?_
    exact px_ireturn dX11_image_13 rfl ⟨.int, rfl, rfl, rfl⟩ ⟨rfl, _, rfl, h⟩
def f_X11_back (x1 : Int32) (gi : Gi) (gl : Gl) (Q : Int32 → Gi → Gl → Prop) : Prop :=
if x1 < 0 then
(Q (0 : Int32) gi gl)
else
(if (gi 0 12) ≤ x1 then
(Q (0 : Int32) gi gl)
else
(if x1 < (4 : Int32) then
(vp_in x1 4 ∧
∀ b1 : Nat, b1 = 93 + 59 * x1.toNatClampNeg →
p_X0_copyFrom 33 b1 gi gl (fun (gi2 : Gi) (gl3 : Gl) =>
Q (1 : Int32) gi2 gl3))
else
(Q (0 : Int32) gi gl)))
set_option maxRecDepth 100000 in
theorem v_X11_back {x1 : Int32} {gi : Gi} {gl : Gl} {Q : Int32 → Gi → Gl → Prop}  (h : f_X11_back x1 gi gl Q) : p_X11_back x1 gi gl Q := by
  unfold f_X11_back at h
  show PAt mX11_back NN NN κF 0 [some (.ref 0), some (.int x1)] [] gi gl _
  refine px_iload_n dX11_back_0 rfl rfl ?_
  refine px_if_lt (tgt := 21) dX11_back_1 (by decide) ?_
  by_cases hc : x1 < 0
  · rw [if_pos hc] at h ⊢
    refine px_iconst (v := (0 : Int32)) dX11_back_21 (by decide) ?_
    exact px_ireturn dX11_back_22 rfl ⟨.boolean, rfl, rfl, by decide⟩ ⟨rfl, _, rfl, h⟩
  · rw [if_neg hc] at h ⊢
    refine px_iload_n dX11_back_4 rfl rfl ?_
    refine px_aload_n dX11_back_5 rfl rfl ?_
    refine gf_X11_118 rfl dX11_back_6 zl_0 zk_0 ?_
    refine px_icmp_ge (tgt := 21) dX11_back_9 (by decide) ?_
    by_cases hc : (gi 0 12) ≤ x1
    · rw [if_pos hc] at h ⊢
      refine px_iconst (v := (0 : Int32)) dX11_back_21 (by decide) ?_
      exact px_ireturn dX11_back_22 rfl ⟨.boolean, rfl, rfl, by decide⟩ ⟨rfl, _, rfl, h⟩
    · rw [if_neg hc] at h ⊢
      refine px_iload_n dX11_back_12 rfl rfl ?_
      refine px_aload_n dX11_back_13 rfl rfl ?_
      refine gf_X11_89 rfl dX11_back_14 zl_0 zk_0 rfl zr_0_11 zl_92 ?_
      refine px_alen (n := 4) (t0 := 5) (v := (4 : Int32)) dX11_back_17 zl_92 zk_92 zs_92 (by decide) (fun _ => rfl) (by decide) ?_
      refine px_icmp_lt (tgt := 23) dX11_back_18 (by decide) ?_
      by_cases hc : x1 < (4 : Int32)
      · rw [if_pos hc] at h ⊢
        refine px_aload_n dX11_back_23 rfl rfl ?_
        refine gf_X11_85 rfl dX11_back_24 zl_0 zk_0 rfl zr_0_10 zl_33 ?_
        refine px_aload_n dX11_back_27 rfl rfl ?_
        refine gf_X11_89 rfl dX11_back_28 zl_0 zk_0 rfl zr_0_11 zl_92 ?_
        refine px_iload_n dX11_back_31 rfl rfl ?_
        obtain ⟨hi, h⟩ := h
        obtain ⟨b1, hb1⟩ : ∃ y : Nat, y = 93 + 59 * x1.toNatClampNeg := ⟨_, rfl⟩
        have h := h b1 hb1
        have hb1N : b1 < NN := by rw [hb1]; exact (lyB_l hi)
        have hb1K : sK b1 = 0 := by rw [hb1]; exact (lyB_k hi)
        refine px_aaload (n := 4) (t0 := 5) dX11_back_32 zl_92 zk_92 zs_92 (by decide) (fun _ => rfl) hi rfl (b := b1) (by rw [hb1]; exact (lyB_r hi)) hb1N ?_
        refine px_callV_V (As := [.ref b1]) (st := []) dX11_back_33 lk_X11_278.1 lk_X11_278.2 (b := 33) zl_33 zk_33 (by decide) rfl (by decide) rfl (Nat.le_of_ble_eq_true rfl) rfl rfl (Nat.le_of_ble_eq_true rfl) ⟨Nat.le_refl _, Nat.le_refl _, Nat.le_refl _⟩ ?_
        refine PAt.mono h (fun v κ gi2 gl3 hq => ?_)
        obtain ⟨rfl, -, h⟩ := hq
        refine px_iconst (v := (1 : Int32)) dX11_back_36 (by decide) ?_
        exact px_ireturn dX11_back_37 rfl ⟨.boolean, rfl, rfl, by decide⟩ ⟨rfl, _, rfl, h⟩
      · rw [if_neg hc] at h ⊢
        refine px_iconst (v := (0 : Int32)) dX11_back_21 (by decide) ?_
        exact px_ireturn dX11_back_22 rfl ⟨.boolean, rfl, rfl, by decide⟩ ⟨rfl, _, rfl, h⟩
def f_X11_count (x1 : Int32) (gi : Gi) (gl : Gl) (Q : Int32 → Gi → Gl → Prop) : Prop :=
if x1 = (0 : Int32) then
(Q (gi 0 14) gi gl)
else (
if x1 = (1 : Int32) then
(p_X0_size 33 gi gl (fun (r3 : Int32) (gi1 : Gi) (gl2 : Gl) =>
Q r3 gi1 gl2))
else (
if x1 = (2 : Int32) then
(Q (gi 0 13) gi gl)
else (
if x1 = (3 : Int32) then
(Q (gi 0 12) gi gl)
else (
if x1 = (4 : Int32) then
(p_X0_signCount 33 gi gl (fun (r6 : Int32) (gi4 : Gi) (gl5 : Gl) =>
Q r6 gi4 gl5))
else (
if (10 : Int32) ≤ x1 then
(p_X0_weightOf 33 (x1 - (10 : Int32)) gi gl (fun (r9 : Int32) (gi7 : Gi) (gl8 : Gl) =>
Q r9 gi7 gl8))
else
(Q ((-1) : Int32) gi gl))))))
set_option maxRecDepth 100000 in
theorem v_X11_count {x1 : Int32} {gi : Gi} {gl : Gl} {Q : Int32 → Gi → Gl → Prop}  (h : f_X11_count x1 gi gl Q) : p_X11_count x1 gi gl Q := by
  unfold f_X11_count at h
  show PAt mX11_count NN NN κF 0 [some (.ref 0), some (.int x1)] [] gi gl _
  refine px_iload_n dX11_count_0 rfl rfl ?_
  by_cases hc0 : x1 = (0 : Int32)
  · rw [if_pos hc0] at h
    refine px_tblIn (tgt := 36) (off := 35) dX11_count_1 (by rw [hc0]; decide) (by rw [hc0]; decide) (by rw [hc0]; decide) (by decide) ?_
    refine px_aload_n dX11_count_36 rfl rfl ?_
    refine gf_X11_121 rfl dX11_count_37 zl_0 zk_0 ?_
    exact px_ireturn dX11_count_40 rfl ⟨.int, rfl, rfl, rfl⟩ ⟨rfl, _, rfl, h⟩
  · rw [if_neg hc0] at h
    by_cases hc1 : x1 = (1 : Int32)
    · rw [if_pos hc1] at h
      refine px_tblIn (tgt := 41) (off := 40) dX11_count_1 (by rw [hc1]; decide) (by rw [hc1]; decide) (by rw [hc1]; decide) (by decide) ?_
      refine px_aload_n dX11_count_41 rfl rfl ?_
      refine gf_X11_85 rfl dX11_count_42 zl_0 zk_0 rfl zr_0_10 zl_33 ?_
      refine px_callV_I (As := []) (st := []) dX11_count_45 lk_X11_128.1 lk_X11_128.2 (b := 33) zl_33 zk_33 (by decide) rfl (by decide) rfl (Nat.le_of_ble_eq_true rfl) rfl rfl (Nat.le_of_ble_eq_true rfl) ⟨Nat.le_refl _, Nat.le_refl _, Nat.le_refl _⟩ ?_
      refine PAt.mono h (fun v κ gi1 gl2 hq => ?_)
      obtain ⟨rfl, r3, rfl, h⟩ := hq
      exact px_ireturn dX11_count_48 rfl ⟨.int, rfl, rfl, rfl⟩ ⟨rfl, _, rfl, h⟩
    · rw [if_neg hc1] at h
      by_cases hc2 : x1 = (2 : Int32)
      · rw [if_pos hc2] at h
        refine px_tblIn (tgt := 49) (off := 48) dX11_count_1 (by rw [hc2]; decide) (by rw [hc2]; decide) (by rw [hc2]; decide) (by decide) ?_
        refine px_aload_n dX11_count_49 rfl rfl ?_
        refine gf_X11_97 rfl dX11_count_50 zl_0 zk_0 ?_
        exact px_ireturn dX11_count_53 rfl ⟨.int, rfl, rfl, rfl⟩ ⟨rfl, _, rfl, h⟩
      · rw [if_neg hc2] at h
        by_cases hc3 : x1 = (3 : Int32)
        · rw [if_pos hc3] at h
          refine px_tblIn (tgt := 54) (off := 53) dX11_count_1 (by rw [hc3]; decide) (by rw [hc3]; decide) (by rw [hc3]; decide) (by decide) ?_
          refine px_aload_n dX11_count_54 rfl rfl ?_
          refine gf_X11_118 rfl dX11_count_55 zl_0 zk_0 ?_
          exact px_ireturn dX11_count_58 rfl ⟨.int, rfl, rfl, rfl⟩ ⟨rfl, _, rfl, h⟩
        · rw [if_neg hc3] at h
          by_cases hc4 : x1 = (4 : Int32)
          · rw [if_pos hc4] at h
            refine px_tblIn (tgt := 59) (off := 58) dX11_count_1 (by rw [hc4]; decide) (by rw [hc4]; decide) (by rw [hc4]; decide) (by decide) ?_
            refine px_aload_n dX11_count_59 rfl rfl ?_
            refine gf_X11_85 rfl dX11_count_60 zl_0 zk_0 rfl zr_0_10 zl_33 ?_
            refine px_callV_I (As := []) (st := []) dX11_count_63 lk_X11_281.1 lk_X11_281.2 (b := 33) zl_33 zk_33 (by decide) rfl (by decide) rfl (Nat.le_of_ble_eq_true rfl) rfl rfl (Nat.le_of_ble_eq_true rfl) ⟨Nat.le_refl _, Nat.le_refl _, Nat.le_refl _⟩ ?_
            refine PAt.mono h (fun v κ gi4 gl5 hq => ?_)
            obtain ⟨rfl, r6, rfl, h⟩ := hq
            exact px_ireturn dX11_count_66 rfl ⟨.int, rfl, rfl, rfl⟩ ⟨rfl, _, rfl, h⟩
          · rw [if_neg hc4] at h
            refine px_tblOut (tgt := 67) dX11_count_1 (tbl_out5 hc0 hc1 hc2 hc3 hc4) (by decide) ?_
            refine px_iload_n dX11_count_67 rfl rfl ?_
            refine px_bipush (v := (10 : Int32)) dX11_count_68 (by decide) ?_
            refine px_icmp_ge (tgt := 77) dX11_count_70 (by decide) ?_
            by_cases hc : (10 : Int32) ≤ x1
            · rw [if_pos hc] at h ⊢
              refine px_aload_n dX11_count_77 rfl rfl ?_
              refine gf_X11_85 rfl dX11_count_78 zl_0 zk_0 rfl zr_0_10 zl_33 ?_
              refine px_iload_n dX11_count_81 rfl rfl ?_
              refine px_bipush (v := (10 : Int32)) dX11_count_82 (by decide) ?_
              refine px_isub dX11_count_84 ?_
              refine px_callV_I (As := [.int (x1 - (10 : Int32))]) (st := []) dX11_count_85 lk_X11_246.1 lk_X11_246.2 (b := 33) zl_33 zk_33 (by decide) rfl (by decide) rfl (Nat.le_of_ble_eq_true rfl) rfl rfl (Nat.le_of_ble_eq_true rfl) ⟨Nat.le_refl _, Nat.le_refl _, Nat.le_refl _⟩ ?_
              refine PAt.mono h (fun v κ gi7 gl8 hq => ?_)
              obtain ⟨rfl, r9, rfl, h⟩ := hq
              exact px_ireturn dX11_count_88 rfl ⟨.int, rfl, rfl, rfl⟩ ⟨rfl, _, rfl, h⟩
            · rw [if_neg hc] at h ⊢
              refine px_iconst (v := ((-1) : Int32)) dX11_count_73 (by decide) ?_
              refine px_goto (tgt := 88) dX11_count_74 (by decide) ?_
              exact px_ireturn dX11_count_88 rfl ⟨.int, rfl, rfl, rfl⟩ ⟨rfl, _, rfl, h⟩
abbrev p_X11_putOnTape_3 (x1 : Int32) (x2 : Int32) (gi : Gi) (gl : Gl) (Q : Gi → Gl → Prop) : Prop := PAt mX11_putOnTape NN NN κF 3 [some (.ref 0), some (.int x1), some (.int x2)] [] gi gl (RvQ Q)
def f_X11_putOnTape (x1 : Int32) (gi : Gi) (gl : Gl) (Q : Gi → Gl → Prop) : Prop :=
p_X11_putOnTape_3 x1 (24 : Int32) gi gl Q
def f_X11_putOnTape_3 (x1 : Int32) (x2 : Int32) (gi : Gi) (gl : Gl) (Q : Gi → Gl → Prop) : Prop :=
if x2 < 0 then
(Q gi gl)
else
(if (1200 : Int32) ≤ (gi 0 13) then
(p_X11_putOnTape_3 x1 (x2 + ((-8) : Int32)) gi gl Q)
else
(vp_in (gi 0 13) 1200 ∧
∀ gi1 : Gi, gi1 = uI gi 1 (upd (gi 1) (gi 0 13).toNatClampNeg (vp_nar .byte ((ja x1 x2).toInt8.toInt32))) →
∀ gi2 : Gi, gi2 = uI gi1 0 (upd (gi1 0) 13 ((gi1 0 13) + (1 : Int32))) →
p_X11_putOnTape_3 x1 (x2 + ((-8) : Int32)) gi2 gl Q))
set_option maxRecDepth 100000 in
theorem v_X11_putOnTape {x1 : Int32} {gi : Gi} {gl : Gl} {Q : Gi → Gl → Prop}  (h : f_X11_putOnTape x1 gi gl Q) : p_X11_putOnTape x1 gi gl Q := by
  unfold f_X11_putOnTape at h
  show PAt mX11_putOnTape NN NN κF 0 [some (.ref 0), some (.int x1), none] [] gi gl _
  refine px_bipush (v := (24 : Int32)) dX11_putOnTape_0 (by decide) ?_
  refine px_istore_n (ls2 := [some (.ref 0), some (.int x1), some (.int (24 : Int32))]) (i := 2) rfl dX11_putOnTape_2 (by decide) rfl ?_
  exact PAt.forget h (lsub_at ⟨rfl, ⟨rfl, ⟨rfl, trivial⟩⟩⟩)
set_option maxRecDepth 100000 in
theorem v_X11_putOnTape_3 {x1 : Int32} {x2 : Int32} {gi : Gi} {gl : Gl} {Q : Gi → Gl → Prop}  (h : f_X11_putOnTape_3 x1 x2 gi gl Q) : p_X11_putOnTape_3 x1 x2 gi gl Q := by
  unfold f_X11_putOnTape_3 at h
  show PAt mX11_putOnTape NN NN κF 3 [some (.ref 0), some (.int x1), some (.int x2)] [] gi gl _
  refine px_iload_n dX11_putOnTape_3 rfl rfl ?_
  refine px_if_lt (tgt := 48) dX11_putOnTape_4 (by decide) ?_
  by_cases hc : x2 < 0
  · rw [if_pos hc] at h ⊢
    exact px_return dX11_putOnTape_48 rfl rfl ⟨rfl, rfl, h⟩
  · rw [if_neg hc] at h ⊢
    refine px_aload_n dX11_putOnTape_7 rfl rfl ?_
    refine gf_X11_97 rfl dX11_putOnTape_8 zl_0 zk_0 ?_
    refine px_aload_n dX11_putOnTape_11 rfl rfl ?_
    refine gf_X11_9 rfl dX11_putOnTape_12 zl_0 zk_0 rfl zr_0_0 zl_1 ?_
    refine px_alen (n := 1200) (t0 := 2) (v := (1200 : Int32)) dX11_putOnTape_15 zl_1 zk_1 zs_1 (by decide) (fun _ => rfl) (by decide) ?_
    refine px_icmp_ge (tgt := 42) dX11_putOnTape_16 (by decide) ?_
    by_cases hc : (1200 : Int32) ≤ (gi 0 13)
    · rw [if_pos hc] at h ⊢
      refine px_iinc (v := x2 + ((-8) : Int32)) (ls2 := [some (.ref 0), some (.int x1), some (.int (x2 + ((-8) : Int32)))]) dX11_putOnTape_42 rfl rfl (by decide) rfl ?_
      refine px_goto (tgt := 3) dX11_putOnTape_45 (by decide) ?_
      exact PAt.forget h (lsub_at ⟨rfl, ⟨rfl, ⟨rfl, trivial⟩⟩⟩)
    · rw [if_neg hc] at h ⊢
      refine px_aload_n dX11_putOnTape_19 rfl rfl ?_
      refine gf_X11_9 rfl dX11_putOnTape_20 zl_0 zk_0 rfl zr_0_0 zl_1 ?_
      refine px_aload_n dX11_putOnTape_23 rfl rfl ?_
      refine gf_X11_97 rfl dX11_putOnTape_24 zl_0 zk_0 ?_
      refine px_iload_n dX11_putOnTape_27 rfl rfl ?_
      refine px_iload_n dX11_putOnTape_28 rfl rfl ?_
      refine px_ishr dX11_putOnTape_29 ?_
      refine px_i2b dX11_putOnTape_30 ?_
      obtain ⟨hi, h⟩ := h
      refine px_bastore (n := 1200) dX11_putOnTape_31 zl_1 zk_1 zs_1 hi ?_
      obtain ⟨gi1, hgi1⟩ : ∃ y : Gi, y = uI gi 1 (upd (gi 1) (gi 0 13).toNatClampNeg (vp_nar .byte ((ja x1 x2).toInt8.toInt32))) := ⟨_, rfl⟩
      have h := h gi1 hgi1
      refine px_namegi hgi1 ?_
      refine px_aload_n dX11_putOnTape_32 rfl rfl ?_
      refine px_dup dX11_putOnTape_33 rfl ?_
      refine gf_X11_97 rfl dX11_putOnTape_34 zl_0 zk_0 ?_
      refine px_iconst (v := (1 : Int32)) dX11_putOnTape_37 (by decide) ?_
      refine px_iadd dX11_putOnTape_38 ?_
      refine pf_X11_97 rfl dX11_putOnTape_39 zl_0 zk_0 ?_
      obtain ⟨gi2, hgi2⟩ : ∃ y : Gi, y = uI gi1 0 (upd (gi1 0) 13 ((gi1 0 13) + (1 : Int32))) := ⟨_, rfl⟩
      have h := h gi2 hgi2
      refine px_namegi hgi2 ?_
      refine px_iinc (v := x2 + ((-8) : Int32)) (ls2 := [some (.ref 0), some (.int x1), some (.int (x2 + ((-8) : Int32)))]) dX11_putOnTape_42 rfl rfl (by decide) rfl ?_
      refine px_goto (tgt := 3) dX11_putOnTape_45 (by decide) ?_
      exact PAt.forget h (lsub_at ⟨rfl, ⟨rfl, ⟨rfl, trivial⟩⟩⟩)
def f_X11_endText (x1 : Int32) (gi : Gi) (gl : Gl) (Q : Gi → Gl → Prop) : Prop :=
∀ gi1 : Gi, gi1 = uI gi 0 (upd (gi 0) 13 (0 : Int32)) →
if x1 = 0 then
(p_X7_placeOfToken  gi1 gl (fun (r4 : Int32) (gi2 : Gi) (gl3 : Gl) =>
∀ gi5 : Gi, gi5 = uI gi2 0 (upd (gi2 0) 15 r4) →
Q gi5 gl3))
else
(∀ gi6 : Gi, gi6 = uI gi1 0 (upd (gi1 0) 15 ((-1) : Int32)) →
Q gi6 gl)
set_option maxRecDepth 100000 in
theorem v_X11_endText {x1 : Int32} {gi : Gi} {gl : Gl} {Q : Gi → Gl → Prop}  (h : f_X11_endText x1 gi gl Q) : p_X11_endText x1 gi gl Q := by
  unfold f_X11_endText at h
  show PAt mX11_endText NN NN κF 0 [some (.ref 0), some (.int x1)] [] gi gl _
  refine px_aload_n dX11_endText_0 rfl rfl ?_
  refine px_iconst (v := (0 : Int32)) dX11_endText_1 (by decide) ?_
  refine pf_X11_97 rfl dX11_endText_2 zl_0 zk_0 ?_
  obtain ⟨gi1, hgi1⟩ : ∃ y : Gi, y = uI gi 0 (upd (gi 0) 13 (0 : Int32)) := ⟨_, rfl⟩
  have h := h gi1 hgi1
  refine px_namegi hgi1 ?_
  refine px_aload_n dX11_endText_5 rfl rfl ?_
  refine px_iload_n dX11_endText_6 rfl rfl ?_
  refine px_if_eq (tgt := 14) dX11_endText_7 (by decide) ?_
  by_cases hc : x1 = 0
  · rw [if_pos hc] at h ⊢
    refine px_aload_n dX11_endText_14 rfl rfl ?_
    refine gf_X11_35 rfl dX11_endText_15 zl_0 zk_0 rfl zr_0_4 zl_21 ?_
    refine px_callV_I (As := []) (st := [.ref 0]) dX11_endText_18 lk_X11_284.1 lk_X11_284.2 (b := 21) zl_21 zk_21 (by decide) rfl (by decide) rfl (Nat.le_of_ble_eq_true rfl) rfl rfl (Nat.le_of_ble_eq_true rfl) ⟨Nat.le_refl _, Nat.le_refl _, Nat.le_refl _⟩ ?_
    refine PAt.mono h (fun v κ gi2 gl3 hq => ?_)
    obtain ⟨rfl, r4, rfl, h⟩ := hq
    refine pf_X11_93 rfl dX11_endText_21 zl_0 zk_0 ?_
    obtain ⟨gi5, hgi5⟩ : ∃ y : Gi, y = uI gi2 0 (upd (gi2 0) 15 r4) := ⟨_, rfl⟩
    have h := h gi5 hgi5
    refine px_namegi hgi5 ?_
    exact px_return dX11_endText_24 rfl rfl ⟨rfl, rfl, h⟩
  · rw [if_neg hc] at h ⊢
    refine px_iconst (v := ((-1) : Int32)) dX11_endText_10 (by decide) ?_
    refine px_goto (tgt := 21) dX11_endText_11 (by decide) ?_
    refine pf_X11_93 rfl dX11_endText_21 zl_0 zk_0 ?_
    obtain ⟨gi6, hgi6⟩ : ∃ y : Gi, y = uI gi1 0 (upd (gi1 0) 15 ((-1) : Int32)) := ⟨_, rfl⟩
    have h := h gi6 hgi6
    refine px_namegi hgi6 ?_
    exact px_return dX11_endText_24 rfl rfl ⟨rfl, rfl, h⟩
def f_X11_isMoment (x0 : Int32) (x1 : Int32) (gi : Gi) (gl : Gl) (Q : Int32 → Gi → Gl → Prop) : Prop :=
if x0 < 0 then
(Q (0 : Int32) gi gl)
else
(if (3599 : Int32) < x0 then
(Q (0 : Int32) gi gl)
else
(if x1 < 0 then
(Q (0 : Int32) gi gl)
else
(if (719 : Int32) < x1 then
(Q (0 : Int32) gi gl)
else
(Q (1 : Int32) gi gl))))
set_option maxRecDepth 100000 in
theorem v_X11_isMoment {x0 : Int32} {x1 : Int32} {gi : Gi} {gl : Gl} {Q : Int32 → Gi → Gl → Prop}  (h : f_X11_isMoment x0 x1 gi gl Q) : p_X11_isMoment x0 x1 gi gl Q := by
  unfold f_X11_isMoment at h
  show PAt mX11_isMoment NN NN κF 0 [some (.int x0), some (.int x1)] [] gi gl _
  refine px_iload_n dX11_isMoment_0 rfl rfl ?_
  refine px_if_lt (tgt := 26) dX11_isMoment_1 (by decide) ?_
  by_cases hc : x0 < 0
  · rw [if_pos hc] at h ⊢
    refine px_iconst (v := (0 : Int32)) dX11_isMoment_26 (by decide) ?_
    exact px_ireturn dX11_isMoment_27 rfl ⟨.boolean, rfl, rfl, by decide⟩ ⟨rfl, _, rfl, h⟩
  · rw [if_neg hc] at h ⊢
    refine px_iload_n dX11_isMoment_4 rfl rfl ?_
    refine px_sipush (v := (3599 : Int32)) dX11_isMoment_5 (by decide) ?_
    refine px_icmp_gt (tgt := 26) dX11_isMoment_8 (by decide) ?_
    by_cases hc : (3599 : Int32) < x0
    · rw [if_pos hc] at h ⊢
      refine px_iconst (v := (0 : Int32)) dX11_isMoment_26 (by decide) ?_
      exact px_ireturn dX11_isMoment_27 rfl ⟨.boolean, rfl, rfl, by decide⟩ ⟨rfl, _, rfl, h⟩
    · rw [if_neg hc] at h ⊢
      refine px_iload_n dX11_isMoment_11 rfl rfl ?_
      refine px_if_lt (tgt := 26) dX11_isMoment_12 (by decide) ?_
      by_cases hc : x1 < 0
      · rw [if_pos hc] at h ⊢
        refine px_iconst (v := (0 : Int32)) dX11_isMoment_26 (by decide) ?_
        exact px_ireturn dX11_isMoment_27 rfl ⟨.boolean, rfl, rfl, by decide⟩ ⟨rfl, _, rfl, h⟩
      · rw [if_neg hc] at h ⊢
        refine px_iload_n dX11_isMoment_15 rfl rfl ?_
        refine px_sipush (v := (719 : Int32)) dX11_isMoment_16 (by decide) ?_
        refine px_icmp_gt (tgt := 26) dX11_isMoment_19 (by decide) ?_
        by_cases hc : (719 : Int32) < x1
        · rw [if_pos hc] at h ⊢
          refine px_iconst (v := (0 : Int32)) dX11_isMoment_26 (by decide) ?_
          exact px_ireturn dX11_isMoment_27 rfl ⟨.boolean, rfl, rfl, by decide⟩ ⟨rfl, _, rfl, h⟩
        · rw [if_neg hc] at h ⊢
          refine px_iconst (v := (1 : Int32)) dX11_isMoment_22 (by decide) ?_
          refine px_goto (tgt := 27) dX11_isMoment_23 (by decide) ?_
          exact px_ireturn dX11_isMoment_27 rfl ⟨.boolean, rfl, rfl, by decide⟩ ⟨rfl, _, rfl, h⟩
abbrev p_X11_couplesOf_12 (p : Nat) (q : Nat) (x2 : Int32) (x3 : Int32) (x4 : Int32) (y5 : Int64) (x7 : Int32) (x8 : Int32) (x9 : Int32) (gi : Gi) (gl : Gl) (Q : Int64 → Gi → Gl → Prop) : Prop := PAt mX11_couplesOf NN NN κF 12 [some (.ref p), some (.ref q), some (.int x2), some (.int x3), some (.int x4), some (.long y5), none, some (.int x7), some (.int x8), some (.int x9), none, none, none, none] [] gi gl (RlQ Q)
abbrev p_X11_couplesOf_34 (p : Nat) (q : Nat) (x2 : Int32) (x3 : Int32) (x4 : Int32) (y5 : Int64) (x7 : Int32) (x8 : Int32) (x9 : Int32) (x10 : Int32) (x11 : Int32) (gi : Gi) (gl : Gl) (Q : Int64 → Gi → Gl → Prop) : Prop := PAt mX11_couplesOf NN NN κF 34 [some (.ref p), some (.ref q), some (.int x2), some (.int x3), some (.int x4), some (.long y5), none, some (.int x7), some (.int x8), some (.int x9), some (.int x10), some (.int x11), none, none] [] gi gl (RlQ Q)
abbrev p_X11_couplesOf_96 (p : Nat) (q : Nat) (x2 : Int32) (x3 : Int32) (x4 : Int32) (y5 : Int64) (x7 : Int32) (x8 : Int32) (x9 : Int32) (x10 : Int32) (x11 : Int32) (x12 : Int32) (gi : Gi) (gl : Gl) (Q : Int64 → Gi → Gl → Prop) : Prop := PAt mX11_couplesOf NN NN κF 96 [some (.ref p), some (.ref q), some (.int x2), some (.int x3), some (.int x4), some (.long y5), none, some (.int x7), some (.int x8), some (.int x9), some (.int x10), some (.int x11), some (.int x12), none] [] gi gl (RlQ Q)
def f_X11_couplesOf (p : Nat) (q : Nat) (x2 : Int32) (x3 : Int32) (x4 : Int32) (gi : Gi) (gl : Gl) (Q : Int64 → Gi → Gl → Prop) : Prop :=
p_X11_couplesOf_12 p q x2 x3 x4 (0 : Int64) (0 : Int32) ((-1) : Int32) (0 : Int32) gi gl Q
def f_X11_couplesOf_12 (p : Nat) (q : Nat) (x2 : Int32) (x3 : Int32) (x4 : Int32) (y5 : Int64) (x7 : Int32) (x8 : Int32) (x9 : Int32) (gi : Gi) (gl : Gl) (Q : Int64 → Gi → Gl → Prop) : Prop :=
if (12 : Int32) ≤ x9 then
(if ¬ x4 = 0 then
(if ¬ x4 = (1 : Int32) then
(Q x8.toInt64 gi gl)
else
(Q x7.toInt64 gi gl))
else
(Q y5 gi gl))
else
(p_X4_pairsIn p x9 q x2 x3 gi gl (fun (r3 : Int32) (gi1 : Gi) (gl2 : Gl) =>
p_X11_couplesOf_34 p q x2 x3 x4 y5 x7 x8 x9 r3 x9 gi1 gl2 Q))
def f_X11_couplesOf_34 (p : Nat) (q : Nat) (x2 : Int32) (x3 : Int32) (x4 : Int32) (y5 : Int64) (x7 : Int32) (x8 : Int32) (x9 : Int32) (x10 : Int32) (x11 : Int32) (gi : Gi) (gl : Gl) (Q : Int64 → Gi → Gl → Prop) : Prop :=
if (120 : Int32) ≤ x11 then
(p_X11_couplesOf_12 p q x2 x3 x4 y5 x7 x8 (x9 + (1 : Int32)) gi gl Q)
else
(if x10 ≤ 0 then
(p_X11_couplesOf_12 p q x2 x3 x4 y5 x7 x8 (x9 + (1 : Int32)) gi gl Q)
else
(p_X4_dayRow p x11 gi gl (fun (r3 : Int32) (gi1 : Gi) (gl2 : Gl) =>
p_X4_dayRow q x11 gi1 gl2 (fun (r6 : Int32) (gi4 : Gi) (gl5 : Gl) =>
∀ z7 : Int32, z7 = r3 &&& r6 →
p_X11_lowest z7 gi4 gl5 (fun (r10 : Int32) (gi8 : Gi) (gl9 : Gl) =>
∀ z11 : Int32, z11 = (x11 * (30 : Int32)) + r10 →
if z7 = 0 then
(p_X11_couplesOf_96 p q x2 x3 x4 y5 x7 x8 x9 x10 x11 z7 gi8 gl9 Q)
else
(if x8 = ((-1) : Int32) then
(p_X11_couplesOf_96 p q x2 x3 x4 y5 x7 z11 x9 x10 x11 z7 gi8 gl9 Q)
else
(if x8 ≤ z11 then
(p_X11_couplesOf_96 p q x2 x3 x4 y5 x7 x8 x9 x10 x11 z7 gi8 gl9 Q)
else
(p_X11_couplesOf_96 p q x2 x3 x4 y5 x7 z11 x9 x10 x11 z7 gi8 gl9 Q))))))))
def f_X11_couplesOf_96 (p : Nat) (q : Nat) (x2 : Int32) (x3 : Int32) (x4 : Int32) (y5 : Int64) (x7 : Int32) (x8 : Int32) (x9 : Int32) (x10 : Int32) (x11 : Int32) (x12 : Int32) (gi : Gi) (gl : Gl) (Q : Int64 → Gi → Gl → Prop) : Prop :=
p_J6_bitCount_0f7a4 x12 gi gl (fun (r3 : Int32) (gi1 : Gi) (gl2 : Gl) =>
∀ z4 : Int32, z4 = x7 + r3 →
p_J6_bitCount_0f7a4 x12 gi1 gl2 (fun (r7 : Int32) (gi5 : Gi) (gl6 : Gl) =>
∀ z8 : Int64, z8 = y5 + (x10.toInt64 * r7.toInt64) →
p_X11_couplesOf_34 p q x2 x3 x4 z8 z4 x8 x9 x10 (x11 + (12 : Int32)) gi5 gl6 Q))
set_option maxRecDepth 100000 in
theorem v_X11_couplesOf {p : Nat} {q : Nat} {x2 : Int32} {x3 : Int32} {x4 : Int32} {gi : Gi} {gl : Gl} {Q : Int64 → Gi → Gl → Prop} (hpN : p < NN) (hpK : sK p = 4) (hqN : q < NN) (hqK : sK q = 4) (h : f_X11_couplesOf p q x2 x3 x4 gi gl Q) : p_X11_couplesOf p q x2 x3 x4 gi gl Q := by
  unfold f_X11_couplesOf at h
  show PAt mX11_couplesOf NN NN κF 0 [some (.ref p), some (.ref q), some (.int x2), some (.int x3), some (.int x4), none, none, none, none, none, none, none, none, none] [] gi gl _
  refine px_lconst (v := (0 : Int64)) dX11_couplesOf_0 (by decide) ?_
  refine px_lstore (ls2 := [some (.ref p), some (.ref q), some (.int x2), some (.int x3), some (.int x4), some (.long (0 : Int64)), none, none, none, none, none, none, none, none]) dX11_couplesOf_1 (by decide) rfl ?_
  refine px_iconst (v := (0 : Int32)) dX11_couplesOf_3 (by decide) ?_
  refine px_istore (ls2 := [some (.ref p), some (.ref q), some (.int x2), some (.int x3), some (.int x4), some (.long (0 : Int64)), none, some (.int (0 : Int32)), none, none, none, none, none, none]) dX11_couplesOf_4 (by decide) rfl ?_
  refine px_iconst (v := ((-1) : Int32)) dX11_couplesOf_6 (by decide) ?_
  refine px_istore (ls2 := [some (.ref p), some (.ref q), some (.int x2), some (.int x3), some (.int x4), some (.long (0 : Int64)), none, some (.int (0 : Int32)), some (.int ((-1) : Int32)), none, none, none, none, none]) dX11_couplesOf_7 (by decide) rfl ?_
  refine px_iconst (v := (0 : Int32)) dX11_couplesOf_9 (by decide) ?_
  refine px_istore (ls2 := [some (.ref p), some (.ref q), some (.int x2), some (.int x3), some (.int x4), some (.long (0 : Int64)), none, some (.int (0 : Int32)), some (.int ((-1) : Int32)), some (.int (0 : Int32)), none, none, none, none]) dX11_couplesOf_10 (by decide) rfl ?_
  exact PAt.forget h (lsub_at ⟨rfl, ⟨rfl, ⟨rfl, ⟨rfl, ⟨rfl, ⟨rfl, ⟨rfl, ⟨rfl, ⟨rfl, trivial⟩⟩⟩⟩⟩⟩⟩⟩⟩)
set_option maxRecDepth 100000 in
theorem v_X11_couplesOf_12 {p : Nat} {q : Nat} {x2 : Int32} {x3 : Int32} {x4 : Int32} {y5 : Int64} {x7 : Int32} {x8 : Int32} {x9 : Int32} {gi : Gi} {gl : Gl} {Q : Int64 → Gi → Gl → Prop} (hpN : p < NN) (hpK : sK p = 4) (hqN : q < NN) (hqK : sK q = 4) (h : f_X11_couplesOf_12 p q x2 x3 x4 y5 x7 x8 x9 gi gl Q) : p_X11_couplesOf_12 p q x2 x3 x4 y5 x7 x8 x9 gi gl Q := by
  unfold f_X11_couplesOf_12 at h
  show PAt mX11_couplesOf NN NN κF 12 [some (.ref p), some (.ref q), some (.int x2), some (.int x3), some (.int x4), some (.long y5), none, some (.int x7), some (.int x8), some (.int x9), none, none, none, none] [] gi gl _
  refine px_iload dX11_couplesOf_12 rfl ?_
  refine px_bipush (v := (12 : Int32)) dX11_couplesOf_14 (by decide) ?_
  refine px_icmp_ge (tgt := 133) dX11_couplesOf_16 (by decide) ?_
  by_cases hc : (12 : Int32) ≤ x9
  · rw [if_pos hc] at h ⊢
    refine px_iload dX11_couplesOf_133 rfl ?_
    refine px_if_ne (tgt := 141) dX11_couplesOf_135 (by decide) ?_
    by_cases hc : ¬ x4 = 0
    · rw [if_pos hc] at h ⊢
      refine px_iload dX11_couplesOf_141 rfl ?_
      refine px_iconst (v := (1 : Int32)) dX11_couplesOf_143 (by decide) ?_
      refine px_icmp_ne (tgt := 153) dX11_couplesOf_144 (by decide) ?_
      by_cases hc : ¬ x4 = (1 : Int32)
      · rw [if_pos hc] at h ⊢
        refine px_iload dX11_couplesOf_153 rfl ?_
        refine px_i2l dX11_couplesOf_155 ?_
        exact px_lreturn dX11_couplesOf_156 rfl rfl ⟨rfl, _, rfl, h⟩
      · rw [if_neg hc] at h ⊢
        refine px_iload dX11_couplesOf_147 rfl ?_
        refine px_i2l dX11_couplesOf_149 ?_
        refine px_goto (tgt := 156) dX11_couplesOf_150 (by decide) ?_
        exact px_lreturn dX11_couplesOf_156 rfl rfl ⟨rfl, _, rfl, h⟩
    · rw [if_neg hc] at h ⊢
      refine px_lload dX11_couplesOf_138 rfl ?_
      exact px_lreturn dX11_couplesOf_140 rfl rfl ⟨rfl, _, rfl, h⟩
  · rw [if_neg hc] at h ⊢
    refine px_aload_n dX11_couplesOf_19 rfl rfl ?_
    refine px_iload dX11_couplesOf_20 rfl ?_
    refine px_aload_n dX11_couplesOf_22 rfl rfl ?_
    refine px_iload_n dX11_couplesOf_23 rfl rfl ?_
    refine px_iload_n dX11_couplesOf_24 rfl rfl ?_
    refine px_callV_I (As := [.int x9, .ref q, .int x2, .int x3]) (st := []) dX11_couplesOf_25 lk_X11_287.1 lk_X11_287.2 (b := p) hpN hpK (by decide) rfl (by decide) rfl (Nat.le_of_ble_eq_true rfl) rfl rfl (Nat.le_of_ble_eq_true rfl) ⟨Nat.le_refl _, Nat.le_refl _, Nat.le_refl _⟩ ?_
    refine PAt.mono h (fun v κ gi1 gl2 hq => ?_)
    obtain ⟨rfl, r3, rfl, h⟩ := hq
    refine px_istore (ls2 := [some (.ref p), some (.ref q), some (.int x2), some (.int x3), some (.int x4), some (.long y5), none, some (.int x7), some (.int x8), some (.int x9), some (.int r3), none, none, none]) dX11_couplesOf_28 (by decide) rfl ?_
    refine px_iload dX11_couplesOf_30 rfl ?_
    refine px_istore (ls2 := [some (.ref p), some (.ref q), some (.int x2), some (.int x3), some (.int x4), some (.long y5), none, some (.int x7), some (.int x8), some (.int x9), some (.int r3), some (.int x9), none, none]) dX11_couplesOf_32 (by decide) rfl ?_
    exact PAt.forget h (lsub_at ⟨rfl, ⟨rfl, ⟨rfl, ⟨rfl, ⟨rfl, ⟨rfl, ⟨rfl, ⟨rfl, ⟨rfl, ⟨rfl, ⟨rfl, trivial⟩⟩⟩⟩⟩⟩⟩⟩⟩⟩⟩)
set_option maxRecDepth 100000 in
theorem v_X11_couplesOf_34 {p : Nat} {q : Nat} {x2 : Int32} {x3 : Int32} {x4 : Int32} {y5 : Int64} {x7 : Int32} {x8 : Int32} {x9 : Int32} {x10 : Int32} {x11 : Int32} {gi : Gi} {gl : Gl} {Q : Int64 → Gi → Gl → Prop} (hpN : p < NN) (hpK : sK p = 4) (hqN : q < NN) (hqK : sK q = 4) (h : f_X11_couplesOf_34 p q x2 x3 x4 y5 x7 x8 x9 x10 x11 gi gl Q) : p_X11_couplesOf_34 p q x2 x3 x4 y5 x7 x8 x9 x10 x11 gi gl Q := by
  unfold f_X11_couplesOf_34 at h
  show PAt mX11_couplesOf NN NN κF 34 [some (.ref p), some (.ref q), some (.int x2), some (.int x3), some (.int x4), some (.long y5), none, some (.int x7), some (.int x8), some (.int x9), some (.int x10), some (.int x11), none, none] [] gi gl _
  refine px_iload dX11_couplesOf_34 rfl ?_
  refine px_bipush (v := (120 : Int32)) dX11_couplesOf_36 (by decide) ?_
  refine px_icmp_ge (tgt := 127) dX11_couplesOf_38 (by decide) ?_
  by_cases hc : (120 : Int32) ≤ x11
  · rw [if_pos hc] at h ⊢
    refine px_iinc (v := x9 + (1 : Int32)) (ls2 := [some (.ref p), some (.ref q), some (.int x2), some (.int x3), some (.int x4), some (.long y5), none, some (.int x7), some (.int x8), some (.int (x9 + (1 : Int32))), some (.int x10), some (.int x11), none, none]) dX11_couplesOf_127 rfl rfl (by decide) rfl ?_
    refine px_goto (tgt := 12) dX11_couplesOf_130 (by decide) ?_
    exact PAt.forget h (lsub_at ⟨rfl, ⟨rfl, ⟨rfl, ⟨rfl, ⟨rfl, ⟨rfl, ⟨rfl, ⟨rfl, ⟨rfl, trivial⟩⟩⟩⟩⟩⟩⟩⟩⟩)
  · rw [if_neg hc] at h ⊢
    refine px_iload dX11_couplesOf_41 rfl ?_
    refine px_if_le (tgt := 127) dX11_couplesOf_43 (by decide) ?_
    by_cases hc : x10 ≤ 0
    · rw [if_pos hc] at h ⊢
      refine px_iinc (v := x9 + (1 : Int32)) (ls2 := [some (.ref p), some (.ref q), some (.int x2), some (.int x3), some (.int x4), some (.long y5), none, some (.int x7), some (.int x8), some (.int (x9 + (1 : Int32))), some (.int x10), some (.int x11), none, none]) dX11_couplesOf_127 rfl rfl (by decide) rfl ?_
      refine px_goto (tgt := 12) dX11_couplesOf_130 (by decide) ?_
      exact PAt.forget h (lsub_at ⟨rfl, ⟨rfl, ⟨rfl, ⟨rfl, ⟨rfl, ⟨rfl, ⟨rfl, ⟨rfl, ⟨rfl, trivial⟩⟩⟩⟩⟩⟩⟩⟩⟩)
    · rw [if_neg hc] at h ⊢
      refine px_aload_n dX11_couplesOf_46 rfl rfl ?_
      refine px_iload dX11_couplesOf_47 rfl ?_
      refine px_callV_I (As := [.int x11]) (st := []) dX11_couplesOf_49 lk_X11_240.1 lk_X11_240.2 (b := p) hpN hpK (by decide) rfl (by decide) rfl (Nat.le_of_ble_eq_true rfl) rfl rfl (Nat.le_of_ble_eq_true rfl) ⟨Nat.le_refl _, Nat.le_refl _, Nat.le_refl _⟩ ?_
      refine PAt.mono h (fun v κ gi1 gl2 hq => ?_)
      obtain ⟨rfl, r3, rfl, h⟩ := hq
      refine px_aload_n dX11_couplesOf_52 rfl rfl ?_
      refine px_iload dX11_couplesOf_53 rfl ?_
      refine px_callV_I (As := [.int x11]) (st := [.int r3]) dX11_couplesOf_55 lk_X11_240.1 lk_X11_240.2 (b := q) hqN hqK (by decide) rfl (by decide) rfl (Nat.le_of_ble_eq_true rfl) rfl rfl (Nat.le_of_ble_eq_true rfl) ⟨Nat.le_refl _, Nat.le_refl _, Nat.le_refl _⟩ ?_
      refine PAt.mono h (fun v κ gi4 gl5 hq => ?_)
      obtain ⟨rfl, r6, rfl, h⟩ := hq
      refine px_iand dX11_couplesOf_58 ?_
      obtain ⟨z7, hz7⟩ : ∃ y : Int32, y = r3 &&& r6 := ⟨_, rfl⟩
      have h := h z7 hz7
      refine px_namei hz7 ?_
      refine px_istore (ls2 := [some (.ref p), some (.ref q), some (.int x2), some (.int x3), some (.int x4), some (.long y5), none, some (.int x7), some (.int x8), some (.int x9), some (.int x10), some (.int x11), some (.int z7), none]) dX11_couplesOf_59 (by decide) rfl ?_
      refine px_iload dX11_couplesOf_61 rfl ?_
      refine px_bipush (v := (30 : Int32)) dX11_couplesOf_63 (by decide) ?_
      refine px_imul dX11_couplesOf_65 ?_
      refine px_iload dX11_couplesOf_66 rfl ?_
      refine px_callS_I (As := [.int z7]) (st := [.int (x11 * (30 : Int32))]) dX11_couplesOf_68 lk_X11_254.1 lk_X11_254.2 (by decide) rfl (Nat.le_of_ble_eq_true rfl) rfl rfl (Nat.le_of_ble_eq_true rfl) ⟨Nat.le_refl _, Nat.le_refl _, Nat.le_refl _⟩ ?_
      refine PAt.mono h (fun v κ gi8 gl9 hq => ?_)
      obtain ⟨rfl, r10, rfl, h⟩ := hq
      refine px_iadd dX11_couplesOf_71 ?_
      obtain ⟨z11, hz11⟩ : ∃ y : Int32, y = (x11 * (30 : Int32)) + r10 := ⟨_, rfl⟩
      have h := h z11 hz11
      refine px_namei hz11 ?_
      refine px_istore (ls2 := [some (.ref p), some (.ref q), some (.int x2), some (.int x3), some (.int x4), some (.long y5), none, some (.int x7), some (.int x8), some (.int x9), some (.int x10), some (.int x11), some (.int z7), some (.int z11)]) dX11_couplesOf_72 (by decide) rfl ?_
      refine px_iload dX11_couplesOf_74 rfl ?_
      refine px_if_eq (tgt := 96) dX11_couplesOf_76 (by decide) ?_
      by_cases hc : z7 = 0
      · rw [if_pos hc] at h ⊢
        exact PAt.forget h (lsub_at ⟨rfl, ⟨rfl, ⟨rfl, ⟨rfl, ⟨rfl, ⟨rfl, ⟨rfl, ⟨rfl, ⟨rfl, ⟨rfl, ⟨rfl, ⟨rfl, trivial⟩⟩⟩⟩⟩⟩⟩⟩⟩⟩⟩⟩)
      · rw [if_neg hc] at h ⊢
        refine px_iload dX11_couplesOf_79 rfl ?_
        refine px_iconst (v := ((-1) : Int32)) dX11_couplesOf_81 (by decide) ?_
        refine px_icmp_eq (tgt := 92) dX11_couplesOf_82 (by decide) ?_
        by_cases hc : x8 = ((-1) : Int32)
        · rw [if_pos hc] at h ⊢
          refine px_iload dX11_couplesOf_92 rfl ?_
          refine px_istore (ls2 := [some (.ref p), some (.ref q), some (.int x2), some (.int x3), some (.int x4), some (.long y5), none, some (.int x7), some (.int z11), some (.int x9), some (.int x10), some (.int x11), some (.int z7), some (.int z11)]) dX11_couplesOf_94 (by decide) rfl ?_
          exact PAt.forget h (lsub_at ⟨rfl, ⟨rfl, ⟨rfl, ⟨rfl, ⟨rfl, ⟨rfl, ⟨rfl, ⟨rfl, ⟨rfl, ⟨rfl, ⟨rfl, ⟨rfl, trivial⟩⟩⟩⟩⟩⟩⟩⟩⟩⟩⟩⟩)
        · rw [if_neg hc] at h ⊢
          refine px_iload dX11_couplesOf_85 rfl ?_
          refine px_iload dX11_couplesOf_87 rfl ?_
          refine px_icmp_ge (tgt := 96) dX11_couplesOf_89 (by decide) ?_
          by_cases hc : x8 ≤ z11
          · rw [if_pos hc] at h ⊢
            exact PAt.forget h (lsub_at ⟨rfl, ⟨rfl, ⟨rfl, ⟨rfl, ⟨rfl, ⟨rfl, ⟨rfl, ⟨rfl, ⟨rfl, ⟨rfl, ⟨rfl, ⟨rfl, trivial⟩⟩⟩⟩⟩⟩⟩⟩⟩⟩⟩⟩)
          · rw [if_neg hc] at h ⊢
            refine px_iload dX11_couplesOf_92 rfl ?_
            refine px_istore (ls2 := [some (.ref p), some (.ref q), some (.int x2), some (.int x3), some (.int x4), some (.long y5), none, some (.int x7), some (.int z11), some (.int x9), some (.int x10), some (.int x11), some (.int z7), some (.int z11)]) dX11_couplesOf_94 (by decide) rfl ?_
            exact PAt.forget h (lsub_at ⟨rfl, ⟨rfl, ⟨rfl, ⟨rfl, ⟨rfl, ⟨rfl, ⟨rfl, ⟨rfl, ⟨rfl, ⟨rfl, ⟨rfl, ⟨rfl, trivial⟩⟩⟩⟩⟩⟩⟩⟩⟩⟩⟩⟩)
set_option maxRecDepth 100000 in
theorem v_X11_couplesOf_96 {p : Nat} {q : Nat} {x2 : Int32} {x3 : Int32} {x4 : Int32} {y5 : Int64} {x7 : Int32} {x8 : Int32} {x9 : Int32} {x10 : Int32} {x11 : Int32} {x12 : Int32} {gi : Gi} {gl : Gl} {Q : Int64 → Gi → Gl → Prop} (hpN : p < NN) (hpK : sK p = 4) (hqN : q < NN) (hqK : sK q = 4) (h : f_X11_couplesOf_96 p q x2 x3 x4 y5 x7 x8 x9 x10 x11 x12 gi gl Q) : p_X11_couplesOf_96 p q x2 x3 x4 y5 x7 x8 x9 x10 x11 x12 gi gl Q := by
  unfold f_X11_couplesOf_96 at h
  show PAt mX11_couplesOf NN NN κF 96 [some (.ref p), some (.ref q), some (.int x2), some (.int x3), some (.int x4), some (.long y5), none, some (.int x7), some (.int x8), some (.int x9), some (.int x10), some (.int x11), some (.int x12), none] [] gi gl _
  refine px_iload dX11_couplesOf_96 rfl ?_
  refine px_iload dX11_couplesOf_98 rfl ?_
  refine px_callS_I (As := [.int x12]) (st := [.int x7]) dX11_couplesOf_100 lk_X11_249.1 lk_X11_249.2 (by decide) rfl (Nat.le_of_ble_eq_true rfl) rfl rfl (Nat.le_of_ble_eq_true rfl) ⟨Nat.le_refl _, Nat.le_refl _, Nat.le_refl _⟩ ?_
  refine PAt.mono h (fun v κ gi1 gl2 hq => ?_)
  obtain ⟨rfl, r3, rfl, h⟩ := hq
  refine px_iadd dX11_couplesOf_103 ?_
  obtain ⟨z4, hz4⟩ : ∃ y : Int32, y = x7 + r3 := ⟨_, rfl⟩
  have h := h z4 hz4
  refine px_namei hz4 ?_
  refine px_istore (ls2 := [some (.ref p), some (.ref q), some (.int x2), some (.int x3), some (.int x4), some (.long y5), none, some (.int z4), some (.int x8), some (.int x9), some (.int x10), some (.int x11), some (.int x12), none]) dX11_couplesOf_104 (by decide) rfl ?_
  refine px_lload dX11_couplesOf_106 rfl ?_
  refine px_iload dX11_couplesOf_108 rfl ?_
  refine px_i2l dX11_couplesOf_110 ?_
  refine px_iload dX11_couplesOf_111 rfl ?_
  refine px_callS_I (As := [.int x12]) (st := [.long x10.toInt64, .long y5]) dX11_couplesOf_113 lk_X11_249.1 lk_X11_249.2 (by decide) rfl (Nat.le_of_ble_eq_true rfl) rfl rfl (Nat.le_of_ble_eq_true rfl) ⟨Nat.le_refl _, Nat.le_refl _, Nat.le_refl _⟩ ?_
  refine PAt.mono h (fun v κ gi5 gl6 hq => ?_)
  obtain ⟨rfl, r7, rfl, h⟩ := hq
  refine px_i2l dX11_couplesOf_116 ?_
  refine px_lmul dX11_couplesOf_117 ?_
  refine px_ladd dX11_couplesOf_118 ?_
  obtain ⟨z8, hz8⟩ : ∃ y : Int64, y = y5 + (x10.toInt64 * r7.toInt64) := ⟨_, rfl⟩
  have h := h z8 hz8
  refine px_namel hz8 ?_
  refine px_lstore (ls2 := [some (.ref p), some (.ref q), some (.int x2), some (.int x3), some (.int x4), some (.long z8), none, some (.int z4), some (.int x8), some (.int x9), some (.int x10), some (.int x11), some (.int x12), none]) dX11_couplesOf_119 (by decide) rfl ?_
  refine px_iinc (v := x11 + (12 : Int32)) (ls2 := [some (.ref p), some (.ref q), some (.int x2), some (.int x3), some (.int x4), some (.long z8), none, some (.int z4), some (.int x8), some (.int x9), some (.int x10), some (.int (x11 + (12 : Int32))), some (.int x12), none]) dX11_couplesOf_121 rfl rfl (by decide) rfl ?_
  refine px_goto (tgt := 34) dX11_couplesOf_124 (by decide) ?_
  exact PAt.forget h (lsub_at ⟨rfl, ⟨rfl, ⟨rfl, ⟨rfl, ⟨rfl, ⟨rfl, ⟨rfl, ⟨rfl, ⟨rfl, ⟨rfl, ⟨rfl, trivial⟩⟩⟩⟩⟩⟩⟩⟩⟩⟩⟩)
abbrev p_X11_bitsOf_22 (x2 : Int32) (s0 : Int32) (gi : Gi) (gl : Gl) (Q : Int32 → Gi → Gl → Prop) : Prop := PAt mX11_bitsOf NN NN κF 22 [none, none, some (.int x2), none] [.int s0] gi gl (RiQ Q)
def f_X11_bitsOf (x0 : Int32) (x1 : Int32) (gi : Gi) (gl : Gl) (Q : Int32 → Gi → Gl → Prop) : Prop :=
if 0 ≤ x0 then
(if (30 : Int32) ≤ x1 then
(p_X11_bitsOf_22 x0 (29 : Int32) gi gl Q)
else
(p_X11_bitsOf_22 x0 x1 gi gl Q))
else
(if (30 : Int32) ≤ x1 then
(p_X11_bitsOf_22 (0 : Int32) (29 : Int32) gi gl Q)
else
(p_X11_bitsOf_22 (0 : Int32) x1 gi gl Q))
def f_X11_bitsOf_22 (x2 : Int32) (s0 : Int32) (gi : Gi) (gl : Gl) (Q : Int32 → Gi → Gl → Prop) : Prop :=
if x2 ≤ s0 then
(Q (jl ((jl (1 : Int32) ((s0 - x2) + (1 : Int32))) - (1 : Int32)) x2) gi gl)
else
(Q (0 : Int32) gi gl)
set_option maxRecDepth 100000 in
theorem v_X11_bitsOf {x0 : Int32} {x1 : Int32} {gi : Gi} {gl : Gl} {Q : Int32 → Gi → Gl → Prop}  (h : f_X11_bitsOf x0 x1 gi gl Q) : p_X11_bitsOf x0 x1 gi gl Q := by
  unfold f_X11_bitsOf at h
  show PAt mX11_bitsOf NN NN κF 0 [some (.int x0), some (.int x1), none, none] [] gi gl _
  refine px_iload_n dX11_bitsOf_0 rfl rfl ?_
  refine px_if_ge (tgt := 8) dX11_bitsOf_1 (by decide) ?_
  by_cases hc : 0 ≤ x0
  · rw [if_pos hc] at h ⊢
    refine px_iload_n dX11_bitsOf_8 rfl rfl ?_
    refine px_istore_n (ls2 := [some (.int x0), some (.int x1), some (.int x0), none]) (i := 2) rfl dX11_bitsOf_9 (by decide) rfl ?_
    refine px_iload_n dX11_bitsOf_10 rfl rfl ?_
    refine px_bipush (v := (30 : Int32)) dX11_bitsOf_11 (by decide) ?_
    refine px_icmp_ge (tgt := 20) dX11_bitsOf_13 (by decide) ?_
    by_cases hc : (30 : Int32) ≤ x1
    · rw [if_pos hc] at h ⊢
      refine px_bipush (v := (29 : Int32)) dX11_bitsOf_20 (by decide) ?_
      exact PAt.forget h (lsub_at ⟨rfl, trivial⟩)
    · rw [if_neg hc] at h ⊢
      refine px_iload_n dX11_bitsOf_16 rfl rfl ?_
      refine px_goto (tgt := 22) dX11_bitsOf_17 (by decide) ?_
      exact PAt.forget h (lsub_at ⟨rfl, trivial⟩)
  · rw [if_neg hc] at h ⊢
    refine px_iconst (v := (0 : Int32)) dX11_bitsOf_4 (by decide) ?_
    refine px_goto (tgt := 9) dX11_bitsOf_5 (by decide) ?_
    refine px_istore_n (ls2 := [some (.int x0), some (.int x1), some (.int (0 : Int32)), none]) (i := 2) rfl dX11_bitsOf_9 (by decide) rfl ?_
    refine px_iload_n dX11_bitsOf_10 rfl rfl ?_
    refine px_bipush (v := (30 : Int32)) dX11_bitsOf_11 (by decide) ?_
    refine px_icmp_ge (tgt := 20) dX11_bitsOf_13 (by decide) ?_
    by_cases hc : (30 : Int32) ≤ x1
    · rw [if_pos hc] at h ⊢
      refine px_bipush (v := (29 : Int32)) dX11_bitsOf_20 (by decide) ?_
      exact PAt.forget h (lsub_at ⟨rfl, trivial⟩)
    · rw [if_neg hc] at h ⊢
      refine px_iload_n dX11_bitsOf_16 rfl rfl ?_
      refine px_goto (tgt := 22) dX11_bitsOf_17 (by decide) ?_
      exact PAt.forget h (lsub_at ⟨rfl, trivial⟩)
set_option maxRecDepth 100000 in
theorem v_X11_bitsOf_22 {x2 : Int32} {s0 : Int32} {gi : Gi} {gl : Gl} {Q : Int32 → Gi → Gl → Prop}  (h : f_X11_bitsOf_22 x2 s0 gi gl Q) : p_X11_bitsOf_22 x2 s0 gi gl Q := by
  unfold f_X11_bitsOf_22 at h
  show PAt mX11_bitsOf NN NN κF 22 [none, none, some (.int x2), none] [.int s0] gi gl _
  refine px_istore_n (ls2 := [none, none, some (.int x2), some (.int s0)]) (i := 3) rfl dX11_bitsOf_22 (by decide) rfl ?_
  refine px_iload_n dX11_bitsOf_23 rfl rfl ?_
  refine px_iload_n dX11_bitsOf_24 rfl rfl ?_
  refine px_icmp_le (tgt := 32) dX11_bitsOf_25 (by decide) ?_
  by_cases hc : x2 ≤ s0
  · rw [if_pos hc] at h ⊢
    refine px_iconst (v := (1 : Int32)) dX11_bitsOf_32 (by decide) ?_
    refine px_iload_n dX11_bitsOf_33 rfl rfl ?_
    refine px_iload_n dX11_bitsOf_34 rfl rfl ?_
    refine px_isub dX11_bitsOf_35 ?_
    refine px_iconst (v := (1 : Int32)) dX11_bitsOf_36 (by decide) ?_
    refine px_iadd dX11_bitsOf_37 ?_
    refine px_ishl dX11_bitsOf_38 ?_
    refine px_iconst (v := (1 : Int32)) dX11_bitsOf_39 (by decide) ?_
    refine px_isub dX11_bitsOf_40 ?_
    refine px_iload_n dX11_bitsOf_41 rfl rfl ?_
    refine px_ishl dX11_bitsOf_42 ?_
    exact px_ireturn dX11_bitsOf_43 rfl ⟨.int, rfl, rfl, rfl⟩ ⟨rfl, _, rfl, h⟩
  · rw [if_neg hc] at h ⊢
    refine px_iconst (v := (0 : Int32)) dX11_bitsOf_28 (by decide) ?_
    refine px_goto (tgt := 43) dX11_bitsOf_29 (by decide) ?_
    exact px_ireturn dX11_bitsOf_43 rfl ⟨.int, rfl, rfl, rfl⟩ ⟨rfl, _, rfl, h⟩
def f_X11_lowest (x0 : Int32) (gi : Gi) (gl : Gl) (Q : Int32 → Gi → Gl → Prop) : Prop :=
p_J6_bitCount_0f7a4 ((x0 &&& (-x0)) - (1 : Int32)) gi gl (fun (r3 : Int32) (gi1 : Gi) (gl2 : Gl) =>
Q r3 gi1 gl2)
set_option maxRecDepth 100000 in
theorem v_X11_lowest {x0 : Int32} {gi : Gi} {gl : Gl} {Q : Int32 → Gi → Gl → Prop}  (h : f_X11_lowest x0 gi gl Q) : p_X11_lowest x0 gi gl Q := by
  unfold f_X11_lowest at h
  show PAt mX11_lowest NN NN κF 0 [some (.int x0)] [] gi gl _
  refine px_iload_n dX11_lowest_0 rfl rfl ?_
  refine px_iload_n dX11_lowest_1 rfl rfl ?_
  refine px_ineg dX11_lowest_2 ?_
  refine px_iand dX11_lowest_3 ?_
  refine px_iconst (v := (1 : Int32)) dX11_lowest_4 (by decide) ?_
  refine px_isub dX11_lowest_5 ?_
  refine px_callS_I (As := [.int ((x0 &&& (-x0)) - (1 : Int32))]) (st := []) dX11_lowest_6 lk_X11_249.1 lk_X11_249.2 (by decide) rfl (Nat.le_of_ble_eq_true rfl) rfl rfl (Nat.le_of_ble_eq_true rfl) ⟨Nat.le_refl _, Nat.le_refl _, Nat.le_refl _⟩ ?_
  refine PAt.mono h (fun v κ gi1 gl2 hq => ?_)
  obtain ⟨rfl, r3, rfl, h⟩ := hq
  exact px_ireturn dX11_lowest_9 rfl ⟨.int, rfl, rfl, rfl⟩ ⟨rfl, _, rfl, h⟩
abbrev p_X11_divisorOf_15 (y4 : Int64) (y6 : Int64) (x8 : Int32) (gi : Gi) (gl : Gl) (Q : Int64 → Gi → Gl → Prop) : Prop := PAt mX11_divisorOf NN NN κF 15 [none, none, none, none, some (.long y4), none, some (.long y6), none, some (.int x8), none, none] [] gi gl (RlQ Q)
def f_X11_divisorOf (y0 : Int64) (y2 : Int64) (gi : Gi) (gl : Gl) (Q : Int64 → Gi → Gl → Prop) : Prop :=
∀ z1 : Int64, z1 = jabsl y0 →
∀ z2 : Int64, z2 = jabsl y2 →
p_X11_divisorOf_15 z1 z2 (0 : Int32) gi gl Q
def f_X11_divisorOf_15 (y4 : Int64) (y6 : Int64) (x8 : Int32) (gi : Gi) (gl : Gl) (Q : Int64 → Gi → Gl → Prop) : Prop :=
if (128 : Int32) ≤ x8 then
(Q y4 gi gl)
else
(if y6 = (0 : Int64) then
(Q y4 gi gl)
else
(¬ y6 = 0 ∧
∀ z1 : Int64, z1 = jrl y4 y6 →
p_X11_divisorOf_15 y6 z1 (x8 + (1 : Int32)) gi gl Q))
set_option maxRecDepth 100000 in
theorem v_X11_divisorOf {y0 : Int64} {y2 : Int64} {gi : Gi} {gl : Gl} {Q : Int64 → Gi → Gl → Prop}  (h : f_X11_divisorOf y0 y2 gi gl Q) : p_X11_divisorOf y0 y2 gi gl Q := by
  unfold f_X11_divisorOf at h
  show PAt mX11_divisorOf NN NN κF 0 [some (.long y0), none, some (.long y2), none, none, none, none, none, none, none, none] [] gi gl _
  refine px_lload_n dX11_divisorOf_0 rfl rfl ?_
  refine px_mabs_long dX11_divisorOf_1 w_888 w_889 w_112 w_890 (by decide) (Nat.le_of_ble_eq_true rfl) ⟨Nat.le_refl _, Nat.le_refl _⟩ ?_
  obtain ⟨z1, hz1⟩ : ∃ y : Int64, y = jabsl y0 := ⟨_, rfl⟩
  have h := h z1 hz1
  refine px_namel hz1 ?_
  refine px_lstore (ls2 := [some (.long y0), none, some (.long y2), none, some (.long z1), none, none, none, none, none, none]) dX11_divisorOf_4 (by decide) rfl ?_
  refine px_lload_n dX11_divisorOf_6 rfl rfl ?_
  refine px_mabs_long dX11_divisorOf_7 w_888 w_889 w_112 w_890 (by decide) (Nat.le_of_ble_eq_true rfl) ⟨Nat.le_refl _, Nat.le_refl _⟩ ?_
  obtain ⟨z2, hz2⟩ : ∃ y : Int64, y = jabsl y2 := ⟨_, rfl⟩
  have h := h z2 hz2
  refine px_namel hz2 ?_
  refine px_lstore (ls2 := [some (.long y0), none, some (.long y2), none, some (.long z1), none, some (.long z2), none, none, none, none]) dX11_divisorOf_10 (by decide) rfl ?_
  refine px_iconst (v := (0 : Int32)) dX11_divisorOf_12 (by decide) ?_
  refine px_istore (ls2 := [some (.long y0), none, some (.long y2), none, some (.long z1), none, some (.long z2), none, some (.int (0 : Int32)), none, none]) dX11_divisorOf_13 (by decide) rfl ?_
  exact PAt.forget h (lsub_at ⟨rfl, ⟨rfl, ⟨rfl, trivial⟩⟩⟩)
set_option maxRecDepth 100000 in
theorem v_X11_divisorOf_15 {y4 : Int64} {y6 : Int64} {x8 : Int32} {gi : Gi} {gl : Gl} {Q : Int64 → Gi → Gl → Prop}  (h : f_X11_divisorOf_15 y4 y6 x8 gi gl Q) : p_X11_divisorOf_15 y4 y6 x8 gi gl Q := by
  unfold f_X11_divisorOf_15 at h
  show PAt mX11_divisorOf NN NN κF 15 [none, none, none, none, some (.long y4), none, some (.long y6), none, some (.int x8), none, none] [] gi gl _
  refine px_iload dX11_divisorOf_15 rfl ?_
  refine px_sipush (v := (128 : Int32)) dX11_divisorOf_17 (by decide) ?_
  refine px_icmp_ge (tgt := 51) dX11_divisorOf_20 (by decide) ?_
  by_cases hc : (128 : Int32) ≤ x8
  · rw [if_pos hc] at h ⊢
    refine px_lload dX11_divisorOf_51 rfl ?_
    exact px_lreturn dX11_divisorOf_53 rfl rfl ⟨rfl, _, rfl, h⟩
  · rw [if_neg hc] at h ⊢
    refine px_lload dX11_divisorOf_23 rfl ?_
    refine px_lconst (v := (0 : Int64)) dX11_divisorOf_25 (by decide) ?_
    refine px_lc_eq (tgt := 51) dX11_divisorOf_26 dX11_divisorOf_27 (by decide) ?_
    by_cases hc : y6 = (0 : Int64)
    · rw [if_pos hc] at h ⊢
      refine px_lload dX11_divisorOf_51 rfl ?_
      exact px_lreturn dX11_divisorOf_53 rfl rfl ⟨rfl, _, rfl, h⟩
    · rw [if_neg hc] at h ⊢
      refine px_lload dX11_divisorOf_30 rfl ?_
      refine px_lload dX11_divisorOf_32 rfl ?_
      obtain ⟨hne, h⟩ := h
      refine px_lrem dX11_divisorOf_34 hne ?_
      obtain ⟨z1, hz1⟩ : ∃ y : Int64, y = jrl y4 y6 := ⟨_, rfl⟩
      have h := h z1 hz1
      refine px_namel hz1 ?_
      refine px_lstore (ls2 := [none, none, none, none, some (.long y4), none, some (.long y6), none, some (.int x8), some (.long z1), none]) dX11_divisorOf_35 (by decide) rfl ?_
      refine px_lload dX11_divisorOf_37 rfl ?_
      refine px_lstore (ls2 := [none, none, none, none, some (.long y6), none, some (.long y6), none, some (.int x8), some (.long z1), none]) dX11_divisorOf_39 (by decide) rfl ?_
      refine px_lload dX11_divisorOf_41 rfl ?_
      refine px_lstore (ls2 := [none, none, none, none, some (.long y6), none, some (.long z1), none, some (.int x8), some (.long z1), none]) dX11_divisorOf_43 (by decide) rfl ?_
      refine px_iinc (v := x8 + (1 : Int32)) (ls2 := [none, none, none, none, some (.long y6), none, some (.long z1), none, some (.int (x8 + (1 : Int32))), some (.long z1), none]) dX11_divisorOf_45 rfl rfl (by decide) rfl ?_
      refine px_goto (tgt := 15) dX11_divisorOf_48 (by decide) ?_
      exact PAt.forget h (lsub_at ⟨rfl, ⟨rfl, ⟨rfl, trivial⟩⟩⟩)
