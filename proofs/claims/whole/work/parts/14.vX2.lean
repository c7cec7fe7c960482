/-! laid by program: X2 -/
def f_X2_allows (p : Nat) (x2 : Int32) (x3 : Int32) (x4 : Int32) (gi : Gi) (gl : Gl) (Q : Int32 → Gi → Gl → Prop) : Prop :=
p_X2_daysLet p x2 (x3 / (30 : Int32)) (0 : Int32) gi gl (fun (r3 : Int32) (gi1 : Gi) (gl2 : Gl) =>
p_X2_minutesLet p x2 (jr (x3 / (30 : Int32)) (12 : Int32)) (x4 / (30 : Int32)) gi1 gl2 (fun (r6 : Int32) (gi4 : Gi) (gl5 : Gl) =>
if ¬ (((ja r3 (jr x3 (30 : Int32))) &&& (ja r6 (jr x4 (30 : Int32)))) &&& (1 : Int32)) = (1 : Int32) then
(Q (0 : Int32) gi4 gl5)
else
(Q (1 : Int32) gi4 gl5)))
set_option maxRecDepth 100000 in
theorem v_X2_allows {p : Nat} {x2 : Int32} {x3 : Int32} {x4 : Int32} {gi : Gi} {gl : Gl} {Q : Int32 → Gi → Gl → Prop} (hpN : p < NN) (hpK : sK p = 5) (h : f_X2_allows p x2 x3 x4 gi gl Q) : p_X2_allows p x2 x3 x4 gi gl Q := by
  unfold f_X2_allows at h
  show PAt mX2_allows NN NN κF 0 [some (.ref 24), some (.ref p), some (.int x2), some (.int x3), some (.int x4), none, none] [] gi gl _
  refine px_aload_n dX2_allows_0 rfl rfl ?_
  refine px_aload_n dX2_allows_1 rfl rfl ?_
  refine px_iload_n dX2_allows_2 rfl rfl ?_
  refine px_iload_n dX2_allows_3 rfl rfl ?_
  refine px_bipush (v := (30 : Int32)) dX2_allows_4 (by decide) ?_
  refine px_idiv dX2_allows_6 (by decide) ?_
  refine px_iconst (v := (0 : Int32)) dX2_allows_7 (by decide) ?_
  refine px_callV_I (As := [.ref p, .int x2, .int (x3 / (30 : Int32)), .int (0 : Int32)]) (st := []) dX2_allows_8 lk_X2_19.1 lk_X2_19.2 (b := 24) zl_24 zk_24 (by decide) rfl (by decide) rfl (Nat.le_of_ble_eq_true rfl) rfl rfl (Nat.le_of_ble_eq_true rfl) ⟨Nat.le_refl _, Nat.le_refl _, Nat.le_refl _⟩ ?_
  refine PAt.mono h (fun v κ gi1 gl2 hq => ?_)
  obtain ⟨rfl, r3, rfl, h⟩ := hq
  refine px_istore (ls2 := [some (.ref 24), some (.ref p), some (.int x2), some (.int x3), some (.int x4), some (.int r3), none]) dX2_allows_11 (by decide) rfl ?_
  refine px_aload_n dX2_allows_13 rfl rfl ?_
  refine px_aload_n dX2_allows_14 rfl rfl ?_
  refine px_iload_n dX2_allows_15 rfl rfl ?_
  refine px_iload_n dX2_allows_16 rfl rfl ?_
  refine px_bipush (v := (30 : Int32)) dX2_allows_17 (by decide) ?_
  refine px_idiv dX2_allows_19 (by decide) ?_
  refine px_bipush (v := (12 : Int32)) dX2_allows_20 (by decide) ?_
  refine px_irem dX2_allows_22 (by decide) ?_
  refine px_iload dX2_allows_23 rfl ?_
  refine px_bipush (v := (30 : Int32)) dX2_allows_25 (by decide) ?_
  refine px_idiv dX2_allows_27 (by decide) ?_
  refine px_callV_I (As := [.ref p, .int x2, .int (jr (x3 / (30 : Int32)) (12 : Int32)), .int (x4 / (30 : Int32))]) (st := []) dX2_allows_28 lk_X2_23.1 lk_X2_23.2 (b := 24) zl_24 zk_24 (by decide) rfl (by decide) rfl (Nat.le_of_ble_eq_true rfl) rfl rfl (Nat.le_of_ble_eq_true rfl) ⟨Nat.le_refl _, Nat.le_refl _, Nat.le_refl _⟩ ?_
  refine PAt.mono h (fun v κ gi4 gl5 hq => ?_)
  obtain ⟨rfl, r6, rfl, h⟩ := hq
  refine px_istore (ls2 := [some (.ref 24), some (.ref p), some (.int x2), some (.int x3), some (.int x4), some (.int r3), some (.int r6)]) dX2_allows_31 (by decide) rfl ?_
  refine px_iload dX2_allows_33 rfl ?_
  refine px_iload_n dX2_allows_35 rfl rfl ?_
  refine px_bipush (v := (30 : Int32)) dX2_allows_36 (by decide) ?_
  refine px_irem dX2_allows_38 (by decide) ?_
  refine px_ishr dX2_allows_39 ?_
  refine px_iload dX2_allows_40 rfl ?_
  refine px_iload dX2_allows_42 rfl ?_
  refine px_bipush (v := (30 : Int32)) dX2_allows_44 (by decide) ?_
  refine px_irem dX2_allows_46 (by decide) ?_
  refine px_ishr dX2_allows_47 ?_
  refine px_iand dX2_allows_48 ?_
  refine px_iconst (v := (1 : Int32)) dX2_allows_49 (by decide) ?_
  refine px_iand dX2_allows_50 ?_
  refine px_iconst (v := (1 : Int32)) dX2_allows_51 (by decide) ?_
  refine px_icmp_ne (tgt := 59) dX2_allows_52 (by decide) ?_
  by_cases hc : ¬ (((ja r3 (jr x3 (30 : Int32))) &&& (ja r6 (jr x4 (30 : Int32)))) &&& (1 : Int32)) = (1 : Int32)
  · rw [if_pos hc] at h ⊢
    refine px_iconst (v := (0 : Int32)) dX2_allows_59 (by decide) ?_
    exact px_ireturn dX2_allows_60 rfl ⟨.boolean, rfl, rfl, by decide⟩ ⟨rfl, _, rfl, h⟩
  · rw [if_neg hc] at h ⊢
    refine px_iconst (v := (1 : Int32)) dX2_allows_55 (by decide) ?_
    refine px_goto (tgt := 60) dX2_allows_56 (by decide) ?_
    exact px_ireturn dX2_allows_60 rfl ⟨.boolean, rfl, rfl, by decide⟩ ⟨rfl, _, rfl, h⟩
def f_X2_daysLet (p : Nat) (x2 : Int32) (x3 : Int32) (x4 : Int32) (gi : Gi) (gl : Gl) (Q : Int32 → Gi → Gl → Prop) : Prop :=
p_X5_tells p x2 (1 : Int32) gi gl (fun (r3 : Int32) (gi1 : Gi) (gl2 : Gl) =>
p_X5_tells p x2 (0 : Int32) gi1 gl2 (fun (r6 : Int32) (gi4 : Gi) (gl5 : Gl) =>
if r6 = (0 : Int32) then
(p_X2_daysStood r3 x3 x4 gi4 gl5 (fun (r9 : Int32) (gi7 : Gi) (gl8 : Gl) =>
Q r9 gi7 gl8))
else (
if r6 = (1 : Int32) then
(p_X2_daysLacked r3 x3 x4 gi4 gl5 (fun (r12 : Int32) (gi10 : Gi) (gl11 : Gl) =>
Q r12 gi10 gl11))
else (
if r6 = (2 : Int32) then
(p_X2_daysInLeaf r3 x3 gi4 gl5 (fun (r15 : Int32) (gi13 : Gi) (gl14 : Gl) =>
Q r15 gi13 gl14))
else (
if r6 = (3 : Int32) then
(p_X2_daysInLeaf r3 x3 gi4 gl5 (fun (r18 : Int32) (gi16 : Gi) (gl17 : Gl) =>
Q ((1073741823 : Int32) &&& (r18 ^^^ ((-1) : Int32))) gi16 gl17))
else (
if r6 = (4 : Int32) then
(Q (1073741823 : Int32) gi4 gl5)
else (
if r6 = (5 : Int32) then
(Q (1073741823 : Int32) gi4 gl5)
else (
if r6 = (6 : Int32) then
(p_X2_daysOfWeek r3 x3 gi4 gl5 (fun (r21 : Int32) (gi19 : Gi) (gl20 : Gl) =>
Q r21 gi19 gl20))
else (
if r6 = (7 : Int32) then
(if ¬ (x3 / (12 : Int32)) = r3 then
(Q (0 : Int32) gi4 gl5)
else
(Q (1073741823 : Int32) gi4 gl5))
else (
Q (1073741823 : Int32) gi4 gl5))))))))))
set_option maxRecDepth 100000 in
theorem v_X2_daysLet {p : Nat} {x2 : Int32} {x3 : Int32} {x4 : Int32} {gi : Gi} {gl : Gl} {Q : Int32 → Gi → Gl → Prop} (hpN : p < NN) (hpK : sK p = 5) (h : f_X2_daysLet p x2 x3 x4 gi gl Q) : p_X2_daysLet p x2 x3 x4 gi gl Q := by
  unfold f_X2_daysLet at h
  show PAt mX2_daysLet NN NN κF 0 [some (.ref 24), some (.ref p), some (.int x2), some (.int x3), some (.int x4), none] [] gi gl _
  refine px_aload_n dX2_daysLet_0 rfl rfl ?_
  refine px_iload_n dX2_daysLet_1 rfl rfl ?_
  refine px_iconst (v := (1 : Int32)) dX2_daysLet_2 (by decide) ?_
  refine px_callV_I (As := [.int x2, .int (1 : Int32)]) (st := []) dX2_daysLet_3 lk_X2_26.1 lk_X2_26.2 (b := p) hpN hpK (by decide) rfl (by decide) rfl (Nat.le_of_ble_eq_true rfl) rfl rfl (Nat.le_of_ble_eq_true rfl) ⟨Nat.le_refl _, Nat.le_refl _, Nat.le_refl _⟩ ?_
  refine PAt.mono h (fun v κ gi1 gl2 hq => ?_)
  obtain ⟨rfl, r3, rfl, h⟩ := hq
  refine px_istore (ls2 := [some (.ref 24), some (.ref p), some (.int x2), some (.int x3), some (.int x4), some (.int r3)]) dX2_daysLet_6 (by decide) rfl ?_
  refine px_aload_n dX2_daysLet_8 rfl rfl ?_
  refine px_iload_n dX2_daysLet_9 rfl rfl ?_
  refine px_iconst (v := (0 : Int32)) dX2_daysLet_10 (by decide) ?_
  refine px_callV_I (As := [.int x2, .int (0 : Int32)]) (st := []) dX2_daysLet_11 lk_X2_26.1 lk_X2_26.2 (b := p) hpN hpK (by decide) rfl (by decide) rfl (Nat.le_of_ble_eq_true rfl) rfl rfl (Nat.le_of_ble_eq_true rfl) ⟨Nat.le_refl _, Nat.le_refl _, Nat.le_refl _⟩ ?_
  refine PAt.mono h (fun v κ gi4 gl5 hq => ?_)
  obtain ⟨rfl, r6, rfl, h⟩ := hq
  by_cases hc0 : r6 = (0 : Int32)
  · rw [if_pos hc0] at h
    refine px_tblIn (tgt := 60) (off := 46) dX2_daysLet_14 (by rw [hc0]; decide) (by rw [hc0]; decide) (by rw [hc0]; decide) (by decide) ?_
    refine px_aload_n dX2_daysLet_60 rfl rfl ?_
    refine px_iload dX2_daysLet_61 rfl ?_
    refine px_iload_n dX2_daysLet_63 rfl rfl ?_
    refine px_iload dX2_daysLet_64 rfl ?_
    refine px_callV_I (As := [.int r3, .int x3, .int x4]) (st := []) dX2_daysLet_66 lk_X2_32.1 lk_X2_32.2 (b := 24) zl_24 zk_24 (by decide) rfl (by decide) rfl (Nat.le_of_ble_eq_true rfl) rfl rfl (Nat.le_of_ble_eq_true rfl) ⟨Nat.le_refl _, Nat.le_refl _, Nat.le_refl _⟩ ?_
    refine PAt.mono h (fun v κ gi7 gl8 hq => ?_)
    obtain ⟨rfl, r9, rfl, h⟩ := hq
    exact px_ireturn dX2_daysLet_69 rfl ⟨.int, rfl, rfl, rfl⟩ ⟨rfl, _, rfl, h⟩
  · rw [if_neg hc0] at h
    by_cases hc1 : r6 = (1 : Int32)
    · rw [if_pos hc1] at h
      refine px_tblIn (tgt := 70) (off := 56) dX2_daysLet_14 (by rw [hc1]; decide) (by rw [hc1]; decide) (by rw [hc1]; decide) (by decide) ?_
      refine px_aload_n dX2_daysLet_70 rfl rfl ?_
      refine px_iload dX2_daysLet_71 rfl ?_
      refine px_iload_n dX2_daysLet_73 rfl rfl ?_
      refine px_iload dX2_daysLet_74 rfl ?_
      refine px_callV_I (As := [.int r3, .int x3, .int x4]) (st := []) dX2_daysLet_76 lk_X2_36.1 lk_X2_36.2 (b := 24) zl_24 zk_24 (by decide) rfl (by decide) rfl (Nat.le_of_ble_eq_true rfl) rfl rfl (Nat.le_of_ble_eq_true rfl) ⟨Nat.le_refl _, Nat.le_refl _, Nat.le_refl _⟩ ?_
      refine PAt.mono h (fun v κ gi10 gl11 hq => ?_)
      obtain ⟨rfl, r12, rfl, h⟩ := hq
      exact px_ireturn dX2_daysLet_79 rfl ⟨.int, rfl, rfl, rfl⟩ ⟨rfl, _, rfl, h⟩
    · rw [if_neg hc1] at h
      by_cases hc2 : r6 = (2 : Int32)
      · rw [if_pos hc2] at h
        refine px_tblIn (tgt := 80) (off := 66) dX2_daysLet_14 (by rw [hc2]; decide) (by rw [hc2]; decide) (by rw [hc2]; decide) (by decide) ?_
        refine px_aload_n dX2_daysLet_80 rfl rfl ?_
        refine px_iload dX2_daysLet_81 rfl ?_
        refine px_iload_n dX2_daysLet_83 rfl rfl ?_
        refine px_callV_I (As := [.int r3, .int x3]) (st := []) dX2_daysLet_84 lk_X2_39.1 lk_X2_39.2 (b := 24) zl_24 zk_24 (by decide) rfl (by decide) rfl (Nat.le_of_ble_eq_true rfl) rfl rfl (Nat.le_of_ble_eq_true rfl) ⟨Nat.le_refl _, Nat.le_refl _, Nat.le_refl _⟩ ?_
        refine PAt.mono h (fun v κ gi13 gl14 hq => ?_)
        obtain ⟨rfl, r15, rfl, h⟩ := hq
        exact px_ireturn dX2_daysLet_87 rfl ⟨.int, rfl, rfl, rfl⟩ ⟨rfl, _, rfl, h⟩
      · rw [if_neg hc2] at h
        by_cases hc3 : r6 = (3 : Int32)
        · rw [if_pos hc3] at h
          refine px_tblIn (tgt := 88) (off := 74) dX2_daysLet_14 (by rw [hc3]; decide) (by rw [hc3]; decide) (by rw [hc3]; decide) (by decide) ?_
          refine px_ldc (v := (1073741823 : Int32)) dX2_daysLet_88 w_722 ?_
          refine px_aload_n dX2_daysLet_90 rfl rfl ?_
          refine px_iload dX2_daysLet_91 rfl ?_
          refine px_iload_n dX2_daysLet_93 rfl rfl ?_
          refine px_callV_I (As := [.int r3, .int x3]) (st := [.int (1073741823 : Int32)]) dX2_daysLet_94 lk_X2_39.1 lk_X2_39.2 (b := 24) zl_24 zk_24 (by decide) rfl (by decide) rfl (Nat.le_of_ble_eq_true rfl) rfl rfl (Nat.le_of_ble_eq_true rfl) ⟨Nat.le_refl _, Nat.le_refl _, Nat.le_refl _⟩ ?_
          refine PAt.mono h (fun v κ gi16 gl17 hq => ?_)
          obtain ⟨rfl, r18, rfl, h⟩ := hq
          refine px_iconst (v := ((-1) : Int32)) dX2_daysLet_97 (by decide) ?_
          refine px_ixor dX2_daysLet_98 ?_
          refine px_iand dX2_daysLet_99 ?_
          exact px_ireturn dX2_daysLet_100 rfl ⟨.int, rfl, rfl, rfl⟩ ⟨rfl, _, rfl, h⟩
        · rw [if_neg hc3] at h
          by_cases hc4 : r6 = (4 : Int32)
          · rw [if_pos hc4] at h
            refine px_tblIn (tgt := 124) (off := 110) dX2_daysLet_14 (by rw [hc4]; decide) (by rw [hc4]; decide) (by rw [hc4]; decide) (by decide) ?_
            refine px_ldc (v := (1073741823 : Int32)) dX2_daysLet_124 w_722 ?_
            exact px_ireturn dX2_daysLet_126 rfl ⟨.int, rfl, rfl, rfl⟩ ⟨rfl, _, rfl, h⟩
          · rw [if_neg hc4] at h
            by_cases hc5 : r6 = (5 : Int32)
            · rw [if_pos hc5] at h
              refine px_tblIn (tgt := 124) (off := 110) dX2_daysLet_14 (by rw [hc5]; decide) (by rw [hc5]; decide) (by rw [hc5]; decide) (by decide) ?_
              refine px_ldc (v := (1073741823 : Int32)) dX2_daysLet_124 w_722 ?_
              exact px_ireturn dX2_daysLet_126 rfl ⟨.int, rfl, rfl, rfl⟩ ⟨rfl, _, rfl, h⟩
            · rw [if_neg hc5] at h
              by_cases hc6 : r6 = (6 : Int32)
              · rw [if_pos hc6] at h
                refine px_tblIn (tgt := 101) (off := 87) dX2_daysLet_14 (by rw [hc6]; decide) (by rw [hc6]; decide) (by rw [hc6]; decide) (by decide) ?_
                refine px_iload dX2_daysLet_101 rfl ?_
                refine px_iload_n dX2_daysLet_103 rfl rfl ?_
                refine px_callS_I (As := [.int r3, .int x3]) (st := []) dX2_daysLet_104 lk_X2_43.1 lk_X2_43.2 (by decide) rfl (Nat.le_of_ble_eq_true rfl) rfl rfl (Nat.le_of_ble_eq_true rfl) ⟨Nat.le_refl _, Nat.le_refl _, Nat.le_refl _⟩ ?_
                refine PAt.mono h (fun v κ gi19 gl20 hq => ?_)
                obtain ⟨rfl, r21, rfl, h⟩ := hq
                exact px_ireturn dX2_daysLet_107 rfl ⟨.int, rfl, rfl, rfl⟩ ⟨rfl, _, rfl, h⟩
              · rw [if_neg hc6] at h
                by_cases hc7 : r6 = (7 : Int32)
                · rw [if_pos hc7] at h
                  refine px_tblIn (tgt := 108) (off := 94) dX2_daysLet_14 (by rw [hc7]; decide) (by rw [hc7]; decide) (by rw [hc7]; decide) (by decide) ?_
                  refine px_iload_n dX2_daysLet_108 rfl rfl ?_
                  refine px_bipush (v := (12 : Int32)) dX2_daysLet_109 (by decide) ?_
                  refine px_idiv dX2_daysLet_111 (by decide) ?_
                  refine px_iload dX2_daysLet_112 rfl ?_
                  refine px_icmp_ne (tgt := 122) dX2_daysLet_114 (by decide) ?_
                  by_cases hc : ¬ (x3 / (12 : Int32)) = r3
                  · rw [if_pos hc] at h ⊢
                    refine px_iconst (v := (0 : Int32)) dX2_daysLet_122 (by decide) ?_
                    exact px_ireturn dX2_daysLet_123 rfl ⟨.int, rfl, rfl, rfl⟩ ⟨rfl, _, rfl, h⟩
                  · rw [if_neg hc] at h ⊢
                    refine px_ldc (v := (1073741823 : Int32)) dX2_daysLet_117 w_722 ?_
                    refine px_goto (tgt := 123) dX2_daysLet_119 (by decide) ?_
                    exact px_ireturn dX2_daysLet_123 rfl ⟨.int, rfl, rfl, rfl⟩ ⟨rfl, _, rfl, h⟩
                · rw [if_neg hc7] at h
                  refine px_tblOut (tgt := 124) dX2_daysLet_14 (tbl_out8 hc0 hc1 hc2 hc3 hc4 hc5 hc6 hc7) (by decide) ?_
                  refine px_ldc (v := (1073741823 : Int32)) dX2_daysLet_124 w_722 ?_
                  exact px_ireturn dX2_daysLet_126 rfl ⟨.int, rfl, rfl, rfl⟩ ⟨rfl, _, rfl, h⟩
def f_X2_minutesLet (p : Nat) (x2 : Int32) (x3 : Int32) (x4 : Int32) (gi : Gi) (gl : Gl) (Q : Int32 → Gi → Gl → Prop) : Prop :=
p_X5_tells p x2 (0 : Int32) gi gl (fun (r3 : Int32) (gi1 : Gi) (gl2 : Gl) =>
if ¬ r3 = (4 : Int32) then
(if r3 = (5 : Int32) then
(p_X5_tells p x2 (1 : Int32) gi1 gl2 (fun (r6 : Int32) (gi4 : Gi) (gl5 : Gl) =>
p_X5_tells p x2 (2 : Int32) gi4 gl5 (fun (r9 : Int32) (gi7 : Gi) (gl8 : Gl) =>
∀ z10 : Int32, z10 = r9 - (x4 * (30 : Int32)) →
p_X10_of 2 (3 : Int32) r6 (1 : Int32) gi7 gl8 (fun (r13 : Int32) (gi11 : Gi) (gl12 : Gl) =>
p_X10_of 2 (3 : Int32) r6 (0 : Int32) gi11 gl12 (fun (r16 : Int32) (gi14 : Gi) (gl15 : Gl) =>
p_X11_bitsOf (z10 - r13) (z10 + r16) gi14 gl15 (fun (r19 : Int32) (gi17 : Gi) (gl18 : Gl) =>
Q r19 gi17 gl18))))))
else
(Q (1073741823 : Int32) gi1 gl2))
else
(p_X9_minutesLet p x2 x3 x4 gi1 gl2 (fun (r22 : Int32) (gi20 : Gi) (gl21 : Gl) =>
Q r22 gi20 gl21)))
set_option maxRecDepth 100000 in
theorem v_X2_minutesLet {p : Nat} {x2 : Int32} {x3 : Int32} {x4 : Int32} {gi : Gi} {gl : Gl} {Q : Int32 → Gi → Gl → Prop} (hpN : p < NN) (hpK : sK p = 5) (h : f_X2_minutesLet p x2 x3 x4 gi gl Q) : p_X2_minutesLet p x2 x3 x4 gi gl Q := by
  unfold f_X2_minutesLet at h
  show PAt mX2_minutesLet NN NN κF 0 [some (.ref 24), some (.ref p), some (.int x2), some (.int x3), some (.int x4), none, none, none] [] gi gl _
  refine px_aload_n dX2_minutesLet_0 rfl rfl ?_
  refine px_iload_n dX2_minutesLet_1 rfl rfl ?_
  refine px_iconst (v := (0 : Int32)) dX2_minutesLet_2 (by decide) ?_
  refine px_callV_I (As := [.int x2, .int (0 : Int32)]) (st := []) dX2_minutesLet_3 lk_X2_26.1 lk_X2_26.2 (b := p) hpN hpK (by decide) rfl (by decide) rfl (Nat.le_of_ble_eq_true rfl) rfl rfl (Nat.le_of_ble_eq_true rfl) ⟨Nat.le_refl _, Nat.le_refl _, Nat.le_refl _⟩ ?_
  refine PAt.mono h (fun v κ gi1 gl2 hq => ?_)
  obtain ⟨rfl, r3, rfl, h⟩ := hq
  refine px_istore (ls2 := [some (.ref 24), some (.ref p), some (.int x2), some (.int x3), some (.int x4), some (.int r3), none, none]) dX2_minutesLet_6 (by decide) rfl ?_
  refine px_iload dX2_minutesLet_8 rfl ?_
  refine px_iconst (v := (4 : Int32)) dX2_minutesLet_10 (by decide) ?_
  refine px_icmp_ne (tgt := 27) dX2_minutesLet_11 (by decide) ?_
  by_cases hc : ¬ r3 = (4 : Int32)
  · rw [if_pos hc] at h ⊢
    refine px_iload dX2_minutesLet_27 rfl ?_
    refine px_iconst (v := (5 : Int32)) dX2_minutesLet_29 (by decide) ?_
    refine px_icmp_eq (tgt := 36) dX2_minutesLet_30 (by decide) ?_
    by_cases hc : r3 = (5 : Int32)
    · rw [if_pos hc] at h ⊢
      refine px_aload_n dX2_minutesLet_36 rfl rfl ?_
      refine px_iload_n dX2_minutesLet_37 rfl rfl ?_
      refine px_iconst (v := (1 : Int32)) dX2_minutesLet_38 (by decide) ?_
      refine px_callV_I (As := [.int x2, .int (1 : Int32)]) (st := []) dX2_minutesLet_39 lk_X2_26.1 lk_X2_26.2 (b := p) hpN hpK (by decide) rfl (by decide) rfl (Nat.le_of_ble_eq_true rfl) rfl rfl (Nat.le_of_ble_eq_true rfl) ⟨Nat.le_refl _, Nat.le_refl _, Nat.le_refl _⟩ ?_
      refine PAt.mono h (fun v κ gi4 gl5 hq => ?_)
      obtain ⟨rfl, r6, rfl, h⟩ := hq
      refine px_istore (ls2 := [some (.ref 24), some (.ref p), some (.int x2), some (.int x3), some (.int x4), some (.int r3), some (.int r6), none]) dX2_minutesLet_42 (by decide) rfl ?_
      refine px_aload_n dX2_minutesLet_44 rfl rfl ?_
      refine px_iload_n dX2_minutesLet_45 rfl rfl ?_
      refine px_iconst (v := (2 : Int32)) dX2_minutesLet_46 (by decide) ?_
      refine px_callV_I (As := [.int x2, .int (2 : Int32)]) (st := []) dX2_minutesLet_47 lk_X2_26.1 lk_X2_26.2 (b := p) hpN hpK (by decide) rfl (by decide) rfl (Nat.le_of_ble_eq_true rfl) rfl rfl (Nat.le_of_ble_eq_true rfl) ⟨Nat.le_refl _, Nat.le_refl _, Nat.le_refl _⟩ ?_
      refine PAt.mono h (fun v κ gi7 gl8 hq => ?_)
      obtain ⟨rfl, r9, rfl, h⟩ := hq
      refine px_iload dX2_minutesLet_50 rfl ?_
      refine px_bipush (v := (30 : Int32)) dX2_minutesLet_52 (by decide) ?_
      refine px_imul dX2_minutesLet_54 ?_
      refine px_isub dX2_minutesLet_55 ?_
      obtain ⟨z10, hz10⟩ : ∃ y : Int32, y = r9 - (x4 * (30 : Int32)) := ⟨_, rfl⟩
      have h := h z10 hz10
      refine px_namei hz10 ?_
      refine px_istore (ls2 := [some (.ref 24), some (.ref p), some (.int x2), some (.int x3), some (.int x4), some (.int r3), some (.int r6), some (.int z10)]) dX2_minutesLet_56 (by decide) rfl ?_
      refine px_iload dX2_minutesLet_58 rfl ?_
      refine px_aload_n dX2_minutesLet_60 rfl rfl ?_
      refine gf_X2_9 rfl dX2_minutesLet_61 zl_24 zk_24 rfl zr_24_0 zl_2 ?_
      refine px_iconst (v := (3 : Int32)) dX2_minutesLet_64 (by decide) ?_
      refine px_iload dX2_minutesLet_65 rfl ?_
      refine px_iconst (v := (1 : Int32)) dX2_minutesLet_67 (by decide) ?_
      refine px_callV_I (As := [.int (3 : Int32), .int r6, .int (1 : Int32)]) (st := [.int z10]) dX2_minutesLet_68 lk_X2_49.1 lk_X2_49.2 (b := 2) zl_2 zk_2 (by decide) rfl (by decide) rfl (Nat.le_of_ble_eq_true rfl) rfl rfl (Nat.le_of_ble_eq_true rfl) ⟨Nat.le_refl _, Nat.le_refl _, Nat.le_refl _⟩ ?_
      refine PAt.mono h (fun v κ gi11 gl12 hq => ?_)
      obtain ⟨rfl, r13, rfl, h⟩ := hq
      refine px_isub dX2_minutesLet_71 ?_
      refine px_iload dX2_minutesLet_72 rfl ?_
      refine px_aload_n dX2_minutesLet_74 rfl rfl ?_
      refine gf_X2_9 rfl dX2_minutesLet_75 zl_24 zk_24 rfl zr_24_0 zl_2 ?_
      refine px_iconst (v := (3 : Int32)) dX2_minutesLet_78 (by decide) ?_
      refine px_iload dX2_minutesLet_79 rfl ?_
      refine px_iconst (v := (0 : Int32)) dX2_minutesLet_81 (by decide) ?_
      refine px_callV_I (As := [.int (3 : Int32), .int r6, .int (0 : Int32)]) (st := [.int z10, .int (z10 - r13)]) dX2_minutesLet_82 lk_X2_49.1 lk_X2_49.2 (b := 2) zl_2 zk_2 (by decide) rfl (by decide) rfl (Nat.le_of_ble_eq_true rfl) rfl rfl (Nat.le_of_ble_eq_true rfl) ⟨Nat.le_refl _, Nat.le_refl _, Nat.le_refl _⟩ ?_
      refine PAt.mono h (fun v κ gi14 gl15 hq => ?_)
      obtain ⟨rfl, r16, rfl, h⟩ := hq
      refine px_iadd dX2_minutesLet_85 ?_
      refine px_callSN_I (As := [.int (z10 - r13), .int (z10 + r16)]) (st := []) dX2_minutesLet_86 lk_X2_54.1 lk_X2_54.2 (by decide) rfl (Nat.le_of_ble_eq_true rfl) rfl rfl (Nat.le_of_ble_eq_true rfl) ⟨Nat.le_refl _, Nat.le_refl _, Nat.le_refl _⟩ ?_
      refine PAt.mono h (fun v κ gi17 gl18 hq => ?_)
      obtain ⟨rfl, r19, rfl, h⟩ := hq
      exact px_ireturn dX2_minutesLet_89 rfl ⟨.int, rfl, rfl, rfl⟩ ⟨rfl, _, rfl, h⟩
    · rw [if_neg hc] at h ⊢
      refine px_ldc (v := (1073741823 : Int32)) dX2_minutesLet_33 w_722 ?_
      exact px_ireturn dX2_minutesLet_35 rfl ⟨.int, rfl, rfl, rfl⟩ ⟨rfl, _, rfl, h⟩
  · rw [if_neg hc] at h ⊢
    refine px_aload_n dX2_minutesLet_14 rfl rfl ?_
    refine gf_X2_15 rfl dX2_minutesLet_15 zl_24 zk_24 rfl zr_24_1 zl_23 ?_
    refine px_aload_n dX2_minutesLet_18 rfl rfl ?_
    refine px_iload_n dX2_minutesLet_19 rfl rfl ?_
    refine px_iload_n dX2_minutesLet_20 rfl rfl ?_
    refine px_iload dX2_minutesLet_21 rfl ?_
    refine px_callV_I (As := [.ref p, .int x2, .int x3, .int x4]) (st := []) dX2_minutesLet_23 lk_X2_46.1 lk_X2_46.2 (b := 23) zl_23 zk_23 (by decide) rfl (by decide) rfl (Nat.le_of_ble_eq_true rfl) rfl rfl (Nat.le_of_ble_eq_true rfl) ⟨Nat.le_refl _, Nat.le_refl _, Nat.le_refl _⟩ ?_
    refine PAt.mono h (fun v κ gi20 gl21 hq => ?_)
    obtain ⟨rfl, r22, rfl, h⟩ := hq
    exact px_ireturn dX2_minutesLet_26 rfl ⟨.int, rfl, rfl, rfl⟩ ⟨rfl, _, rfl, h⟩
abbrev p_X2_fill_7 (p : Nat) (b3 : Nat) (x3 : Int32) (gi : Gi) (gl : Gl) (Q : Gi → Gl → Prop) : Prop := PAt mX2_fill NN NN κF 7 [some (.ref 24), some (.ref p), some (.ref b3), some (.int x3), none, none, none] [] gi gl (RvQ Q)
abbrev p_X2_fill_16 (p : Nat) (b3 : Nat) (x3 : Int32) (x4 : Int32) (gi : Gi) (gl : Gl) (Q : Gi → Gl → Prop) : Prop := PAt mX2_fill NN NN κF 16 [some (.ref 24), some (.ref p), some (.ref b3), some (.int x3), some (.int x4), none, none] [] gi gl (RvQ Q)
abbrev p_X2_fill_30 (p : Nat) (b3 : Nat) (x3 : Int32) (x4 : Int32) (x5 : Int32) (x6 : Int32) (gi : Gi) (gl : Gl) (Q : Gi → Gl → Prop) : Prop := PAt mX2_fill NN NN κF 30 [some (.ref 24), some (.ref p), some (.ref b3), some (.int x3), some (.int x4), some (.int x5), some (.int x6)] [] gi gl (RvQ Q)
abbrev p_X2_fill_88 (p : Nat) (b3 : Nat) (x3 : Int32) (gi : Gi) (gl : Gl) (Q : Gi → Gl → Prop) : Prop := PAt mX2_fill NN NN κF 88 [some (.ref 24), some (.ref p), some (.ref b3), some (.int x3), none, none, none] [] gi gl (RvQ Q)
def f_X2_fill (p : Nat) (gi : Gi) (gl : Gl) (Q : Gi → Gl → Prop) : Prop :=
p_X5_moments p gi gl (fun (o4 : Option Nat) (gi1 : Gi) (gl2 : Gl) =>
(o4 = none →
False) ∧
(∀ b3 : Nat, o4 = some b3 → b3 < NN → sK b3 = 4 →
p_X2_fill_7 p b3 (0 : Int32) gi1 gl2 Q))
def f_X2_fill_7 (p : Nat) (b3 : Nat) (x3 : Int32) (gi : Gi) (gl : Gl) (Q : Gi → Gl → Prop) : Prop :=
if (12 : Int32) ≤ x3 then
(p_X2_fill_88 p b3 (0 : Int32) gi gl Q)
else
(p_X2_fill_16 p b3 x3 (0 : Int32) gi gl Q)
def f_X2_fill_88 (p : Nat) (b3 : Nat) (x3 : Int32) (gi : Gi) (gl : Gl) (Q : Gi → Gl → Prop) : Prop :=
if (120 : Int32) ≤ x3 then
(p_X4_settle b3 gi gl (fun (gi1 : Gi) (gl2 : Gl) =>
Q gi1 gl2))
else
(p_X2_daysLater p x3 (0 : Int32) gi gl (fun (r5 : Int32) (gi3 : Gi) (gl4 : Gl) =>
p_X4_setDayRow b3 x3 r5 gi3 gl4 (fun (gi6 : Gi) (gl7 : Gl) =>
p_X2_fill_88 p b3 (x3 + (1 : Int32)) gi6 gl7 Q)))
def f_X2_fill_16 (p : Nat) (b3 : Nat) (x3 : Int32) (x4 : Int32) (gi : Gi) (gl : Gl) (Q : Gi → Gl → Prop) : Prop :=
if (24 : Int32) ≤ x4 then
(p_X2_fill_7 p b3 (x3 + (1 : Int32)) gi gl Q)
else
(p_X2_fill_30 p b3 x3 x4 (1073741823 : Int32) (0 : Int32) gi gl Q)
def f_X2_fill_30 (p : Nat) (b3 : Nat) (x3 : Int32) (x4 : Int32) (x5 : Int32) (x6 : Int32) (gi : Gi) (gl : Gl) (Q : Gi → Gl → Prop) : Prop :=
p_X5_size p gi gl (fun (r3 : Int32) (gi1 : Gi) (gl2 : Gl) =>
if r3 ≤ x6 then
(p_X4_setMinuteRow b3 x3 x4 x5 gi1 gl2 (fun (gi4 : Gi) (gl5 : Gl) =>
p_X2_fill_16 p b3 x3 (x4 + (1 : Int32)) gi4 gl5 Q))
else
(if x5 = 0 then
(p_X4_setMinuteRow b3 x3 x4 x5 gi1 gl2 (fun (gi6 : Gi) (gl7 : Gl) =>
p_X2_fill_16 p b3 x3 (x4 + (1 : Int32)) gi6 gl7 Q))
else
(p_X2_minutesLet p x6 x3 x4 gi1 gl2 (fun (r10 : Int32) (gi8 : Gi) (gl9 : Gl) =>
∀ z11 : Int32, z11 = x5 &&& r10 →
p_X2_fill_30 p b3 x3 x4 z11 (x6 + (1 : Int32)) gi8 gl9 Q))))
set_option maxRecDepth 100000 in
theorem v_X2_fill {p : Nat} {gi : Gi} {gl : Gl} {Q : Gi → Gl → Prop} (hpN : p < NN) (hpK : sK p = 5) (h : f_X2_fill p gi gl Q) : p_X2_fill p gi gl Q := by
  unfold f_X2_fill at h
  show PAt mX2_fill NN NN κF 0 [some (.ref 24), some (.ref p), none, none, none, none, none] [] gi gl _
  refine px_aload_n dX2_fill_0 rfl rfl ?_
  refine px_callV_A (As := []) (st := []) dX2_fill_1 lk_X2_57.1 lk_X2_57.2 (b := p) hpN hpK (by decide) rfl (by decide) rfl (Nat.le_of_ble_eq_true rfl) ⟨_, rfl⟩ rfl (Nat.le_of_ble_eq_true rfl) ⟨Nat.le_refl _, Nat.le_refl _, Nat.le_refl _⟩ ?_
  refine PAt.mono h (fun v κ gi1 gl2 hq => ?_)
  rcases hq with ⟨rfl, ⟨rfl, hq⟩ | ⟨b3, rfl, hb3N, hb3K, hq⟩⟩
  · have h := hq.1 rfl
    refine px_astore_nN (ls2 := [some (.ref 24), some (.ref p), some (.null), none, none, none, none]) (i := 2) rfl dX2_fill_4 (by decide) rfl ?_
    refine px_iconst (v := (0 : Int32)) dX2_fill_5 (by decide) ?_
    refine px_istore_n (ls2 := [some (.ref 24), some (.ref p), some (.null), some (.int (0 : Int32)), none, none, none]) (i := 3) rfl dX2_fill_6 (by decide) rfl ?_
    exact h.elim
  · have h := hq.2 b3 rfl hb3N hb3K
    refine px_astore_n (ls2 := [some (.ref 24), some (.ref p), some (.ref b3), none, none, none, none]) (i := 2) rfl dX2_fill_4 (by decide) rfl ?_
    refine px_iconst (v := (0 : Int32)) dX2_fill_5 (by decide) ?_
    refine px_istore_n (ls2 := [some (.ref 24), some (.ref p), some (.ref b3), some (.int (0 : Int32)), none, none, none]) (i := 3) rfl dX2_fill_6 (by decide) rfl ?_
    exact PAt.forget h (lsub_at ⟨rfl, ⟨rfl, ⟨rfl, ⟨rfl, trivial⟩⟩⟩⟩)
set_option maxRecDepth 100000 in
theorem v_X2_fill_7 {p : Nat} {b3 : Nat} {x3 : Int32} {gi : Gi} {gl : Gl} {Q : Gi → Gl → Prop} (hpN : p < NN) (hpK : sK p = 5) (hb3N : b3 < NN) (hb3K : sK b3 = 4) (h : f_X2_fill_7 p b3 x3 gi gl Q) : p_X2_fill_7 p b3 x3 gi gl Q := by
  unfold f_X2_fill_7 at h
  show PAt mX2_fill NN NN κF 7 [some (.ref 24), some (.ref p), some (.ref b3), some (.int x3), none, none, none] [] gi gl _
  refine px_iload_n dX2_fill_7 rfl rfl ?_
  refine px_bipush (v := (12 : Int32)) dX2_fill_8 (by decide) ?_
  refine px_icmp_ge (tgt := 86) dX2_fill_10 (by decide) ?_
  by_cases hc : (12 : Int32) ≤ x3
  · rw [if_pos hc] at h ⊢
    refine px_iconst (v := (0 : Int32)) dX2_fill_86 (by decide) ?_
    refine px_istore_n (ls2 := [some (.ref 24), some (.ref p), some (.ref b3), some (.int (0 : Int32)), none, none, none]) (i := 3) rfl dX2_fill_87 (by decide) rfl ?_
    exact PAt.forget h (lsub_at ⟨rfl, ⟨rfl, ⟨rfl, ⟨rfl, trivial⟩⟩⟩⟩)
  · rw [if_neg hc] at h ⊢
    refine px_iconst (v := (0 : Int32)) dX2_fill_13 (by decide) ?_
    refine px_istore (ls2 := [some (.ref 24), some (.ref p), some (.ref b3), some (.int x3), some (.int (0 : Int32)), none, none]) dX2_fill_14 (by decide) rfl ?_
    exact PAt.forget h (lsub_at ⟨rfl, ⟨rfl, ⟨rfl, ⟨rfl, ⟨rfl, trivial⟩⟩⟩⟩⟩)
set_option maxRecDepth 100000 in
theorem v_X2_fill_88 {p : Nat} {b3 : Nat} {x3 : Int32} {gi : Gi} {gl : Gl} {Q : Gi → Gl → Prop} (hpN : p < NN) (hpK : sK p = 5) (hb3N : b3 < NN) (hb3K : sK b3 = 4) (h : f_X2_fill_88 p b3 x3 gi gl Q) : p_X2_fill_88 p b3 x3 gi gl Q := by
  unfold f_X2_fill_88 at h
  show PAt mX2_fill NN NN κF 88 [some (.ref 24), some (.ref p), some (.ref b3), some (.int x3), none, none, none] [] gi gl _
  refine px_iload_n dX2_fill_88 rfl rfl ?_
  refine px_bipush (v := (120 : Int32)) dX2_fill_89 (by decide) ?_
  refine px_icmp_ge (tgt := 112) dX2_fill_91 (by decide) ?_
  by_cases hc : (120 : Int32) ≤ x3
  · rw [if_pos hc] at h ⊢
    refine px_aload_n dX2_fill_112 rfl rfl ?_
    refine px_callV_V (As := []) (st := []) dX2_fill_113 lk_X2_79.1 lk_X2_79.2 (b := b3) hb3N hb3K (by decide) rfl (by decide) rfl (Nat.le_of_ble_eq_true rfl) rfl rfl (Nat.le_of_ble_eq_true rfl) ⟨Nat.le_refl _, Nat.le_refl _, Nat.le_refl _⟩ ?_
    refine PAt.mono h (fun v κ gi1 gl2 hq => ?_)
    obtain ⟨rfl, -, h⟩ := hq
    exact px_return dX2_fill_116 rfl rfl ⟨rfl, rfl, h⟩
  · rw [if_neg hc] at h ⊢
    refine px_aload_n dX2_fill_94 rfl rfl ?_
    refine px_iload_n dX2_fill_95 rfl rfl ?_
    refine px_aload_n dX2_fill_96 rfl rfl ?_
    refine px_aload_n dX2_fill_97 rfl rfl ?_
    refine px_iload_n dX2_fill_98 rfl rfl ?_
    refine px_iconst (v := (0 : Int32)) dX2_fill_99 (by decide) ?_
    refine px_callV_I (As := [.ref p, .int x3, .int (0 : Int32)]) (st := [.int x3, .ref b3]) dX2_fill_100 lk_X2_71.1 lk_X2_71.2 (b := 24) zl_24 zk_24 (by decide) rfl (by decide) rfl (Nat.le_of_ble_eq_true rfl) rfl rfl (Nat.le_of_ble_eq_true rfl) ⟨Nat.le_refl _, Nat.le_refl _, Nat.le_refl _⟩ ?_
    refine PAt.mono h (fun v κ gi3 gl4 hq => ?_)
    obtain ⟨rfl, r5, rfl, h⟩ := hq
    refine px_callV_V (As := [.int x3, .int r5]) (st := []) dX2_fill_103 lk_X2_75.1 lk_X2_75.2 (b := b3) hb3N hb3K (by decide) rfl (by decide) rfl (Nat.le_of_ble_eq_true rfl) rfl rfl (Nat.le_of_ble_eq_true rfl) ⟨Nat.le_refl _, Nat.le_refl _, Nat.le_refl _⟩ ?_
    refine PAt.mono h (fun v κ gi6 gl7 hq => ?_)
    obtain ⟨rfl, -, h⟩ := hq
    refine px_iinc (v := x3 + (1 : Int32)) (ls2 := [some (.ref 24), some (.ref p), some (.ref b3), some (.int (x3 + (1 : Int32))), none, none, none]) dX2_fill_106 rfl rfl (by decide) rfl ?_
    refine px_goto (tgt := 88) dX2_fill_109 (by decide) ?_
    exact PAt.forget h (lsub_at ⟨rfl, ⟨rfl, ⟨rfl, ⟨rfl, trivial⟩⟩⟩⟩)
set_option maxRecDepth 100000 in
theorem v_X2_fill_16 {p : Nat} {b3 : Nat} {x3 : Int32} {x4 : Int32} {gi : Gi} {gl : Gl} {Q : Gi → Gl → Prop} (hpN : p < NN) (hpK : sK p = 5) (hb3N : b3 < NN) (hb3K : sK b3 = 4) (h : f_X2_fill_16 p b3 x3 x4 gi gl Q) : p_X2_fill_16 p b3 x3 x4 gi gl Q := by
  unfold f_X2_fill_16 at h
  show PAt mX2_fill NN NN κF 16 [some (.ref 24), some (.ref p), some (.ref b3), some (.int x3), some (.int x4), none, none] [] gi gl _
  refine px_iload dX2_fill_16 rfl ?_
  refine px_bipush (v := (24 : Int32)) dX2_fill_18 (by decide) ?_
  refine px_icmp_ge (tgt := 80) dX2_fill_20 (by decide) ?_
  by_cases hc : (24 : Int32) ≤ x4
  · rw [if_pos hc] at h ⊢
    refine px_iinc (v := x3 + (1 : Int32)) (ls2 := [some (.ref 24), some (.ref p), some (.ref b3), some (.int (x3 + (1 : Int32))), some (.int x4), none, none]) dX2_fill_80 rfl rfl (by decide) rfl ?_
    refine px_goto (tgt := 7) dX2_fill_83 (by decide) ?_
    exact PAt.forget h (lsub_at ⟨rfl, ⟨rfl, ⟨rfl, ⟨rfl, trivial⟩⟩⟩⟩)
  · rw [if_neg hc] at h ⊢
    refine px_ldc (v := (1073741823 : Int32)) dX2_fill_23 w_722 ?_
    refine px_istore (ls2 := [some (.ref 24), some (.ref p), some (.ref b3), some (.int x3), some (.int x4), some (.int (1073741823 : Int32)), none]) dX2_fill_25 (by decide) rfl ?_
    refine px_iconst (v := (0 : Int32)) dX2_fill_27 (by decide) ?_
    refine px_istore (ls2 := [some (.ref 24), some (.ref p), some (.ref b3), some (.int x3), some (.int x4), some (.int (1073741823 : Int32)), some (.int (0 : Int32))]) dX2_fill_28 (by decide) rfl ?_
    exact PAt.forget h (lsub_at ⟨rfl, ⟨rfl, ⟨rfl, ⟨rfl, ⟨rfl, ⟨rfl, ⟨rfl, trivial⟩⟩⟩⟩⟩⟩⟩)
set_option maxRecDepth 100000 in
theorem v_X2_fill_30 {p : Nat} {b3 : Nat} {x3 : Int32} {x4 : Int32} {x5 : Int32} {x6 : Int32} {gi : Gi} {gl : Gl} {Q : Gi → Gl → Prop} (hpN : p < NN) (hpK : sK p = 5) (hb3N : b3 < NN) (hb3K : sK b3 = 4) (h : f_X2_fill_30 p b3 x3 x4 x5 x6 gi gl Q) : p_X2_fill_30 p b3 x3 x4 x5 x6 gi gl Q := by
  unfold f_X2_fill_30 at h
  show PAt mX2_fill NN NN κF 30 [some (.ref 24), some (.ref p), some (.ref b3), some (.int x3), some (.int x4), some (.int x5), some (.int x6)] [] gi gl _
  refine px_iload dX2_fill_30 rfl ?_
  refine px_aload_n dX2_fill_32 rfl rfl ?_
  refine px_callV_I (As := []) (st := [.int x6]) dX2_fill_33 lk_X2_61.1 lk_X2_61.2 (b := p) hpN hpK (by decide) rfl (by decide) rfl (Nat.le_of_ble_eq_true rfl) rfl rfl (Nat.le_of_ble_eq_true rfl) ⟨Nat.le_refl _, Nat.le_refl _, Nat.le_refl _⟩ ?_
  refine PAt.mono h (fun v κ gi1 gl2 hq => ?_)
  obtain ⟨rfl, r3, rfl, h⟩ := hq
  refine px_icmp_ge (tgt := 65) dX2_fill_36 (by decide) ?_
  by_cases hc : r3 ≤ x6
  · rw [if_pos hc] at h ⊢
    refine px_aload_n dX2_fill_65 rfl rfl ?_
    refine px_iload_n dX2_fill_66 rfl rfl ?_
    refine px_iload dX2_fill_67 rfl ?_
    refine px_iload dX2_fill_69 rfl ?_
    refine px_callV_V (As := [.int x3, .int x4, .int x5]) (st := []) dX2_fill_71 lk_X2_65.1 lk_X2_65.2 (b := b3) hb3N hb3K (by decide) rfl (by decide) rfl (Nat.le_of_ble_eq_true rfl) rfl rfl (Nat.le_of_ble_eq_true rfl) ⟨Nat.le_refl _, Nat.le_refl _, Nat.le_refl _⟩ ?_
    refine PAt.mono h (fun v κ gi4 gl5 hq => ?_)
    obtain ⟨rfl, -, h⟩ := hq
    refine px_iinc (v := x4 + (1 : Int32)) (ls2 := [some (.ref 24), some (.ref p), some (.ref b3), some (.int x3), some (.int (x4 + (1 : Int32))), some (.int x5), some (.int x6)]) dX2_fill_74 rfl rfl (by decide) rfl ?_
    refine px_goto (tgt := 16) dX2_fill_77 (by decide) ?_
    exact PAt.forget h (lsub_at ⟨rfl, ⟨rfl, ⟨rfl, ⟨rfl, ⟨rfl, trivial⟩⟩⟩⟩⟩)
  · rw [if_neg hc] at h ⊢
    refine px_iload dX2_fill_39 rfl ?_
    refine px_if_eq (tgt := 65) dX2_fill_41 (by decide) ?_
    by_cases hc : x5 = 0
    · rw [if_pos hc] at h ⊢
      refine px_aload_n dX2_fill_65 rfl rfl ?_
      refine px_iload_n dX2_fill_66 rfl rfl ?_
      refine px_iload dX2_fill_67 rfl ?_
      refine px_iload dX2_fill_69 rfl ?_
      refine px_callV_V (As := [.int x3, .int x4, .int x5]) (st := []) dX2_fill_71 lk_X2_65.1 lk_X2_65.2 (b := b3) hb3N hb3K (by decide) rfl (by decide) rfl (Nat.le_of_ble_eq_true rfl) rfl rfl (Nat.le_of_ble_eq_true rfl) ⟨Nat.le_refl _, Nat.le_refl _, Nat.le_refl _⟩ ?_
      refine PAt.mono h (fun v κ gi6 gl7 hq => ?_)
      obtain ⟨rfl, -, h⟩ := hq
      refine px_iinc (v := x4 + (1 : Int32)) (ls2 := [some (.ref 24), some (.ref p), some (.ref b3), some (.int x3), some (.int (x4 + (1 : Int32))), some (.int x5), some (.int x6)]) dX2_fill_74 rfl rfl (by decide) rfl ?_
      refine px_goto (tgt := 16) dX2_fill_77 (by decide) ?_
      exact PAt.forget h (lsub_at ⟨rfl, ⟨rfl, ⟨rfl, ⟨rfl, ⟨rfl, trivial⟩⟩⟩⟩⟩)
    · rw [if_neg hc] at h ⊢
      refine px_iload dX2_fill_44 rfl ?_
      refine px_aload_n dX2_fill_46 rfl rfl ?_
      refine px_aload_n dX2_fill_47 rfl rfl ?_
      refine px_iload dX2_fill_48 rfl ?_
      refine px_iload_n dX2_fill_50 rfl rfl ?_
      refine px_iload dX2_fill_51 rfl ?_
      refine px_callV_I (As := [.ref p, .int x6, .int x3, .int x4]) (st := [.int x5]) dX2_fill_53 lk_X2_23.1 lk_X2_23.2 (b := 24) zl_24 zk_24 (by decide) rfl (by decide) rfl (Nat.le_of_ble_eq_true rfl) rfl rfl (Nat.le_of_ble_eq_true rfl) ⟨Nat.le_refl _, Nat.le_refl _, Nat.le_refl _⟩ ?_
      refine PAt.mono h (fun v κ gi8 gl9 hq => ?_)
      obtain ⟨rfl, r10, rfl, h⟩ := hq
      refine px_iand dX2_fill_56 ?_
      obtain ⟨z11, hz11⟩ : ∃ y : Int32, y = x5 &&& r10 := ⟨_, rfl⟩
      have h := h z11 hz11
      refine px_namei hz11 ?_
      refine px_istore (ls2 := [some (.ref 24), some (.ref p), some (.ref b3), some (.int x3), some (.int x4), some (.int z11), some (.int x6)]) dX2_fill_57 (by decide) rfl ?_
      refine px_iinc (v := x6 + (1 : Int32)) (ls2 := [some (.ref 24), some (.ref p), some (.ref b3), some (.int x3), some (.int x4), some (.int z11), some (.int (x6 + (1 : Int32)))]) dX2_fill_59 rfl rfl (by decide) rfl ?_
      refine px_goto (tgt := 30) dX2_fill_62 (by decide) ?_
      exact PAt.forget h (lsub_at ⟨rfl, ⟨rfl, ⟨rfl, ⟨rfl, ⟨rfl, ⟨rfl, ⟨rfl, trivial⟩⟩⟩⟩⟩⟩⟩)
abbrev p_X2_countLater_5 (p : Nat) (x2 : Int32) (x3 : Int32) (x4 : Int32) (gi : Gi) (gl : Gl) (Q : Int32 → Gi → Gl → Prop) : Prop := PAt mX2_countLater NN NN κF 5 [some (.ref 24), some (.ref p), some (.int x2), some (.int x3), some (.int x4), none] [] gi gl (RiQ Q)
def f_X2_countLater (p : Nat) (x2 : Int32) (gi : Gi) (gl : Gl) (Q : Int32 → Gi → Gl → Prop) : Prop :=
p_X2_countLater_5 p x2 (0 : Int32) (0 : Int32) gi gl Q
def f_X2_countLater_5 (p : Nat) (x2 : Int32) (x3 : Int32) (x4 : Int32) (gi : Gi) (gl : Gl) (Q : Int32 → Gi → Gl → Prop) : Prop :=
if (120 : Int32) ≤ x4 then
(Q x3 gi gl)
else
(p_X5_moments p gi gl (fun (o14 : Option Nat) (gi1 : Gi) (gl2 : Gl) =>
(o14 = none →
False) ∧
(∀ b3 : Nat, o14 = some b3 → b3 < NN → sK b3 = 4 →
p_X4_minutesIn b3 (jr x4 (12 : Int32)) gi1 gl2 (fun (r6 : Int32) (gi4 : Gi) (gl5 : Gl) =>
if r6 ≤ 0 then
(p_X2_countLater_5 p x2 x3 (x4 + (1 : Int32)) gi4 gl5 Q)
else
(p_X2_daysLater p x4 x2 gi4 gl5 (fun (r9 : Int32) (gi7 : Gi) (gl8 : Gl) =>
p_J6_bitCount_0f7a4 r9 gi7 gl8 (fun (r12 : Int32) (gi10 : Gi) (gl11 : Gl) =>
∀ z13 : Int32, z13 = x3 + (r12 * r6) →
p_X2_countLater_5 p x2 z13 (x4 + (1 : Int32)) gi10 gl11 Q)))))))
set_option maxRecDepth 100000 in
theorem v_X2_countLater {p : Nat} {x2 : Int32} {gi : Gi} {gl : Gl} {Q : Int32 → Gi → Gl → Prop} (hpN : p < NN) (hpK : sK p = 5) (h : f_X2_countLater p x2 gi gl Q) : p_X2_countLater p x2 gi gl Q := by
  unfold f_X2_countLater at h
  show PAt mX2_countLater NN NN κF 0 [some (.ref 24), some (.ref p), some (.int x2), none, none, none] [] gi gl _
  refine px_iconst (v := (0 : Int32)) dX2_countLater_0 (by decide) ?_
  refine px_istore_n (ls2 := [some (.ref 24), some (.ref p), some (.int x2), some (.int (0 : Int32)), none, none]) (i := 3) rfl dX2_countLater_1 (by decide) rfl ?_
  refine px_iconst (v := (0 : Int32)) dX2_countLater_2 (by decide) ?_
  refine px_istore (ls2 := [some (.ref 24), some (.ref p), some (.int x2), some (.int (0 : Int32)), some (.int (0 : Int32)), none]) dX2_countLater_3 (by decide) rfl ?_
  exact PAt.forget h (lsub_at ⟨rfl, ⟨rfl, ⟨rfl, ⟨rfl, ⟨rfl, trivial⟩⟩⟩⟩⟩)
set_option maxRecDepth 100000 in
theorem v_X2_countLater_5 {p : Nat} {x2 : Int32} {x3 : Int32} {x4 : Int32} {gi : Gi} {gl : Gl} {Q : Int32 → Gi → Gl → Prop} (hpN : p < NN) (hpK : sK p = 5) (h : f_X2_countLater_5 p x2 x3 x4 gi gl Q) : p_X2_countLater_5 p x2 x3 x4 gi gl Q := by
  unfold f_X2_countLater_5 at h
  show PAt mX2_countLater NN NN κF 5 [some (.ref 24), some (.ref p), some (.int x2), some (.int x3), some (.int x4), none] [] gi gl _
  refine px_iload dX2_countLater_5 rfl ?_
  refine px_bipush (v := (120 : Int32)) dX2_countLater_7 (by decide) ?_
  refine px_icmp_ge (tgt := 54) dX2_countLater_9 (by decide) ?_
  by_cases hc : (120 : Int32) ≤ x4
  · rw [if_pos hc] at h ⊢
    refine px_iload_n dX2_countLater_54 rfl rfl ?_
    exact px_ireturn dX2_countLater_55 rfl ⟨.int, rfl, rfl, rfl⟩ ⟨rfl, _, rfl, h⟩
  · rw [if_neg hc] at h ⊢
    refine px_aload_n dX2_countLater_12 rfl rfl ?_
    refine px_callV_A (As := []) (st := []) dX2_countLater_13 lk_X2_57.1 lk_X2_57.2 (b := p) hpN hpK (by decide) rfl (by decide) rfl (Nat.le_of_ble_eq_true rfl) ⟨_, rfl⟩ rfl (Nat.le_of_ble_eq_true rfl) ⟨Nat.le_refl _, Nat.le_refl _, Nat.le_refl _⟩ ?_
    refine PAt.mono h (fun v κ gi1 gl2 hq => ?_)
    rcases hq with ⟨rfl, ⟨rfl, hq⟩ | ⟨b3, rfl, hb3N, hb3K, hq⟩⟩
    · have h := hq.1 rfl
      refine px_iload dX2_countLater_16 rfl ?_
      refine px_bipush (v := (12 : Int32)) dX2_countLater_18 (by decide) ?_
      refine px_irem dX2_countLater_20 (by decide) ?_
      exact h.elim
    · have h := hq.2 b3 rfl hb3N hb3K
      refine px_iload dX2_countLater_16 rfl ?_
      refine px_bipush (v := (12 : Int32)) dX2_countLater_18 (by decide) ?_
      refine px_irem dX2_countLater_20 (by decide) ?_
      refine px_callV_I (As := [.int (jr x4 (12 : Int32))]) (st := []) dX2_countLater_21 lk_X2_82.1 lk_X2_82.2 (b := b3) hb3N hb3K (by decide) rfl (by decide) rfl (Nat.le_of_ble_eq_true rfl) rfl rfl (Nat.le_of_ble_eq_true rfl) ⟨Nat.le_refl _, Nat.le_refl _, Nat.le_refl _⟩ ?_
      refine PAt.mono h (fun v κ gi4 gl5 hq => ?_)
      obtain ⟨rfl, r6, rfl, h⟩ := hq
      refine px_istore (ls2 := [some (.ref 24), some (.ref p), some (.int x2), some (.int x3), some (.int x4), some (.int r6)]) dX2_countLater_24 (by decide) rfl ?_
      refine px_iload dX2_countLater_26 rfl ?_
      refine px_if_le (tgt := 48) dX2_countLater_28 (by decide) ?_
      by_cases hc : r6 ≤ 0
      · rw [if_pos hc] at h ⊢
        refine px_iinc (v := x4 + (1 : Int32)) (ls2 := [some (.ref 24), some (.ref p), some (.int x2), some (.int x3), some (.int (x4 + (1 : Int32))), some (.int r6)]) dX2_countLater_48 rfl rfl (by decide) rfl ?_
        refine px_goto (tgt := 5) dX2_countLater_51 (by decide) ?_
        exact PAt.forget h (lsub_at ⟨rfl, ⟨rfl, ⟨rfl, ⟨rfl, ⟨rfl, trivial⟩⟩⟩⟩⟩)
      · rw [if_neg hc] at h ⊢
        refine px_iload_n dX2_countLater_31 rfl rfl ?_
        refine px_aload_n dX2_countLater_32 rfl rfl ?_
        refine px_aload_n dX2_countLater_33 rfl rfl ?_
        refine px_iload dX2_countLater_34 rfl ?_
        refine px_iload_n dX2_countLater_36 rfl rfl ?_
        refine px_callV_I (As := [.ref p, .int x4, .int x2]) (st := [.int x3]) dX2_countLater_37 lk_X2_71.1 lk_X2_71.2 (b := 24) zl_24 zk_24 (by decide) rfl (by decide) rfl (Nat.le_of_ble_eq_true rfl) rfl rfl (Nat.le_of_ble_eq_true rfl) ⟨Nat.le_refl _, Nat.le_refl _, Nat.le_refl _⟩ ?_
        refine PAt.mono h (fun v κ gi7 gl8 hq => ?_)
        obtain ⟨rfl, r9, rfl, h⟩ := hq
        refine px_callS_I (As := [.int r9]) (st := [.int x3]) dX2_countLater_40 lk_X2_86.1 lk_X2_86.2 (by decide) rfl (Nat.le_of_ble_eq_true rfl) rfl rfl (Nat.le_of_ble_eq_true rfl) ⟨Nat.le_refl _, Nat.le_refl _, Nat.le_refl _⟩ ?_
        refine PAt.mono h (fun v κ gi10 gl11 hq => ?_)
        obtain ⟨rfl, r12, rfl, h⟩ := hq
        refine px_iload dX2_countLater_43 rfl ?_
        refine px_imul dX2_countLater_45 ?_
        refine px_iadd dX2_countLater_46 ?_
        obtain ⟨z13, hz13⟩ : ∃ y : Int32, y = x3 + (r12 * r6) := ⟨_, rfl⟩
        have h := h z13 hz13
        refine px_namei hz13 ?_
        refine px_istore_n (ls2 := [some (.ref 24), some (.ref p), some (.int x2), some (.int z13), some (.int x4), some (.int r6)]) (i := 3) rfl dX2_countLater_47 (by decide) rfl ?_
        refine px_iinc (v := x4 + (1 : Int32)) (ls2 := [some (.ref 24), some (.ref p), some (.int x2), some (.int z13), some (.int (x4 + (1 : Int32))), some (.int r6)]) dX2_countLater_48 rfl rfl (by decide) rfl ?_
        refine px_goto (tgt := 5) dX2_countLater_51 (by decide) ?_
        exact PAt.forget h (lsub_at ⟨rfl, ⟨rfl, ⟨rfl, ⟨rfl, ⟨rfl, trivial⟩⟩⟩⟩⟩)
abbrev p_X2_daysLater_7 (p : Nat) (x2 : Int32) (x3 : Int32) (x4 : Int32) (x5 : Int32) (gi : Gi) (gl : Gl) (Q : Int32 → Gi → Gl → Prop) : Prop := PAt mX2_daysLater NN NN κF 7 [some (.ref 24), some (.ref p), some (.int x2), some (.int x3), some (.int x4), some (.int x5)] [] gi gl (RiQ Q)
def f_X2_daysLater (p : Nat) (x2 : Int32) (x3 : Int32) (gi : Gi) (gl : Gl) (Q : Int32 → Gi → Gl → Prop) : Prop :=
p_X2_daysLater_7 p x2 x3 (1073741823 : Int32) (0 : Int32) gi gl Q
def f_X2_daysLater_7 (p : Nat) (x2 : Int32) (x3 : Int32) (x4 : Int32) (x5 : Int32) (gi : Gi) (gl : Gl) (Q : Int32 → Gi → Gl → Prop) : Prop :=
p_X5_size p gi gl (fun (r3 : Int32) (gi1 : Gi) (gl2 : Gl) =>
if r3 ≤ x5 then
(Q x4 gi1 gl2)
else
(if x4 = 0 then
(Q x4 gi1 gl2)
else
(p_X2_daysLet p x5 x2 x3 gi1 gl2 (fun (r6 : Int32) (gi4 : Gi) (gl5 : Gl) =>
∀ z7 : Int32, z7 = x4 &&& r6 →
p_X2_daysLater_7 p x2 x3 z7 (x5 + (1 : Int32)) gi4 gl5 Q))))
set_option maxRecDepth 100000 in
theorem v_X2_daysLater {p : Nat} {x2 : Int32} {x3 : Int32} {gi : Gi} {gl : Gl} {Q : Int32 → Gi → Gl → Prop} (hpN : p < NN) (hpK : sK p = 5) (h : f_X2_daysLater p x2 x3 gi gl Q) : p_X2_daysLater p x2 x3 gi gl Q := by
  unfold f_X2_daysLater at h
  show PAt mX2_daysLater NN NN κF 0 [some (.ref 24), some (.ref p), some (.int x2), some (.int x3), none, none] [] gi gl _
  refine px_ldc (v := (1073741823 : Int32)) dX2_daysLater_0 w_722 ?_
  refine px_istore (ls2 := [some (.ref 24), some (.ref p), some (.int x2), some (.int x3), some (.int (1073741823 : Int32)), none]) dX2_daysLater_2 (by decide) rfl ?_
  refine px_iconst (v := (0 : Int32)) dX2_daysLater_4 (by decide) ?_
  refine px_istore (ls2 := [some (.ref 24), some (.ref p), some (.int x2), some (.int x3), some (.int (1073741823 : Int32)), some (.int (0 : Int32))]) dX2_daysLater_5 (by decide) rfl ?_
  exact PAt.forget h (lsub_at ⟨rfl, ⟨rfl, ⟨rfl, ⟨rfl, ⟨rfl, ⟨rfl, trivial⟩⟩⟩⟩⟩⟩)
set_option maxRecDepth 100000 in
theorem v_X2_daysLater_7 {p : Nat} {x2 : Int32} {x3 : Int32} {x4 : Int32} {x5 : Int32} {gi : Gi} {gl : Gl} {Q : Int32 → Gi → Gl → Prop} (hpN : p < NN) (hpK : sK p = 5) (h : f_X2_daysLater_7 p x2 x3 x4 x5 gi gl Q) : p_X2_daysLater_7 p x2 x3 x4 x5 gi gl Q := by
  unfold f_X2_daysLater_7 at h
  show PAt mX2_daysLater NN NN κF 7 [some (.ref 24), some (.ref p), some (.int x2), some (.int x3), some (.int x4), some (.int x5)] [] gi gl _
  refine px_iload dX2_daysLater_7 rfl ?_
  refine px_aload_n dX2_daysLater_9 rfl rfl ?_
  refine px_callV_I (As := []) (st := [.int x5]) dX2_daysLater_10 lk_X2_61.1 lk_X2_61.2 (b := p) hpN hpK (by decide) rfl (by decide) rfl (Nat.le_of_ble_eq_true rfl) rfl rfl (Nat.le_of_ble_eq_true rfl) ⟨Nat.le_refl _, Nat.le_refl _, Nat.le_refl _⟩ ?_
  refine PAt.mono h (fun v κ gi1 gl2 hq => ?_)
  obtain ⟨rfl, r3, rfl, h⟩ := hq
  refine px_icmp_ge (tgt := 41) dX2_daysLater_13 (by decide) ?_
  by_cases hc : r3 ≤ x5
  · rw [if_pos hc] at h ⊢
    refine px_iload dX2_daysLater_41 rfl ?_
    exact px_ireturn dX2_daysLater_43 rfl ⟨.int, rfl, rfl, rfl⟩ ⟨rfl, _, rfl, h⟩
  · rw [if_neg hc] at h ⊢
    refine px_iload dX2_daysLater_16 rfl ?_
    refine px_if_eq (tgt := 41) dX2_daysLater_18 (by decide) ?_
    by_cases hc : x4 = 0
    · rw [if_pos hc] at h ⊢
      refine px_iload dX2_daysLater_41 rfl ?_
      exact px_ireturn dX2_daysLater_43 rfl ⟨.int, rfl, rfl, rfl⟩ ⟨rfl, _, rfl, h⟩
    · rw [if_neg hc] at h ⊢
      refine px_iload dX2_daysLater_21 rfl ?_
      refine px_aload_n dX2_daysLater_23 rfl rfl ?_
      refine px_aload_n dX2_daysLater_24 rfl rfl ?_
      refine px_iload dX2_daysLater_25 rfl ?_
      refine px_iload_n dX2_daysLater_27 rfl rfl ?_
      refine px_iload_n dX2_daysLater_28 rfl rfl ?_
      refine px_callV_I (As := [.ref p, .int x5, .int x2, .int x3]) (st := [.int x4]) dX2_daysLater_29 lk_X2_19.1 lk_X2_19.2 (b := 24) zl_24 zk_24 (by decide) rfl (by decide) rfl (Nat.le_of_ble_eq_true rfl) rfl rfl (Nat.le_of_ble_eq_true rfl) ⟨Nat.le_refl _, Nat.le_refl _, Nat.le_refl _⟩ ?_
      refine PAt.mono h (fun v κ gi4 gl5 hq => ?_)
      obtain ⟨rfl, r6, rfl, h⟩ := hq
      refine px_iand dX2_daysLater_32 ?_
      obtain ⟨z7, hz7⟩ : ∃ y : Int32, y = x4 &&& r6 := ⟨_, rfl⟩
      have h := h z7 hz7
      refine px_namei hz7 ?_
      refine px_istore (ls2 := [some (.ref 24), some (.ref p), some (.int x2), some (.int x3), some (.int z7), some (.int x5)]) dX2_daysLater_33 (by decide) rfl ?_
      refine px_iinc (v := x5 + (1 : Int32)) (ls2 := [some (.ref 24), some (.ref p), some (.int x2), some (.int x3), some (.int z7), some (.int (x5 + (1 : Int32)))]) dX2_daysLater_35 rfl rfl (by decide) rfl ?_
      refine px_goto (tgt := 7) dX2_daysLater_38 (by decide) ?_
      exact PAt.forget h (lsub_at ⟨rfl, ⟨rfl, ⟨rfl, ⟨rfl, ⟨rfl, ⟨rfl, trivial⟩⟩⟩⟩⟩⟩)
def f_X2_daysStood (x1 : Int32) (x2 : Int32) (x3 : Int32) (gi : Gi) (gl : Gl) (Q : Int32 → Gi → Gl → Prop) : Prop :=
p_X10_of 2 (0 : Int32) x1 (2 : Int32) gi gl (fun (r3 : Int32) (gi1 : Gi) (gl2 : Gl) =>
p_X10_of 2 (0 : Int32) x1 (0 : Int32) gi1 gl2 (fun (r6 : Int32) (gi4 : Gi) (gl5 : Gl) =>
p_X10_of 2 (0 : Int32) x1 (1 : Int32) gi4 gl5 (fun (r9 : Int32) (gi7 : Gi) (gl8 : Gl) =>
∀ z10 : Int32, z10 = r6 - r9 →
if ¬ r3 = ((-1) : Int32) then
(p_X10_of 2 (0 : Int32) x1 (3 : Int32) gi7 gl8 (fun (r13 : Int32) (gi11 : Gi) (gl12 : Gl) =>
∀ z14 : Int32, z14 = (r3 + x3) + r13 →
p_X11_bitsOf (z10 - (x2 * (30 : Int32))) (z14 - (x2 * (30 : Int32))) gi11 gl12 (fun (r17 : Int32) (gi15 : Gi) (gl16 : Gl) =>
Q r17 gi15 gl16)))
else
(p_X11_bitsOf (z10 - (x2 * (30 : Int32))) ((3599 : Int32) - (x2 * (30 : Int32))) gi7 gl8 (fun (r20 : Int32) (gi18 : Gi) (gl19 : Gl) =>
Q r20 gi18 gl19)))))
set_option maxRecDepth 100000 in
theorem v_X2_daysStood {x1 : Int32} {x2 : Int32} {x3 : Int32} {gi : Gi} {gl : Gl} {Q : Int32 → Gi → Gl → Prop}  (h : f_X2_daysStood x1 x2 x3 gi gl Q) : p_X2_daysStood x1 x2 x3 gi gl Q := by
  unfold f_X2_daysStood at h
  show PAt mX2_daysStood NN NN κF 0 [some (.ref 24), some (.int x1), some (.int x2), some (.int x3), none, none, none] [] gi gl _
  refine px_aload_n dX2_daysStood_0 rfl rfl ?_
  refine gf_X2_9 rfl dX2_daysStood_1 zl_24 zk_24 rfl zr_24_0 zl_2 ?_
  refine px_iconst (v := (0 : Int32)) dX2_daysStood_4 (by decide) ?_
  refine px_iload_n dX2_daysStood_5 rfl rfl ?_
  refine px_iconst (v := (2 : Int32)) dX2_daysStood_6 (by decide) ?_
  refine px_callV_I (As := [.int (0 : Int32), .int x1, .int (2 : Int32)]) (st := []) dX2_daysStood_7 lk_X2_49.1 lk_X2_49.2 (b := 2) zl_2 zk_2 (by decide) rfl (by decide) rfl (Nat.le_of_ble_eq_true rfl) rfl rfl (Nat.le_of_ble_eq_true rfl) ⟨Nat.le_refl _, Nat.le_refl _, Nat.le_refl _⟩ ?_
  refine PAt.mono h (fun v κ gi1 gl2 hq => ?_)
  obtain ⟨rfl, r3, rfl, h⟩ := hq
  refine px_istore (ls2 := [some (.ref 24), some (.int x1), some (.int x2), some (.int x3), some (.int r3), none, none]) dX2_daysStood_10 (by decide) rfl ?_
  refine px_aload_n dX2_daysStood_12 rfl rfl ?_
  refine gf_X2_9 rfl dX2_daysStood_13 zl_24 zk_24 rfl zr_24_0 zl_2 ?_
  refine px_iconst (v := (0 : Int32)) dX2_daysStood_16 (by decide) ?_
  refine px_iload_n dX2_daysStood_17 rfl rfl ?_
  refine px_iconst (v := (0 : Int32)) dX2_daysStood_18 (by decide) ?_
  refine px_callV_I (As := [.int (0 : Int32), .int x1, .int (0 : Int32)]) (st := []) dX2_daysStood_19 lk_X2_49.1 lk_X2_49.2 (b := 2) zl_2 zk_2 (by decide) rfl (by decide) rfl (Nat.le_of_ble_eq_true rfl) rfl rfl (Nat.le_of_ble_eq_true rfl) ⟨Nat.le_refl _, Nat.le_refl _, Nat.le_refl _⟩ ?_
  refine PAt.mono h (fun v κ gi4 gl5 hq => ?_)
  obtain ⟨rfl, r6, rfl, h⟩ := hq
  refine px_aload_n dX2_daysStood_22 rfl rfl ?_
  refine gf_X2_9 rfl dX2_daysStood_23 zl_24 zk_24 rfl zr_24_0 zl_2 ?_
  refine px_iconst (v := (0 : Int32)) dX2_daysStood_26 (by decide) ?_
  refine px_iload_n dX2_daysStood_27 rfl rfl ?_
  refine px_iconst (v := (1 : Int32)) dX2_daysStood_28 (by decide) ?_
  refine px_callV_I (As := [.int (0 : Int32), .int x1, .int (1 : Int32)]) (st := [.int r6]) dX2_daysStood_29 lk_X2_49.1 lk_X2_49.2 (b := 2) zl_2 zk_2 (by decide) rfl (by decide) rfl (Nat.le_of_ble_eq_true rfl) rfl rfl (Nat.le_of_ble_eq_true rfl) ⟨Nat.le_refl _, Nat.le_refl _, Nat.le_refl _⟩ ?_
  refine PAt.mono h (fun v κ gi7 gl8 hq => ?_)
  obtain ⟨rfl, r9, rfl, h⟩ := hq
  refine px_isub dX2_daysStood_32 ?_
  obtain ⟨z10, hz10⟩ : ∃ y : Int32, y = r6 - r9 := ⟨_, rfl⟩
  have h := h z10 hz10
  refine px_namei hz10 ?_
  refine px_istore (ls2 := [some (.ref 24), some (.int x1), some (.int x2), some (.int x3), some (.int r3), some (.int z10), none]) dX2_daysStood_33 (by decide) rfl ?_
  refine px_iload dX2_daysStood_35 rfl ?_
  refine px_iconst (v := ((-1) : Int32)) dX2_daysStood_37 (by decide) ?_
  refine px_icmp_ne (tgt := 47) dX2_daysStood_38 (by decide) ?_
  by_cases hc : ¬ r3 = ((-1) : Int32)
  · rw [if_pos hc] at h ⊢
    refine px_iload dX2_daysStood_47 rfl ?_
    refine px_iload_n dX2_daysStood_49 rfl rfl ?_
    refine px_iadd dX2_daysStood_50 ?_
    refine px_aload_n dX2_daysStood_51 rfl rfl ?_
    refine gf_X2_9 rfl dX2_daysStood_52 zl_24 zk_24 rfl zr_24_0 zl_2 ?_
    refine px_iconst (v := (0 : Int32)) dX2_daysStood_55 (by decide) ?_
    refine px_iload_n dX2_daysStood_56 rfl rfl ?_
    refine px_iconst (v := (3 : Int32)) dX2_daysStood_57 (by decide) ?_
    refine px_callV_I (As := [.int (0 : Int32), .int x1, .int (3 : Int32)]) (st := [.int (r3 + x3)]) dX2_daysStood_58 lk_X2_49.1 lk_X2_49.2 (b := 2) zl_2 zk_2 (by decide) rfl (by decide) rfl (Nat.le_of_ble_eq_true rfl) rfl rfl (Nat.le_of_ble_eq_true rfl) ⟨Nat.le_refl _, Nat.le_refl _, Nat.le_refl _⟩ ?_
    refine PAt.mono h (fun v κ gi11 gl12 hq => ?_)
    obtain ⟨rfl, r13, rfl, h⟩ := hq
    refine px_iadd dX2_daysStood_61 ?_
    obtain ⟨z14, hz14⟩ : ∃ y : Int32, y = (r3 + x3) + r13 := ⟨_, rfl⟩
    have h := h z14 hz14
    refine px_namei hz14 ?_
    refine px_istore (ls2 := [some (.ref 24), some (.int x1), some (.int x2), some (.int x3), some (.int r3), some (.int z10), some (.int z14)]) dX2_daysStood_62 (by decide) rfl ?_
    refine px_iload dX2_daysStood_64 rfl ?_
    refine px_iload_n dX2_daysStood_66 rfl rfl ?_
    refine px_bipush (v := (30 : Int32)) dX2_daysStood_67 (by decide) ?_
    refine px_imul dX2_daysStood_69 ?_
    refine px_isub dX2_daysStood_70 ?_
    refine px_iload dX2_daysStood_71 rfl ?_
    refine px_iload_n dX2_daysStood_73 rfl rfl ?_
    refine px_bipush (v := (30 : Int32)) dX2_daysStood_74 (by decide) ?_
    refine px_imul dX2_daysStood_76 ?_
    refine px_isub dX2_daysStood_77 ?_
    refine px_callSN_I (As := [.int (z10 - (x2 * (30 : Int32))), .int (z14 - (x2 * (30 : Int32)))]) (st := []) dX2_daysStood_78 lk_X2_54.1 lk_X2_54.2 (by decide) rfl (Nat.le_of_ble_eq_true rfl) rfl rfl (Nat.le_of_ble_eq_true rfl) ⟨Nat.le_refl _, Nat.le_refl _, Nat.le_refl _⟩ ?_
    refine PAt.mono h (fun v κ gi15 gl16 hq => ?_)
    obtain ⟨rfl, r17, rfl, h⟩ := hq
    exact px_ireturn dX2_daysStood_81 rfl ⟨.int, rfl, rfl, rfl⟩ ⟨rfl, _, rfl, h⟩
  · rw [if_neg hc] at h ⊢
    refine px_sipush (v := (3599 : Int32)) dX2_daysStood_41 (by decide) ?_
    refine px_goto (tgt := 62) dX2_daysStood_44 (by decide) ?_
    refine px_istore (ls2 := [some (.ref 24), some (.int x1), some (.int x2), some (.int x3), some (.int r3), some (.int z10), some (.int (3599 : Int32))]) dX2_daysStood_62 (by decide) rfl ?_
    refine px_iload dX2_daysStood_64 rfl ?_
    refine px_iload_n dX2_daysStood_66 rfl rfl ?_
    refine px_bipush (v := (30 : Int32)) dX2_daysStood_67 (by decide) ?_
    refine px_imul dX2_daysStood_69 ?_
    refine px_isub dX2_daysStood_70 ?_
    refine px_iload dX2_daysStood_71 rfl ?_
    refine px_iload_n dX2_daysStood_73 rfl rfl ?_
    refine px_bipush (v := (30 : Int32)) dX2_daysStood_74 (by decide) ?_
    refine px_imul dX2_daysStood_76 ?_
    refine px_isub dX2_daysStood_77 ?_
    refine px_callSN_I (As := [.int (z10 - (x2 * (30 : Int32))), .int ((3599 : Int32) - (x2 * (30 : Int32)))]) (st := []) dX2_daysStood_78 lk_X2_54.1 lk_X2_54.2 (by decide) rfl (Nat.le_of_ble_eq_true rfl) rfl rfl (Nat.le_of_ble_eq_true rfl) ⟨Nat.le_refl _, Nat.le_refl _, Nat.le_refl _⟩ ?_
    refine PAt.mono h (fun v κ gi18 gl19 hq => ?_)
    obtain ⟨rfl, r20, rfl, h⟩ := hq
    exact px_ireturn dX2_daysStood_81 rfl ⟨.int, rfl, rfl, rfl⟩ ⟨rfl, _, rfl, h⟩
abbrev p_X2_daysLacked_62 (x2 : Int32) (x5 : Int32) (s0 : Int32) (gi : Gi) (gl : Gl) (Q : Int32 → Gi → Gl → Prop) : Prop := PAt mX2_daysLacked NN NN κF 62 [none, none, some (.int x2), none, none, some (.int x5), none] [.int s0] gi gl (RiQ Q)
def f_X2_daysLacked (x1 : Int32) (x2 : Int32) (x3 : Int32) (gi : Gi) (gl : Gl) (Q : Int32 → Gi → Gl → Prop) : Prop :=
p_X10_of 2 (0 : Int32) x1 (2 : Int32) gi gl (fun (r3 : Int32) (gi1 : Gi) (gl2 : Gl) =>
p_X10_of 2 (0 : Int32) x1 (0 : Int32) gi1 gl2 (fun (r6 : Int32) (gi4 : Gi) (gl5 : Gl) =>
p_X10_of 2 (0 : Int32) x1 (1 : Int32) gi4 gl5 (fun (r9 : Int32) (gi7 : Gi) (gl8 : Gl) =>
∀ z10 : Int32, z10 = r6 + r9 →
if ¬ r3 = ((-1) : Int32) then
(p_X10_of 2 (0 : Int32) x1 (3 : Int32) gi7 gl8 (fun (r13 : Int32) (gi11 : Gi) (gl12 : Gl) =>
p_X2_daysLacked_62 x2 z10 ((r3 + x3) - r13) gi11 gl12 Q))
else
(p_X2_daysLacked_62 x2 z10 (3599 : Int32) gi7 gl8 Q))))
def f_X2_daysLacked_62 (x2 : Int32) (x5 : Int32) (s0 : Int32) (gi : Gi) (gl : Gl) (Q : Int32 → Gi → Gl → Prop) : Prop :=
p_X11_bitsOf (x5 - (x2 * (30 : Int32))) (s0 - (x2 * (30 : Int32))) gi gl (fun (r3 : Int32) (gi1 : Gi) (gl2 : Gl) =>
Q ((1073741823 : Int32) &&& (r3 ^^^ ((-1) : Int32))) gi1 gl2)
set_option maxRecDepth 100000 in
theorem v_X2_daysLacked {x1 : Int32} {x2 : Int32} {x3 : Int32} {gi : Gi} {gl : Gl} {Q : Int32 → Gi → Gl → Prop}  (h : f_X2_daysLacked x1 x2 x3 gi gl Q) : p_X2_daysLacked x1 x2 x3 gi gl Q := by
  unfold f_X2_daysLacked at h
  show PAt mX2_daysLacked NN NN κF 0 [some (.ref 24), some (.int x1), some (.int x2), some (.int x3), none, none, none] [] gi gl _
  refine px_aload_n dX2_daysLacked_0 rfl rfl ?_
  refine gf_X2_9 rfl dX2_daysLacked_1 zl_24 zk_24 rfl zr_24_0 zl_2 ?_
  refine px_iconst (v := (0 : Int32)) dX2_daysLacked_4 (by decide) ?_
  refine px_iload_n dX2_daysLacked_5 rfl rfl ?_
  refine px_iconst (v := (2 : Int32)) dX2_daysLacked_6 (by decide) ?_
  refine px_callV_I (As := [.int (0 : Int32), .int x1, .int (2 : Int32)]) (st := []) dX2_daysLacked_7 lk_X2_49.1 lk_X2_49.2 (b := 2) zl_2 zk_2 (by decide) rfl (by decide) rfl (Nat.le_of_ble_eq_true rfl) rfl rfl (Nat.le_of_ble_eq_true rfl) ⟨Nat.le_refl _, Nat.le_refl _, Nat.le_refl _⟩ ?_
  refine PAt.mono h (fun v κ gi1 gl2 hq => ?_)
  obtain ⟨rfl, r3, rfl, h⟩ := hq
  refine px_istore (ls2 := [some (.ref 24), some (.int x1), some (.int x2), some (.int x3), some (.int r3), none, none]) dX2_daysLacked_10 (by decide) rfl ?_
  refine px_aload_n dX2_daysLacked_12 rfl rfl ?_
  refine gf_X2_9 rfl dX2_daysLacked_13 zl_24 zk_24 rfl zr_24_0 zl_2 ?_
  refine px_iconst (v := (0 : Int32)) dX2_daysLacked_16 (by decide) ?_
  refine px_iload_n dX2_daysLacked_17 rfl rfl ?_
  refine px_iconst (v := (0 : Int32)) dX2_daysLacked_18 (by decide) ?_
  refine px_callV_I (As := [.int (0 : Int32), .int x1, .int (0 : Int32)]) (st := []) dX2_daysLacked_19 lk_X2_49.1 lk_X2_49.2 (b := 2) zl_2 zk_2 (by decide) rfl (by decide) rfl (Nat.le_of_ble_eq_true rfl) rfl rfl (Nat.le_of_ble_eq_true rfl) ⟨Nat.le_refl _, Nat.le_refl _, Nat.le_refl _⟩ ?_
  refine PAt.mono h (fun v κ gi4 gl5 hq => ?_)
  obtain ⟨rfl, r6, rfl, h⟩ := hq
  refine px_aload_n dX2_daysLacked_22 rfl rfl ?_
  refine gf_X2_9 rfl dX2_daysLacked_23 zl_24 zk_24 rfl zr_24_0 zl_2 ?_
  refine px_iconst (v := (0 : Int32)) dX2_daysLacked_26 (by decide) ?_
  refine px_iload_n dX2_daysLacked_27 rfl rfl ?_
  refine px_iconst (v := (1 : Int32)) dX2_daysLacked_28 (by decide) ?_
  refine px_callV_I (As := [.int (0 : Int32), .int x1, .int (1 : Int32)]) (st := [.int r6]) dX2_daysLacked_29 lk_X2_49.1 lk_X2_49.2 (b := 2) zl_2 zk_2 (by decide) rfl (by decide) rfl (Nat.le_of_ble_eq_true rfl) rfl rfl (Nat.le_of_ble_eq_true rfl) ⟨Nat.le_refl _, Nat.le_refl _, Nat.le_refl _⟩ ?_
  refine PAt.mono h (fun v κ gi7 gl8 hq => ?_)
  obtain ⟨rfl, r9, rfl, h⟩ := hq
  refine px_iadd dX2_daysLacked_32 ?_
  obtain ⟨z10, hz10⟩ : ∃ y : Int32, y = r6 + r9 := ⟨_, rfl⟩
  have h := h z10 hz10
  refine px_namei hz10 ?_
  refine px_istore (ls2 := [some (.ref 24), some (.int x1), some (.int x2), some (.int x3), some (.int r3), some (.int z10), none]) dX2_daysLacked_33 (by decide) rfl ?_
  refine px_iload dX2_daysLacked_35 rfl ?_
  refine px_iconst (v := ((-1) : Int32)) dX2_daysLacked_37 (by decide) ?_
  refine px_icmp_ne (tgt := 47) dX2_daysLacked_38 (by decide) ?_
  by_cases hc : ¬ r3 = ((-1) : Int32)
  · rw [if_pos hc] at h ⊢
    refine px_iload dX2_daysLacked_47 rfl ?_
    refine px_iload_n dX2_daysLacked_49 rfl rfl ?_
    refine px_iadd dX2_daysLacked_50 ?_
    refine px_aload_n dX2_daysLacked_51 rfl rfl ?_
    refine gf_X2_9 rfl dX2_daysLacked_52 zl_24 zk_24 rfl zr_24_0 zl_2 ?_
    refine px_iconst (v := (0 : Int32)) dX2_daysLacked_55 (by decide) ?_
    refine px_iload_n dX2_daysLacked_56 rfl rfl ?_
    refine px_iconst (v := (3 : Int32)) dX2_daysLacked_57 (by decide) ?_
    refine px_callV_I (As := [.int (0 : Int32), .int x1, .int (3 : Int32)]) (st := [.int (r3 + x3)]) dX2_daysLacked_58 lk_X2_49.1 lk_X2_49.2 (b := 2) zl_2 zk_2 (by decide) rfl (by decide) rfl (Nat.le_of_ble_eq_true rfl) rfl rfl (Nat.le_of_ble_eq_true rfl) ⟨Nat.le_refl _, Nat.le_refl _, Nat.le_refl _⟩ ?_
    refine PAt.mono h (fun v κ gi11 gl12 hq => ?_)
    obtain ⟨rfl, r13, rfl, h⟩ := hq
    refine px_isub dX2_daysLacked_61 ?_
    exact PAt.forget h (lsub_at ⟨rfl, ⟨rfl, trivial⟩⟩)
  · rw [if_neg hc] at h ⊢
    refine px_sipush (v := (3599 : Int32)) dX2_daysLacked_41 (by decide) ?_
    refine px_goto (tgt := 62) dX2_daysLacked_44 (by decide) ?_
    exact PAt.forget h (lsub_at ⟨rfl, ⟨rfl, trivial⟩⟩)
set_option maxRecDepth 100000 in
theorem v_X2_daysLacked_62 {x2 : Int32} {x5 : Int32} {s0 : Int32} {gi : Gi} {gl : Gl} {Q : Int32 → Gi → Gl → Prop}  (h : f_X2_daysLacked_62 x2 x5 s0 gi gl Q) : p_X2_daysLacked_62 x2 x5 s0 gi gl Q := by
  unfold f_X2_daysLacked_62 at h
  show PAt mX2_daysLacked NN NN κF 62 [none, none, some (.int x2), none, none, some (.int x5), none] [.int s0] gi gl _
  refine px_istore (ls2 := [none, none, some (.int x2), none, none, some (.int x5), some (.int s0)]) dX2_daysLacked_62 (by decide) rfl ?_
  refine px_ldc (v := (1073741823 : Int32)) dX2_daysLacked_64 w_722 ?_
  refine px_iload dX2_daysLacked_66 rfl ?_
  refine px_iload_n dX2_daysLacked_68 rfl rfl ?_
  refine px_bipush (v := (30 : Int32)) dX2_daysLacked_69 (by decide) ?_
  refine px_imul dX2_daysLacked_71 ?_
  refine px_isub dX2_daysLacked_72 ?_
  refine px_iload dX2_daysLacked_73 rfl ?_
  refine px_iload_n dX2_daysLacked_75 rfl rfl ?_
  refine px_bipush (v := (30 : Int32)) dX2_daysLacked_76 (by decide) ?_
  refine px_imul dX2_daysLacked_78 ?_
  refine px_isub dX2_daysLacked_79 ?_
  refine px_callSN_I (As := [.int (x5 - (x2 * (30 : Int32))), .int (s0 - (x2 * (30 : Int32)))]) (st := [.int (1073741823 : Int32)]) dX2_daysLacked_80 lk_X2_54.1 lk_X2_54.2 (by decide) rfl (Nat.le_of_ble_eq_true rfl) rfl rfl (Nat.le_of_ble_eq_true rfl) ⟨Nat.le_refl _, Nat.le_refl _, Nat.le_refl _⟩ ?_
  refine PAt.mono h (fun v κ gi1 gl2 hq => ?_)
  obtain ⟨rfl, r3, rfl, h⟩ := hq
  refine px_iconst (v := ((-1) : Int32)) dX2_daysLacked_83 (by decide) ?_
  refine px_ixor dX2_daysLacked_84 ?_
  refine px_iand dX2_daysLacked_85 ?_
  exact px_ireturn dX2_daysLacked_86 rfl ⟨.int, rfl, rfl, rfl⟩ ⟨rfl, _, rfl, h⟩
def f_X2_daysInLeaf (x1 : Int32) (x2 : Int32) (gi : Gi) (gl : Gl) (Q : Int32 → Gi → Gl → Prop) : Prop :=
∀ z1 : Int32, z1 = (jr x2 (12 : Int32)) * (30 : Int32) →
p_X10_of 2 (1 : Int32) x1 (0 : Int32) gi gl (fun (r4 : Int32) (gi2 : Gi) (gl3 : Gl) =>
∀ z5 : Int32, z5 = r4 - z1 →
p_X10_of 2 (1 : Int32) x1 (1 : Int32) gi2 gl3 (fun (r8 : Int32) (gi6 : Gi) (gl7 : Gl) =>
∀ z9 : Int32, z9 = r8 - z1 →
if z9 ≤ z5 then
(p_X11_bitsOf z9 (z5 - (1 : Int32)) gi6 gl7 (fun (r12 : Int32) (gi10 : Gi) (gl11 : Gl) =>
Q ((1073741823 : Int32) &&& (r12 ^^^ ((-1) : Int32))) gi10 gl11))
else
(p_X11_bitsOf z5 (z9 - (1 : Int32)) gi6 gl7 (fun (r15 : Int32) (gi13 : Gi) (gl14 : Gl) =>
Q r15 gi13 gl14))))
set_option maxRecDepth 100000 in
theorem v_X2_daysInLeaf {x1 : Int32} {x2 : Int32} {gi : Gi} {gl : Gl} {Q : Int32 → Gi → Gl → Prop}  (h : f_X2_daysInLeaf x1 x2 gi gl Q) : p_X2_daysInLeaf x1 x2 gi gl Q := by
  unfold f_X2_daysInLeaf at h
  show PAt mX2_daysInLeaf NN NN κF 0 [some (.ref 24), some (.int x1), some (.int x2), none, none, none] [] gi gl _
  refine px_iload_n dX2_daysInLeaf_0 rfl rfl ?_
  refine px_bipush (v := (12 : Int32)) dX2_daysInLeaf_1 (by decide) ?_
  refine px_irem dX2_daysInLeaf_3 (by decide) ?_
  refine px_bipush (v := (30 : Int32)) dX2_daysInLeaf_4 (by decide) ?_
  refine px_imul dX2_daysInLeaf_6 ?_
  obtain ⟨z1, hz1⟩ : ∃ y : Int32, y = (jr x2 (12 : Int32)) * (30 : Int32) := ⟨_, rfl⟩
  have h := h z1 hz1
  refine px_namei hz1 ?_
  refine px_istore_n (ls2 := [some (.ref 24), some (.int x1), some (.int x2), some (.int z1), none, none]) (i := 3) rfl dX2_daysInLeaf_7 (by decide) rfl ?_
  refine px_aload_n dX2_daysInLeaf_8 rfl rfl ?_
  refine gf_X2_9 rfl dX2_daysInLeaf_9 zl_24 zk_24 rfl zr_24_0 zl_2 ?_
  refine px_iconst (v := (1 : Int32)) dX2_daysInLeaf_12 (by decide) ?_
  refine px_iload_n dX2_daysInLeaf_13 rfl rfl ?_
  refine px_iconst (v := (0 : Int32)) dX2_daysInLeaf_14 (by decide) ?_
  refine px_callV_I (As := [.int (1 : Int32), .int x1, .int (0 : Int32)]) (st := []) dX2_daysInLeaf_15 lk_X2_49.1 lk_X2_49.2 (b := 2) zl_2 zk_2 (by decide) rfl (by decide) rfl (Nat.le_of_ble_eq_true rfl) rfl rfl (Nat.le_of_ble_eq_true rfl) ⟨Nat.le_refl _, Nat.le_refl _, Nat.le_refl _⟩ ?_
  refine PAt.mono h (fun v κ gi2 gl3 hq => ?_)
  obtain ⟨rfl, r4, rfl, h⟩ := hq
  refine px_iload_n dX2_daysInLeaf_18 rfl rfl ?_
  refine px_isub dX2_daysInLeaf_19 ?_
  obtain ⟨z5, hz5⟩ : ∃ y : Int32, y = r4 - z1 := ⟨_, rfl⟩
  have h := h z5 hz5
  refine px_namei hz5 ?_
  refine px_istore (ls2 := [some (.ref 24), some (.int x1), some (.int x2), some (.int z1), some (.int z5), none]) dX2_daysInLeaf_20 (by decide) rfl ?_
  refine px_aload_n dX2_daysInLeaf_22 rfl rfl ?_
  refine gf_X2_9 rfl dX2_daysInLeaf_23 zl_24 zk_24 rfl zr_24_0 zl_2 ?_
  refine px_iconst (v := (1 : Int32)) dX2_daysInLeaf_26 (by decide) ?_
  refine px_iload_n dX2_daysInLeaf_27 rfl rfl ?_
  refine px_iconst (v := (1 : Int32)) dX2_daysInLeaf_28 (by decide) ?_
  refine px_callV_I (As := [.int (1 : Int32), .int x1, .int (1 : Int32)]) (st := []) dX2_daysInLeaf_29 lk_X2_49.1 lk_X2_49.2 (b := 2) zl_2 zk_2 (by decide) rfl (by decide) rfl (Nat.le_of_ble_eq_true rfl) rfl rfl (Nat.le_of_ble_eq_true rfl) ⟨Nat.le_refl _, Nat.le_refl _, Nat.le_refl _⟩ ?_
  refine PAt.mono h (fun v κ gi6 gl7 hq => ?_)
  obtain ⟨rfl, r8, rfl, h⟩ := hq
  refine px_iload_n dX2_daysInLeaf_32 rfl rfl ?_
  refine px_isub dX2_daysInLeaf_33 ?_
  obtain ⟨z9, hz9⟩ : ∃ y : Int32, y = r8 - z1 := ⟨_, rfl⟩
  have h := h z9 hz9
  refine px_namei hz9 ?_
  refine px_istore (ls2 := [some (.ref 24), some (.int x1), some (.int x2), some (.int z1), some (.int z5), some (.int z9)]) dX2_daysInLeaf_34 (by decide) rfl ?_
  refine px_iload dX2_daysInLeaf_36 rfl ?_
  refine px_iload dX2_daysInLeaf_38 rfl ?_
  refine px_icmp_ge (tgt := 55) dX2_daysInLeaf_40 (by decide) ?_
  by_cases hc : z9 ≤ z5
  · rw [if_pos hc] at h ⊢
    refine px_ldc (v := (1073741823 : Int32)) dX2_daysInLeaf_55 w_722 ?_
    refine px_iload dX2_daysInLeaf_57 rfl ?_
    refine px_iload dX2_daysInLeaf_59 rfl ?_
    refine px_iconst (v := (1 : Int32)) dX2_daysInLeaf_61 (by decide) ?_
    refine px_isub dX2_daysInLeaf_62 ?_
    refine px_callSN_I (As := [.int z9, .int (z5 - (1 : Int32))]) (st := [.int (1073741823 : Int32)]) dX2_daysInLeaf_63 lk_X2_54.1 lk_X2_54.2 (by decide) rfl (Nat.le_of_ble_eq_true rfl) rfl rfl (Nat.le_of_ble_eq_true rfl) ⟨Nat.le_refl _, Nat.le_refl _, Nat.le_refl _⟩ ?_
    refine PAt.mono h (fun v κ gi10 gl11 hq => ?_)
    obtain ⟨rfl, r12, rfl, h⟩ := hq
    refine px_iconst (v := ((-1) : Int32)) dX2_daysInLeaf_66 (by decide) ?_
    refine px_ixor dX2_daysInLeaf_67 ?_
    refine px_iand dX2_daysInLeaf_68 ?_
    exact px_ireturn dX2_daysInLeaf_69 rfl ⟨.int, rfl, rfl, rfl⟩ ⟨rfl, _, rfl, h⟩
  · rw [if_neg hc] at h ⊢
    refine px_iload dX2_daysInLeaf_43 rfl ?_
    refine px_iload dX2_daysInLeaf_45 rfl ?_
    refine px_iconst (v := (1 : Int32)) dX2_daysInLeaf_47 (by decide) ?_
    refine px_isub dX2_daysInLeaf_48 ?_
    refine px_callSN_I (As := [.int z5, .int (z9 - (1 : Int32))]) (st := []) dX2_daysInLeaf_49 lk_X2_54.1 lk_X2_54.2 (by decide) rfl (Nat.le_of_ble_eq_true rfl) rfl rfl (Nat.le_of_ble_eq_true rfl) ⟨Nat.le_refl _, Nat.le_refl _, Nat.le_refl _⟩ ?_
    refine PAt.mono h (fun v κ gi13 gl14 hq => ?_)
    obtain ⟨rfl, r15, rfl, h⟩ := hq
    refine px_goto (tgt := 69) dX2_daysInLeaf_52 (by decide) ?_
    exact px_ireturn dX2_daysInLeaf_69 rfl ⟨.int, rfl, rfl, rfl⟩ ⟨rfl, _, rfl, h⟩
abbrev p_X2_daysOfWeek_4 (x0 : Int32) (x1 : Int32) (x2 : Int32) (x3 : Int32) (gi : Gi) (gl : Gl) (Q : Int32 → Gi → Gl → Prop) : Prop := PAt mX2_daysOfWeek NN NN κF 4 [some (.int x0), some (.int x1), some (.int x2), some (.int x3)] [] gi gl (RiQ Q)
def f_X2_daysOfWeek (x0 : Int32) (x1 : Int32) (gi : Gi) (gl : Gl) (Q : Int32 → Gi → Gl → Prop) : Prop :=
p_X2_daysOfWeek_4 x0 x1 (0 : Int32) (0 : Int32) gi gl Q
def f_X2_daysOfWeek_4 (x0 : Int32) (x1 : Int32) (x2 : Int32) (x3 : Int32) (gi : Gi) (gl : Gl) (Q : Int32 → Gi → Gl → Prop) : Prop :=
if (30 : Int32) ≤ x3 then
(Q x2 gi gl)
else
(if ¬ (jr ((x1 * (30 : Int32)) + x3) (7 : Int32)) = x0 then
(p_X2_daysOfWeek_4 x0 x1 x2 (x3 + (1 : Int32)) gi gl Q)
else
(∀ z1 : Int32, z1 = x2 ||| (jl (1 : Int32) x3) →
p_X2_daysOfWeek_4 x0 x1 z1 (x3 + (1 : Int32)) gi gl Q))
set_option maxRecDepth 100000 in
theorem v_X2_daysOfWeek {x0 : Int32} {x1 : Int32} {gi : Gi} {gl : Gl} {Q : Int32 → Gi → Gl → Prop}  (h : f_X2_daysOfWeek x0 x1 gi gl Q) : p_X2_daysOfWeek x0 x1 gi gl Q := by
  unfold f_X2_daysOfWeek at h
  show PAt mX2_daysOfWeek NN NN κF 0 [some (.int x0), some (.int x1), none, none] [] gi gl _
  refine px_iconst (v := (0 : Int32)) dX2_daysOfWeek_0 (by decide) ?_
  refine px_istore_n (ls2 := [some (.int x0), some (.int x1), some (.int (0 : Int32)), none]) (i := 2) rfl dX2_daysOfWeek_1 (by decide) rfl ?_
  refine px_iconst (v := (0 : Int32)) dX2_daysOfWeek_2 (by decide) ?_
  refine px_istore_n (ls2 := [some (.int x0), some (.int x1), some (.int (0 : Int32)), some (.int (0 : Int32))]) (i := 3) rfl dX2_daysOfWeek_3 (by decide) rfl ?_
  exact PAt.forget h (lsub_at ⟨rfl, ⟨rfl, ⟨rfl, ⟨rfl, trivial⟩⟩⟩⟩)
set_option maxRecDepth 100000 in
theorem v_X2_daysOfWeek_4 {x0 : Int32} {x1 : Int32} {x2 : Int32} {x3 : Int32} {gi : Gi} {gl : Gl} {Q : Int32 → Gi → Gl → Prop}  (h : f_X2_daysOfWeek_4 x0 x1 x2 x3 gi gl Q) : p_X2_daysOfWeek_4 x0 x1 x2 x3 gi gl Q := by
  unfold f_X2_daysOfWeek_4 at h
  show PAt mX2_daysOfWeek NN NN κF 4 [some (.int x0), some (.int x1), some (.int x2), some (.int x3)] [] gi gl _
  refine px_iload_n dX2_daysOfWeek_4 rfl rfl ?_
  refine px_bipush (v := (30 : Int32)) dX2_daysOfWeek_5 (by decide) ?_
  refine px_icmp_ge (tgt := 35) dX2_daysOfWeek_7 (by decide) ?_
  by_cases hc : (30 : Int32) ≤ x3
  · rw [if_pos hc] at h ⊢
    refine px_iload_n dX2_daysOfWeek_35 rfl rfl ?_
    exact px_ireturn dX2_daysOfWeek_36 rfl ⟨.int, rfl, rfl, rfl⟩ ⟨rfl, _, rfl, h⟩
  · rw [if_neg hc] at h ⊢
    refine px_iload_n dX2_daysOfWeek_10 rfl rfl ?_
    refine px_bipush (v := (30 : Int32)) dX2_daysOfWeek_11 (by decide) ?_
    refine px_imul dX2_daysOfWeek_13 ?_
    refine px_iload_n dX2_daysOfWeek_14 rfl rfl ?_
    refine px_iadd dX2_daysOfWeek_15 ?_
    refine px_bipush (v := (7 : Int32)) dX2_daysOfWeek_16 (by decide) ?_
    refine px_irem dX2_daysOfWeek_18 (by decide) ?_
    refine px_iload_n dX2_daysOfWeek_19 rfl rfl ?_
    refine px_icmp_ne (tgt := 29) dX2_daysOfWeek_20 (by decide) ?_
    by_cases hc : ¬ (jr ((x1 * (30 : Int32)) + x3) (7 : Int32)) = x0
    · rw [if_pos hc] at h ⊢
      refine px_iinc (v := x3 + (1 : Int32)) (ls2 := [some (.int x0), some (.int x1), some (.int x2), some (.int (x3 + (1 : Int32)))]) dX2_daysOfWeek_29 rfl rfl (by decide) rfl ?_
      refine px_goto (tgt := 4) dX2_daysOfWeek_32 (by decide) ?_
      exact PAt.forget h (lsub_at ⟨rfl, ⟨rfl, ⟨rfl, ⟨rfl, trivial⟩⟩⟩⟩)
    · rw [if_neg hc] at h ⊢
      refine px_iload_n dX2_daysOfWeek_23 rfl rfl ?_
      refine px_iconst (v := (1 : Int32)) dX2_daysOfWeek_24 (by decide) ?_
      refine px_iload_n dX2_daysOfWeek_25 rfl rfl ?_
      refine px_ishl dX2_daysOfWeek_26 ?_
      refine px_ior dX2_daysOfWeek_27 ?_
      obtain ⟨z1, hz1⟩ : ∃ y : Int32, y = x2 ||| (jl (1 : Int32) x3) := ⟨_, rfl⟩
      have h := h z1 hz1
      refine px_namei hz1 ?_
      refine px_istore_n (ls2 := [some (.int x0), some (.int x1), some (.int z1), some (.int x3)]) (i := 2) rfl dX2_daysOfWeek_28 (by decide) rfl ?_
      refine px_iinc (v := x3 + (1 : Int32)) (ls2 := [some (.int x0), some (.int x1), some (.int z1), some (.int (x3 + (1 : Int32)))]) dX2_daysOfWeek_29 rfl rfl (by decide) rfl ?_
      refine px_goto (tgt := 4) dX2_daysOfWeek_32 (by decide) ?_
      exact PAt.forget h (lsub_at ⟨rfl, ⟨rfl, ⟨rfl, ⟨rfl, trivial⟩⟩⟩⟩)
