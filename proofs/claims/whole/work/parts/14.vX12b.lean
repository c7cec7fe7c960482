/-! laid by program: X12 -/
abbrev p_X12_readStatement_71 (s0 : Int32) (gi : Gi) (gl : Gl) (Q : Gi → Gl → Prop) : Prop := PAt mX12_readStatement NN NN κF 71 [some (.ref 329), none] [.int s0] gi gl (RvQ Q)
def f_X12_readStatement  (gi : Gi) (gl : Gl) (Q : Gi → Gl → Prop) : Prop :=
p_X12_is (10793230 : Int64) gi gl (fun (r3 : Int32) (gi1 : Gi) (gl2 : Gl) =>
if r3 = 0 then
(p_X12_is (406922 : Int64) gi1 gl2 (fun (r6 : Int32) (gi4 : Gi) (gl5 : Gl) =>
if r6 = 0 then
(p_X12_is (326396 : Int64) gi4 gl5 (fun (r9 : Int32) (gi7 : Gi) (gl8 : Gl) =>
if r9 = 0 then
(p_X12_is (1841546 : Int64) gi7 gl8 (fun (r12 : Int32) (gi10 : Gi) (gl11 : Gl) =>
if r12 = 0 then
(p_X12_is (14432 : Int64) gi10 gl11 (fun (r15 : Int32) (gi13 : Gi) (gl14 : Gl) =>
if r15 = 0 then
(p_X12_readStatement_71 (0 : Int32) gi13 gl14 Q)
else
(p_X12_readStatement_71 (5 : Int32) gi13 gl14 Q)))
else
(p_X12_readStatement_71 (4 : Int32) gi10 gl11 Q)))
else
(p_X12_readStatement_71 (3 : Int32) gi7 gl8 Q)))
else
(p_X12_readStatement_71 (2 : Int32) gi4 gl5 Q)))
else
(p_X12_readStatement_71 (1 : Int32) gi1 gl2 Q))
def f_X12_readStatement_71 (s0 : Int32) (gi : Gi) (gl : Gl) (Q : Gi → Gl → Prop) : Prop :=
if ¬ s0 = 0 then
(p_X12_next  gi gl (fun (gi1 : Gi) (gl2 : Gl) =>
if ¬ s0 = (1 : Int32) then
(if ¬ s0 = (2 : Int32) then
(if ¬ s0 = (3 : Int32) then
(if ¬ s0 = (4 : Int32) then
(p_X12_readSun  gi1 gl2 (fun (gi3 : Gi) (gl4 : Gl) =>
p_X12_semicolon  gi3 gl4 (fun (gi5 : Gi) (gl6 : Gl) =>
Q gi5 gl6)))
else
(p_X12_readClock  gi1 gl2 (fun (gi7 : Gi) (gl8 : Gl) =>
p_X12_semicolon  gi7 gl8 (fun (gi9 : Gi) (gl10 : Gl) =>
Q gi9 gl10))))
else
(p_X12_readPost  gi1 gl2 (fun (gi11 : Gi) (gl12 : Gl) =>
p_X12_semicolon  gi11 gl12 (fun (gi13 : Gi) (gl14 : Gl) =>
Q gi13 gl14))))
else
(p_X12_readTree  gi1 gl2 (fun (gi15 : Gi) (gl16 : Gl) =>
p_X12_semicolon  gi15 gl16 (fun (gi17 : Gi) (gl18 : Gl) =>
Q gi17 gl18))))
else
(p_X12_readThing  gi1 gl2 (fun (gi19 : Gi) (gl20 : Gl) =>
p_X12_semicolon  gi19 gl20 (fun (gi21 : Gi) (gl22 : Gl) =>
Q gi21 gl22)))))
else
(p_X12_errs  gi gl (fun (gi23 : Gi) (gl24 : Gl) =>
Q gi23 gl24))
set_option maxRecDepth 100000 in
theorem v_X12_readStatement  {gi : Gi} {gl : Gl} {Q : Gi → Gl → Prop}  (h : f_X12_readStatement  gi gl Q) : p_X12_readStatement  gi gl Q := by
  unfold f_X12_readStatement at h
  show PAt mX12_readStatement NN NN κF 0 [some (.ref 329), none] [] gi gl _
  refine px_aload_n dX12_readStatement_0 rfl rfl ?_
  refine px_ldc2 (v := (10793230 : Int64)) dX12_readStatement_1 w_1422 ?_
  refine px_callV_I (As := [.long (10793230 : Int64)]) (st := []) dX12_readStatement_4 lk_X12_200.1 lk_X12_200.2 (b := 329) zl_329 zk_329 (by decide) rfl (by decide) rfl (Nat.le_of_ble_eq_true rfl) rfl rfl (Nat.le_of_ble_eq_true rfl) ⟨Nat.le_refl _, Nat.le_refl _, Nat.le_refl _⟩ ?_
  refine PAt.mono h (fun v κ gi1 gl2 hq => ?_)
  obtain ⟨rfl, r3, rfl, h⟩ := hq
  refine px_if_eq (tgt := 14) dX12_readStatement_7 (by decide) ?_
  by_cases hc : r3 = 0
  · rw [if_pos hc] at h ⊢
    refine px_aload_n dX12_readStatement_14 rfl rfl ?_
    refine px_ldc2 (v := (406922 : Int64)) dX12_readStatement_15 w_1427 ?_
    refine px_callV_I (As := [.long (406922 : Int64)]) (st := []) dX12_readStatement_18 lk_X12_200.1 lk_X12_200.2 (b := 329) zl_329 zk_329 (by decide) rfl (by decide) rfl (Nat.le_of_ble_eq_true rfl) rfl rfl (Nat.le_of_ble_eq_true rfl) ⟨Nat.le_refl _, Nat.le_refl _, Nat.le_refl _⟩ ?_
    refine PAt.mono h (fun v κ gi4 gl5 hq => ?_)
    obtain ⟨rfl, r6, rfl, h⟩ := hq
    refine px_if_eq (tgt := 28) dX12_readStatement_21 (by decide) ?_
    by_cases hc : r6 = 0
    · rw [if_pos hc] at h ⊢
      refine px_aload_n dX12_readStatement_28 rfl rfl ?_
      refine px_ldc2 (v := (326396 : Int64)) dX12_readStatement_29 w_1428 ?_
      refine px_callV_I (As := [.long (326396 : Int64)]) (st := []) dX12_readStatement_32 lk_X12_200.1 lk_X12_200.2 (b := 329) zl_329 zk_329 (by decide) rfl (by decide) rfl (Nat.le_of_ble_eq_true rfl) rfl rfl (Nat.le_of_ble_eq_true rfl) ⟨Nat.le_refl _, Nat.le_refl _, Nat.le_refl _⟩ ?_
      refine PAt.mono h (fun v κ gi7 gl8 hq => ?_)
      obtain ⟨rfl, r9, rfl, h⟩ := hq
      refine px_if_eq (tgt := 42) dX12_readStatement_35 (by decide) ?_
      by_cases hc : r9 = 0
      · rw [if_pos hc] at h ⊢
        refine px_aload_n dX12_readStatement_42 rfl rfl ?_
        refine px_ldc2 (v := (1841546 : Int64)) dX12_readStatement_43 w_1429 ?_
        refine px_callV_I (As := [.long (1841546 : Int64)]) (st := []) dX12_readStatement_46 lk_X12_200.1 lk_X12_200.2 (b := 329) zl_329 zk_329 (by decide) rfl (by decide) rfl (Nat.le_of_ble_eq_true rfl) rfl rfl (Nat.le_of_ble_eq_true rfl) ⟨Nat.le_refl _, Nat.le_refl _, Nat.le_refl _⟩ ?_
        refine PAt.mono h (fun v κ gi10 gl11 hq => ?_)
        obtain ⟨rfl, r12, rfl, h⟩ := hq
        refine px_if_eq (tgt := 56) dX12_readStatement_49 (by decide) ?_
        by_cases hc : r12 = 0
        · rw [if_pos hc] at h ⊢
          refine px_aload_n dX12_readStatement_56 rfl rfl ?_
          refine px_ldc2 (v := (14432 : Int64)) dX12_readStatement_57 w_1430 ?_
          refine px_callV_I (As := [.long (14432 : Int64)]) (st := []) dX12_readStatement_60 lk_X12_200.1 lk_X12_200.2 (b := 329) zl_329 zk_329 (by decide) rfl (by decide) rfl (Nat.le_of_ble_eq_true rfl) rfl rfl (Nat.le_of_ble_eq_true rfl) ⟨Nat.le_refl _, Nat.le_refl _, Nat.le_refl _⟩ ?_
          refine PAt.mono h (fun v κ gi13 gl14 hq => ?_)
          obtain ⟨rfl, r15, rfl, h⟩ := hq
          refine px_if_eq (tgt := 70) dX12_readStatement_63 (by decide) ?_
          by_cases hc : r15 = 0
          · rw [if_pos hc] at h ⊢
            refine px_iconst (v := (0 : Int32)) dX12_readStatement_70 (by decide) ?_
            exact PAt.forget h (lsub_at ⟨rfl, trivial⟩)
          · rw [if_neg hc] at h ⊢
            refine px_iconst (v := (5 : Int32)) dX12_readStatement_66 (by decide) ?_
            refine px_goto (tgt := 71) dX12_readStatement_67 (by decide) ?_
            exact PAt.forget h (lsub_at ⟨rfl, trivial⟩)
        · rw [if_neg hc] at h ⊢
          refine px_iconst (v := (4 : Int32)) dX12_readStatement_52 (by decide) ?_
          refine px_goto (tgt := 71) dX12_readStatement_53 (by decide) ?_
          exact PAt.forget h (lsub_at ⟨rfl, trivial⟩)
      · rw [if_neg hc] at h ⊢
        refine px_iconst (v := (3 : Int32)) dX12_readStatement_38 (by decide) ?_
        refine px_goto (tgt := 71) dX12_readStatement_39 (by decide) ?_
        exact PAt.forget h (lsub_at ⟨rfl, trivial⟩)
    · rw [if_neg hc] at h ⊢
      refine px_iconst (v := (2 : Int32)) dX12_readStatement_24 (by decide) ?_
      refine px_goto (tgt := 71) dX12_readStatement_25 (by decide) ?_
      exact PAt.forget h (lsub_at ⟨rfl, trivial⟩)
  · rw [if_neg hc] at h ⊢
    refine px_iconst (v := (1 : Int32)) dX12_readStatement_10 (by decide) ?_
    refine px_goto (tgt := 71) dX12_readStatement_11 (by decide) ?_
    exact PAt.forget h (lsub_at ⟨rfl, trivial⟩)
set_option maxRecDepth 100000 in
theorem v_X12_readStatement_71 {s0 : Int32} {gi : Gi} {gl : Gl} {Q : Gi → Gl → Prop}  (h : f_X12_readStatement_71 s0 gi gl Q) : p_X12_readStatement_71 s0 gi gl Q := by
  unfold f_X12_readStatement_71 at h
  show PAt mX12_readStatement NN NN κF 71 [some (.ref 329), none] [.int s0] gi gl _
  refine px_istore_n (ls2 := [some (.ref 329), some (.int s0)]) (i := 1) rfl dX12_readStatement_71 (by decide) rfl ?_
  refine px_iload_n dX12_readStatement_72 rfl rfl ?_
  refine px_if_ne (tgt := 81) dX12_readStatement_73 (by decide) ?_
  by_cases hc : ¬ s0 = 0
  · rw [if_pos hc] at h ⊢
    refine px_aload_n dX12_readStatement_81 rfl rfl ?_
    refine px_callV_V (As := []) (st := []) dX12_readStatement_82 lk_X12_204.1 lk_X12_204.2 (b := 329) zl_329 zk_329 (by decide) rfl (by decide) rfl (Nat.le_of_ble_eq_true rfl) rfl rfl (Nat.le_of_ble_eq_true rfl) ⟨Nat.le_refl _, Nat.le_refl _, Nat.le_refl _⟩ ?_
    refine PAt.mono h (fun v κ gi1 gl2 hq => ?_)
    obtain ⟨rfl, -, h⟩ := hq
    refine px_iload_n dX12_readStatement_85 rfl rfl ?_
    refine px_iconst (v := (1 : Int32)) dX12_readStatement_86 (by decide) ?_
    refine px_icmp_ne (tgt := 97) dX12_readStatement_87 (by decide) ?_
    by_cases hc : ¬ s0 = (1 : Int32)
    · rw [if_pos hc] at h ⊢
      refine px_iload_n dX12_readStatement_97 rfl rfl ?_
      refine px_iconst (v := (2 : Int32)) dX12_readStatement_98 (by decide) ?_
      refine px_icmp_ne (tgt := 109) dX12_readStatement_99 (by decide) ?_
      by_cases hc : ¬ s0 = (2 : Int32)
      · rw [if_pos hc] at h ⊢
        refine px_iload_n dX12_readStatement_109 rfl rfl ?_
        refine px_iconst (v := (3 : Int32)) dX12_readStatement_110 (by decide) ?_
        refine px_icmp_ne (tgt := 121) dX12_readStatement_111 (by decide) ?_
        by_cases hc : ¬ s0 = (3 : Int32)
        · rw [if_pos hc] at h ⊢
          refine px_iload_n dX12_readStatement_121 rfl rfl ?_
          refine px_iconst (v := (4 : Int32)) dX12_readStatement_122 (by decide) ?_
          refine px_icmp_ne (tgt := 133) dX12_readStatement_123 (by decide) ?_
          by_cases hc : ¬ s0 = (4 : Int32)
          · rw [if_pos hc] at h ⊢
            refine px_aload_n dX12_readStatement_133 rfl rfl ?_
            refine px_callV_V (As := []) (st := []) dX12_readStatement_134 lk_X12_302.1 lk_X12_302.2 (b := 329) zl_329 zk_329 (by decide) rfl (by decide) rfl (Nat.le_of_ble_eq_true rfl) rfl rfl (Nat.le_of_ble_eq_true rfl) ⟨Nat.le_refl _, Nat.le_refl _, Nat.le_refl _⟩ ?_
            refine PAt.mono h (fun v κ gi3 gl4 hq => ?_)
            obtain ⟨rfl, -, h⟩ := hq
            refine px_aload_n dX12_readStatement_137 rfl rfl ?_
            refine px_callV_V (As := []) (st := []) dX12_readStatement_138 lk_X12_305.1 lk_X12_305.2 (b := 329) zl_329 zk_329 (by decide) rfl (by decide) rfl (Nat.le_of_ble_eq_true rfl) rfl rfl (Nat.le_of_ble_eq_true rfl) ⟨Nat.le_refl _, Nat.le_refl _, Nat.le_refl _⟩ ?_
            refine PAt.mono h (fun v κ gi5 gl6 hq => ?_)
            obtain ⟨rfl, -, h⟩ := hq
            exact px_return dX12_readStatement_141 rfl rfl ⟨rfl, rfl, h⟩
          · rw [if_neg hc] at h ⊢
            refine px_aload_n dX12_readStatement_126 rfl rfl ?_
            refine px_callV_V (As := []) (st := []) dX12_readStatement_127 lk_X12_299.1 lk_X12_299.2 (b := 329) zl_329 zk_329 (by decide) rfl (by decide) rfl (Nat.le_of_ble_eq_true rfl) rfl rfl (Nat.le_of_ble_eq_true rfl) ⟨Nat.le_refl _, Nat.le_refl _, Nat.le_refl _⟩ ?_
            refine PAt.mono h (fun v κ gi7 gl8 hq => ?_)
            obtain ⟨rfl, -, h⟩ := hq
            refine px_goto (tgt := 137) dX12_readStatement_130 (by decide) ?_
            refine px_aload_n dX12_readStatement_137 rfl rfl ?_
            refine px_callV_V (As := []) (st := []) dX12_readStatement_138 lk_X12_305.1 lk_X12_305.2 (b := 329) zl_329 zk_329 (by decide) rfl (by decide) rfl (Nat.le_of_ble_eq_true rfl) rfl rfl (Nat.le_of_ble_eq_true rfl) ⟨Nat.le_refl _, Nat.le_refl _, Nat.le_refl _⟩ ?_
            refine PAt.mono h (fun v κ gi9 gl10 hq => ?_)
            obtain ⟨rfl, -, h⟩ := hq
            exact px_return dX12_readStatement_141 rfl rfl ⟨rfl, rfl, h⟩
        · rw [if_neg hc] at h ⊢
          refine px_aload_n dX12_readStatement_114 rfl rfl ?_
          refine px_callV_V (As := []) (st := []) dX12_readStatement_115 lk_X12_296.1 lk_X12_296.2 (b := 329) zl_329 zk_329 (by decide) rfl (by decide) rfl (Nat.le_of_ble_eq_true rfl) rfl rfl (Nat.le_of_ble_eq_true rfl) ⟨Nat.le_refl _, Nat.le_refl _, Nat.le_refl _⟩ ?_
          refine PAt.mono h (fun v κ gi11 gl12 hq => ?_)
          obtain ⟨rfl, -, h⟩ := hq
          refine px_goto (tgt := 137) dX12_readStatement_118 (by decide) ?_
          refine px_aload_n dX12_readStatement_137 rfl rfl ?_
          refine px_callV_V (As := []) (st := []) dX12_readStatement_138 lk_X12_305.1 lk_X12_305.2 (b := 329) zl_329 zk_329 (by decide) rfl (by decide) rfl (Nat.le_of_ble_eq_true rfl) rfl rfl (Nat.le_of_ble_eq_true rfl) ⟨Nat.le_refl _, Nat.le_refl _, Nat.le_refl _⟩ ?_
          refine PAt.mono h (fun v κ gi13 gl14 hq => ?_)
          obtain ⟨rfl, -, h⟩ := hq
          exact px_return dX12_readStatement_141 rfl rfl ⟨rfl, rfl, h⟩
      · rw [if_neg hc] at h ⊢
        refine px_aload_n dX12_readStatement_102 rfl rfl ?_
        refine px_callV_V (As := []) (st := []) dX12_readStatement_103 lk_X12_293.1 lk_X12_293.2 (b := 329) zl_329 zk_329 (by decide) rfl (by decide) rfl (Nat.le_of_ble_eq_true rfl) rfl rfl (Nat.le_of_ble_eq_true rfl) ⟨Nat.le_refl _, Nat.le_refl _, Nat.le_refl _⟩ ?_
        refine PAt.mono h (fun v κ gi15 gl16 hq => ?_)
        obtain ⟨rfl, -, h⟩ := hq
        refine px_goto (tgt := 137) dX12_readStatement_106 (by decide) ?_
        refine px_aload_n dX12_readStatement_137 rfl rfl ?_
        refine px_callV_V (As := []) (st := []) dX12_readStatement_138 lk_X12_305.1 lk_X12_305.2 (b := 329) zl_329 zk_329 (by decide) rfl (by decide) rfl (Nat.le_of_ble_eq_true rfl) rfl rfl (Nat.le_of_ble_eq_true rfl) ⟨Nat.le_refl _, Nat.le_refl _, Nat.le_refl _⟩ ?_
        refine PAt.mono h (fun v κ gi17 gl18 hq => ?_)
        obtain ⟨rfl, -, h⟩ := hq
        exact px_return dX12_readStatement_141 rfl rfl ⟨rfl, rfl, h⟩
    · rw [if_neg hc] at h ⊢
      refine px_aload_n dX12_readStatement_90 rfl rfl ?_
      refine px_callV_V (As := []) (st := []) dX12_readStatement_91 lk_X12_290.1 lk_X12_290.2 (b := 329) zl_329 zk_329 (by decide) rfl (by decide) rfl (Nat.le_of_ble_eq_true rfl) rfl rfl (Nat.le_of_ble_eq_true rfl) ⟨Nat.le_refl _, Nat.le_refl _, Nat.le_refl _⟩ ?_
      refine PAt.mono h (fun v κ gi19 gl20 hq => ?_)
      obtain ⟨rfl, -, h⟩ := hq
      refine px_goto (tgt := 137) dX12_readStatement_94 (by decide) ?_
      refine px_aload_n dX12_readStatement_137 rfl rfl ?_
      refine px_callV_V (As := []) (st := []) dX12_readStatement_138 lk_X12_305.1 lk_X12_305.2 (b := 329) zl_329 zk_329 (by decide) rfl (by decide) rfl (Nat.le_of_ble_eq_true rfl) rfl rfl (Nat.le_of_ble_eq_true rfl) ⟨Nat.le_refl _, Nat.le_refl _, Nat.le_refl _⟩ ?_
      refine PAt.mono h (fun v κ gi21 gl22 hq => ?_)
      obtain ⟨rfl, -, h⟩ := hq
      exact px_return dX12_readStatement_141 rfl rfl ⟨rfl, rfl, h⟩
  · rw [if_neg hc] at h ⊢
    refine px_aload_n dX12_readStatement_76 rfl rfl ?_
    refine px_callV_V (As := []) (st := []) dX12_readStatement_77 lk_X12_207.1 lk_X12_207.2 (b := 329) zl_329 zk_329 (by decide) rfl (by decide) rfl (Nat.le_of_ble_eq_true rfl) rfl rfl (Nat.le_of_ble_eq_true rfl) ⟨Nat.le_refl _, Nat.le_refl _, Nat.le_refl _⟩ ?_
    refine PAt.mono h (fun v κ gi23 gl24 hq => ?_)
    obtain ⟨rfl, -, h⟩ := hq
    exact px_return dX12_readStatement_80 rfl rfl ⟨rfl, rfl, h⟩
def f_X12_beginsText (x1 : Int32) (gi : Gi) (gl : Gl) (Q : Gi → Gl → Prop) : Prop :=
∀ gi1 : Gi, gi1 = uI gi 329 (upd (gi 329) 38 x1) →
∀ gi2 : Gi, gi2 = uI gi1 329 (upd (gi1 329) 36 (0 : Int32)) →
∀ gi3 : Gi, gi3 = uI gi2 329 (upd (gi2 329) 39 (0 : Int32)) →
∀ gi4 : Gi, gi4 = uI gi3 329 (upd (gi3 329) 37 ((-1) : Int32)) →
∀ gi5 : Gi, gi5 = uI gi4 329 (upd (gi4 329) 44 (0 : Int32)) →
p_X12_next  gi5 gl (fun (gi6 : Gi) (gl7 : Gl) =>
Q gi6 gl7)
set_option maxRecDepth 100000 in
theorem v_X12_beginsText {x1 : Int32} {gi : Gi} {gl : Gl} {Q : Gi → Gl → Prop}  (h : f_X12_beginsText x1 gi gl Q) : p_X12_beginsText x1 gi gl Q := by
  unfold f_X12_beginsText at h
  show PAt mX12_beginsText NN NN κF 0 [some (.ref 329), some (.int x1)] [] gi gl _
  refine px_aload_n dX12_beginsText_0 rfl rfl ?_
  refine px_iload_n dX12_beginsText_1 rfl rfl ?_
  refine pf_X12_167 rfl dX12_beginsText_2 zl_329 zk_329 ?_
  obtain ⟨gi1, hgi1⟩ : ∃ y : Gi, y = uI gi 329 (upd (gi 329) 38 x1) := ⟨_, rfl⟩
  have h := h gi1 hgi1
  refine px_namegi hgi1 ?_
  refine px_aload_n dX12_beginsText_5 rfl rfl ?_
  refine px_iconst (v := (0 : Int32)) dX12_beginsText_6 (by decide) ?_
  refine pf_X12_161 rfl dX12_beginsText_7 zl_329 zk_329 ?_
  obtain ⟨gi2, hgi2⟩ : ∃ y : Gi, y = uI gi1 329 (upd (gi1 329) 36 (0 : Int32)) := ⟨_, rfl⟩
  have h := h gi2 hgi2
  refine px_namegi hgi2 ?_
  refine px_aload_n dX12_beginsText_10 rfl rfl ?_
  refine px_iconst (v := (0 : Int32)) dX12_beginsText_11 (by decide) ?_
  refine pf_X12_164 rfl dX12_beginsText_12 zl_329 zk_329 ?_
  obtain ⟨gi3, hgi3⟩ : ∃ y : Gi, y = uI gi2 329 (upd (gi2 329) 39 (0 : Int32)) := ⟨_, rfl⟩
  have h := h gi3 hgi3
  refine px_namegi hgi3 ?_
  refine px_aload_n dX12_beginsText_15 rfl rfl ?_
  refine px_iconst (v := ((-1) : Int32)) dX12_beginsText_16 (by decide) ?_
  refine pf_X12_114 rfl dX12_beginsText_17 zl_329 zk_329 ?_
  obtain ⟨gi4, hgi4⟩ : ∃ y : Gi, y = uI gi3 329 (upd (gi3 329) 37 ((-1) : Int32)) := ⟨_, rfl⟩
  have h := h gi4 hgi4
  refine px_namegi hgi4 ?_
  refine px_aload_n dX12_beginsText_20 rfl rfl ?_
  refine px_iconst (v := (0 : Int32)) dX12_beginsText_21 (by decide) ?_
  refine pf_X12_196 rfl dX12_beginsText_22 zl_329 zk_329 (by decide) ?_
  obtain ⟨gi5, hgi5⟩ : ∃ y : Gi, y = uI gi4 329 (upd (gi4 329) 44 (0 : Int32)) := ⟨_, rfl⟩
  have h := h gi5 hgi5
  refine px_namegi hgi5 ?_
  refine px_aload_n dX12_beginsText_25 rfl rfl ?_
  refine px_callV_V (As := []) (st := []) dX12_beginsText_26 lk_X12_204.1 lk_X12_204.2 (b := 329) zl_329 zk_329 (by decide) rfl (by decide) rfl (Nat.le_of_ble_eq_true rfl) rfl rfl (Nat.le_of_ble_eq_true rfl) ⟨Nat.le_refl _, Nat.le_refl _, Nat.le_refl _⟩ ?_
  refine PAt.mono h (fun v κ gi6 gl7 hq => ?_)
  obtain ⟨rfl, -, h⟩ := hq
  exact px_return dX12_beginsText_29 rfl rfl ⟨rfl, rfl, h⟩
abbrev p_X12_town_82 (x2 : Int32) (gi : Gi) (gl : Gl) (Q : Int32 → Gi → Gl → Prop) : Prop := PAt mX12_town NN NN κF 82 [some (.ref 329), none, some (.int x2), none] [] gi gl (RiQ Q)
abbrev p_X12_town_119 (x2 : Int32) (gi : Gi) (gl : Gl) (Q : Int32 → Gi → Gl → Prop) : Prop := PAt mX12_town NN NN κF 119 [some (.ref 329), none, some (.int x2), none] [] gi gl (RiQ Q)
abbrev p_X12_town_170 (x2 : Int32) (x3 : Int32) (gi : Gi) (gl : Gl) (Q : Int32 → Gi → Gl → Prop) : Prop := PAt mX12_town NN NN κF 170 [some (.ref 329), none, some (.int x2), some (.int x3)] [] gi gl (RiQ Q)
def f_X12_town (x1 : Int32) (gi : Gi) (gl : Gl) (Q : Int32 → Gi → Gl → Prop) : Prop :=
if x1 < 0 then
(Q ((-2) : Int32) gi gl)
else
(if x1 ≤ (gi 329 36) then
(p_X12_beginsText x1 gi gl (fun (gi1 : Gi) (gl2 : Gl) =>
∀ gi3 : Gi, gi3 = uI gi1 329 (upd (gi1 329) 45 ((1 : Int32) - (gi1 329 0))) →
vp_in (gi3 329 45) 2 ∧
∀ gi4 : Gi, gi4 = uI gi3 330 (upd (gi3 330) (gi3 329 45).toNatClampNeg (0 : Int32)) →
vp_in (gi4 329 45) 2 ∧
∀ gi5 : Gi, gi5 = uI gi4 331 (upd (gi4 331) (gi4 329 45).toNatClampNeg (0 : Int32)) →
vp_in (gi5 329 45) 2 ∧
∀ gi6 : Gi, gi6 = uI gi5 332 (upd (gi5 332) (gi5 329 45).toNatClampNeg (0 : Int32)) →
vp_in (gi6 329 45) 2 ∧
∀ gi7 : Gi, gi7 = uI gi6 333 (upd (gi6 333) (gi6 329 45).toNatClampNeg (0 : Int32)) →
vp_in (gi7 329 45) 2 ∧
∀ gi8 : Gi, gi8 = uI gi7 334 (upd (gi7 334) (gi7 329 45).toNatClampNeg (0 : Int32)) →
p_X12_town_82 (0 : Int32) gi8 gl2 Q))
else
(Q ((-2) : Int32) gi gl))
def f_X12_town_82 (x2 : Int32) (gi : Gi) (gl : Gl) (Q : Int32 → Gi → Gl → Prop) : Prop :=
if (gi 329 41) = 0 then
(p_X12_town_119 x2 gi gl Q)
else
(if ¬ (gi 329 44) = 0 then
(p_X12_town_119 x2 gi gl Q)
else
(if ¬ x2 = (60 : Int32) then
(p_X12_readStatement  gi gl (fun (gi1 : Gi) (gl2 : Gl) =>
p_X12_town_82 (x2 + (1 : Int32)) gi1 gl2 Q))
else
(p_X12_errs  gi gl (fun (gi3 : Gi) (gl4 : Gl) =>
p_X12_town_82 (x2 + (1 : Int32)) gi3 gl4 Q))))
def f_X12_town_119 (x2 : Int32) (gi : Gi) (gl : Gl) (Q : Int32 → Gi → Gl → Prop) : Prop :=
if (gi 329 44) = 0 then
(vp_in (gi 329 45) 2 ∧
∀ gi1 : Gi, gi1 = uI gi 335 (upd (gi 335) (gi 329 45).toNatClampNeg x2) →
∀ gi2 : Gi, gi2 = uI gi1 329 (upd (gi1 329) 0 (gi1 329 45)) →
∀ gi3 : Gi, gi3 = uI gi2 329 (upd (gi2 329) 1 ((gi2 329 1) + (1 : Int32))) →
∀ gi4 : Gi, gi4 = uI gi3 355 (upd (gi3 355) (0 : Int32).toNatClampNeg (0 : Int32)) →
∀ gi5 : Gi, gi5 = uI gi4 329 (upd (gi4 329) 67 (0 : Int32)) →
p_X12_town_170 x2 (0 : Int32) gi5 gl Q)
else
(Q ((-1) : Int32) gi gl)
def f_X12_town_170 (x2 : Int32) (x3 : Int32) (gi : Gi) (gl : Gl) (Q : Int32 → Gi → Gl → Prop) : Prop :=
if (12 : Int32) ≤ x3 then
(Q x2 gi gl)
else
(vp_in x3 60 ∧
∀ gi1 : Gi, gi1 = uI gi 362 (upd (gi 362) x3.toNatClampNeg (1 : Int32)) →
p_X12_town_170 x2 (x3 + (1 : Int32)) gi1 gl Q)
set_option maxRecDepth 100000 in
theorem v_X12_town {x1 : Int32} {gi : Gi} {gl : Gl} {Q : Int32 → Gi → Gl → Prop}  (h : f_X12_town x1 gi gl Q) : p_X12_town x1 gi gl Q := by
  unfold f_X12_town at h
  show PAt mX12_town NN NN κF 0 [some (.ref 329), some (.int x1), none, none] [] gi gl _
  refine px_iload_n dX12_town_0 rfl rfl ?_
  refine px_if_lt (tgt := 12) dX12_town_1 (by decide) ?_
  by_cases hc : x1 < 0
  · rw [if_pos hc] at h ⊢
    refine px_bipush (v := ((-2) : Int32)) dX12_town_12 (by decide) ?_
    exact px_ireturn dX12_town_14 rfl ⟨.int, rfl, rfl, rfl⟩ ⟨rfl, _, rfl, h⟩
  · rw [if_neg hc] at h ⊢
    refine px_iload_n dX12_town_4 rfl rfl ?_
    refine px_aload_n dX12_town_5 rfl rfl ?_
    refine gf_X12_161 rfl dX12_town_6 zl_329 zk_329 ?_
    refine px_icmp_le (tgt := 15) dX12_town_9 (by decide) ?_
    by_cases hc : x1 ≤ (gi 329 36)
    · rw [if_pos hc] at h ⊢
      refine px_aload_n dX12_town_15 rfl rfl ?_
      refine px_iload_n dX12_town_16 rfl rfl ?_
      refine px_callV_V (As := [.int x1]) (st := []) dX12_town_17 lk_X12_308.1 lk_X12_308.2 (b := 329) zl_329 zk_329 (by decide) rfl (by decide) rfl (Nat.le_of_ble_eq_true rfl) rfl rfl (Nat.le_of_ble_eq_true rfl) ⟨Nat.le_refl _, Nat.le_refl _, Nat.le_refl _⟩ ?_
      refine PAt.mono h (fun v κ gi1 gl2 hq => ?_)
      obtain ⟨rfl, -, h⟩ := hq
      refine px_aload_n dX12_town_20 rfl rfl ?_
      refine px_iconst (v := (1 : Int32)) dX12_town_21 (by decide) ?_
      refine px_aload_n dX12_town_22 rfl rfl ?_
      refine gf_X12_312 rfl dX12_town_23 zl_329 zk_329 ?_
      refine px_isub dX12_town_26 ?_
      refine pf_X12_260 rfl dX12_town_27 zl_329 zk_329 ?_
      obtain ⟨gi3, hgi3⟩ : ∃ y : Gi, y = uI gi1 329 (upd (gi1 329) 45 ((1 : Int32) - (gi1 329 0))) := ⟨_, rfl⟩
      have h := h gi3 hgi3
      refine px_namegi hgi3 ?_
      refine px_aload_n dX12_town_30 rfl rfl ?_
      refine gf_X12_7 rfl dX12_town_31 zl_329 zk_329 rfl zr_329_2 zl_330 ?_
      refine px_aload_n dX12_town_34 rfl rfl ?_
      refine gf_X12_260 rfl dX12_town_35 zl_329 zk_329 ?_
      refine px_iconst (v := (0 : Int32)) dX12_town_38 (by decide) ?_
      obtain ⟨hi, h⟩ := h
      refine px_iastore (n := 2) dX12_town_39 zl_330 zk_330 zs_330 hi ?_
      obtain ⟨gi4, hgi4⟩ : ∃ y : Gi, y = uI gi3 330 (upd (gi3 330) (gi3 329 45).toNatClampNeg (0 : Int32)) := ⟨_, rfl⟩
      have h := h gi4 hgi4
      refine px_namegi hgi4 ?_
      refine px_aload_n dX12_town_40 rfl rfl ?_
      refine gf_X12_13 rfl dX12_town_41 zl_329 zk_329 rfl zr_329_3 zl_331 ?_
      refine px_aload_n dX12_town_44 rfl rfl ?_
      refine gf_X12_260 rfl dX12_town_45 zl_329 zk_329 ?_
      refine px_iconst (v := (0 : Int32)) dX12_town_48 (by decide) ?_
      obtain ⟨hi, h⟩ := h
      refine px_iastore (n := 2) dX12_town_49 zl_331 zk_331 zs_331 hi ?_
      obtain ⟨gi5, hgi5⟩ : ∃ y : Gi, y = uI gi4 331 (upd (gi4 331) (gi4 329 45).toNatClampNeg (0 : Int32)) := ⟨_, rfl⟩
      have h := h gi5 hgi5
      refine px_namegi hgi5 ?_
      refine px_aload_n dX12_town_50 rfl rfl ?_
      refine gf_X12_16 rfl dX12_town_51 zl_329 zk_329 rfl zr_329_4 zl_332 ?_
      refine px_aload_n dX12_town_54 rfl rfl ?_
      refine gf_X12_260 rfl dX12_town_55 zl_329 zk_329 ?_
      refine px_iconst (v := (0 : Int32)) dX12_town_58 (by decide) ?_
      obtain ⟨hi, h⟩ := h
      refine px_iastore (n := 2) dX12_town_59 zl_332 zk_332 zs_332 hi ?_
      obtain ⟨gi6, hgi6⟩ : ∃ y : Gi, y = uI gi5 332 (upd (gi5 332) (gi5 329 45).toNatClampNeg (0 : Int32)) := ⟨_, rfl⟩
      have h := h gi6 hgi6
      refine px_namegi hgi6 ?_
      refine px_aload_n dX12_town_60 rfl rfl ?_
      refine gf_X12_19 rfl dX12_town_61 zl_329 zk_329 rfl zr_329_5 zl_333 ?_
      refine px_aload_n dX12_town_64 rfl rfl ?_
      refine gf_X12_260 rfl dX12_town_65 zl_329 zk_329 ?_
      refine px_iconst (v := (0 : Int32)) dX12_town_68 (by decide) ?_
      obtain ⟨hi, h⟩ := h
      refine px_iastore (n := 2) dX12_town_69 zl_333 zk_333 zs_333 hi ?_
      obtain ⟨gi7, hgi7⟩ : ∃ y : Gi, y = uI gi6 333 (upd (gi6 333) (gi6 329 45).toNatClampNeg (0 : Int32)) := ⟨_, rfl⟩
      have h := h gi7 hgi7
      refine px_namegi hgi7 ?_
      refine px_aload_n dX12_town_70 rfl rfl ?_
      refine gf_X12_22 rfl dX12_town_71 zl_329 zk_329 rfl zr_329_6 zl_334 ?_
      refine px_aload_n dX12_town_74 rfl rfl ?_
      refine gf_X12_260 rfl dX12_town_75 zl_329 zk_329 ?_
      refine px_iconst (v := (0 : Int32)) dX12_town_78 (by decide) ?_
      obtain ⟨hi, h⟩ := h
      refine px_iastore (n := 2) dX12_town_79 zl_334 zk_334 zs_334 hi ?_
      obtain ⟨gi8, hgi8⟩ : ∃ y : Gi, y = uI gi7 334 (upd (gi7 334) (gi7 329 45).toNatClampNeg (0 : Int32)) := ⟨_, rfl⟩
      have h := h gi8 hgi8
      refine px_namegi hgi8 ?_
      refine px_iconst (v := (0 : Int32)) dX12_town_80 (by decide) ?_
      refine px_istore_n (ls2 := [some (.ref 329), some (.int x1), some (.int (0 : Int32)), none]) (i := 2) rfl dX12_town_81 (by decide) rfl ?_
      exact PAt.forget h (lsub_at ⟨rfl, ⟨rfl, trivial⟩⟩)
    · rw [if_neg hc] at h ⊢
      refine px_bipush (v := ((-2) : Int32)) dX12_town_12 (by decide) ?_
      exact px_ireturn dX12_town_14 rfl ⟨.int, rfl, rfl, rfl⟩ ⟨rfl, _, rfl, h⟩
set_option maxRecDepth 100000 in
theorem v_X12_town_82 {x2 : Int32} {gi : Gi} {gl : Gl} {Q : Int32 → Gi → Gl → Prop}  (h : f_X12_town_82 x2 gi gl Q) : p_X12_town_82 x2 gi gl Q := by
  unfold f_X12_town_82 at h
  show PAt mX12_town NN NN κF 82 [some (.ref 329), none, some (.int x2), none] [] gi gl _
  refine px_aload_n dX12_town_82 rfl rfl ?_
  refine gf_X12_186 rfl dX12_town_83 zl_329 zk_329 ?_
  refine px_if_eq (tgt := 119) dX12_town_86 (by decide) ?_
  by_cases hc : (gi 329 41) = 0
  · rw [if_pos hc] at h ⊢
    exact PAt.forget h (lsub_at ⟨rfl, ⟨rfl, trivial⟩⟩)
  · rw [if_neg hc] at h ⊢
    refine px_aload_n dX12_town_89 rfl rfl ?_
    refine gf_X12_196 rfl dX12_town_90 zl_329 zk_329 ?_
    refine px_if_ne (tgt := 119) dX12_town_93 (by decide) ?_
    by_cases hc : ¬ (gi 329 44) = 0
    · rw [if_pos hc] at h ⊢
      exact PAt.forget h (lsub_at ⟨rfl, ⟨rfl, trivial⟩⟩)
    · rw [if_neg hc] at h ⊢
      refine px_iload_n dX12_town_96 rfl rfl ?_
      refine px_bipush (v := (60 : Int32)) dX12_town_97 (by decide) ?_
      refine px_icmp_ne (tgt := 109) dX12_town_99 (by decide) ?_
      by_cases hc : ¬ x2 = (60 : Int32)
      · rw [if_pos hc] at h ⊢
        refine px_aload_n dX12_town_109 rfl rfl ?_
        refine px_callV_V (As := []) (st := []) dX12_town_110 lk_X12_315.1 lk_X12_315.2 (b := 329) zl_329 zk_329 (by decide) rfl (by decide) rfl (Nat.le_of_ble_eq_true rfl) rfl rfl (Nat.le_of_ble_eq_true rfl) ⟨Nat.le_refl _, Nat.le_refl _, Nat.le_refl _⟩ ?_
        refine PAt.mono h (fun v κ gi1 gl2 hq => ?_)
        obtain ⟨rfl, -, h⟩ := hq
        refine px_iinc (v := x2 + (1 : Int32)) (ls2 := [some (.ref 329), none, some (.int (x2 + (1 : Int32))), none]) dX12_town_113 rfl rfl (by decide) rfl ?_
        refine px_goto (tgt := 82) dX12_town_116 (by decide) ?_
        exact PAt.forget h (lsub_at ⟨rfl, ⟨rfl, trivial⟩⟩)
      · rw [if_neg hc] at h ⊢
        refine px_aload_n dX12_town_102 rfl rfl ?_
        refine px_callV_V (As := []) (st := []) dX12_town_103 lk_X12_207.1 lk_X12_207.2 (b := 329) zl_329 zk_329 (by decide) rfl (by decide) rfl (Nat.le_of_ble_eq_true rfl) rfl rfl (Nat.le_of_ble_eq_true rfl) ⟨Nat.le_refl _, Nat.le_refl _, Nat.le_refl _⟩ ?_
        refine PAt.mono h (fun v κ gi3 gl4 hq => ?_)
        obtain ⟨rfl, -, h⟩ := hq
        refine px_goto (tgt := 113) dX12_town_106 (by decide) ?_
        refine px_iinc (v := x2 + (1 : Int32)) (ls2 := [some (.ref 329), none, some (.int (x2 + (1 : Int32))), none]) dX12_town_113 rfl rfl (by decide) rfl ?_
        refine px_goto (tgt := 82) dX12_town_116 (by decide) ?_
        exact PAt.forget h (lsub_at ⟨rfl, ⟨rfl, trivial⟩⟩)
set_option maxRecDepth 100000 in
theorem v_X12_town_119 {x2 : Int32} {gi : Gi} {gl : Gl} {Q : Int32 → Gi → Gl → Prop}  (h : f_X12_town_119 x2 gi gl Q) : p_X12_town_119 x2 gi gl Q := by
  unfold f_X12_town_119 at h
  show PAt mX12_town NN NN κF 119 [some (.ref 329), none, some (.int x2), none] [] gi gl _
  refine px_aload_n dX12_town_119 rfl rfl ?_
  refine gf_X12_196 rfl dX12_town_120 zl_329 zk_329 ?_
  refine px_if_eq (tgt := 128) dX12_town_123 (by decide) ?_
  by_cases hc : (gi 329 44) = 0
  · rw [if_pos hc] at h ⊢
    refine px_aload_n dX12_town_128 rfl rfl ?_
    refine gf_X12_25 rfl dX12_town_129 zl_329 zk_329 rfl zr_329_7 zl_335 ?_
    refine px_aload_n dX12_town_132 rfl rfl ?_
    refine gf_X12_260 rfl dX12_town_133 zl_329 zk_329 ?_
    refine px_iload_n dX12_town_136 rfl rfl ?_
    obtain ⟨hi, h⟩ := h
    refine px_iastore (n := 2) dX12_town_137 zl_335 zk_335 zs_335 hi ?_
    obtain ⟨gi1, hgi1⟩ : ∃ y : Gi, y = uI gi 335 (upd (gi 335) (gi 329 45).toNatClampNeg x2) := ⟨_, rfl⟩
    have h := h gi1 hgi1
    refine px_namegi hgi1 ?_
    refine px_aload_n dX12_town_138 rfl rfl ?_
    refine px_aload_n dX12_town_139 rfl rfl ?_
    refine gf_X12_260 rfl dX12_town_140 zl_329 zk_329 ?_
    refine pf_X12_312 rfl dX12_town_143 zl_329 zk_329 ?_
    obtain ⟨gi2, hgi2⟩ : ∃ y : Gi, y = uI gi1 329 (upd (gi1 329) 0 (gi1 329 45)) := ⟨_, rfl⟩
    have h := h gi2 hgi2
    refine px_namegi hgi2 ?_
    refine px_aload_n dX12_town_146 rfl rfl ?_
    refine px_dup dX12_town_147 rfl ?_
    refine gf_X12_318 rfl dX12_town_148 zl_329 zk_329 ?_
    refine px_iconst (v := (1 : Int32)) dX12_town_151 (by decide) ?_
    refine px_iadd dX12_town_152 ?_
    refine pf_X12_318 rfl dX12_town_153 zl_329 zk_329 ?_
    obtain ⟨gi3, hgi3⟩ : ∃ y : Gi, y = uI gi2 329 (upd (gi2 329) 1 ((gi2 329 1) + (1 : Int32))) := ⟨_, rfl⟩
    have h := h gi3 hgi3
    refine px_namegi hgi3 ?_
    refine px_aload_n dX12_town_156 rfl rfl ?_
    refine gf_X12_86 rfl dX12_town_157 zl_329 zk_329 rfl zr_329_27 zl_355 ?_
    refine px_iconst (v := (0 : Int32)) dX12_town_160 (by decide) ?_
    refine px_iconst (v := (0 : Int32)) dX12_town_161 (by decide) ?_
    refine px_iastore (n := 5) dX12_town_162 zl_355 zk_355 zs_355 (vp_lit (by decide)) ?_
    obtain ⟨gi4, hgi4⟩ : ∃ y : Gi, y = uI gi3 355 (upd (gi3 355) (0 : Int32).toNatClampNeg (0 : Int32)) := ⟨_, rfl⟩
    have h := h gi4 hgi4
    refine px_namegi hgi4 ?_
    refine px_aload_n dX12_town_163 rfl rfl ?_
    refine px_iconst (v := (0 : Int32)) dX12_town_164 (by decide) ?_
    refine pf_X12_321 rfl dX12_town_165 zl_329 zk_329 ?_
    obtain ⟨gi5, hgi5⟩ : ∃ y : Gi, y = uI gi4 329 (upd (gi4 329) 67 (0 : Int32)) := ⟨_, rfl⟩
    have h := h gi5 hgi5
    refine px_namegi hgi5 ?_
    refine px_iconst (v := (0 : Int32)) dX12_town_168 (by decide) ?_
    refine px_istore_n (ls2 := [some (.ref 329), none, some (.int x2), some (.int (0 : Int32))]) (i := 3) rfl dX12_town_169 (by decide) rfl ?_
    exact PAt.forget h (lsub_at ⟨rfl, ⟨rfl, ⟨rfl, trivial⟩⟩⟩)
  · rw [if_neg hc] at h ⊢
    refine px_iconst (v := ((-1) : Int32)) dX12_town_126 (by decide) ?_
    exact px_ireturn dX12_town_127 rfl ⟨.int, rfl, rfl, rfl⟩ ⟨rfl, _, rfl, h⟩
set_option maxRecDepth 100000 in
theorem v_X12_town_170 {x2 : Int32} {x3 : Int32} {gi : Gi} {gl : Gl} {Q : Int32 → Gi → Gl → Prop}  (h : f_X12_town_170 x2 x3 gi gl Q) : p_X12_town_170 x2 x3 gi gl Q := by
  unfold f_X12_town_170 at h
  show PAt mX12_town NN NN κF 170 [some (.ref 329), none, some (.int x2), some (.int x3)] [] gi gl _
  refine px_iload_n dX12_town_170 rfl rfl ?_
  refine px_bipush (v := (12 : Int32)) dX12_town_171 (by decide) ?_
  refine px_icmp_ge (tgt := 189) dX12_town_173 (by decide) ?_
  by_cases hc : (12 : Int32) ≤ x3
  · rw [if_pos hc] at h ⊢
    refine px_iload_n dX12_town_189 rfl rfl ?_
    exact px_ireturn dX12_town_190 rfl ⟨.int, rfl, rfl, rfl⟩ ⟨rfl, _, rfl, h⟩
  · rw [if_neg hc] at h ⊢
    refine px_aload_n dX12_town_176 rfl rfl ?_
    refine gf_X12_107 rfl dX12_town_177 zl_329 zk_329 rfl zr_329_34 zl_362 ?_
    refine px_iload_n dX12_town_180 rfl rfl ?_
    refine px_iconst (v := (1 : Int32)) dX12_town_181 (by decide) ?_
    obtain ⟨hi, h⟩ := h
    refine px_iastore (n := 60) dX12_town_182 zl_362 zk_362 zs_362 hi ?_
    obtain ⟨gi1, hgi1⟩ : ∃ y : Gi, y = uI gi 362 (upd (gi 362) x3.toNatClampNeg (1 : Int32)) := ⟨_, rfl⟩
    have h := h gi1 hgi1
    refine px_namegi hgi1 ?_
    refine px_iinc (v := x3 + (1 : Int32)) (ls2 := [some (.ref 329), none, some (.int x2), some (.int (x3 + (1 : Int32)))]) dX12_town_183 rfl rfl (by decide) rfl ?_
    refine px_goto (tgt := 170) dX12_town_186 (by decide) ?_
    exact PAt.forget h (lsub_at ⟨rfl, ⟨rfl, ⟨rfl, trivial⟩⟩⟩)
abbrev p_X12_named_40 (p : Nat) (x4 : Int32) (s0 : Int32) (gi : Gi) (gl : Gl) (Q : Int32 → Gi → Gl → Prop) : Prop := PAt mX12_named NN NN κF 40 [some (.ref 329), none, none, none, some (.int x4), none] [.int s0] gi gl (RiQ Q)
def f_X12_named (p : Nat) (x2 : Int32) (x3 : Int32) (x4 : Int32) (gi : Gi) (gl : Gl) (Q : Int32 → Gi → Gl → Prop) : Prop :=
if (gi 329 44) = 0 then
(if ¬ (gi 329 41) = (1 : Int32) then
(p_X12_named_40 p x4 ((-1) : Int32) gi gl Q)
else
(if (gl 329 43) ≤ (0 : Int64) then
(p_X12_named_40 p x4 ((-1) : Int32) gi gl Q)
else
(p_X12_find p x2 x3 (gl 329 43) gi gl (fun (r3 : Int32) (gi1 : Gi) (gl2 : Gl) =>
p_X12_named_40 p x4 r3 gi1 gl2 Q))))
else
(Q (0 : Int32) gi gl)
def f_X12_named_40 (p : Nat) (x4 : Int32) (s0 : Int32) (gi : Gi) (gl : Gl) (Q : Int32 → Gi → Gl → Prop) : Prop :=
if s0 < 0 then
(p_X12_errs  gi gl (fun (gi1 : Gi) (gl2 : Gl) =>
Q (0 : Int32) gi1 gl2))
else
(if ¬ s0 = x4 then
(p_X12_next  gi gl (fun (gi3 : Gi) (gl4 : Gl) =>
Q s0 gi3 gl4))
else
(p_X12_errs  gi gl (fun (gi5 : Gi) (gl6 : Gl) =>
Q (0 : Int32) gi5 gl6)))
set_option maxRecDepth 100000 in
theorem v_X12_named {p : Nat} {x2 : Int32} {x3 : Int32} {x4 : Int32} {gi : Gi} {gl : Gl} {Q : Int32 → Gi → Gl → Prop} (hpN : p < NN) (hpK : sK p = 101) (h : f_X12_named p x2 x3 x4 gi gl Q) : p_X12_named p x2 x3 x4 gi gl Q := by
  unfold f_X12_named at h
  show PAt mX12_named NN NN κF 0 [some (.ref 329), some (.ref p), some (.int x2), some (.int x3), some (.int x4), none] [] gi gl _
  refine px_aload_n dX12_named_0 rfl rfl ?_
  refine gf_X12_196 rfl dX12_named_1 zl_329 zk_329 ?_
  refine px_if_eq (tgt := 9) dX12_named_4 (by decide) ?_
  by_cases hc : (gi 329 44) = 0
  · rw [if_pos hc] at h ⊢
    refine px_aload_n dX12_named_9 rfl rfl ?_
    refine gf_X12_186 rfl dX12_named_10 zl_329 zk_329 ?_
    refine px_iconst (v := (1 : Int32)) dX12_named_13 (by decide) ?_
    refine px_icmp_ne (tgt := 39) dX12_named_14 (by decide) ?_
    by_cases hc : ¬ (gi 329 41) = (1 : Int32)
    · rw [if_pos hc] at h ⊢
      refine px_iconst (v := ((-1) : Int32)) dX12_named_39 (by decide) ?_
      exact PAt.forget h (lsub_at ⟨rfl, ⟨rfl, trivial⟩⟩)
    · rw [if_neg hc] at h ⊢
      refine px_aload_n dX12_named_17 rfl rfl ?_
      refine gf_X12_179 rfl dX12_named_18 zl_329 zk_329 ?_
      refine px_lconst (v := (0 : Int64)) dX12_named_21 (by decide) ?_
      refine px_lc_le (tgt := 39) dX12_named_22 dX12_named_23 (by decide) ?_
      by_cases hc : (gl 329 43) ≤ (0 : Int64)
      · rw [if_pos hc] at h ⊢
        refine px_iconst (v := ((-1) : Int32)) dX12_named_39 (by decide) ?_
        exact PAt.forget h (lsub_at ⟨rfl, ⟨rfl, trivial⟩⟩)
      · rw [if_neg hc] at h ⊢
        refine px_aload_n dX12_named_26 rfl rfl ?_
        refine px_iload_n dX12_named_27 rfl rfl ?_
        refine px_iload_n dX12_named_28 rfl rfl ?_
        refine px_aload_n dX12_named_29 rfl rfl ?_
        refine gf_X12_179 rfl dX12_named_30 zl_329 zk_329 ?_
        refine px_callS_I (As := [.ref p, .int x2, .int x3, .long (gl 329 43)]) (st := []) dX12_named_33 lk_X12_263.1 lk_X12_263.2 (by decide) rfl (Nat.le_of_ble_eq_true rfl) rfl rfl (Nat.le_of_ble_eq_true rfl) ⟨Nat.le_refl _, Nat.le_refl _, Nat.le_refl _⟩ ?_
        refine PAt.mono h (fun v κ gi1 gl2 hq => ?_)
        obtain ⟨rfl, r3, rfl, h⟩ := hq
        refine px_goto (tgt := 40) dX12_named_36 (by decide) ?_
        exact PAt.forget h (lsub_at ⟨rfl, ⟨rfl, trivial⟩⟩)
  · rw [if_neg hc] at h ⊢
    refine px_iconst (v := (0 : Int32)) dX12_named_7 (by decide) ?_
    exact px_ireturn dX12_named_8 rfl ⟨.int, rfl, rfl, rfl⟩ ⟨rfl, _, rfl, h⟩
set_option maxRecDepth 100000 in
theorem v_X12_named_40 {p : Nat} {x4 : Int32} {s0 : Int32} {gi : Gi} {gl : Gl} {Q : Int32 → Gi → Gl → Prop} (hpN : p < NN) (hpK : sK p = 101) (h : f_X12_named_40 p x4 s0 gi gl Q) : p_X12_named_40 p x4 s0 gi gl Q := by
  unfold f_X12_named_40 at h
  show PAt mX12_named NN NN κF 40 [some (.ref 329), none, none, none, some (.int x4), none] [.int s0] gi gl _
  refine px_istore (ls2 := [some (.ref 329), none, none, none, some (.int x4), some (.int s0)]) dX12_named_40 (by decide) rfl ?_
  refine px_iload dX12_named_42 rfl ?_
  refine px_if_lt (tgt := 54) dX12_named_44 (by decide) ?_
  by_cases hc : s0 < 0
  · rw [if_pos hc] at h ⊢
    refine px_aload_n dX12_named_54 rfl rfl ?_
    refine px_callV_V (As := []) (st := []) dX12_named_55 lk_X12_207.1 lk_X12_207.2 (b := 329) zl_329 zk_329 (by decide) rfl (by decide) rfl (Nat.le_of_ble_eq_true rfl) rfl rfl (Nat.le_of_ble_eq_true rfl) ⟨Nat.le_refl _, Nat.le_refl _, Nat.le_refl _⟩ ?_
    refine PAt.mono h (fun v κ gi1 gl2 hq => ?_)
    obtain ⟨rfl, -, h⟩ := hq
    refine px_iconst (v := (0 : Int32)) dX12_named_58 (by decide) ?_
    exact px_ireturn dX12_named_59 rfl ⟨.int, rfl, rfl, rfl⟩ ⟨rfl, _, rfl, h⟩
  · rw [if_neg hc] at h ⊢
    refine px_iload dX12_named_47 rfl ?_
    refine px_iload dX12_named_49 rfl ?_
    refine px_icmp_ne (tgt := 60) dX12_named_51 (by decide) ?_
    by_cases hc : ¬ s0 = x4
    · rw [if_pos hc] at h ⊢
      refine px_aload_n dX12_named_60 rfl rfl ?_
      refine px_callV_V (As := []) (st := []) dX12_named_61 lk_X12_204.1 lk_X12_204.2 (b := 329) zl_329 zk_329 (by decide) rfl (by decide) rfl (Nat.le_of_ble_eq_true rfl) rfl rfl (Nat.le_of_ble_eq_true rfl) ⟨Nat.le_refl _, Nat.le_refl _, Nat.le_refl _⟩ ?_
      refine PAt.mono h (fun v κ gi3 gl4 hq => ?_)
      obtain ⟨rfl, -, h⟩ := hq
      refine px_iload dX12_named_64 rfl ?_
      exact px_ireturn dX12_named_66 rfl ⟨.int, rfl, rfl, rfl⟩ ⟨rfl, _, rfl, h⟩
    · rw [if_neg hc] at h ⊢
      refine px_aload_n dX12_named_54 rfl rfl ?_
      refine px_callV_V (As := []) (st := []) dX12_named_55 lk_X12_207.1 lk_X12_207.2 (b := 329) zl_329 zk_329 (by decide) rfl (by decide) rfl (Nat.le_of_ble_eq_true rfl) rfl rfl (Nat.le_of_ble_eq_true rfl) ⟨Nat.le_refl _, Nat.le_refl _, Nat.le_refl _⟩ ?_
      refine PAt.mono h (fun v κ gi5 gl6 hq => ?_)
      obtain ⟨rfl, -, h⟩ := hq
      refine px_iconst (v := (0 : Int32)) dX12_named_58 (by decide) ?_
      exact px_ireturn dX12_named_59 rfl ⟨.int, rfl, rfl, rfl⟩ ⟨rfl, _, rfl, h⟩
def f_X12_thingHere  (gi : Gi) (gl : Gl) (Q : Int32 → Gi → Gl → Prop) : Prop :=
vp_in (gi 329 0) 2 ∧
p_X12_named 336 ((12 : Int32) * (gi 329 0)) (gi 330 (gi 329 0).toNatClampNeg) ((-1) : Int32) gi gl (fun (r3 : Int32) (gi1 : Gi) (gl2 : Gl) =>
Q r3 gi1 gl2)
set_option maxRecDepth 100000 in
theorem v_X12_thingHere  {gi : Gi} {gl : Gl} {Q : Int32 → Gi → Gl → Prop}  (h : f_X12_thingHere  gi gl Q) : p_X12_thingHere  gi gl Q := by
  unfold f_X12_thingHere at h
  show PAt mX12_thingHere NN NN κF 0 [some (.ref 329)] [] gi gl _
  refine px_aload_n dX12_thingHere_0 rfl rfl ?_
  refine px_aload_n dX12_thingHere_1 rfl rfl ?_
  refine gf_X12_28 rfl dX12_thingHere_2 zl_329 zk_329 rfl zr_329_8 zl_336 ?_
  refine px_bipush (v := (12 : Int32)) dX12_thingHere_5 (by decide) ?_
  refine px_aload_n dX12_thingHere_7 rfl rfl ?_
  refine gf_X12_312 rfl dX12_thingHere_8 zl_329 zk_329 ?_
  refine px_imul dX12_thingHere_11 ?_
  refine px_aload_n dX12_thingHere_12 rfl rfl ?_
  refine gf_X12_7 rfl dX12_thingHere_13 zl_329 zk_329 rfl zr_329_2 zl_330 ?_
  refine px_aload_n dX12_thingHere_16 rfl rfl ?_
  refine gf_X12_312 rfl dX12_thingHere_17 zl_329 zk_329 ?_
  obtain ⟨hi, h⟩ := h
  refine px_iaload (n := 2) dX12_thingHere_20 zl_330 zk_330 zs_330 hi ?_
  refine px_iconst (v := ((-1) : Int32)) dX12_thingHere_21 (by decide) ?_
  refine px_callV_I (As := [.ref 336, .int ((12 : Int32) * (gi 329 0)), .int (gi 330 (gi 329 0).toNatClampNeg), .int ((-1) : Int32)]) (st := []) dX12_thingHere_22 lk_X12_324.1 lk_X12_324.2 (b := 329) zl_329 zk_329 (by decide) rfl (by decide) rfl (Nat.le_of_ble_eq_true rfl) rfl rfl (Nat.le_of_ble_eq_true rfl) ⟨Nat.le_refl _, Nat.le_refl _, Nat.le_refl _⟩ ?_
  refine PAt.mono h (fun v κ gi1 gl2 hq => ?_)
  obtain ⟨rfl, r3, rfl, h⟩ := hq
  exact px_ireturn dX12_thingHere_25 rfl ⟨.int, rfl, rfl, rfl⟩ ⟨rfl, _, rfl, h⟩
def f_X12_treeHere  (gi : Gi) (gl : Gl) (Q : Int32 → Gi → Gl → Prop) : Prop :=
vp_in (gi 329 0) 2 ∧
p_X12_named 337 ((6 : Int32) * (gi 329 0)) (gi 331 (gi 329 0).toNatClampNeg) ((-1) : Int32) gi gl (fun (r3 : Int32) (gi1 : Gi) (gl2 : Gl) =>
Q r3 gi1 gl2)
set_option maxRecDepth 100000 in
theorem v_X12_treeHere  {gi : Gi} {gl : Gl} {Q : Int32 → Gi → Gl → Prop}  (h : f_X12_treeHere  gi gl Q) : p_X12_treeHere  gi gl Q := by
  unfold f_X12_treeHere at h
  show PAt mX12_treeHere NN NN κF 0 [some (.ref 329)] [] gi gl _
  refine px_aload_n dX12_treeHere_0 rfl rfl ?_
  refine px_aload_n dX12_treeHere_1 rfl rfl ?_
  refine gf_X12_32 rfl dX12_treeHere_2 zl_329 zk_329 rfl zr_329_9 zl_337 ?_
  refine px_bipush (v := (6 : Int32)) dX12_treeHere_5 (by decide) ?_
  refine px_aload_n dX12_treeHere_7 rfl rfl ?_
  refine gf_X12_312 rfl dX12_treeHere_8 zl_329 zk_329 ?_
  refine px_imul dX12_treeHere_11 ?_
  refine px_aload_n dX12_treeHere_12 rfl rfl ?_
  refine gf_X12_13 rfl dX12_treeHere_13 zl_329 zk_329 rfl zr_329_3 zl_331 ?_
  refine px_aload_n dX12_treeHere_16 rfl rfl ?_
  refine gf_X12_312 rfl dX12_treeHere_17 zl_329 zk_329 ?_
  obtain ⟨hi, h⟩ := h
  refine px_iaload (n := 2) dX12_treeHere_20 zl_331 zk_331 zs_331 hi ?_
  refine px_iconst (v := ((-1) : Int32)) dX12_treeHere_21 (by decide) ?_
  refine px_callV_I (As := [.ref 337, .int ((6 : Int32) * (gi 329 0)), .int (gi 331 (gi 329 0).toNatClampNeg), .int ((-1) : Int32)]) (st := []) dX12_treeHere_22 lk_X12_324.1 lk_X12_324.2 (b := 329) zl_329 zk_329 (by decide) rfl (by decide) rfl (Nat.le_of_ble_eq_true rfl) rfl rfl (Nat.le_of_ble_eq_true rfl) ⟨Nat.le_refl _, Nat.le_refl _, Nat.le_refl _⟩ ?_
  refine PAt.mono h (fun v κ gi1 gl2 hq => ?_)
  obtain ⟨rfl, r3, rfl, h⟩ := hq
  exact px_ireturn dX12_treeHere_25 rfl ⟨.int, rfl, rfl, rfl⟩ ⟨rfl, _, rfl, h⟩
def f_X12_postHere (x1 : Int32) (gi : Gi) (gl : Gl) (Q : Int32 → Gi → Gl → Prop) : Prop :=
vp_in (gi 329 0) 2 ∧
p_X12_named 338 ((10 : Int32) * (gi 329 0)) (gi 332 (gi 329 0).toNatClampNeg) x1 gi gl (fun (r3 : Int32) (gi1 : Gi) (gl2 : Gl) =>
Q r3 gi1 gl2)
set_option maxRecDepth 100000 in
theorem v_X12_postHere {x1 : Int32} {gi : Gi} {gl : Gl} {Q : Int32 → Gi → Gl → Prop}  (h : f_X12_postHere x1 gi gl Q) : p_X12_postHere x1 gi gl Q := by
  unfold f_X12_postHere at h
  show PAt mX12_postHere NN NN κF 0 [some (.ref 329), some (.int x1)] [] gi gl _
  refine px_aload_n dX12_postHere_0 rfl rfl ?_
  refine px_aload_n dX12_postHere_1 rfl rfl ?_
  refine gf_X12_35 rfl dX12_postHere_2 zl_329 zk_329 rfl zr_329_10 zl_338 ?_
  refine px_bipush (v := (10 : Int32)) dX12_postHere_5 (by decide) ?_
  refine px_aload_n dX12_postHere_7 rfl rfl ?_
  refine gf_X12_312 rfl dX12_postHere_8 zl_329 zk_329 ?_
  refine px_imul dX12_postHere_11 ?_
  refine px_aload_n dX12_postHere_12 rfl rfl ?_
  refine gf_X12_16 rfl dX12_postHere_13 zl_329 zk_329 rfl zr_329_4 zl_332 ?_
  refine px_aload_n dX12_postHere_16 rfl rfl ?_
  refine gf_X12_312 rfl dX12_postHere_17 zl_329 zk_329 ?_
  obtain ⟨hi, h⟩ := h
  refine px_iaload (n := 2) dX12_postHere_20 zl_332 zk_332 zs_332 hi ?_
  refine px_iload_n dX12_postHere_21 rfl rfl ?_
  refine px_callV_I (As := [.ref 338, .int ((10 : Int32) * (gi 329 0)), .int (gi 332 (gi 329 0).toNatClampNeg), .int x1]) (st := []) dX12_postHere_22 lk_X12_324.1 lk_X12_324.2 (b := 329) zl_329 zk_329 (by decide) rfl (by decide) rfl (Nat.le_of_ble_eq_true rfl) rfl rfl (Nat.le_of_ble_eq_true rfl) ⟨Nat.le_refl _, Nat.le_refl _, Nat.le_refl _⟩ ?_
  refine PAt.mono h (fun v κ gi1 gl2 hq => ?_)
  obtain ⟨rfl, r3, rfl, h⟩ := hq
  exact px_ireturn dX12_postHere_25 rfl ⟨.int, rfl, rfl, rfl⟩ ⟨rfl, _, rfl, h⟩
def f_X12_kindHere  (gi : Gi) (gl : Gl) (Q : Int32 → Gi → Gl → Prop) : Prop :=
if ¬ (gi 329 44) = 0 then
(Q ((-1) : Int32) gi gl)
else
(if (gi 329 41) = (1 : Int32) then
(if ¬ (gl 329 43) = (283288069 : Int64) then
(if ¬ (gl 329 43) = (6399478 : Int64) then
(if ¬ (gl 329 43) = (239874 : Int64) then
(if ¬ (gl 329 43) = (40586 : Int64) then
(if ¬ (gl 329 43) = (276903788 : Int64) then
(if ¬ (gl 329 43) = (1841546 : Int64) then
(if ¬ (gl 329 43) = (456500 : Int64) then
(if ¬ (gl 329 43) = (495765 : Int64) then
(if ¬ (gl 329 43) = (31484543 : Int64) then
(if ¬ (gl 329 43) = (240023 : Int64) then
(Q ((-1) : Int32) gi gl)
else
(Q (9 : Int32) gi gl))
else
(Q (8 : Int32) gi gl))
else
(Q (7 : Int32) gi gl))
else
(Q (6 : Int32) gi gl))
else
(Q (5 : Int32) gi gl))
else
(Q (4 : Int32) gi gl))
else
(Q (3 : Int32) gi gl))
else
(Q (2 : Int32) gi gl))
else
(Q (1 : Int32) gi gl))
else
(Q (0 : Int32) gi gl))
else
(Q ((-1) : Int32) gi gl))
set_option maxRecDepth 100000 in
theorem v_X12_kindHere  {gi : Gi} {gl : Gl} {Q : Int32 → Gi → Gl → Prop}  (h : f_X12_kindHere  gi gl Q) : p_X12_kindHere  gi gl Q := by
  unfold f_X12_kindHere at h
  show PAt mX12_kindHere NN NN κF 0 [some (.ref 329)] [] gi gl _
  refine px_aload_n dX12_kindHere_0 rfl rfl ?_
  refine gf_X12_196 rfl dX12_kindHere_1 zl_329 zk_329 ?_
  refine px_if_ne (tgt := 15) dX12_kindHere_4 (by decide) ?_
  by_cases hc : ¬ (gi 329 44) = 0
  · rw [if_pos hc] at h ⊢
    refine px_iconst (v := ((-1) : Int32)) dX12_kindHere_15 (by decide) ?_
    exact px_ireturn dX12_kindHere_16 rfl ⟨.int, rfl, rfl, rfl⟩ ⟨rfl, _, rfl, h⟩
  · rw [if_neg hc] at h ⊢
    refine px_aload_n dX12_kindHere_7 rfl rfl ?_
    refine gf_X12_186 rfl dX12_kindHere_8 zl_329 zk_329 ?_
    refine px_iconst (v := (1 : Int32)) dX12_kindHere_11 (by decide) ?_
    refine px_icmp_eq (tgt := 17) dX12_kindHere_12 (by decide) ?_
    by_cases hc : (gi 329 41) = (1 : Int32)
    · rw [if_pos hc] at h ⊢
      refine px_aload_n dX12_kindHere_17 rfl rfl ?_
      refine gf_X12_179 rfl dX12_kindHere_18 zl_329 zk_329 ?_
      refine px_ldc2 (v := (283288069 : Int64)) dX12_kindHere_21 w_1454 ?_
      refine px_lc_ne (tgt := 30) dX12_kindHere_24 dX12_kindHere_25 (by decide) ?_
      by_cases hc : ¬ (gl 329 43) = (283288069 : Int64)
      · rw [if_pos hc] at h ⊢
        refine px_aload_n dX12_kindHere_30 rfl rfl ?_
        refine gf_X12_179 rfl dX12_kindHere_31 zl_329 zk_329 ?_
        refine px_ldc2 (v := (6399478 : Int64)) dX12_kindHere_34 w_1455 ?_
        refine px_lc_ne (tgt := 43) dX12_kindHere_37 dX12_kindHere_38 (by decide) ?_
        by_cases hc : ¬ (gl 329 43) = (6399478 : Int64)
        · rw [if_pos hc] at h ⊢
          refine px_aload_n dX12_kindHere_43 rfl rfl ?_
          refine gf_X12_179 rfl dX12_kindHere_44 zl_329 zk_329 ?_
          refine px_ldc2 (v := (239874 : Int64)) dX12_kindHere_47 w_1446 ?_
          refine px_lc_ne (tgt := 56) dX12_kindHere_50 dX12_kindHere_51 (by decide) ?_
          by_cases hc : ¬ (gl 329 43) = (239874 : Int64)
          · rw [if_pos hc] at h ⊢
            refine px_aload_n dX12_kindHere_56 rfl rfl ?_
            refine gf_X12_179 rfl dX12_kindHere_57 zl_329 zk_329 ?_
            refine px_ldc2 (v := (40586 : Int64)) dX12_kindHere_60 w_1447 ?_
            refine px_lc_ne (tgt := 69) dX12_kindHere_63 dX12_kindHere_64 (by decide) ?_
            by_cases hc : ¬ (gl 329 43) = (40586 : Int64)
            · rw [if_pos hc] at h ⊢
              refine px_aload_n dX12_kindHere_69 rfl rfl ?_
              refine gf_X12_179 rfl dX12_kindHere_70 zl_329 zk_329 ?_
              refine px_ldc2 (v := (276903788 : Int64)) dX12_kindHere_73 w_1456 ?_
              refine px_lc_ne (tgt := 82) dX12_kindHere_76 dX12_kindHere_77 (by decide) ?_
              by_cases hc : ¬ (gl 329 43) = (276903788 : Int64)
              · rw [if_pos hc] at h ⊢
                refine px_aload_n dX12_kindHere_82 rfl rfl ?_
                refine gf_X12_179 rfl dX12_kindHere_83 zl_329 zk_329 ?_
                refine px_ldc2 (v := (1841546 : Int64)) dX12_kindHere_86 w_1429 ?_
                refine px_lc_ne (tgt := 95) dX12_kindHere_89 dX12_kindHere_90 (by decide) ?_
                by_cases hc : ¬ (gl 329 43) = (1841546 : Int64)
                · rw [if_pos hc] at h ⊢
                  refine px_aload_n dX12_kindHere_95 rfl rfl ?_
                  refine gf_X12_179 rfl dX12_kindHere_96 zl_329 zk_329 ?_
                  refine px_ldc2 (v := (456500 : Int64)) dX12_kindHere_99 w_1457 ?_
                  refine px_lc_ne (tgt := 109) dX12_kindHere_102 dX12_kindHere_103 (by decide) ?_
                  by_cases hc : ¬ (gl 329 43) = (456500 : Int64)
                  · rw [if_pos hc] at h ⊢
                    refine px_aload_n dX12_kindHere_109 rfl rfl ?_
                    refine gf_X12_179 rfl dX12_kindHere_110 zl_329 zk_329 ?_
                    refine px_ldc2 (v := (495765 : Int64)) dX12_kindHere_113 w_1458 ?_
                    refine px_lc_ne (tgt := 123) dX12_kindHere_116 dX12_kindHere_117 (by decide) ?_
                    by_cases hc : ¬ (gl 329 43) = (495765 : Int64)
                    · rw [if_pos hc] at h ⊢
                      refine px_aload_n dX12_kindHere_123 rfl rfl ?_
                      refine gf_X12_179 rfl dX12_kindHere_124 zl_329 zk_329 ?_
                      refine px_ldc2 (v := (31484543 : Int64)) dX12_kindHere_127 w_1459 ?_
                      refine px_lc_ne (tgt := 137) dX12_kindHere_130 dX12_kindHere_131 (by decide) ?_
                      by_cases hc : ¬ (gl 329 43) = (31484543 : Int64)
                      · rw [if_pos hc] at h ⊢
                        refine px_aload_n dX12_kindHere_137 rfl rfl ?_
                        refine gf_X12_179 rfl dX12_kindHere_138 zl_329 zk_329 ?_
                        refine px_ldc2 (v := (240023 : Int64)) dX12_kindHere_141 w_1460 ?_
                        refine px_lc_ne (tgt := 151) dX12_kindHere_144 dX12_kindHere_145 (by decide) ?_
                        by_cases hc : ¬ (gl 329 43) = (240023 : Int64)
                        · rw [if_pos hc] at h ⊢
                          refine px_iconst (v := ((-1) : Int32)) dX12_kindHere_151 (by decide) ?_
                          exact px_ireturn dX12_kindHere_152 rfl ⟨.int, rfl, rfl, rfl⟩ ⟨rfl, _, rfl, h⟩
                        · rw [if_neg hc] at h ⊢
                          refine px_bipush (v := (9 : Int32)) dX12_kindHere_148 (by decide) ?_
                          exact px_ireturn dX12_kindHere_150 rfl ⟨.int, rfl, rfl, rfl⟩ ⟨rfl, _, rfl, h⟩
                      · rw [if_neg hc] at h ⊢
                        refine px_bipush (v := (8 : Int32)) dX12_kindHere_134 (by decide) ?_
                        exact px_ireturn dX12_kindHere_136 rfl ⟨.int, rfl, rfl, rfl⟩ ⟨rfl, _, rfl, h⟩
                    · rw [if_neg hc] at h ⊢
                      refine px_bipush (v := (7 : Int32)) dX12_kindHere_120 (by decide) ?_
                      exact px_ireturn dX12_kindHere_122 rfl ⟨.int, rfl, rfl, rfl⟩ ⟨rfl, _, rfl, h⟩
                  · rw [if_neg hc] at h ⊢
                    refine px_bipush (v := (6 : Int32)) dX12_kindHere_106 (by decide) ?_
                    exact px_ireturn dX12_kindHere_108 rfl ⟨.int, rfl, rfl, rfl⟩ ⟨rfl, _, rfl, h⟩
                · rw [if_neg hc] at h ⊢
                  refine px_iconst (v := (5 : Int32)) dX12_kindHere_93 (by decide) ?_
                  exact px_ireturn dX12_kindHere_94 rfl ⟨.int, rfl, rfl, rfl⟩ ⟨rfl, _, rfl, h⟩
              · rw [if_neg hc] at h ⊢
                refine px_iconst (v := (4 : Int32)) dX12_kindHere_80 (by decide) ?_
                exact px_ireturn dX12_kindHere_81 rfl ⟨.int, rfl, rfl, rfl⟩ ⟨rfl, _, rfl, h⟩
            · rw [if_neg hc] at h ⊢
              refine px_iconst (v := (3 : Int32)) dX12_kindHere_67 (by decide) ?_
              exact px_ireturn dX12_kindHere_68 rfl ⟨.int, rfl, rfl, rfl⟩ ⟨rfl, _, rfl, h⟩
          · rw [if_neg hc] at h ⊢
            refine px_iconst (v := (2 : Int32)) dX12_kindHere_54 (by decide) ?_
            exact px_ireturn dX12_kindHere_55 rfl ⟨.int, rfl, rfl, rfl⟩ ⟨rfl, _, rfl, h⟩
        · rw [if_neg hc] at h ⊢
          refine px_iconst (v := (1 : Int32)) dX12_kindHere_41 (by decide) ?_
          exact px_ireturn dX12_kindHere_42 rfl ⟨.int, rfl, rfl, rfl⟩ ⟨rfl, _, rfl, h⟩
      · rw [if_neg hc] at h ⊢
        refine px_iconst (v := (0 : Int32)) dX12_kindHere_28 (by decide) ?_
        exact px_ireturn dX12_kindHere_29 rfl ⟨.int, rfl, rfl, rfl⟩ ⟨rfl, _, rfl, h⟩
    · rw [if_neg hc] at h ⊢
      refine px_iconst (v := ((-1) : Int32)) dX12_kindHere_15 (by decide) ?_
      exact px_ireturn dX12_kindHere_16 rfl ⟨.int, rfl, rfl, rfl⟩ ⟨rfl, _, rfl, h⟩
def f_X12_readSign (x1 : Int32) (x2 : Int32) (gi : Gi) (gl : Gl) (Q : Gi → Gl → Prop) : Prop :=
∀ z1 : Int32, z1 = ((12 : Int32) * x1) + x2 →
p_X12_kindHere  gi gl (fun (r4 : Int32) (gi2 : Gi) (gl3 : Gl) =>
if r4 < 0 then
(p_X12_errs  gi2 gl3 (fun (gi5 : Gi) (gl6 : Gl) =>
Q gi5 gl6))
else
(if ¬ x2 = (12 : Int32) then
(p_X12_next  gi2 gl3 (fun (gi7 : Gi) (gl8 : Gl) =>
vp_in z1 480 ∧
∀ gi9 : Gi, gi9 = uI gi7 357 (upd (gi7 357) z1.toNatClampNeg r4) →
vp_in z1 480 ∧
∀ gi10 : Gi, gi10 = uI gi9 359 (upd (gi9 359) z1.toNatClampNeg ((-1) : Int32)) →
vp_in z1 480 ∧
∀ gi11 : Gi, gi11 = uI gi10 360 (upd (gi10 360) z1.toNatClampNeg ((-1) : Int32)) →
vp_in z1 480 ∧
∀ gi12 : Gi, gi12 = uI gi11 361 (upd (gi11 361) z1.toNatClampNeg ((-1) : Int32)) →
if (1 : Int32) < r4 then
(if (3 : Int32) < r4 then
(if ¬ r4 = (4 : Int32) then
(if ¬ r4 = (5 : Int32) then
(if (7 : Int32) < r4 then
(p_X12_postHere ((-1) : Int32) gi12 gl8 (fun (r15 : Int32) (gi13 : Gi) (gl14 : Gl) =>
vp_in z1 480 ∧
∀ gi16 : Gi, gi16 = uI gi13 358 (upd (gi13 358) z1.toNatClampNeg r15) →
vp_in z1 480 ∧
p_X12_postHere (gi16 358 z1.toNatClampNeg) gi16 gl14 (fun (r19 : Int32) (gi17 : Gi) (gl18 : Gl) =>
vp_in z1 480 ∧
∀ gi20 : Gi, gi20 = uI gi17 359 (upd (gi17 359) z1.toNatClampNeg r19) →
p_X12_semicolon  gi20 gl18 (fun (gi21 : Gi) (gl22 : Gl) =>
Q gi21 gl22))))
else
(if ¬ r4 = (6 : Int32) then
(p_X12_numeral (0 : Int32) (9 : Int32) gi12 gl8 (fun (r25 : Int32) (gi23 : Gi) (gl24 : Gl) =>
vp_in z1 480 ∧
∀ gi26 : Gi, gi26 = uI gi23 358 (upd (gi23 358) z1.toNatClampNeg r25) →
p_X12_semicolon  gi26 gl24 (fun (gi27 : Gi) (gl28 : Gl) =>
Q gi27 gl28)))
else
(p_X12_numeral (0 : Int32) (6 : Int32) gi12 gl8 (fun (r31 : Int32) (gi29 : Gi) (gl30 : Gl) =>
vp_in z1 480 ∧
∀ gi32 : Gi, gi32 = uI gi29 358 (upd (gi29 358) z1.toNatClampNeg r31) →
p_X12_semicolon  gi32 gl30 (fun (gi33 : Gi) (gl34 : Gl) =>
Q gi33 gl34)))))
else
(vp_in (gi12 329 0) 2 ∧
p_X12_named 339 ((4 : Int32) * (gi12 329 0)) (gi12 333 (gi12 329 0).toNatClampNeg) ((-1) : Int32) gi12 gl8 (fun (r37 : Int32) (gi35 : Gi) (gl36 : Gl) =>
vp_in z1 480 ∧
∀ gi38 : Gi, gi38 = uI gi35 358 (upd (gi35 358) z1.toNatClampNeg r37) →
p_X12_numeral (0 : Int32) (719 : Int32) gi38 gl36 (fun (r41 : Int32) (gi39 : Gi) (gl40 : Gl) =>
vp_in z1 480 ∧
∀ gi42 : Gi, gi42 = uI gi39 359 (upd (gi39 359) z1.toNatClampNeg r41) →
p_X12_semicolon  gi42 gl40 (fun (gi43 : Gi) (gl44 : Gl) =>
Q gi43 gl44)))))
else
(p_X12_postHere ((-1) : Int32) gi12 gl8 (fun (r47 : Int32) (gi45 : Gi) (gl46 : Gl) =>
vp_in z1 480 ∧
∀ gi48 : Gi, gi48 = uI gi45 358 (upd (gi45 358) z1.toNatClampNeg r47) →
p_X12_numeral (0 : Int32) (31 : Int32) gi48 gl46 (fun (r51 : Int32) (gi49 : Gi) (gl50 : Gl) =>
vp_in z1 480 ∧
∀ gi52 : Gi, gi52 = uI gi49 359 (upd (gi49 359) z1.toNatClampNeg r51) →
p_X12_numeral (0 : Int32) (31 : Int32) gi52 gl50 (fun (r55 : Int32) (gi53 : Gi) (gl54 : Gl) =>
vp_in z1 480 ∧
∀ gi56 : Gi, gi56 = uI gi53 360 (upd (gi53 360) z1.toNatClampNeg r55) →
p_X12_givenHere  gi56 gl54 (fun (r59 : Int32) (gi57 : Gi) (gl58 : Gl) =>
vp_in z1 480 ∧
∀ gi60 : Gi, gi60 = uI gi57 361 (upd (gi57 361) z1.toNatClampNeg r59) →
p_X12_semicolon  gi60 gl58 (fun (gi61 : Gi) (gl62 : Gl) =>
Q gi61 gl62)))))))
else
(p_X12_treeHere  gi12 gl8 (fun (r65 : Int32) (gi63 : Gi) (gl64 : Gl) =>
vp_in z1 480 ∧
∀ gi66 : Gi, gi66 = uI gi63 358 (upd (gi63 358) z1.toNatClampNeg r65) →
p_X12_semicolon  gi66 gl64 (fun (gi67 : Gi) (gl68 : Gl) =>
Q gi67 gl68))))
else
(p_X12_thingHere  gi12 gl8 (fun (r71 : Int32) (gi69 : Gi) (gl70 : Gl) =>
vp_in z1 480 ∧
∀ gi72 : Gi, gi72 = uI gi69 358 (upd (gi69 358) z1.toNatClampNeg r71) →
p_X12_semicolon  gi72 gl70 (fun (gi73 : Gi) (gl74 : Gl) =>
Q gi73 gl74)))))
else
(p_X12_errs  gi2 gl3 (fun (gi75 : Gi) (gl76 : Gl) =>
Q gi75 gl76))))
set_option maxRecDepth 100000 in
theorem v_X12_readSign {x1 : Int32} {x2 : Int32} {gi : Gi} {gl : Gl} {Q : Gi → Gl → Prop}  (h : f_X12_readSign x1 x2 gi gl Q) : p_X12_readSign x1 x2 gi gl Q := by
  unfold f_X12_readSign at h
  show PAt mX12_readSign NN NN κF 0 [some (.ref 329), some (.int x1), some (.int x2), none, none] [] gi gl _
  refine px_bipush (v := (12 : Int32)) dX12_readSign_0 (by decide) ?_
  refine px_iload_n dX12_readSign_2 rfl rfl ?_
  refine px_imul dX12_readSign_3 ?_
  refine px_iload_n dX12_readSign_4 rfl rfl ?_
  refine px_iadd dX12_readSign_5 ?_
  obtain ⟨z1, hz1⟩ : ∃ y : Int32, y = ((12 : Int32) * x1) + x2 := ⟨_, rfl⟩
  have h := h z1 hz1
  refine px_namei hz1 ?_
  refine px_istore_n (ls2 := [some (.ref 329), some (.int x1), some (.int x2), some (.int z1), none]) (i := 3) rfl dX12_readSign_6 (by decide) rfl ?_
  refine px_aload_n dX12_readSign_7 rfl rfl ?_
  refine px_callV_I (As := []) (st := []) dX12_readSign_8 lk_X12_328.1 lk_X12_328.2 (b := 329) zl_329 zk_329 (by decide) rfl (by decide) rfl (Nat.le_of_ble_eq_true rfl) rfl rfl (Nat.le_of_ble_eq_true rfl) ⟨Nat.le_refl _, Nat.le_refl _, Nat.le_refl _⟩ ?_
  refine PAt.mono h (fun v κ gi2 gl3 hq => ?_)
  obtain ⟨rfl, r4, rfl, h⟩ := hq
  refine px_istore (ls2 := [some (.ref 329), some (.int x1), some (.int x2), some (.int z1), some (.int r4)]) dX12_readSign_11 (by decide) rfl ?_
  refine px_iload dX12_readSign_13 rfl ?_
  refine px_if_lt (tgt := 24) dX12_readSign_15 (by decide) ?_
  by_cases hc : r4 < 0
  · rw [if_pos hc] at h ⊢
    refine px_aload_n dX12_readSign_24 rfl rfl ?_
    refine px_callV_V (As := []) (st := []) dX12_readSign_25 lk_X12_207.1 lk_X12_207.2 (b := 329) zl_329 zk_329 (by decide) rfl (by decide) rfl (Nat.le_of_ble_eq_true rfl) rfl rfl (Nat.le_of_ble_eq_true rfl) ⟨Nat.le_refl _, Nat.le_refl _, Nat.le_refl _⟩ ?_
    refine PAt.mono h (fun v κ gi5 gl6 hq => ?_)
    obtain ⟨rfl, -, h⟩ := hq
    exact px_return dX12_readSign_28 rfl rfl ⟨rfl, rfl, h⟩
  · rw [if_neg hc] at h ⊢
    refine px_iload_n dX12_readSign_18 rfl rfl ?_
    refine px_bipush (v := (12 : Int32)) dX12_readSign_19 (by decide) ?_
    refine px_icmp_ne (tgt := 29) dX12_readSign_21 (by decide) ?_
    by_cases hc : ¬ x2 = (12 : Int32)
    · rw [if_pos hc] at h ⊢
      refine px_aload_n dX12_readSign_29 rfl rfl ?_
      refine px_callV_V (As := []) (st := []) dX12_readSign_30 lk_X12_204.1 lk_X12_204.2 (b := 329) zl_329 zk_329 (by decide) rfl (by decide) rfl (Nat.le_of_ble_eq_true rfl) rfl rfl (Nat.le_of_ble_eq_true rfl) ⟨Nat.le_refl _, Nat.le_refl _, Nat.le_refl _⟩ ?_
      refine PAt.mono h (fun v κ gi7 gl8 hq => ?_)
      obtain ⟨rfl, -, h⟩ := hq
      refine px_aload_n dX12_readSign_33 rfl rfl ?_
      refine gf_X12_92 rfl dX12_readSign_34 zl_329 zk_329 rfl zr_329_29 zl_357 ?_
      refine px_iload_n dX12_readSign_37 rfl rfl ?_
      refine px_iload dX12_readSign_38 rfl ?_
      obtain ⟨hi, h⟩ := h
      refine px_iastore (n := 480) dX12_readSign_40 zl_357 zk_357 zs_357 hi ?_
      obtain ⟨gi9, hgi9⟩ : ∃ y : Gi, y = uI gi7 357 (upd (gi7 357) z1.toNatClampNeg r4) := ⟨_, rfl⟩
      have h := h gi9 hgi9
      refine px_namegi hgi9 ?_
      refine px_aload_n dX12_readSign_41 rfl rfl ?_
      refine gf_X12_98 rfl dX12_readSign_42 zl_329 zk_329 rfl zr_329_31 zl_359 ?_
      refine px_iload_n dX12_readSign_45 rfl rfl ?_
      refine px_iconst (v := ((-1) : Int32)) dX12_readSign_46 (by decide) ?_
      obtain ⟨hi, h⟩ := h
      refine px_iastore (n := 480) dX12_readSign_47 zl_359 zk_359 zs_359 hi ?_
      obtain ⟨gi10, hgi10⟩ : ∃ y : Gi, y = uI gi9 359 (upd (gi9 359) z1.toNatClampNeg ((-1) : Int32)) := ⟨_, rfl⟩
      have h := h gi10 hgi10
      refine px_namegi hgi10 ?_
      refine px_aload_n dX12_readSign_48 rfl rfl ?_
      refine gf_X12_101 rfl dX12_readSign_49 zl_329 zk_329 rfl zr_329_32 zl_360 ?_
      refine px_iload_n dX12_readSign_52 rfl rfl ?_
      refine px_iconst (v := ((-1) : Int32)) dX12_readSign_53 (by decide) ?_
      obtain ⟨hi, h⟩ := h
      refine px_iastore (n := 480) dX12_readSign_54 zl_360 zk_360 zs_360 hi ?_
      obtain ⟨gi11, hgi11⟩ : ∃ y : Gi, y = uI gi10 360 (upd (gi10 360) z1.toNatClampNeg ((-1) : Int32)) := ⟨_, rfl⟩
      have h := h gi11 hgi11
      refine px_namegi hgi11 ?_
      refine px_aload_n dX12_readSign_55 rfl rfl ?_
      refine gf_X12_104 rfl dX12_readSign_56 zl_329 zk_329 rfl zr_329_33 zl_361 ?_
      refine px_iload_n dX12_readSign_59 rfl rfl ?_
      refine px_iconst (v := ((-1) : Int32)) dX12_readSign_60 (by decide) ?_
      obtain ⟨hi, h⟩ := h
      refine px_iastore (n := 480) dX12_readSign_61 zl_361 zk_361 zs_361 hi ?_
      obtain ⟨gi12, hgi12⟩ : ∃ y : Gi, y = uI gi11 361 (upd (gi11 361) z1.toNatClampNeg ((-1) : Int32)) := ⟨_, rfl⟩
      have h := h gi12 hgi12
      refine px_namegi hgi12 ?_
      refine px_iload dX12_readSign_62 rfl ?_
      refine px_iconst (v := (1 : Int32)) dX12_readSign_64 (by decide) ?_
      refine px_icmp_gt (tgt := 81) dX12_readSign_65 (by decide) ?_
      by_cases hc : (1 : Int32) < r4
      · rw [if_pos hc] at h ⊢
        refine px_iload dX12_readSign_81 rfl ?_
        refine px_iconst (v := (3 : Int32)) dX12_readSign_83 (by decide) ?_
        refine px_icmp_gt (tgt := 100) dX12_readSign_84 (by decide) ?_
        by_cases hc : (3 : Int32) < r4
        · rw [if_pos hc] at h ⊢
          refine px_iload dX12_readSign_100 rfl ?_
          refine px_iconst (v := (4 : Int32)) dX12_readSign_102 (by decide) ?_
          refine px_icmp_ne (tgt := 156) dX12_readSign_103 (by decide) ?_
          by_cases hc : ¬ r4 = (4 : Int32)
          · rw [if_pos hc] at h ⊢
            refine px_iload dX12_readSign_156 rfl ?_
            refine px_iconst (v := (5 : Int32)) dX12_readSign_158 (by decide) ?_
            refine px_icmp_ne (tgt := 209) dX12_readSign_159 (by decide) ?_
            by_cases hc : ¬ r4 = (5 : Int32)
            · rw [if_pos hc] at h ⊢
              refine px_iload dX12_readSign_209 rfl ?_
              refine px_bipush (v := (7 : Int32)) dX12_readSign_211 (by decide) ?_
              refine px_icmp_gt (tgt := 244) dX12_readSign_213 (by decide) ?_
              by_cases hc : (7 : Int32) < r4
              · rw [if_pos hc] at h ⊢
                refine px_aload_n dX12_readSign_244 rfl rfl ?_
                refine gf_X12_95 rfl dX12_readSign_245 zl_329 zk_329 rfl zr_329_30 zl_358 ?_
                refine px_iload_n dX12_readSign_248 rfl rfl ?_
                refine px_aload_n dX12_readSign_249 rfl rfl ?_
                refine px_iconst (v := ((-1) : Int32)) dX12_readSign_250 (by decide) ?_
                refine px_callV_I (As := [.int ((-1) : Int32)]) (st := [.int z1, .ref 358]) dX12_readSign_251 lk_X12_337.1 lk_X12_337.2 (b := 329) zl_329 zk_329 (by decide) rfl (by decide) rfl (Nat.le_of_ble_eq_true rfl) rfl rfl (Nat.le_of_ble_eq_true rfl) ⟨Nat.le_refl _, Nat.le_refl _, Nat.le_refl _⟩ ?_
                refine PAt.mono h (fun v κ gi13 gl14 hq => ?_)
                obtain ⟨rfl, r15, rfl, h⟩ := hq
                obtain ⟨hi, h⟩ := h
                refine px_iastore (n := 480) dX12_readSign_254 zl_358 zk_358 zs_358 hi ?_
                obtain ⟨gi16, hgi16⟩ : ∃ y : Gi, y = uI gi13 358 (upd (gi13 358) z1.toNatClampNeg r15) := ⟨_, rfl⟩
                have h := h gi16 hgi16
                refine px_namegi hgi16 ?_
                refine px_aload_n dX12_readSign_255 rfl rfl ?_
                refine gf_X12_98 rfl dX12_readSign_256 zl_329 zk_329 rfl zr_329_31 zl_359 ?_
                refine px_iload_n dX12_readSign_259 rfl rfl ?_
                refine px_aload_n dX12_readSign_260 rfl rfl ?_
                refine px_aload_n dX12_readSign_261 rfl rfl ?_
                refine gf_X12_95 rfl dX12_readSign_262 zl_329 zk_329 rfl zr_329_30 zl_358 ?_
                refine px_iload_n dX12_readSign_265 rfl rfl ?_
                obtain ⟨hi, h⟩ := h
                refine px_iaload (n := 480) dX12_readSign_266 zl_358 zk_358 zs_358 hi ?_
                refine px_callV_I (As := [.int (gi16 358 z1.toNatClampNeg)]) (st := [.int z1, .ref 359]) dX12_readSign_267 lk_X12_337.1 lk_X12_337.2 (b := 329) zl_329 zk_329 (by decide) rfl (by decide) rfl (Nat.le_of_ble_eq_true rfl) rfl rfl (Nat.le_of_ble_eq_true rfl) ⟨Nat.le_refl _, Nat.le_refl _, Nat.le_refl _⟩ ?_
                refine PAt.mono h (fun v κ gi17 gl18 hq => ?_)
                obtain ⟨rfl, r19, rfl, h⟩ := hq
                obtain ⟨hi, h⟩ := h
                refine px_iastore (n := 480) dX12_readSign_270 zl_359 zk_359 zs_359 hi ?_
                obtain ⟨gi20, hgi20⟩ : ∃ y : Gi, y = uI gi17 359 (upd (gi17 359) z1.toNatClampNeg r19) := ⟨_, rfl⟩
                have h := h gi20 hgi20
                refine px_namegi hgi20 ?_
                refine px_aload_n dX12_readSign_271 rfl rfl ?_
                refine px_callV_V (As := []) (st := []) dX12_readSign_272 lk_X12_305.1 lk_X12_305.2 (b := 329) zl_329 zk_329 (by decide) rfl (by decide) rfl (Nat.le_of_ble_eq_true rfl) rfl rfl (Nat.le_of_ble_eq_true rfl) ⟨Nat.le_refl _, Nat.le_refl _, Nat.le_refl _⟩ ?_
                refine PAt.mono h (fun v κ gi21 gl22 hq => ?_)
                obtain ⟨rfl, -, h⟩ := hq
                exact px_return dX12_readSign_275 rfl rfl ⟨rfl, rfl, h⟩
              · rw [if_neg hc] at h ⊢
                refine px_aload_n dX12_readSign_216 rfl rfl ?_
                refine gf_X12_95 rfl dX12_readSign_217 zl_329 zk_329 rfl zr_329_30 zl_358 ?_
                refine px_iload_n dX12_readSign_220 rfl rfl ?_
                refine px_aload_n dX12_readSign_221 rfl rfl ?_
                refine px_iconst (v := (0 : Int32)) dX12_readSign_222 (by decide) ?_
                refine px_iload dX12_readSign_223 rfl ?_
                refine px_bipush (v := (6 : Int32)) dX12_readSign_225 (by decide) ?_
                refine px_icmp_ne (tgt := 235) dX12_readSign_227 (by decide) ?_
                by_cases hc : ¬ r4 = (6 : Int32)
                · rw [if_pos hc] at h ⊢
                  refine px_bipush (v := (9 : Int32)) dX12_readSign_235 (by decide) ?_
                  refine px_callV_I (As := [.int (0 : Int32), .int (9 : Int32)]) (st := [.int z1, .ref 358]) dX12_readSign_237 lk_X12_267.1 lk_X12_267.2 (b := 329) zl_329 zk_329 (by decide) rfl (by decide) rfl (Nat.le_of_ble_eq_true rfl) rfl rfl (Nat.le_of_ble_eq_true rfl) ⟨Nat.le_refl _, Nat.le_refl _, Nat.le_refl _⟩ ?_
                  refine PAt.mono h (fun v κ gi23 gl24 hq => ?_)
                  obtain ⟨rfl, r25, rfl, h⟩ := hq
                  obtain ⟨hi, h⟩ := h
                  refine px_iastore (n := 480) dX12_readSign_240 zl_358 zk_358 zs_358 hi ?_
                  obtain ⟨gi26, hgi26⟩ : ∃ y : Gi, y = uI gi23 358 (upd (gi23 358) z1.toNatClampNeg r25) := ⟨_, rfl⟩
                  have h := h gi26 hgi26
                  refine px_namegi hgi26 ?_
                  refine px_goto (tgt := 271) dX12_readSign_241 (by decide) ?_
                  refine px_aload_n dX12_readSign_271 rfl rfl ?_
                  refine px_callV_V (As := []) (st := []) dX12_readSign_272 lk_X12_305.1 lk_X12_305.2 (b := 329) zl_329 zk_329 (by decide) rfl (by decide) rfl (Nat.le_of_ble_eq_true rfl) rfl rfl (Nat.le_of_ble_eq_true rfl) ⟨Nat.le_refl _, Nat.le_refl _, Nat.le_refl _⟩ ?_
                  refine PAt.mono h (fun v κ gi27 gl28 hq => ?_)
                  obtain ⟨rfl, -, h⟩ := hq
                  exact px_return dX12_readSign_275 rfl rfl ⟨rfl, rfl, h⟩
                · rw [if_neg hc] at h ⊢
                  refine px_bipush (v := (6 : Int32)) dX12_readSign_230 (by decide) ?_
                  refine px_goto (tgt := 237) dX12_readSign_232 (by decide) ?_
                  refine px_callV_I (As := [.int (0 : Int32), .int (6 : Int32)]) (st := [.int z1, .ref 358]) dX12_readSign_237 lk_X12_267.1 lk_X12_267.2 (b := 329) zl_329 zk_329 (by decide) rfl (by decide) rfl (Nat.le_of_ble_eq_true rfl) rfl rfl (Nat.le_of_ble_eq_true rfl) ⟨Nat.le_refl _, Nat.le_refl _, Nat.le_refl _⟩ ?_
                  refine PAt.mono h (fun v κ gi29 gl30 hq => ?_)
                  obtain ⟨rfl, r31, rfl, h⟩ := hq
                  obtain ⟨hi, h⟩ := h
                  refine px_iastore (n := 480) dX12_readSign_240 zl_358 zk_358 zs_358 hi ?_
                  obtain ⟨gi32, hgi32⟩ : ∃ y : Gi, y = uI gi29 358 (upd (gi29 358) z1.toNatClampNeg r31) := ⟨_, rfl⟩
                  have h := h gi32 hgi32
                  refine px_namegi hgi32 ?_
                  refine px_goto (tgt := 271) dX12_readSign_241 (by decide) ?_
                  refine px_aload_n dX12_readSign_271 rfl rfl ?_
                  refine px_callV_V (As := []) (st := []) dX12_readSign_272 lk_X12_305.1 lk_X12_305.2 (b := 329) zl_329 zk_329 (by decide) rfl (by decide) rfl (Nat.le_of_ble_eq_true rfl) rfl rfl (Nat.le_of_ble_eq_true rfl) ⟨Nat.le_refl _, Nat.le_refl _, Nat.le_refl _⟩ ?_
                  refine PAt.mono h (fun v κ gi33 gl34 hq => ?_)
                  obtain ⟨rfl, -, h⟩ := hq
                  exact px_return dX12_readSign_275 rfl rfl ⟨rfl, rfl, h⟩
            · rw [if_neg hc] at h ⊢
              refine px_aload_n dX12_readSign_162 rfl rfl ?_
              refine gf_X12_95 rfl dX12_readSign_163 zl_329 zk_329 rfl zr_329_30 zl_358 ?_
              refine px_iload_n dX12_readSign_166 rfl rfl ?_
              refine px_aload_n dX12_readSign_167 rfl rfl ?_
              refine px_aload_n dX12_readSign_168 rfl rfl ?_
              refine gf_X12_38 rfl dX12_readSign_169 zl_329 zk_329 rfl zr_329_11 zl_339 ?_
              refine px_iconst (v := (4 : Int32)) dX12_readSign_172 (by decide) ?_
              refine px_aload_n dX12_readSign_173 rfl rfl ?_
              refine gf_X12_312 rfl dX12_readSign_174 zl_329 zk_329 ?_
              refine px_imul dX12_readSign_177 ?_
              refine px_aload_n dX12_readSign_178 rfl rfl ?_
              refine gf_X12_19 rfl dX12_readSign_179 zl_329 zk_329 rfl zr_329_5 zl_333 ?_
              refine px_aload_n dX12_readSign_182 rfl rfl ?_
              refine gf_X12_312 rfl dX12_readSign_183 zl_329 zk_329 ?_
              obtain ⟨hi, h⟩ := h
              refine px_iaload (n := 2) dX12_readSign_186 zl_333 zk_333 zs_333 hi ?_
              refine px_iconst (v := ((-1) : Int32)) dX12_readSign_187 (by decide) ?_
              refine px_callV_I (As := [.ref 339, .int ((4 : Int32) * (gi12 329 0)), .int (gi12 333 (gi12 329 0).toNatClampNeg), .int ((-1) : Int32)]) (st := [.int z1, .ref 358]) dX12_readSign_188 lk_X12_324.1 lk_X12_324.2 (b := 329) zl_329 zk_329 (by decide) rfl (by decide) rfl (Nat.le_of_ble_eq_true rfl) rfl rfl (Nat.le_of_ble_eq_true rfl) ⟨Nat.le_refl _, Nat.le_refl _, Nat.le_refl _⟩ ?_
              refine PAt.mono h (fun v κ gi35 gl36 hq => ?_)
              obtain ⟨rfl, r37, rfl, h⟩ := hq
              obtain ⟨hi, h⟩ := h
              refine px_iastore (n := 480) dX12_readSign_191 zl_358 zk_358 zs_358 hi ?_
              obtain ⟨gi38, hgi38⟩ : ∃ y : Gi, y = uI gi35 358 (upd (gi35 358) z1.toNatClampNeg r37) := ⟨_, rfl⟩
              have h := h gi38 hgi38
              refine px_namegi hgi38 ?_
              refine px_aload_n dX12_readSign_192 rfl rfl ?_
              refine gf_X12_98 rfl dX12_readSign_193 zl_329 zk_329 rfl zr_329_31 zl_359 ?_
              refine px_iload_n dX12_readSign_196 rfl rfl ?_
              refine px_aload_n dX12_readSign_197 rfl rfl ?_
              refine px_iconst (v := (0 : Int32)) dX12_readSign_198 (by decide) ?_
              refine px_sipush (v := (719 : Int32)) dX12_readSign_199 (by decide) ?_
              refine px_callV_I (As := [.int (0 : Int32), .int (719 : Int32)]) (st := [.int z1, .ref 359]) dX12_readSign_202 lk_X12_267.1 lk_X12_267.2 (b := 329) zl_329 zk_329 (by decide) rfl (by decide) rfl (Nat.le_of_ble_eq_true rfl) rfl rfl (Nat.le_of_ble_eq_true rfl) ⟨Nat.le_refl _, Nat.le_refl _, Nat.le_refl _⟩ ?_
              refine PAt.mono h (fun v κ gi39 gl40 hq => ?_)
              obtain ⟨rfl, r41, rfl, h⟩ := hq
              obtain ⟨hi, h⟩ := h
              refine px_iastore (n := 480) dX12_readSign_205 zl_359 zk_359 zs_359 hi ?_
              obtain ⟨gi42, hgi42⟩ : ∃ y : Gi, y = uI gi39 359 (upd (gi39 359) z1.toNatClampNeg r41) := ⟨_, rfl⟩
              have h := h gi42 hgi42
              refine px_namegi hgi42 ?_
              refine px_goto (tgt := 271) dX12_readSign_206 (by decide) ?_
              refine px_aload_n dX12_readSign_271 rfl rfl ?_
              refine px_callV_V (As := []) (st := []) dX12_readSign_272 lk_X12_305.1 lk_X12_305.2 (b := 329) zl_329 zk_329 (by decide) rfl (by decide) rfl (Nat.le_of_ble_eq_true rfl) rfl rfl (Nat.le_of_ble_eq_true rfl) ⟨Nat.le_refl _, Nat.le_refl _, Nat.le_refl _⟩ ?_
              refine PAt.mono h (fun v κ gi43 gl44 hq => ?_)
              obtain ⟨rfl, -, h⟩ := hq
              exact px_return dX12_readSign_275 rfl rfl ⟨rfl, rfl, h⟩
          · rw [if_neg hc] at h ⊢
            refine px_aload_n dX12_readSign_106 rfl rfl ?_
            refine gf_X12_95 rfl dX12_readSign_107 zl_329 zk_329 rfl zr_329_30 zl_358 ?_
            refine px_iload_n dX12_readSign_110 rfl rfl ?_
            refine px_aload_n dX12_readSign_111 rfl rfl ?_
            refine px_iconst (v := ((-1) : Int32)) dX12_readSign_112 (by decide) ?_
            refine px_callV_I (As := [.int ((-1) : Int32)]) (st := [.int z1, .ref 358]) dX12_readSign_113 lk_X12_337.1 lk_X12_337.2 (b := 329) zl_329 zk_329 (by decide) rfl (by decide) rfl (Nat.le_of_ble_eq_true rfl) rfl rfl (Nat.le_of_ble_eq_true rfl) ⟨Nat.le_refl _, Nat.le_refl _, Nat.le_refl _⟩ ?_
            refine PAt.mono h (fun v κ gi45 gl46 hq => ?_)
            obtain ⟨rfl, r47, rfl, h⟩ := hq
            obtain ⟨hi, h⟩ := h
            refine px_iastore (n := 480) dX12_readSign_116 zl_358 zk_358 zs_358 hi ?_
            obtain ⟨gi48, hgi48⟩ : ∃ y : Gi, y = uI gi45 358 (upd (gi45 358) z1.toNatClampNeg r47) := ⟨_, rfl⟩
            have h := h gi48 hgi48
            refine px_namegi hgi48 ?_
            refine px_aload_n dX12_readSign_117 rfl rfl ?_
            refine gf_X12_98 rfl dX12_readSign_118 zl_329 zk_329 rfl zr_329_31 zl_359 ?_
            refine px_iload_n dX12_readSign_121 rfl rfl ?_
            refine px_aload_n dX12_readSign_122 rfl rfl ?_
            refine px_iconst (v := (0 : Int32)) dX12_readSign_123 (by decide) ?_
            refine px_bipush (v := (31 : Int32)) dX12_readSign_124 (by decide) ?_
            refine px_callV_I (As := [.int (0 : Int32), .int (31 : Int32)]) (st := [.int z1, .ref 359]) dX12_readSign_126 lk_X12_267.1 lk_X12_267.2 (b := 329) zl_329 zk_329 (by decide) rfl (by decide) rfl (Nat.le_of_ble_eq_true rfl) rfl rfl (Nat.le_of_ble_eq_true rfl) ⟨Nat.le_refl _, Nat.le_refl _, Nat.le_refl _⟩ ?_
            refine PAt.mono h (fun v κ gi49 gl50 hq => ?_)
            obtain ⟨rfl, r51, rfl, h⟩ := hq
            obtain ⟨hi, h⟩ := h
            refine px_iastore (n := 480) dX12_readSign_129 zl_359 zk_359 zs_359 hi ?_
            obtain ⟨gi52, hgi52⟩ : ∃ y : Gi, y = uI gi49 359 (upd (gi49 359) z1.toNatClampNeg r51) := ⟨_, rfl⟩
            have h := h gi52 hgi52
            refine px_namegi hgi52 ?_
            refine px_aload_n dX12_readSign_130 rfl rfl ?_
            refine gf_X12_101 rfl dX12_readSign_131 zl_329 zk_329 rfl zr_329_32 zl_360 ?_
            refine px_iload_n dX12_readSign_134 rfl rfl ?_
            refine px_aload_n dX12_readSign_135 rfl rfl ?_
            refine px_iconst (v := (0 : Int32)) dX12_readSign_136 (by decide) ?_
            refine px_bipush (v := (31 : Int32)) dX12_readSign_137 (by decide) ?_
            refine px_callV_I (As := [.int (0 : Int32), .int (31 : Int32)]) (st := [.int z1, .ref 360]) dX12_readSign_139 lk_X12_267.1 lk_X12_267.2 (b := 329) zl_329 zk_329 (by decide) rfl (by decide) rfl (Nat.le_of_ble_eq_true rfl) rfl rfl (Nat.le_of_ble_eq_true rfl) ⟨Nat.le_refl _, Nat.le_refl _, Nat.le_refl _⟩ ?_
            refine PAt.mono h (fun v κ gi53 gl54 hq => ?_)
            obtain ⟨rfl, r55, rfl, h⟩ := hq
            obtain ⟨hi, h⟩ := h
            refine px_iastore (n := 480) dX12_readSign_142 zl_360 zk_360 zs_360 hi ?_
            obtain ⟨gi56, hgi56⟩ : ∃ y : Gi, y = uI gi53 360 (upd (gi53 360) z1.toNatClampNeg r55) := ⟨_, rfl⟩
            have h := h gi56 hgi56
            refine px_namegi hgi56 ?_
            refine px_aload_n dX12_readSign_143 rfl rfl ?_
            refine gf_X12_104 rfl dX12_readSign_144 zl_329 zk_329 rfl zr_329_33 zl_361 ?_
            refine px_iload_n dX12_readSign_147 rfl rfl ?_
            refine px_aload_n dX12_readSign_148 rfl rfl ?_
            refine px_callV_I (As := []) (st := [.int z1, .ref 361]) dX12_readSign_149 lk_X12_279.1 lk_X12_279.2 (b := 329) zl_329 zk_329 (by decide) rfl (by decide) rfl (Nat.le_of_ble_eq_true rfl) rfl rfl (Nat.le_of_ble_eq_true rfl) ⟨Nat.le_refl _, Nat.le_refl _, Nat.le_refl _⟩ ?_
            refine PAt.mono h (fun v κ gi57 gl58 hq => ?_)
            obtain ⟨rfl, r59, rfl, h⟩ := hq
            obtain ⟨hi, h⟩ := h
            refine px_iastore (n := 480) dX12_readSign_152 zl_361 zk_361 zs_361 hi ?_
            obtain ⟨gi60, hgi60⟩ : ∃ y : Gi, y = uI gi57 361 (upd (gi57 361) z1.toNatClampNeg r59) := ⟨_, rfl⟩
            have h := h gi60 hgi60
            refine px_namegi hgi60 ?_
            refine px_goto (tgt := 271) dX12_readSign_153 (by decide) ?_
            refine px_aload_n dX12_readSign_271 rfl rfl ?_
            refine px_callV_V (As := []) (st := []) dX12_readSign_272 lk_X12_305.1 lk_X12_305.2 (b := 329) zl_329 zk_329 (by decide) rfl (by decide) rfl (Nat.le_of_ble_eq_true rfl) rfl rfl (Nat.le_of_ble_eq_true rfl) ⟨Nat.le_refl _, Nat.le_refl _, Nat.le_refl _⟩ ?_
            refine PAt.mono h (fun v κ gi61 gl62 hq => ?_)
            obtain ⟨rfl, -, h⟩ := hq
            exact px_return dX12_readSign_275 rfl rfl ⟨rfl, rfl, h⟩
        · rw [if_neg hc] at h ⊢
          refine px_aload_n dX12_readSign_87 rfl rfl ?_
          refine gf_X12_95 rfl dX12_readSign_88 zl_329 zk_329 rfl zr_329_30 zl_358 ?_
          refine px_iload_n dX12_readSign_91 rfl rfl ?_
          refine px_aload_n dX12_readSign_92 rfl rfl ?_
          refine px_callV_I (As := []) (st := [.int z1, .ref 358]) dX12_readSign_93 lk_X12_334.1 lk_X12_334.2 (b := 329) zl_329 zk_329 (by decide) rfl (by decide) rfl (Nat.le_of_ble_eq_true rfl) rfl rfl (Nat.le_of_ble_eq_true rfl) ⟨Nat.le_refl _, Nat.le_refl _, Nat.le_refl _⟩ ?_
          refine PAt.mono h (fun v κ gi63 gl64 hq => ?_)
          obtain ⟨rfl, r65, rfl, h⟩ := hq
          obtain ⟨hi, h⟩ := h
          refine px_iastore (n := 480) dX12_readSign_96 zl_358 zk_358 zs_358 hi ?_
          obtain ⟨gi66, hgi66⟩ : ∃ y : Gi, y = uI gi63 358 (upd (gi63 358) z1.toNatClampNeg r65) := ⟨_, rfl⟩
          have h := h gi66 hgi66
          refine px_namegi hgi66 ?_
          refine px_goto (tgt := 271) dX12_readSign_97 (by decide) ?_
          refine px_aload_n dX12_readSign_271 rfl rfl ?_
          refine px_callV_V (As := []) (st := []) dX12_readSign_272 lk_X12_305.1 lk_X12_305.2 (b := 329) zl_329 zk_329 (by decide) rfl (by decide) rfl (Nat.le_of_ble_eq_true rfl) rfl rfl (Nat.le_of_ble_eq_true rfl) ⟨Nat.le_refl _, Nat.le_refl _, Nat.le_refl _⟩ ?_
          refine PAt.mono h (fun v κ gi67 gl68 hq => ?_)
          obtain ⟨rfl, -, h⟩ := hq
          exact px_return dX12_readSign_275 rfl rfl ⟨rfl, rfl, h⟩
      · rw [if_neg hc] at h ⊢
        refine px_aload_n dX12_readSign_68 rfl rfl ?_
        refine gf_X12_95 rfl dX12_readSign_69 zl_329 zk_329 rfl zr_329_30 zl_358 ?_
        refine px_iload_n dX12_readSign_72 rfl rfl ?_
        refine px_aload_n dX12_readSign_73 rfl rfl ?_
        refine px_callV_I (As := []) (st := [.int z1, .ref 358]) dX12_readSign_74 lk_X12_331.1 lk_X12_331.2 (b := 329) zl_329 zk_329 (by decide) rfl (by decide) rfl (Nat.le_of_ble_eq_true rfl) rfl rfl (Nat.le_of_ble_eq_true rfl) ⟨Nat.le_refl _, Nat.le_refl _, Nat.le_refl _⟩ ?_
        refine PAt.mono h (fun v κ gi69 gl70 hq => ?_)
        obtain ⟨rfl, r71, rfl, h⟩ := hq
        obtain ⟨hi, h⟩ := h
        refine px_iastore (n := 480) dX12_readSign_77 zl_358 zk_358 zs_358 hi ?_
        obtain ⟨gi72, hgi72⟩ : ∃ y : Gi, y = uI gi69 358 (upd (gi69 358) z1.toNatClampNeg r71) := ⟨_, rfl⟩
        have h := h gi72 hgi72
        refine px_namegi hgi72 ?_
        refine px_goto (tgt := 271) dX12_readSign_78 (by decide) ?_
        refine px_aload_n dX12_readSign_271 rfl rfl ?_
        refine px_callV_V (As := []) (st := []) dX12_readSign_272 lk_X12_305.1 lk_X12_305.2 (b := 329) zl_329 zk_329 (by decide) rfl (by decide) rfl (Nat.le_of_ble_eq_true rfl) rfl rfl (Nat.le_of_ble_eq_true rfl) ⟨Nat.le_refl _, Nat.le_refl _, Nat.le_refl _⟩ ?_
        refine PAt.mono h (fun v κ gi73 gl74 hq => ?_)
        obtain ⟨rfl, -, h⟩ := hq
        exact px_return dX12_readSign_275 rfl rfl ⟨rfl, rfl, h⟩
    · rw [if_neg hc] at h ⊢
      refine px_aload_n dX12_readSign_24 rfl rfl ?_
      refine px_callV_V (As := []) (st := []) dX12_readSign_25 lk_X12_207.1 lk_X12_207.2 (b := 329) zl_329 zk_329 (by decide) rfl (by decide) rfl (Nat.le_of_ble_eq_true rfl) rfl rfl (Nat.le_of_ble_eq_true rfl) ⟨Nat.le_refl _, Nat.le_refl _, Nat.le_refl _⟩ ?_
      refine PAt.mono h (fun v κ gi75 gl76 hq => ?_)
      obtain ⟨rfl, -, h⟩ := hq
      exact px_return dX12_readSign_28 rfl rfl ⟨rfl, rfl, h⟩
abbrev p_X12_readSigns_13 (x1 : Int32) (x3 : Int32) (gi : Gi) (gl : Gl) (Q : Int32 → Gi → Gl → Prop) : Prop := PAt mX12_readSigns NN NN κF 13 [some (.ref 329), some (.int x1), none, some (.int x3)] [] gi gl (RiQ Q)
def f_X12_readSigns (x1 : Int32) (x2 : Int32) (gi : Gi) (gl : Gl) (Q : Int32 → Gi → Gl → Prop) : Prop :=
if ¬ (gi 329 41) = 0 then
(p_X12_readSigns_13 x1 x2 gi gl Q)
else
(p_X12_errs  gi gl (fun (gi1 : Gi) (gl2 : Gl) =>
p_X12_readSigns_13 x1 x2 gi1 gl2 Q))
def f_X12_readSigns_13 (x1 : Int32) (x3 : Int32) (gi : Gi) (gl : Gl) (Q : Int32 → Gi → Gl → Prop) : Prop :=
if (gi 329 41) = 0 then
(if (gi 329 44) = 0 then
(Q x3 gi gl)
else
(Q ((-1) : Int32) gi gl))
else
(if ¬ (gi 329 44) = 0 then
(if (gi 329 44) = 0 then
(Q x3 gi gl)
else
(Q ((-1) : Int32) gi gl))
else
(p_X12_readSign x1 x3 gi gl (fun (gi1 : Gi) (gl2 : Gl) =>
p_X12_readSigns_13 x1 (x3 + (1 : Int32)) gi1 gl2 Q)))
set_option maxRecDepth 100000 in
theorem v_X12_readSigns {x1 : Int32} {x2 : Int32} {gi : Gi} {gl : Gl} {Q : Int32 → Gi → Gl → Prop}  (h : f_X12_readSigns x1 x2 gi gl Q) : p_X12_readSigns x1 x2 gi gl Q := by
  unfold f_X12_readSigns at h
  show PAt mX12_readSigns NN NN κF 0 [some (.ref 329), some (.int x1), some (.int x2), none] [] gi gl _
  refine px_iload_n dX12_readSigns_0 rfl rfl ?_
  refine px_istore_n (ls2 := [some (.ref 329), some (.int x1), some (.int x2), some (.int x2)]) (i := 3) rfl dX12_readSigns_1 (by decide) rfl ?_
  refine px_aload_n dX12_readSigns_2 rfl rfl ?_
  refine gf_X12_186 rfl dX12_readSigns_3 zl_329 zk_329 ?_
  refine px_if_ne (tgt := 13) dX12_readSigns_6 (by decide) ?_
  by_cases hc : ¬ (gi 329 41) = 0
  · rw [if_pos hc] at h ⊢
    exact PAt.forget h (lsub_at ⟨rfl, ⟨rfl, ⟨rfl, trivial⟩⟩⟩)
  · rw [if_neg hc] at h ⊢
    refine px_aload_n dX12_readSigns_9 rfl rfl ?_
    refine px_callV_V (As := []) (st := []) dX12_readSigns_10 lk_X12_207.1 lk_X12_207.2 (b := 329) zl_329 zk_329 (by decide) rfl (by decide) rfl (Nat.le_of_ble_eq_true rfl) rfl rfl (Nat.le_of_ble_eq_true rfl) ⟨Nat.le_refl _, Nat.le_refl _, Nat.le_refl _⟩ ?_
    refine PAt.mono h (fun v κ gi1 gl2 hq => ?_)
    obtain ⟨rfl, -, h⟩ := hq
    exact PAt.forget h (lsub_at ⟨rfl, ⟨rfl, ⟨rfl, trivial⟩⟩⟩)
set_option maxRecDepth 100000 in
theorem v_X12_readSigns_13 {x1 : Int32} {x3 : Int32} {gi : Gi} {gl : Gl} {Q : Int32 → Gi → Gl → Prop}  (h : f_X12_readSigns_13 x1 x3 gi gl Q) : p_X12_readSigns_13 x1 x3 gi gl Q := by
  unfold f_X12_readSigns_13 at h
  show PAt mX12_readSigns NN NN κF 13 [some (.ref 329), some (.int x1), none, some (.int x3)] [] gi gl _
  refine px_aload_n dX12_readSigns_13 rfl rfl ?_
  refine gf_X12_186 rfl dX12_readSigns_14 zl_329 zk_329 ?_
  refine px_if_eq (tgt := 39) dX12_readSigns_17 (by decide) ?_
  by_cases hc : (gi 329 41) = 0
  · rw [if_pos hc] at h ⊢
    refine px_aload_n dX12_readSigns_39 rfl rfl ?_
    refine gf_X12_196 rfl dX12_readSigns_40 zl_329 zk_329 ?_
    refine px_if_eq (tgt := 50) dX12_readSigns_43 (by decide) ?_
    by_cases hc : (gi 329 44) = 0
    · rw [if_pos hc] at h ⊢
      refine px_iload_n dX12_readSigns_50 rfl rfl ?_
      exact px_ireturn dX12_readSigns_51 rfl ⟨.int, rfl, rfl, rfl⟩ ⟨rfl, _, rfl, h⟩
    · rw [if_neg hc] at h ⊢
      refine px_iconst (v := ((-1) : Int32)) dX12_readSigns_46 (by decide) ?_
      refine px_goto (tgt := 51) dX12_readSigns_47 (by decide) ?_
      exact px_ireturn dX12_readSigns_51 rfl ⟨.int, rfl, rfl, rfl⟩ ⟨rfl, _, rfl, h⟩
  · rw [if_neg hc] at h ⊢
    refine px_aload_n dX12_readSigns_20 rfl rfl ?_
    refine gf_X12_196 rfl dX12_readSigns_21 zl_329 zk_329 ?_
    refine px_if_ne (tgt := 39) dX12_readSigns_24 (by decide) ?_
    by_cases hc : ¬ (gi 329 44) = 0
    · rw [if_pos hc] at h ⊢
      refine px_aload_n dX12_readSigns_39 rfl rfl ?_
      refine gf_X12_196 rfl dX12_readSigns_40 zl_329 zk_329 ?_
      refine px_if_eq (tgt := 50) dX12_readSigns_43 (by decide) ?_
      by_cases hc : (gi 329 44) = 0
      · rw [if_pos hc] at h ⊢
        refine px_iload_n dX12_readSigns_50 rfl rfl ?_
        exact px_ireturn dX12_readSigns_51 rfl ⟨.int, rfl, rfl, rfl⟩ ⟨rfl, _, rfl, h⟩
      · rw [if_neg hc] at h ⊢
        refine px_iconst (v := ((-1) : Int32)) dX12_readSigns_46 (by decide) ?_
        refine px_goto (tgt := 51) dX12_readSigns_47 (by decide) ?_
        exact px_ireturn dX12_readSigns_51 rfl ⟨.int, rfl, rfl, rfl⟩ ⟨rfl, _, rfl, h⟩
    · rw [if_neg hc] at h ⊢
      refine px_aload_n dX12_readSigns_27 rfl rfl ?_
      refine px_iload_n dX12_readSigns_28 rfl rfl ?_
      refine px_iload_n dX12_readSigns_29 rfl rfl ?_
      refine px_callV_V (As := [.int x1, .int x3]) (st := []) dX12_readSigns_30 lk_X12_340.1 lk_X12_340.2 (b := 329) zl_329 zk_329 (by decide) rfl (by decide) rfl (Nat.le_of_ble_eq_true rfl) rfl rfl (Nat.le_of_ble_eq_true rfl) ⟨Nat.le_refl _, Nat.le_refl _, Nat.le_refl _⟩ ?_
      refine PAt.mono h (fun v κ gi1 gl2 hq => ?_)
      obtain ⟨rfl, -, h⟩ := hq
      refine px_iinc (v := x3 + (1 : Int32)) (ls2 := [some (.ref 329), some (.int x1), none, some (.int (x3 + (1 : Int32)))]) dX12_readSigns_33 rfl rfl (by decide) rfl ?_
      refine px_goto (tgt := 13) dX12_readSigns_36 (by decide) ?_
      exact PAt.forget h (lsub_at ⟨rfl, ⟨rfl, ⟨rfl, trivial⟩⟩⟩)
def f_X12_isPicture (x1 : Int32) (gi : Gi) (gl : Gl) (Q : Int32 → Gi → Gl → Prop) : Prop :=
if x1 < 0 then
(Q (0 : Int32) gi gl)
else
(if (gi 355 (0 : Int32).toNatClampNeg) ≤ x1 then
(Q (0 : Int32) gi gl)
else
(Q (1 : Int32) gi gl))
set_option maxRecDepth 100000 in
theorem v_X12_isPicture {x1 : Int32} {gi : Gi} {gl : Gl} {Q : Int32 → Gi → Gl → Prop}  (h : f_X12_isPicture x1 gi gl Q) : p_X12_isPicture x1 gi gl Q := by
  unfold f_X12_isPicture at h
  show PAt mX12_isPicture NN NN κF 0 [some (.ref 329), some (.int x1)] [] gi gl _
  refine px_iload_n dX12_isPicture_0 rfl rfl ?_
  refine px_if_lt (tgt := 18) dX12_isPicture_1 (by decide) ?_
  by_cases hc : x1 < 0
  · rw [if_pos hc] at h ⊢
    refine px_iconst (v := (0 : Int32)) dX12_isPicture_18 (by decide) ?_
    exact px_ireturn dX12_isPicture_19 rfl ⟨.boolean, rfl, rfl, by decide⟩ ⟨rfl, _, rfl, h⟩
  · rw [if_neg hc] at h ⊢
    refine px_iload_n dX12_isPicture_4 rfl rfl ?_
    refine px_aload_n dX12_isPicture_5 rfl rfl ?_
    refine gf_X12_86 rfl dX12_isPicture_6 zl_329 zk_329 rfl zr_329_27 zl_355 ?_
    refine px_iconst (v := (0 : Int32)) dX12_isPicture_9 (by decide) ?_
    refine px_iaload (n := 5) dX12_isPicture_10 zl_355 zk_355 zs_355 (vp_lit (by decide)) ?_
    refine px_icmp_ge (tgt := 18) dX12_isPicture_11 (by decide) ?_
    by_cases hc : (gi 355 (0 : Int32).toNatClampNeg) ≤ x1
    · rw [if_pos hc] at h ⊢
      refine px_iconst (v := (0 : Int32)) dX12_isPicture_18 (by decide) ?_
      exact px_ireturn dX12_isPicture_19 rfl ⟨.boolean, rfl, rfl, by decide⟩ ⟨rfl, _, rfl, h⟩
    · rw [if_neg hc] at h ⊢
      refine px_iconst (v := (1 : Int32)) dX12_isPicture_14 (by decide) ?_
      refine px_goto (tgt := 19) dX12_isPicture_15 (by decide) ?_
      exact px_ireturn dX12_isPicture_19 rfl ⟨.boolean, rfl, rfl, by decide⟩ ⟨rfl, _, rfl, h⟩
def f_X12_picture (x1 : Int32) (gi : Gi) (gl : Gl) (Q : Int32 → Gi → Gl → Prop) : Prop :=
if x1 < 0 then
(Q ((-2) : Int32) gi gl)
else
(if x1 ≤ (gi 329 36) then
(if ¬ (gi 355 (0 : Int32).toNatClampNeg) = (8 : Int32) then
(p_X12_beginsText x1 gi gl (fun (gi1 : Gi) (gl2 : Gl) =>
p_X12_readSigns (gi1 355 (0 : Int32).toNatClampNeg) (0 : Int32) gi1 gl2 (fun (r5 : Int32) (gi3 : Gi) (gl4 : Gl) =>
if 0 ≤ r5 then
(vp_in (gi3 355 (0 : Int32).toNatClampNeg) 40 ∧
∀ gi6 : Gi, gi6 = uI gi3 356 (upd (gi3 356) (gi3 355 (0 : Int32).toNatClampNeg).toNatClampNeg r5) →
∀ gi7 : Gi, gi7 = uI gi6 355 (upd (gi6 355) (0 : Int32).toNatClampNeg ((gi6 355 (0 : Int32).toNatClampNeg) + (1 : Int32))) →
Q ((gi7 355 (0 : Int32).toNatClampNeg) - (1 : Int32)) gi7 gl4)
else
(Q ((-1) : Int32) gi3 gl4))))
else
(Q ((-3) : Int32) gi gl))
else
(Q ((-2) : Int32) gi gl))
set_option maxRecDepth 100000 in
theorem v_X12_picture {x1 : Int32} {gi : Gi} {gl : Gl} {Q : Int32 → Gi → Gl → Prop}  (h : f_X12_picture x1 gi gl Q) : p_X12_picture x1 gi gl Q := by
  unfold f_X12_picture at h
  show PAt mX12_picture NN NN κF 0 [some (.ref 329), some (.int x1), none] [] gi gl _
  refine px_iload_n dX12_picture_0 rfl rfl ?_
  refine px_if_lt (tgt := 12) dX12_picture_1 (by decide) ?_
  by_cases hc : x1 < 0
  · rw [if_pos hc] at h ⊢
    refine px_bipush (v := ((-2) : Int32)) dX12_picture_12 (by decide) ?_
    exact px_ireturn dX12_picture_14 rfl ⟨.int, rfl, rfl, rfl⟩ ⟨rfl, _, rfl, h⟩
  · rw [if_neg hc] at h ⊢
    refine px_iload_n dX12_picture_4 rfl rfl ?_
    refine px_aload_n dX12_picture_5 rfl rfl ?_
    refine gf_X12_161 rfl dX12_picture_6 zl_329 zk_329 ?_
    refine px_icmp_le (tgt := 15) dX12_picture_9 (by decide) ?_
    by_cases hc : x1 ≤ (gi 329 36)
    · rw [if_pos hc] at h ⊢
      refine px_aload_n dX12_picture_15 rfl rfl ?_
      refine gf_X12_86 rfl dX12_picture_16 zl_329 zk_329 rfl zr_329_27 zl_355 ?_
      refine px_iconst (v := (0 : Int32)) dX12_picture_19 (by decide) ?_
      refine px_iaload (n := 5) dX12_picture_20 zl_355 zk_355 zs_355 (vp_lit (by decide)) ?_
      refine px_bipush (v := (8 : Int32)) dX12_picture_21 (by decide) ?_
      refine px_icmp_ne (tgt := 29) dX12_picture_23 (by decide) ?_
      by_cases hc : ¬ (gi 355 (0 : Int32).toNatClampNeg) = (8 : Int32)
      · rw [if_pos hc] at h ⊢
        refine px_aload_n dX12_picture_29 rfl rfl ?_
        refine px_iload_n dX12_picture_30 rfl rfl ?_
        refine px_callV_V (As := [.int x1]) (st := []) dX12_picture_31 lk_X12_308.1 lk_X12_308.2 (b := 329) zl_329 zk_329 (by decide) rfl (by decide) rfl (Nat.le_of_ble_eq_true rfl) rfl rfl (Nat.le_of_ble_eq_true rfl) ⟨Nat.le_refl _, Nat.le_refl _, Nat.le_refl _⟩ ?_
        refine PAt.mono h (fun v κ gi1 gl2 hq => ?_)
        obtain ⟨rfl, -, h⟩ := hq
        refine px_aload_n dX12_picture_34 rfl rfl ?_
        refine px_aload_n dX12_picture_35 rfl rfl ?_
        refine gf_X12_86 rfl dX12_picture_36 zl_329 zk_329 rfl zr_329_27 zl_355 ?_
        refine px_iconst (v := (0 : Int32)) dX12_picture_39 (by decide) ?_
        refine px_iaload (n := 5) dX12_picture_40 zl_355 zk_355 zs_355 (vp_lit (by decide)) ?_
        refine px_iconst (v := (0 : Int32)) dX12_picture_41 (by decide) ?_
        refine px_callV_I (As := [.int (gi1 355 (0 : Int32).toNatClampNeg), .int (0 : Int32)]) (st := []) dX12_picture_42 lk_X12_344.1 lk_X12_344.2 (b := 329) zl_329 zk_329 (by decide) rfl (by decide) rfl (Nat.le_of_ble_eq_true rfl) rfl rfl (Nat.le_of_ble_eq_true rfl) ⟨Nat.le_refl _, Nat.le_refl _, Nat.le_refl _⟩ ?_
        refine PAt.mono h (fun v κ gi3 gl4 hq => ?_)
        obtain ⟨rfl, r5, rfl, h⟩ := hq
        refine px_istore_n (ls2 := [some (.ref 329), some (.int x1), some (.int r5)]) (i := 2) rfl dX12_picture_45 (by decide) rfl ?_
        refine px_iload_n dX12_picture_46 rfl rfl ?_
        refine px_if_ge (tgt := 52) dX12_picture_47 (by decide) ?_
        by_cases hc : 0 ≤ r5
        · rw [if_pos hc] at h ⊢
          refine px_aload_n dX12_picture_52 rfl rfl ?_
          refine gf_X12_89 rfl dX12_picture_53 zl_329 zk_329 rfl zr_329_28 zl_356 ?_
          refine px_aload_n dX12_picture_56 rfl rfl ?_
          refine gf_X12_86 rfl dX12_picture_57 zl_329 zk_329 rfl zr_329_27 zl_355 ?_
          refine px_iconst (v := (0 : Int32)) dX12_picture_60 (by decide) ?_
          refine px_iaload (n := 5) dX12_picture_61 zl_355 zk_355 zs_355 (vp_lit (by decide)) ?_
          refine px_iload_n dX12_picture_62 rfl rfl ?_
          obtain ⟨hi, h⟩ := h
          refine px_iastore (n := 40) dX12_picture_63 zl_356 zk_356 zs_356 hi ?_
          obtain ⟨gi6, hgi6⟩ : ∃ y : Gi, y = uI gi3 356 (upd (gi3 356) (gi3 355 (0 : Int32).toNatClampNeg).toNatClampNeg r5) := ⟨_, rfl⟩
          have h := h gi6 hgi6
          refine px_namegi hgi6 ?_
          refine px_aload_n dX12_picture_64 rfl rfl ?_
          refine gf_X12_86 rfl dX12_picture_65 zl_329 zk_329 rfl zr_329_27 zl_355 ?_
          refine px_iconst (v := (0 : Int32)) dX12_picture_68 (by decide) ?_
          refine px_dup2 dX12_picture_69 rfl rfl ?_
          refine px_iaload (n := 5) dX12_picture_70 zl_355 zk_355 zs_355 (vp_lit (by decide)) ?_
          refine px_iconst (v := (1 : Int32)) dX12_picture_71 (by decide) ?_
          refine px_iadd dX12_picture_72 ?_
          refine px_iastore (n := 5) dX12_picture_73 zl_355 zk_355 zs_355 (vp_lit (by decide)) ?_
          obtain ⟨gi7, hgi7⟩ : ∃ y : Gi, y = uI gi6 355 (upd (gi6 355) (0 : Int32).toNatClampNeg ((gi6 355 (0 : Int32).toNatClampNeg) + (1 : Int32))) := ⟨_, rfl⟩
          have h := h gi7 hgi7
          refine px_namegi hgi7 ?_
          refine px_aload_n dX12_picture_74 rfl rfl ?_
          refine gf_X12_86 rfl dX12_picture_75 zl_329 zk_329 rfl zr_329_27 zl_355 ?_
          refine px_iconst (v := (0 : Int32)) dX12_picture_78 (by decide) ?_
          refine px_iaload (n := 5) dX12_picture_79 zl_355 zk_355 zs_355 (vp_lit (by decide)) ?_
          refine px_iconst (v := (1 : Int32)) dX12_picture_80 (by decide) ?_
          refine px_isub dX12_picture_81 ?_
          exact px_ireturn dX12_picture_82 rfl ⟨.int, rfl, rfl, rfl⟩ ⟨rfl, _, rfl, h⟩
        · rw [if_neg hc] at h ⊢
          refine px_iconst (v := ((-1) : Int32)) dX12_picture_50 (by decide) ?_
          exact px_ireturn dX12_picture_51 rfl ⟨.int, rfl, rfl, rfl⟩ ⟨rfl, _, rfl, h⟩
      · rw [if_neg hc] at h ⊢
        refine px_bipush (v := ((-3) : Int32)) dX12_picture_26 (by decide) ?_
        exact px_ireturn dX12_picture_28 rfl ⟨.int, rfl, rfl, rfl⟩ ⟨rfl, _, rfl, h⟩
    · rw [if_neg hc] at h ⊢
      refine px_bipush (v := ((-2) : Int32)) dX12_picture_12 (by decide) ?_
      exact px_ireturn dX12_picture_14 rfl ⟨.int, rfl, rfl, rfl⟩ ⟨rfl, _, rfl, h⟩
def f_X12_more (x1 : Int32) (x2 : Int32) (gi : Gi) (gl : Gl) (Q : Int32 → Gi → Gl → Prop) : Prop :=
p_X12_isPicture x1 gi gl (fun (r3 : Int32) (gi1 : Gi) (gl2 : Gl) =>
if r3 = 0 then
(Q ((-2) : Int32) gi1 gl2)
else
(if x2 < 0 then
(Q ((-2) : Int32) gi1 gl2)
else
(if x2 ≤ (gi1 329 36) then
(p_X12_beginsText x2 gi1 gl2 (fun (gi4 : Gi) (gl5 : Gl) =>
vp_in x1 40 ∧
p_X12_readSigns x1 (gi4 356 x1.toNatClampNeg) gi4 gl5 (fun (r8 : Int32) (gi6 : Gi) (gl7 : Gl) =>
if 0 ≤ r8 then
(vp_in x1 40 ∧
∀ gi9 : Gi, gi9 = uI gi6 356 (upd (gi6 356) x1.toNatClampNeg r8) →
Q r8 gi9 gl7)
else
(Q ((-1) : Int32) gi6 gl7))))
else
(Q ((-2) : Int32) gi1 gl2))))
set_option maxRecDepth 100000 in
theorem v_X12_more {x1 : Int32} {x2 : Int32} {gi : Gi} {gl : Gl} {Q : Int32 → Gi → Gl → Prop}  (h : f_X12_more x1 x2 gi gl Q) : p_X12_more x1 x2 gi gl Q := by
  unfold f_X12_more at h
  show PAt mX12_more NN NN κF 0 [some (.ref 329), some (.int x1), some (.int x2), none] [] gi gl _
  refine px_aload_n dX12_more_0 rfl rfl ?_
  refine px_iload_n dX12_more_1 rfl rfl ?_
  refine px_callV_I (As := [.int x1]) (st := []) dX12_more_2 lk_X12_347.1 lk_X12_347.2 (b := 329) zl_329 zk_329 (by decide) rfl (by decide) rfl (Nat.le_of_ble_eq_true rfl) rfl rfl (Nat.le_of_ble_eq_true rfl) ⟨Nat.le_refl _, Nat.le_refl _, Nat.le_refl _⟩ ?_
  refine PAt.mono h (fun v κ gi1 gl2 hq => ?_)
  obtain ⟨rfl, r3, rfl, h⟩ := hq
  refine px_if_eq (tgt := 20) dX12_more_5 (by decide) ?_
  by_cases hc : r3 = 0
  · rw [if_pos hc] at h ⊢
    refine px_bipush (v := ((-2) : Int32)) dX12_more_20 (by decide) ?_
    exact px_ireturn dX12_more_22 rfl ⟨.int, rfl, rfl, rfl⟩ ⟨rfl, _, rfl, h⟩
  · rw [if_neg hc] at h ⊢
    refine px_iload_n dX12_more_8 rfl rfl ?_
    refine px_if_lt (tgt := 20) dX12_more_9 (by decide) ?_
    by_cases hc : x2 < 0
    · rw [if_pos hc] at h ⊢
      refine px_bipush (v := ((-2) : Int32)) dX12_more_20 (by decide) ?_
      exact px_ireturn dX12_more_22 rfl ⟨.int, rfl, rfl, rfl⟩ ⟨rfl, _, rfl, h⟩
    · rw [if_neg hc] at h ⊢
      refine px_iload_n dX12_more_12 rfl rfl ?_
      refine px_aload_n dX12_more_13 rfl rfl ?_
      refine gf_X12_161 rfl dX12_more_14 zl_329 zk_329 ?_
      refine px_icmp_le (tgt := 23) dX12_more_17 (by decide) ?_
      by_cases hc : x2 ≤ (gi1 329 36)
      · rw [if_pos hc] at h ⊢
        refine px_aload_n dX12_more_23 rfl rfl ?_
        refine px_iload_n dX12_more_24 rfl rfl ?_
        refine px_callV_V (As := [.int x2]) (st := []) dX12_more_25 lk_X12_308.1 lk_X12_308.2 (b := 329) zl_329 zk_329 (by decide) rfl (by decide) rfl (Nat.le_of_ble_eq_true rfl) rfl rfl (Nat.le_of_ble_eq_true rfl) ⟨Nat.le_refl _, Nat.le_refl _, Nat.le_refl _⟩ ?_
        refine PAt.mono h (fun v κ gi4 gl5 hq => ?_)
        obtain ⟨rfl, -, h⟩ := hq
        refine px_aload_n dX12_more_28 rfl rfl ?_
        refine px_iload_n dX12_more_29 rfl rfl ?_
        refine px_aload_n dX12_more_30 rfl rfl ?_
        refine gf_X12_89 rfl dX12_more_31 zl_329 zk_329 rfl zr_329_28 zl_356 ?_
        refine px_iload_n dX12_more_34 rfl rfl ?_
        obtain ⟨hi, h⟩ := h
        refine px_iaload (n := 40) dX12_more_35 zl_356 zk_356 zs_356 hi ?_
        refine px_callV_I (As := [.int x1, .int (gi4 356 x1.toNatClampNeg)]) (st := []) dX12_more_36 lk_X12_344.1 lk_X12_344.2 (b := 329) zl_329 zk_329 (by decide) rfl (by decide) rfl (Nat.le_of_ble_eq_true rfl) rfl rfl (Nat.le_of_ble_eq_true rfl) ⟨Nat.le_refl _, Nat.le_refl _, Nat.le_refl _⟩ ?_
        refine PAt.mono h (fun v κ gi6 gl7 hq => ?_)
        obtain ⟨rfl, r8, rfl, h⟩ := hq
        refine px_istore_n (ls2 := [some (.ref 329), some (.int x1), some (.int x2), some (.int r8)]) (i := 3) rfl dX12_more_39 (by decide) rfl ?_
        refine px_iload_n dX12_more_40 rfl rfl ?_
        refine px_if_ge (tgt := 46) dX12_more_41 (by decide) ?_
        by_cases hc : 0 ≤ r8
        · rw [if_pos hc] at h ⊢
          refine px_aload_n dX12_more_46 rfl rfl ?_
          refine gf_X12_89 rfl dX12_more_47 zl_329 zk_329 rfl zr_329_28 zl_356 ?_
          refine px_iload_n dX12_more_50 rfl rfl ?_
          refine px_iload_n dX12_more_51 rfl rfl ?_
          obtain ⟨hi, h⟩ := h
          refine px_iastore (n := 40) dX12_more_52 zl_356 zk_356 zs_356 hi ?_
          obtain ⟨gi9, hgi9⟩ : ∃ y : Gi, y = uI gi6 356 (upd (gi6 356) x1.toNatClampNeg r8) := ⟨_, rfl⟩
          have h := h gi9 hgi9
          refine px_namegi hgi9 ?_
          refine px_iload_n dX12_more_53 rfl rfl ?_
          exact px_ireturn dX12_more_54 rfl ⟨.int, rfl, rfl, rfl⟩ ⟨rfl, _, rfl, h⟩
        · rw [if_neg hc] at h ⊢
          refine px_iconst (v := ((-1) : Int32)) dX12_more_44 (by decide) ?_
          exact px_ireturn dX12_more_45 rfl ⟨.int, rfl, rfl, rfl⟩ ⟨rfl, _, rfl, h⟩
      · rw [if_neg hc] at h ⊢
        refine px_bipush (v := ((-2) : Int32)) dX12_more_20 (by decide) ?_
        exact px_ireturn dX12_more_22 rfl ⟨.int, rfl, rfl, rfl⟩ ⟨rfl, _, rfl, h⟩
def f_X12_fault  (gi : Gi) (gl : Gl) (Q : Int32 → Gi → Gl → Prop) : Prop :=
Q (gi 329 37) gi gl
set_option maxRecDepth 100000 in
theorem v_X12_fault  {gi : Gi} {gl : Gl} {Q : Int32 → Gi → Gl → Prop}  (h : f_X12_fault  gi gl Q) : p_X12_fault  gi gl Q := by
  unfold f_X12_fault at h
  show PAt mX12_fault NN NN κF 0 [some (.ref 329)] [] gi gl _
  refine px_aload_n dX12_fault_0 rfl rfl ?_
  refine gf_X12_114 rfl dX12_fault_1 zl_329 zk_329 ?_
  exact px_ireturn dX12_fault_4 rfl ⟨.int, rfl, rfl, rfl⟩ ⟨rfl, _, rfl, h⟩
def f_X12_told (x1 : Int32) (gi : Gi) (gl : Gl) (Q : Int32 → Gi → Gl → Prop) : Prop :=
vp_in (gi 329 0) 2 ∧
p_X12_within x1 (100 : Int32) ((99 : Int32) + ((4 : Int32) * (gi 330 (gi 329 0).toNatClampNeg))) gi gl (fun (r3 : Int32) (gi1 : Gi) (gl2 : Gl) =>
if r3 = 0 then
(vp_in (gi1 329 0) 2 ∧
p_X12_within x1 (200 : Int32) ((199 : Int32) + ((3 : Int32) * (gi1 332 (gi1 329 0).toNatClampNeg))) gi1 gl2 (fun (r6 : Int32) (gi4 : Gi) (gl5 : Gl) =>
if r6 = 0 then
(if x1 = (0 : Int32) then
(vp_in (gi4 329 0) 2 ∧
Q (gi4 330 (gi4 329 0).toNatClampNeg) gi4 gl5)
else (
if x1 = (1 : Int32) then
(vp_in (gi4 329 0) 2 ∧
Q (gi4 331 (gi4 329 0).toNatClampNeg) gi4 gl5)
else (
if x1 = (2 : Int32) then
(vp_in (gi4 329 0) 2 ∧
Q (gi4 332 (gi4 329 0).toNatClampNeg) gi4 gl5)
else (
if x1 = (3 : Int32) then
(vp_in (gi4 329 0) 2 ∧
Q (gi4 333 (gi4 329 0).toNatClampNeg) gi4 gl5)
else (
if x1 = (4 : Int32) then
(vp_in (gi4 329 0) 2 ∧
Q (gi4 334 (gi4 329 0).toNatClampNeg) gi4 gl5)
else (
if x1 = (5 : Int32) then
(vp_in (gi4 329 0) 2 ∧
Q (gi4 335 (gi4 329 0).toNatClampNeg) gi4 gl5)
else (
Q ((-1) : Int32) gi4 gl5)))))))
else
(∀ z7 : Int32, z7 = ((10 : Int32) * (gi4 329 0)) + ((x1 - (200 : Int32)) / (3 : Int32)) →
∀ z8 : Int32, z8 = jr (x1 - (200 : Int32)) (3 : Int32) →
if ¬ z8 = 0 then
(if ¬ z8 = (1 : Int32) then
(vp_in z7 20 ∧
Q (gi4 348 z7.toNatClampNeg) gi4 gl5)
else
(vp_in z7 20 ∧
Q (gi4 347 z7.toNatClampNeg) gi4 gl5))
else
(vp_in z7 20 ∧
Q (gi4 346 z7.toNatClampNeg) gi4 gl5))))
else
(∀ z9 : Int32, z9 = ((12 : Int32) * (gi1 329 0)) + ((x1 - (100 : Int32)) / (4 : Int32)) →
∀ z10 : Int32, z10 = jr x1 (4 : Int32) →
if ¬ z10 = 0 then
(if ¬ z10 = (1 : Int32) then
(if ¬ z10 = (2 : Int32) then
(vp_in z9 24 ∧
Q (gi1 343 z9.toNatClampNeg) gi1 gl2)
else
(vp_in z9 24 ∧
Q (gi1 342 z9.toNatClampNeg) gi1 gl2))
else
(vp_in z9 24 ∧
Q (gi1 341 z9.toNatClampNeg) gi1 gl2))
else
(vp_in z9 24 ∧
Q (gi1 340 z9.toNatClampNeg) gi1 gl2)))
set_option maxRecDepth 100000 in
theorem v_X12_told {x1 : Int32} {gi : Gi} {gl : Gl} {Q : Int32 → Gi → Gl → Prop}  (h : f_X12_told x1 gi gl Q) : p_X12_told x1 gi gl Q := by
  unfold f_X12_told at h
  show PAt mX12_told NN NN κF 0 [some (.ref 329), some (.int x1), none, none] [] gi gl _
  refine px_iload_n dX12_told_0 rfl rfl ?_
  refine px_bipush (v := (100 : Int32)) dX12_told_1 (by decide) ?_
  refine px_bipush (v := (99 : Int32)) dX12_told_3 (by decide) ?_
  refine px_iconst (v := (4 : Int32)) dX12_told_5 (by decide) ?_
  refine px_aload_n dX12_told_6 rfl rfl ?_
  refine gf_X12_7 rfl dX12_told_7 zl_329 zk_329 rfl zr_329_2 zl_330 ?_
  refine px_aload_n dX12_told_10 rfl rfl ?_
  refine gf_X12_312 rfl dX12_told_11 zl_329 zk_329 ?_
  obtain ⟨hi, h⟩ := h
  refine px_iaload (n := 2) dX12_told_14 zl_330 zk_330 zs_330 hi ?_
  refine px_imul dX12_told_15 ?_
  refine px_iadd dX12_told_16 ?_
  refine px_callS_I (As := [.int x1, .int (100 : Int32), .int ((99 : Int32) + ((4 : Int32) * (gi 330 (gi 329 0).toNatClampNeg)))]) (st := []) dX12_told_17 lk_X12_189.1 lk_X12_189.2 (by decide) rfl (Nat.le_of_ble_eq_true rfl) rfl rfl (Nat.le_of_ble_eq_true rfl) ⟨Nat.le_refl _, Nat.le_refl _, Nat.le_refl _⟩ ?_
  refine PAt.mono h (fun v κ gi1 gl2 hq => ?_)
  obtain ⟨rfl, r3, rfl, h⟩ := hq
  refine px_if_eq (tgt := 90) dX12_told_20 (by decide) ?_
  by_cases hc : r3 = 0
  · rw [if_pos hc] at h ⊢
    refine px_iload_n dX12_told_90 rfl rfl ?_
    refine px_sipush (v := (200 : Int32)) dX12_told_91 (by decide) ?_
    refine px_sipush (v := (199 : Int32)) dX12_told_94 (by decide) ?_
    refine px_iconst (v := (3 : Int32)) dX12_told_97 (by decide) ?_
    refine px_aload_n dX12_told_98 rfl rfl ?_
    refine gf_X12_16 rfl dX12_told_99 zl_329 zk_329 rfl zr_329_4 zl_332 ?_
    refine px_aload_n dX12_told_102 rfl rfl ?_
    refine gf_X12_312 rfl dX12_told_103 zl_329 zk_329 ?_
    obtain ⟨hi, h⟩ := h
    refine px_iaload (n := 2) dX12_told_106 zl_332 zk_332 zs_332 hi ?_
    refine px_imul dX12_told_107 ?_
    refine px_iadd dX12_told_108 ?_
    refine px_callS_I (As := [.int x1, .int (200 : Int32), .int ((199 : Int32) + ((3 : Int32) * (gi1 332 (gi1 329 0).toNatClampNeg)))]) (st := []) dX12_told_109 lk_X12_189.1 lk_X12_189.2 (by decide) rfl (Nat.le_of_ble_eq_true rfl) rfl rfl (Nat.le_of_ble_eq_true rfl) ⟨Nat.le_refl _, Nat.le_refl _, Nat.le_refl _⟩ ?_
    refine PAt.mono h (fun v κ gi4 gl5 hq => ?_)
    obtain ⟨rfl, r6, rfl, h⟩ := hq
    refine px_if_eq (tgt := 173) dX12_told_112 (by decide) ?_
    by_cases hc : r6 = 0
    · rw [if_pos hc] at h ⊢
      refine px_iload_n dX12_told_173 rfl rfl ?_
      by_cases hc0 : x1 = (0 : Int32)
      · rw [if_pos hc0] at h
        refine px_tblIn (tgt := 212) (off := 38) dX12_told_174 (by rw [hc0]; decide) (by rw [hc0]; decide) (by rw [hc0]; decide) (by decide) ?_
        refine px_aload_n dX12_told_212 rfl rfl ?_
        refine gf_X12_7 rfl dX12_told_213 zl_329 zk_329 rfl zr_329_2 zl_330 ?_
        refine px_aload_n dX12_told_216 rfl rfl ?_
        refine gf_X12_312 rfl dX12_told_217 zl_329 zk_329 ?_
        obtain ⟨hi, h⟩ := h
        refine px_iaload (n := 2) dX12_told_220 zl_330 zk_330 zs_330 hi ?_
        exact px_ireturn dX12_told_221 rfl ⟨.int, rfl, rfl, rfl⟩ ⟨rfl, _, rfl, h⟩
      · rw [if_neg hc0] at h
        by_cases hc1 : x1 = (1 : Int32)
        · rw [if_pos hc1] at h
          refine px_tblIn (tgt := 222) (off := 48) dX12_told_174 (by rw [hc1]; decide) (by rw [hc1]; decide) (by rw [hc1]; decide) (by decide) ?_
          refine px_aload_n dX12_told_222 rfl rfl ?_
          refine gf_X12_13 rfl dX12_told_223 zl_329 zk_329 rfl zr_329_3 zl_331 ?_
          refine px_aload_n dX12_told_226 rfl rfl ?_
          refine gf_X12_312 rfl dX12_told_227 zl_329 zk_329 ?_
          obtain ⟨hi, h⟩ := h
          refine px_iaload (n := 2) dX12_told_230 zl_331 zk_331 zs_331 hi ?_
          exact px_ireturn dX12_told_231 rfl ⟨.int, rfl, rfl, rfl⟩ ⟨rfl, _, rfl, h⟩
        · rw [if_neg hc1] at h
          by_cases hc2 : x1 = (2 : Int32)
          · rw [if_pos hc2] at h
            refine px_tblIn (tgt := 232) (off := 58) dX12_told_174 (by rw [hc2]; decide) (by rw [hc2]; decide) (by rw [hc2]; decide) (by decide) ?_
            refine px_aload_n dX12_told_232 rfl rfl ?_
            refine gf_X12_16 rfl dX12_told_233 zl_329 zk_329 rfl zr_329_4 zl_332 ?_
            refine px_aload_n dX12_told_236 rfl rfl ?_
            refine gf_X12_312 rfl dX12_told_237 zl_329 zk_329 ?_
            obtain ⟨hi, h⟩ := h
            refine px_iaload (n := 2) dX12_told_240 zl_332 zk_332 zs_332 hi ?_
            exact px_ireturn dX12_told_241 rfl ⟨.int, rfl, rfl, rfl⟩ ⟨rfl, _, rfl, h⟩
          · rw [if_neg hc2] at h
            by_cases hc3 : x1 = (3 : Int32)
            · rw [if_pos hc3] at h
              refine px_tblIn (tgt := 242) (off := 68) dX12_told_174 (by rw [hc3]; decide) (by rw [hc3]; decide) (by rw [hc3]; decide) (by decide) ?_
              refine px_aload_n dX12_told_242 rfl rfl ?_
              refine gf_X12_19 rfl dX12_told_243 zl_329 zk_329 rfl zr_329_5 zl_333 ?_
              refine px_aload_n dX12_told_246 rfl rfl ?_
              refine gf_X12_312 rfl dX12_told_247 zl_329 zk_329 ?_
              obtain ⟨hi, h⟩ := h
              refine px_iaload (n := 2) dX12_told_250 zl_333 zk_333 zs_333 hi ?_
              exact px_ireturn dX12_told_251 rfl ⟨.int, rfl, rfl, rfl⟩ ⟨rfl, _, rfl, h⟩
            · rw [if_neg hc3] at h
              by_cases hc4 : x1 = (4 : Int32)
              · rw [if_pos hc4] at h
                refine px_tblIn (tgt := 252) (off := 78) dX12_told_174 (by rw [hc4]; decide) (by rw [hc4]; decide) (by rw [hc4]; decide) (by decide) ?_
                refine px_aload_n dX12_told_252 rfl rfl ?_
                refine gf_X12_22 rfl dX12_told_253 zl_329 zk_329 rfl zr_329_6 zl_334 ?_
                refine px_aload_n dX12_told_256 rfl rfl ?_
                refine gf_X12_312 rfl dX12_told_257 zl_329 zk_329 ?_
                obtain ⟨hi, h⟩ := h
                refine px_iaload (n := 2) dX12_told_260 zl_334 zk_334 zs_334 hi ?_
                exact px_ireturn dX12_told_261 rfl ⟨.int, rfl, rfl, rfl⟩ ⟨rfl, _, rfl, h⟩
              · rw [if_neg hc4] at h
                by_cases hc5 : x1 = (5 : Int32)
                · rw [if_pos hc5] at h
                  refine px_tblIn (tgt := 262) (off := 88) dX12_told_174 (by rw [hc5]; decide) (by rw [hc5]; decide) (by rw [hc5]; decide) (by decide) ?_
                  refine px_aload_n dX12_told_262 rfl rfl ?_
                  refine gf_X12_25 rfl dX12_told_263 zl_329 zk_329 rfl zr_329_7 zl_335 ?_
                  refine px_aload_n dX12_told_266 rfl rfl ?_
                  refine gf_X12_312 rfl dX12_told_267 zl_329 zk_329 ?_
                  obtain ⟨hi, h⟩ := h
                  refine px_iaload (n := 2) dX12_told_270 zl_335 zk_335 zs_335 hi ?_
                  exact px_ireturn dX12_told_271 rfl ⟨.int, rfl, rfl, rfl⟩ ⟨rfl, _, rfl, h⟩
                · rw [if_neg hc5] at h
                  refine px_tblOut (tgt := 272) dX12_told_174 (tbl_out6 hc0 hc1 hc2 hc3 hc4 hc5) (by decide) ?_
                  refine px_iconst (v := ((-1) : Int32)) dX12_told_272 (by decide) ?_
                  exact px_ireturn dX12_told_273 rfl ⟨.int, rfl, rfl, rfl⟩ ⟨rfl, _, rfl, h⟩
    · rw [if_neg hc] at h ⊢
      refine px_bipush (v := (10 : Int32)) dX12_told_115 (by decide) ?_
      refine px_aload_n dX12_told_117 rfl rfl ?_
      refine gf_X12_312 rfl dX12_told_118 zl_329 zk_329 ?_
      refine px_imul dX12_told_121 ?_
      refine px_iload_n dX12_told_122 rfl rfl ?_
      refine px_sipush (v := (200 : Int32)) dX12_told_123 (by decide) ?_
      refine px_isub dX12_told_126 ?_
      refine px_iconst (v := (3 : Int32)) dX12_told_127 (by decide) ?_
      refine px_idiv dX12_told_128 (by decide) ?_
      refine px_iadd dX12_told_129 ?_
      obtain ⟨z7, hz7⟩ : ∃ y : Int32, y = ((10 : Int32) * (gi4 329 0)) + ((x1 - (200 : Int32)) / (3 : Int32)) := ⟨_, rfl⟩
      have h := h z7 hz7
      refine px_namei hz7 ?_
      refine px_istore_n (ls2 := [some (.ref 329), some (.int x1), some (.int z7), none]) (i := 2) rfl dX12_told_130 (by decide) rfl ?_
      refine px_iload_n dX12_told_131 rfl rfl ?_
      refine px_sipush (v := (200 : Int32)) dX12_told_132 (by decide) ?_
      refine px_isub dX12_told_135 ?_
      refine px_iconst (v := (3 : Int32)) dX12_told_136 (by decide) ?_
      refine px_irem dX12_told_137 (by decide) ?_
      obtain ⟨z8, hz8⟩ : ∃ y : Int32, y = jr (x1 - (200 : Int32)) (3 : Int32) := ⟨_, rfl⟩
      have h := h z8 hz8
      refine px_namei hz8 ?_
      refine px_istore_n (ls2 := [some (.ref 329), some (.int x1), some (.int z7), some (.int z8)]) (i := 3) rfl dX12_told_138 (by decide) rfl ?_
      refine px_iload_n dX12_told_139 rfl rfl ?_
      refine px_if_ne (tgt := 152) dX12_told_140 (by decide) ?_
      by_cases hc : ¬ z8 = 0
      · rw [if_pos hc] at h ⊢
        refine px_iload_n dX12_told_152 rfl rfl ?_
        refine px_iconst (v := (1 : Int32)) dX12_told_153 (by decide) ?_
        refine px_icmp_ne (tgt := 166) dX12_told_154 (by decide) ?_
        by_cases hc : ¬ z8 = (1 : Int32)
        · rw [if_pos hc] at h ⊢
          refine px_aload_n dX12_told_166 rfl rfl ?_
          refine gf_X12_65 rfl dX12_told_167 zl_329 zk_329 rfl zr_329_20 zl_348 ?_
          refine px_iload_n dX12_told_170 rfl rfl ?_
          obtain ⟨hi, h⟩ := h
          refine px_iaload (n := 20) dX12_told_171 zl_348 zk_348 zs_348 hi ?_
          exact px_ireturn dX12_told_172 rfl ⟨.int, rfl, rfl, rfl⟩ ⟨rfl, _, rfl, h⟩
        · rw [if_neg hc] at h ⊢
          refine px_aload_n dX12_told_157 rfl rfl ?_
          refine gf_X12_62 rfl dX12_told_158 zl_329 zk_329 rfl zr_329_19 zl_347 ?_
          refine px_iload_n dX12_told_161 rfl rfl ?_
          obtain ⟨hi, h⟩ := h
          refine px_iaload (n := 20) dX12_told_162 zl_347 zk_347 zs_347 hi ?_
          refine px_goto (tgt := 172) dX12_told_163 (by decide) ?_
          exact px_ireturn dX12_told_172 rfl ⟨.int, rfl, rfl, rfl⟩ ⟨rfl, _, rfl, h⟩
      · rw [if_neg hc] at h ⊢
        refine px_aload_n dX12_told_143 rfl rfl ?_
        refine gf_X12_59 rfl dX12_told_144 zl_329 zk_329 rfl zr_329_18 zl_346 ?_
        refine px_iload_n dX12_told_147 rfl rfl ?_
        obtain ⟨hi, h⟩ := h
        refine px_iaload (n := 20) dX12_told_148 zl_346 zk_346 zs_346 hi ?_
        refine px_goto (tgt := 172) dX12_told_149 (by decide) ?_
        exact px_ireturn dX12_told_172 rfl ⟨.int, rfl, rfl, rfl⟩ ⟨rfl, _, rfl, h⟩
  · rw [if_neg hc] at h ⊢
    refine px_bipush (v := (12 : Int32)) dX12_told_23 (by decide) ?_
    refine px_aload_n dX12_told_25 rfl rfl ?_
    refine gf_X12_312 rfl dX12_told_26 zl_329 zk_329 ?_
    refine px_imul dX12_told_29 ?_
    refine px_iload_n dX12_told_30 rfl rfl ?_
    refine px_bipush (v := (100 : Int32)) dX12_told_31 (by decide) ?_
    refine px_isub dX12_told_33 ?_
    refine px_iconst (v := (4 : Int32)) dX12_told_34 (by decide) ?_
    refine px_idiv dX12_told_35 (by decide) ?_
    refine px_iadd dX12_told_36 ?_
    obtain ⟨z9, hz9⟩ : ∃ y : Int32, y = ((12 : Int32) * (gi1 329 0)) + ((x1 - (100 : Int32)) / (4 : Int32)) := ⟨_, rfl⟩
    have h := h z9 hz9
    refine px_namei hz9 ?_
    refine px_istore_n (ls2 := [some (.ref 329), some (.int x1), some (.int z9), none]) (i := 2) rfl dX12_told_37 (by decide) rfl ?_
    refine px_iload_n dX12_told_38 rfl rfl ?_
    refine px_iconst (v := (4 : Int32)) dX12_told_39 (by decide) ?_
    refine px_irem dX12_told_40 (by decide) ?_
    obtain ⟨z10, hz10⟩ : ∃ y : Int32, y = jr x1 (4 : Int32) := ⟨_, rfl⟩
    have h := h z10 hz10
    refine px_namei hz10 ?_
    refine px_istore_n (ls2 := [some (.ref 329), some (.int x1), some (.int z9), some (.int z10)]) (i := 3) rfl dX12_told_41 (by decide) rfl ?_
    refine px_iload_n dX12_told_42 rfl rfl ?_
    refine px_if_ne (tgt := 55) dX12_told_43 (by decide) ?_
    by_cases hc : ¬ z10 = 0
    · rw [if_pos hc] at h ⊢
      refine px_iload_n dX12_told_55 rfl rfl ?_
      refine px_iconst (v := (1 : Int32)) dX12_told_56 (by decide) ?_
      refine px_icmp_ne (tgt := 69) dX12_told_57 (by decide) ?_
      by_cases hc : ¬ z10 = (1 : Int32)
      · rw [if_pos hc] at h ⊢
        refine px_iload_n dX12_told_69 rfl rfl ?_
        refine px_iconst (v := (2 : Int32)) dX12_told_70 (by decide) ?_
        refine px_icmp_ne (tgt := 83) dX12_told_71 (by decide) ?_
        by_cases hc : ¬ z10 = (2 : Int32)
        · rw [if_pos hc] at h ⊢
          refine px_aload_n dX12_told_83 rfl rfl ?_
          refine gf_X12_50 rfl dX12_told_84 zl_329 zk_329 rfl zr_329_15 zl_343 ?_
          refine px_iload_n dX12_told_87 rfl rfl ?_
          obtain ⟨hi, h⟩ := h
          refine px_iaload (n := 24) dX12_told_88 zl_343 zk_343 zs_343 hi ?_
          exact px_ireturn dX12_told_89 rfl ⟨.int, rfl, rfl, rfl⟩ ⟨rfl, _, rfl, h⟩
        · rw [if_neg hc] at h ⊢
          refine px_aload_n dX12_told_74 rfl rfl ?_
          refine gf_X12_47 rfl dX12_told_75 zl_329 zk_329 rfl zr_329_14 zl_342 ?_
          refine px_iload_n dX12_told_78 rfl rfl ?_
          obtain ⟨hi, h⟩ := h
          refine px_iaload (n := 24) dX12_told_79 zl_342 zk_342 zs_342 hi ?_
          refine px_goto (tgt := 89) dX12_told_80 (by decide) ?_
          exact px_ireturn dX12_told_89 rfl ⟨.int, rfl, rfl, rfl⟩ ⟨rfl, _, rfl, h⟩
      · rw [if_neg hc] at h ⊢
        refine px_aload_n dX12_told_60 rfl rfl ?_
        refine gf_X12_44 rfl dX12_told_61 zl_329 zk_329 rfl zr_329_13 zl_341 ?_
        refine px_iload_n dX12_told_64 rfl rfl ?_
        obtain ⟨hi, h⟩ := h
        refine px_iaload (n := 24) dX12_told_65 zl_341 zk_341 zs_341 hi ?_
        refine px_goto (tgt := 89) dX12_told_66 (by decide) ?_
        exact px_ireturn dX12_told_89 rfl ⟨.int, rfl, rfl, rfl⟩ ⟨rfl, _, rfl, h⟩
    · rw [if_neg hc] at h ⊢
      refine px_aload_n dX12_told_46 rfl rfl ?_
      refine gf_X12_41 rfl dX12_told_47 zl_329 zk_329 rfl zr_329_12 zl_340 ?_
      refine px_iload_n dX12_told_50 rfl rfl ?_
      obtain ⟨hi, h⟩ := h
      refine px_iaload (n := 24) dX12_told_51 zl_340 zk_340 zs_340 hi ?_
      refine px_goto (tgt := 89) dX12_told_52 (by decide) ?_
      exact px_ireturn dX12_told_89 rfl ⟨.int, rfl, rfl, rfl⟩ ⟨rfl, _, rfl, h⟩
def f_X12_isSign (x1 : Int32) (x2 : Int32) (gi : Gi) (gl : Gl) (Q : Int32 → Gi → Gl → Prop) : Prop :=
p_X12_isPicture x1 gi gl (fun (r3 : Int32) (gi1 : Gi) (gl2 : Gl) =>
if r3 = 0 then
(Q (0 : Int32) gi1 gl2)
else
(if x2 < 0 then
(Q (0 : Int32) gi1 gl2)
else
(vp_in x1 40 ∧
if (gi1 356 x1.toNatClampNeg) ≤ x2 then
(Q (0 : Int32) gi1 gl2)
else
(Q (1 : Int32) gi1 gl2))))
set_option maxRecDepth 100000 in
theorem v_X12_isSign {x1 : Int32} {x2 : Int32} {gi : Gi} {gl : Gl} {Q : Int32 → Gi → Gl → Prop}  (h : f_X12_isSign x1 x2 gi gl Q) : p_X12_isSign x1 x2 gi gl Q := by
  unfold f_X12_isSign at h
  show PAt mX12_isSign NN NN κF 0 [some (.ref 329), some (.int x1), some (.int x2)] [] gi gl _
  refine px_aload_n dX12_isSign_0 rfl rfl ?_
  refine px_iload_n dX12_isSign_1 rfl rfl ?_
  refine px_callV_I (As := [.int x1]) (st := []) dX12_isSign_2 lk_X12_347.1 lk_X12_347.2 (b := 329) zl_329 zk_329 (by decide) rfl (by decide) rfl (Nat.le_of_ble_eq_true rfl) rfl rfl (Nat.le_of_ble_eq_true rfl) ⟨Nat.le_refl _, Nat.le_refl _, Nat.le_refl _⟩ ?_
  refine PAt.mono h (fun v κ gi1 gl2 hq => ?_)
  obtain ⟨rfl, r3, rfl, h⟩ := hq
  refine px_if_eq (tgt := 26) dX12_isSign_5 (by decide) ?_
  by_cases hc : r3 = 0
  · rw [if_pos hc] at h ⊢
    refine px_iconst (v := (0 : Int32)) dX12_isSign_26 (by decide) ?_
    exact px_ireturn dX12_isSign_27 rfl ⟨.boolean, rfl, rfl, by decide⟩ ⟨rfl, _, rfl, h⟩
  · rw [if_neg hc] at h ⊢
    refine px_iload_n dX12_isSign_8 rfl rfl ?_
    refine px_if_lt (tgt := 26) dX12_isSign_9 (by decide) ?_
    by_cases hc : x2 < 0
    · rw [if_pos hc] at h ⊢
      refine px_iconst (v := (0 : Int32)) dX12_isSign_26 (by decide) ?_
      exact px_ireturn dX12_isSign_27 rfl ⟨.boolean, rfl, rfl, by decide⟩ ⟨rfl, _, rfl, h⟩
    · rw [if_neg hc] at h ⊢
      refine px_iload_n dX12_isSign_12 rfl rfl ?_
      refine px_aload_n dX12_isSign_13 rfl rfl ?_
      refine gf_X12_89 rfl dX12_isSign_14 zl_329 zk_329 rfl zr_329_28 zl_356 ?_
      refine px_iload_n dX12_isSign_17 rfl rfl ?_
      obtain ⟨hi, h⟩ := h
      refine px_iaload (n := 40) dX12_isSign_18 zl_356 zk_356 zs_356 hi ?_
      refine px_icmp_ge (tgt := 26) dX12_isSign_19 (by decide) ?_
      by_cases hc : (gi1 356 x1.toNatClampNeg) ≤ x2
      · rw [if_pos hc] at h ⊢
        refine px_iconst (v := (0 : Int32)) dX12_isSign_26 (by decide) ?_
        exact px_ireturn dX12_isSign_27 rfl ⟨.boolean, rfl, rfl, by decide⟩ ⟨rfl, _, rfl, h⟩
      · rw [if_neg hc] at h ⊢
        refine px_iconst (v := (1 : Int32)) dX12_isSign_22 (by decide) ?_
        refine px_goto (tgt := 27) dX12_isSign_23 (by decide) ?_
        exact px_ireturn dX12_isSign_27 rfl ⟨.boolean, rfl, rfl, by decide⟩ ⟨rfl, _, rfl, h⟩
def f_X12_sign (x1 : Int32) (x2 : Int32) (x3 : Int32) (gi : Gi) (gl : Gl) (Q : Int32 → Gi → Gl → Prop) : Prop :=
p_X12_isSign x1 x2 gi gl (fun (r3 : Int32) (gi1 : Gi) (gl2 : Gl) =>
if r3 = 0 then
(Q ((-1) : Int32) gi1 gl2)
else
(p_X12_within x3 (0 : Int32) (4 : Int32) gi1 gl2 (fun (r6 : Int32) (gi4 : Gi) (gl5 : Gl) =>
if ¬ r6 = 0 then
(∀ z7 : Int32, z7 = ((12 : Int32) * x1) + x2 →
if ¬ x3 = 0 then
(if ¬ x3 = (1 : Int32) then
(if ¬ x3 = (2 : Int32) then
(if ¬ x3 = (3 : Int32) then
(vp_in z7 480 ∧
Q (gi4 361 z7.toNatClampNeg) gi4 gl5)
else
(vp_in z7 480 ∧
Q (gi4 360 z7.toNatClampNeg) gi4 gl5))
else
(vp_in z7 480 ∧
Q (gi4 359 z7.toNatClampNeg) gi4 gl5))
else
(vp_in z7 480 ∧
Q (gi4 358 z7.toNatClampNeg) gi4 gl5))
else
(vp_in z7 480 ∧
Q (gi4 357 z7.toNatClampNeg) gi4 gl5))
else
(Q ((-1) : Int32) gi4 gl5))))
set_option maxRecDepth 100000 in
theorem v_X12_sign {x1 : Int32} {x2 : Int32} {x3 : Int32} {gi : Gi} {gl : Gl} {Q : Int32 → Gi → Gl → Prop}  (h : f_X12_sign x1 x2 x3 gi gl Q) : p_X12_sign x1 x2 x3 gi gl Q := by
  unfold f_X12_sign at h
  show PAt mX12_sign NN NN κF 0 [some (.ref 329), some (.int x1), some (.int x2), some (.int x3), none] [] gi gl _
  refine px_aload_n dX12_sign_0 rfl rfl ?_
  refine px_iload_n dX12_sign_1 rfl rfl ?_
  refine px_iload_n dX12_sign_2 rfl rfl ?_
  refine px_callV_I (As := [.int x1, .int x2]) (st := []) dX12_sign_3 lk_X12_351.1 lk_X12_351.2 (b := 329) zl_329 zk_329 (by decide) rfl (by decide) rfl (Nat.le_of_ble_eq_true rfl) rfl rfl (Nat.le_of_ble_eq_true rfl) ⟨Nat.le_refl _, Nat.le_refl _, Nat.le_refl _⟩ ?_
  refine PAt.mono h (fun v κ gi1 gl2 hq => ?_)
  obtain ⟨rfl, r3, rfl, h⟩ := hq
  refine px_if_eq (tgt := 18) dX12_sign_6 (by decide) ?_
  by_cases hc : r3 = 0
  · rw [if_pos hc] at h ⊢
    refine px_iconst (v := ((-1) : Int32)) dX12_sign_18 (by decide) ?_
    exact px_ireturn dX12_sign_19 rfl ⟨.int, rfl, rfl, rfl⟩ ⟨rfl, _, rfl, h⟩
  · rw [if_neg hc] at h ⊢
    refine px_iload_n dX12_sign_9 rfl rfl ?_
    refine px_iconst (v := (0 : Int32)) dX12_sign_10 (by decide) ?_
    refine px_iconst (v := (4 : Int32)) dX12_sign_11 (by decide) ?_
    refine px_callS_I (As := [.int x3, .int (0 : Int32), .int (4 : Int32)]) (st := []) dX12_sign_12 lk_X12_189.1 lk_X12_189.2 (by decide) rfl (Nat.le_of_ble_eq_true rfl) rfl rfl (Nat.le_of_ble_eq_true rfl) ⟨Nat.le_refl _, Nat.le_refl _, Nat.le_refl _⟩ ?_
    refine PAt.mono h (fun v κ gi4 gl5 hq => ?_)
    obtain ⟨rfl, r6, rfl, h⟩ := hq
    refine px_if_ne (tgt := 20) dX12_sign_15 (by decide) ?_
    by_cases hc : ¬ r6 = 0
    · rw [if_pos hc] at h ⊢
      refine px_bipush (v := (12 : Int32)) dX12_sign_20 (by decide) ?_
      refine px_iload_n dX12_sign_22 rfl rfl ?_
      refine px_imul dX12_sign_23 ?_
      refine px_iload_n dX12_sign_24 rfl rfl ?_
      refine px_iadd dX12_sign_25 ?_
      obtain ⟨z7, hz7⟩ : ∃ y : Int32, y = ((12 : Int32) * x1) + x2 := ⟨_, rfl⟩
      have h := h z7 hz7
      refine px_namei hz7 ?_
      refine px_istore (ls2 := [some (.ref 329), some (.int x1), some (.int x2), some (.int x3), some (.int z7)]) dX12_sign_26 (by decide) rfl ?_
      refine px_iload_n dX12_sign_28 rfl rfl ?_
      refine px_if_ne (tgt := 42) dX12_sign_29 (by decide) ?_
      by_cases hc : ¬ x3 = 0
      · rw [if_pos hc] at h ⊢
        refine px_iload_n dX12_sign_42 rfl rfl ?_
        refine px_iconst (v := (1 : Int32)) dX12_sign_43 (by decide) ?_
        refine px_icmp_ne (tgt := 57) dX12_sign_44 (by decide) ?_
        by_cases hc : ¬ x3 = (1 : Int32)
        · rw [if_pos hc] at h ⊢
          refine px_iload_n dX12_sign_57 rfl rfl ?_
          refine px_iconst (v := (2 : Int32)) dX12_sign_58 (by decide) ?_
          refine px_icmp_ne (tgt := 72) dX12_sign_59 (by decide) ?_
          by_cases hc : ¬ x3 = (2 : Int32)
          · rw [if_pos hc] at h ⊢
            refine px_iload_n dX12_sign_72 rfl rfl ?_
            refine px_iconst (v := (3 : Int32)) dX12_sign_73 (by decide) ?_
            refine px_icmp_ne (tgt := 87) dX12_sign_74 (by decide) ?_
            by_cases hc : ¬ x3 = (3 : Int32)
            · rw [if_pos hc] at h ⊢
              refine px_aload_n dX12_sign_87 rfl rfl ?_
              refine gf_X12_104 rfl dX12_sign_88 zl_329 zk_329 rfl zr_329_33 zl_361 ?_
              refine px_iload dX12_sign_91 rfl ?_
              obtain ⟨hi, h⟩ := h
              refine px_iaload (n := 480) dX12_sign_93 zl_361 zk_361 zs_361 hi ?_
              exact px_ireturn dX12_sign_94 rfl ⟨.int, rfl, rfl, rfl⟩ ⟨rfl, _, rfl, h⟩
            · rw [if_neg hc] at h ⊢
              refine px_aload_n dX12_sign_77 rfl rfl ?_
              refine gf_X12_101 rfl dX12_sign_78 zl_329 zk_329 rfl zr_329_32 zl_360 ?_
              refine px_iload dX12_sign_81 rfl ?_
              obtain ⟨hi, h⟩ := h
              refine px_iaload (n := 480) dX12_sign_83 zl_360 zk_360 zs_360 hi ?_
              refine px_goto (tgt := 94) dX12_sign_84 (by decide) ?_
              exact px_ireturn dX12_sign_94 rfl ⟨.int, rfl, rfl, rfl⟩ ⟨rfl, _, rfl, h⟩
          · rw [if_neg hc] at h ⊢
            refine px_aload_n dX12_sign_62 rfl rfl ?_
            refine gf_X12_98 rfl dX12_sign_63 zl_329 zk_329 rfl zr_329_31 zl_359 ?_
            refine px_iload dX12_sign_66 rfl ?_
            obtain ⟨hi, h⟩ := h
            refine px_iaload (n := 480) dX12_sign_68 zl_359 zk_359 zs_359 hi ?_
            refine px_goto (tgt := 94) dX12_sign_69 (by decide) ?_
            exact px_ireturn dX12_sign_94 rfl ⟨.int, rfl, rfl, rfl⟩ ⟨rfl, _, rfl, h⟩
        · rw [if_neg hc] at h ⊢
          refine px_aload_n dX12_sign_47 rfl rfl ?_
          refine gf_X12_95 rfl dX12_sign_48 zl_329 zk_329 rfl zr_329_30 zl_358 ?_
          refine px_iload dX12_sign_51 rfl ?_
          obtain ⟨hi, h⟩ := h
          refine px_iaload (n := 480) dX12_sign_53 zl_358 zk_358 zs_358 hi ?_
          refine px_goto (tgt := 94) dX12_sign_54 (by decide) ?_
          exact px_ireturn dX12_sign_94 rfl ⟨.int, rfl, rfl, rfl⟩ ⟨rfl, _, rfl, h⟩
      · rw [if_neg hc] at h ⊢
        refine px_aload_n dX12_sign_32 rfl rfl ?_
        refine gf_X12_92 rfl dX12_sign_33 zl_329 zk_329 rfl zr_329_29 zl_357 ?_
        refine px_iload dX12_sign_36 rfl ?_
        obtain ⟨hi, h⟩ := h
        refine px_iaload (n := 480) dX12_sign_38 zl_357 zk_357 zs_357 hi ?_
        refine px_goto (tgt := 94) dX12_sign_39 (by decide) ?_
        exact px_ireturn dX12_sign_94 rfl ⟨.int, rfl, rfl, rfl⟩ ⟨rfl, _, rfl, h⟩
    · rw [if_neg hc] at h ⊢
      refine px_iconst (v := ((-1) : Int32)) dX12_sign_18 (by decide) ?_
      exact px_ireturn dX12_sign_19 rfl ⟨.int, rfl, rfl, rfl⟩ ⟨rfl, _, rfl, h⟩
abbrev p_X12_isLit_14 (x1 : Int32) (x2 : Int32) (x3 : Int32) (x4 : Int32) (x5 : Int32) (gi : Gi) (gl : Gl) (Q : Int32 → Gi → Gl → Prop) : Prop := PAt mX12_isLit NN NN κF 14 [some (.ref 329), some (.int x1), some (.int x2), some (.int x3), some (.int x4), some (.int x5), none] [] gi gl (RiQ Q)
abbrev p_X12_isLit_64 (x1 : Int32) (x2 : Int32) (x3 : Int32) (x4 : Int32) (x5 : Int32) (gi : Gi) (gl : Gl) (Q : Int32 → Gi → Gl → Prop) : Prop := PAt mX12_isLit NN NN κF 64 [some (.ref 329), some (.int x1), some (.int x2), some (.int x3), some (.int x4), some (.int x5), none] [] gi gl (RiQ Q)
abbrev p_X12_isLit_139 (x3 : Int32) (x4 : Int32) (x6 : Int32) (s0 : Int32) (gi : Gi) (gl : Gl) (Q : Int32 → Gi → Gl → Prop) : Prop := PAt mX12_isLit NN NN κF 139 [some (.ref 329), none, none, some (.int x3), some (.int x4), none, some (.int x6)] [.int s0, .ref 329] gi gl (RiQ Q)
def f_X12_isLit (x1 : Int32) (x2 : Int32) (gi : Gi) (gl : Gl) (Q : Int32 → Gi → Gl → Prop) : Prop :=
∀ z1 : Int32, z1 = (40 : Int32) * (gi 329 0) →
p_X12_isLit_14 x1 x2 ((-1) : Int32) ((-1) : Int32) z1 gi gl Q
def f_X12_isLit_14 (x1 : Int32) (x2 : Int32) (x3 : Int32) (x4 : Int32) (x5 : Int32) (gi : Gi) (gl : Gl) (Q : Int32 → Gi → Gl → Prop) : Prop :=
vp_in (gi 329 0) 2 ∧
if (((40 : Int32) * (gi 329 0)) + (gi 334 (gi 329 0).toNatClampNeg)) ≤ x5 then
(if x3 < 0 then
(Q (0 : Int32) gi gl)
else
(if 0 ≤ x4 then
(vp_in x4 80 ∧
vp_in x3 80 ∧
∀ z1 : Int32, z1 = (gi 352 x4.toNatClampNeg) - (gi 352 x3.toNatClampNeg) →
vp_in x3 80 ∧
∀ z2 : Int32, z2 = x2 - (gi 352 x3.toNatClampNeg) →
if ¬ z1 = 0 then
(p_X12_isLit_139 x3 x4 z2 z1 gi gl Q)
else
(p_X12_isLit_139 x3 x4 z2 (1 : Int32) gi gl Q))
else
(Q (0 : Int32) gi gl)))
else
(vp_in x5 80 ∧
if (gi 351 x5.toNatClampNeg) = x1 then
(vp_in x5 80 ∧
if x2 < (gi 352 x5.toNatClampNeg) then
(p_X12_isLit_64 x1 x2 x3 x4 x5 gi gl Q)
else
(p_X12_isLit_64 x1 x2 x5 x4 x5 gi gl Q))
else
(p_X12_isLit_14 x1 x2 x3 x4 (x5 + (1 : Int32)) gi gl Q))
def f_X12_isLit_139 (x3 : Int32) (x4 : Int32) (x6 : Int32) (s0 : Int32) (gi : Gi) (gl : Gl) (Q : Int32 → Gi → Gl → Prop) : Prop :=
∀ gi1 : Gi, gi1 = uI gi 329 (upd (gi 329) 48 s0) →
vp_in x3 80 ∧
vp_in x4 80 ∧
vp_in x3 80 ∧
∀ gi2 : Gi, gi2 = uI gi1 329 (upd (gi1 329) 46 (((gi1 353 x3.toNatClampNeg) * (gi1 329 48)) + (((gi1 353 x4.toNatClampNeg) - (gi1 353 x3.toNatClampNeg)) * x6))) →
vp_in x3 80 ∧
vp_in x4 80 ∧
vp_in x3 80 ∧
∀ gi3 : Gi, gi3 = uI gi2 329 (upd (gi2 329) 47 (((gi2 354 x3.toNatClampNeg) * (gi2 329 48)) + (((gi2 354 x4.toNatClampNeg) - (gi2 354 x3.toNatClampNeg)) * x6))) →
Q (1 : Int32) gi3 gl
def f_X12_isLit_64 (x1 : Int32) (x2 : Int32) (x3 : Int32) (x4 : Int32) (x5 : Int32) (gi : Gi) (gl : Gl) (Q : Int32 → Gi → Gl → Prop) : Prop :=
if 0 ≤ x4 then
(p_X12_isLit_14 x1 x2 x3 x4 (x5 + (1 : Int32)) gi gl Q)
else
(vp_in x5 80 ∧
if (gi 352 x5.toNatClampNeg) < x2 then
(p_X12_isLit_14 x1 x2 x3 x4 (x5 + (1 : Int32)) gi gl Q)
else
(p_X12_isLit_14 x1 x2 x3 x5 (x5 + (1 : Int32)) gi gl Q))
set_option maxRecDepth 100000 in
theorem v_X12_isLit {x1 : Int32} {x2 : Int32} {gi : Gi} {gl : Gl} {Q : Int32 → Gi → Gl → Prop}  (h : f_X12_isLit x1 x2 gi gl Q) : p_X12_isLit x1 x2 gi gl Q := by
  unfold f_X12_isLit at h
  show PAt mX12_isLit NN NN κF 0 [some (.ref 329), some (.int x1), some (.int x2), none, none, none, none] [] gi gl _
  refine px_iconst (v := ((-1) : Int32)) dX12_isLit_0 (by decide) ?_
  refine px_istore_n (ls2 := [some (.ref 329), some (.int x1), some (.int x2), some (.int ((-1) : Int32)), none, none, none]) (i := 3) rfl dX12_isLit_1 (by decide) rfl ?_
  refine px_iconst (v := ((-1) : Int32)) dX12_isLit_2 (by decide) ?_
  refine px_istore (ls2 := [some (.ref 329), some (.int x1), some (.int x2), some (.int ((-1) : Int32)), some (.int ((-1) : Int32)), none, none]) dX12_isLit_3 (by decide) rfl ?_
  refine px_bipush (v := (40 : Int32)) dX12_isLit_5 (by decide) ?_
  refine px_aload_n dX12_isLit_7 rfl rfl ?_
  refine gf_X12_312 rfl dX12_isLit_8 zl_329 zk_329 ?_
  refine px_imul dX12_isLit_11 ?_
  obtain ⟨z1, hz1⟩ : ∃ y : Int32, y = (40 : Int32) * (gi 329 0) := ⟨_, rfl⟩
  have h := h z1 hz1
  refine px_namei hz1 ?_
  refine px_istore (ls2 := [some (.ref 329), some (.int x1), some (.int x2), some (.int ((-1) : Int32)), some (.int ((-1) : Int32)), some (.int z1), none]) dX12_isLit_12 (by decide) rfl ?_
  exact PAt.forget h (lsub_at ⟨rfl, ⟨rfl, ⟨rfl, ⟨rfl, ⟨rfl, ⟨rfl, trivial⟩⟩⟩⟩⟩⟩)
set_option maxRecDepth 100000 in
theorem v_X12_isLit_14 {x1 : Int32} {x2 : Int32} {x3 : Int32} {x4 : Int32} {x5 : Int32} {gi : Gi} {gl : Gl} {Q : Int32 → Gi → Gl → Prop}  (h : f_X12_isLit_14 x1 x2 x3 x4 x5 gi gl Q) : p_X12_isLit_14 x1 x2 x3 x4 x5 gi gl Q := by
  unfold f_X12_isLit_14 at h
  show PAt mX12_isLit NN NN κF 14 [some (.ref 329), some (.int x1), some (.int x2), some (.int x3), some (.int x4), some (.int x5), none] [] gi gl _
  refine px_iload dX12_isLit_14 rfl ?_
  refine px_bipush (v := (40 : Int32)) dX12_isLit_16 (by decide) ?_
  refine px_aload_n dX12_isLit_18 rfl rfl ?_
  refine gf_X12_312 rfl dX12_isLit_19 zl_329 zk_329 ?_
  refine px_imul dX12_isLit_22 ?_
  refine px_aload_n dX12_isLit_23 rfl rfl ?_
  refine gf_X12_22 rfl dX12_isLit_24 zl_329 zk_329 rfl zr_329_6 zl_334 ?_
  refine px_aload_n dX12_isLit_27 rfl rfl ?_
  refine gf_X12_312 rfl dX12_isLit_28 zl_329 zk_329 ?_
  obtain ⟨hi, h⟩ := h
  refine px_iaload (n := 2) dX12_isLit_31 zl_334 zk_334 zs_334 hi ?_
  refine px_iadd dX12_isLit_32 ?_
  refine px_icmp_ge (tgt := 90) dX12_isLit_33 (by decide) ?_
  by_cases hc : (((40 : Int32) * (gi 329 0)) + (gi 334 (gi 329 0).toNatClampNeg)) ≤ x5
  · rw [if_pos hc] at h ⊢
    refine px_iload_n dX12_isLit_90 rfl rfl ?_
    refine px_if_lt (tgt := 99) dX12_isLit_91 (by decide) ?_
    by_cases hc : x3 < 0
    · rw [if_pos hc] at h ⊢
      refine px_iconst (v := (0 : Int32)) dX12_isLit_99 (by decide) ?_
      exact px_ireturn dX12_isLit_100 rfl ⟨.boolean, rfl, rfl, by decide⟩ ⟨rfl, _, rfl, h⟩
    · rw [if_neg hc] at h ⊢
      refine px_iload dX12_isLit_94 rfl ?_
      refine px_if_ge (tgt := 101) dX12_isLit_96 (by decide) ?_
      by_cases hc : 0 ≤ x4
      · rw [if_pos hc] at h ⊢
        refine px_aload_n dX12_isLit_101 rfl rfl ?_
        refine gf_X12_77 rfl dX12_isLit_102 zl_329 zk_329 rfl zr_329_24 zl_352 ?_
        refine px_iload dX12_isLit_105 rfl ?_
        obtain ⟨hi, h⟩ := h
        refine px_iaload (n := 80) dX12_isLit_107 zl_352 zk_352 zs_352 hi ?_
        refine px_aload_n dX12_isLit_108 rfl rfl ?_
        refine gf_X12_77 rfl dX12_isLit_109 zl_329 zk_329 rfl zr_329_24 zl_352 ?_
        refine px_iload_n dX12_isLit_112 rfl rfl ?_
        obtain ⟨hi, h⟩ := h
        refine px_iaload (n := 80) dX12_isLit_113 zl_352 zk_352 zs_352 hi ?_
        refine px_isub dX12_isLit_114 ?_
        obtain ⟨z1, hz1⟩ : ∃ y : Int32, y = (gi 352 x4.toNatClampNeg) - (gi 352 x3.toNatClampNeg) := ⟨_, rfl⟩
        have h := h z1 hz1
        refine px_namei hz1 ?_
        refine px_istore (ls2 := [some (.ref 329), some (.int x1), some (.int x2), some (.int x3), some (.int x4), some (.int z1), none]) dX12_isLit_115 (by decide) rfl ?_
        refine px_iload_n dX12_isLit_117 rfl rfl ?_
        refine px_aload_n dX12_isLit_118 rfl rfl ?_
        refine gf_X12_77 rfl dX12_isLit_119 zl_329 zk_329 rfl zr_329_24 zl_352 ?_
        refine px_iload_n dX12_isLit_122 rfl rfl ?_
        obtain ⟨hi, h⟩ := h
        refine px_iaload (n := 80) dX12_isLit_123 zl_352 zk_352 zs_352 hi ?_
        refine px_isub dX12_isLit_124 ?_
        obtain ⟨z2, hz2⟩ : ∃ y : Int32, y = x2 - (gi 352 x3.toNatClampNeg) := ⟨_, rfl⟩
        have h := h z2 hz2
        refine px_namei hz2 ?_
        refine px_istore (ls2 := [some (.ref 329), some (.int x1), some (.int x2), some (.int x3), some (.int x4), some (.int z1), some (.int z2)]) dX12_isLit_125 (by decide) rfl ?_
        refine px_aload_n dX12_isLit_127 rfl rfl ?_
        refine px_iload dX12_isLit_128 rfl ?_
        refine px_if_ne (tgt := 137) dX12_isLit_130 (by decide) ?_
        by_cases hc : ¬ z1 = 0
        · rw [if_pos hc] at h ⊢
          refine px_iload dX12_isLit_137 rfl ?_
          exact PAt.forget h (lsub_at ⟨rfl, ⟨rfl, ⟨rfl, ⟨rfl, trivial⟩⟩⟩⟩)
        · rw [if_neg hc] at h ⊢
          refine px_iconst (v := (1 : Int32)) dX12_isLit_133 (by decide) ?_
          refine px_goto (tgt := 139) dX12_isLit_134 (by decide) ?_
          exact PAt.forget h (lsub_at ⟨rfl, ⟨rfl, ⟨rfl, ⟨rfl, trivial⟩⟩⟩⟩)
      · rw [if_neg hc] at h ⊢
        refine px_iconst (v := (0 : Int32)) dX12_isLit_99 (by decide) ?_
        exact px_ireturn dX12_isLit_100 rfl ⟨.boolean, rfl, rfl, by decide⟩ ⟨rfl, _, rfl, h⟩
  · rw [if_neg hc] at h ⊢
    refine px_aload_n dX12_isLit_36 rfl rfl ?_
    refine gf_X12_74 rfl dX12_isLit_37 zl_329 zk_329 rfl zr_329_23 zl_351 ?_
    refine px_iload dX12_isLit_40 rfl ?_
    obtain ⟨hi, h⟩ := h
    refine px_iaload (n := 80) dX12_isLit_42 zl_351 zk_351 zs_351 hi ?_
    refine px_iload_n dX12_isLit_43 rfl rfl ?_
    refine px_icmp_eq (tgt := 50) dX12_isLit_44 (by decide) ?_
    by_cases hc : (gi 351 x5.toNatClampNeg) = x1
    · rw [if_pos hc] at h ⊢
      refine px_aload_n dX12_isLit_50 rfl rfl ?_
      refine gf_X12_77 rfl dX12_isLit_51 zl_329 zk_329 rfl zr_329_24 zl_352 ?_
      refine px_iload dX12_isLit_54 rfl ?_
      obtain ⟨hi, h⟩ := h
      refine px_iaload (n := 80) dX12_isLit_56 zl_352 zk_352 zs_352 hi ?_
      refine px_iload_n dX12_isLit_57 rfl rfl ?_
      refine px_icmp_gt (tgt := 64) dX12_isLit_58 (by decide) ?_
      by_cases hc : x2 < (gi 352 x5.toNatClampNeg)
      · rw [if_pos hc] at h ⊢
        exact PAt.forget h (lsub_at ⟨rfl, ⟨rfl, ⟨rfl, ⟨rfl, ⟨rfl, ⟨rfl, trivial⟩⟩⟩⟩⟩⟩)
      · rw [if_neg hc] at h ⊢
        refine px_iload dX12_isLit_61 rfl ?_
        refine px_istore_n (ls2 := [some (.ref 329), some (.int x1), some (.int x2), some (.int x5), some (.int x4), some (.int x5), none]) (i := 3) rfl dX12_isLit_63 (by decide) rfl ?_
        exact PAt.forget h (lsub_at ⟨rfl, ⟨rfl, ⟨rfl, ⟨rfl, ⟨rfl, ⟨rfl, trivial⟩⟩⟩⟩⟩⟩)
    · rw [if_neg hc] at h ⊢
      refine px_goto (tgt := 84) dX12_isLit_47 (by decide) ?_
      refine px_iinc (v := x5 + (1 : Int32)) (ls2 := [some (.ref 329), some (.int x1), some (.int x2), some (.int x3), some (.int x4), some (.int (x5 + (1 : Int32))), none]) dX12_isLit_84 rfl rfl (by decide) rfl ?_
      refine px_goto (tgt := 14) dX12_isLit_87 (by decide) ?_
      exact PAt.forget h (lsub_at ⟨rfl, ⟨rfl, ⟨rfl, ⟨rfl, ⟨rfl, ⟨rfl, trivial⟩⟩⟩⟩⟩⟩)
set_option maxRecDepth 100000 in
theorem v_X12_isLit_139 {x3 : Int32} {x4 : Int32} {x6 : Int32} {s0 : Int32} {gi : Gi} {gl : Gl} {Q : Int32 → Gi → Gl → Prop}  (h : f_X12_isLit_139 x3 x4 x6 s0 gi gl Q) : p_X12_isLit_139 x3 x4 x6 s0 gi gl Q := by
  unfold f_X12_isLit_139 at h
  show PAt mX12_isLit NN NN κF 139 [some (.ref 329), none, none, some (.int x3), some (.int x4), none, some (.int x6)] [.int s0, .ref 329] gi gl _
  refine pf_X12_355 rfl dX12_isLit_139 zl_329 zk_329 ?_
  obtain ⟨gi1, hgi1⟩ : ∃ y : Gi, y = uI gi 329 (upd (gi 329) 48 s0) := ⟨_, rfl⟩
  have h := h gi1 hgi1
  refine px_namegi hgi1 ?_
  refine px_aload_n dX12_isLit_142 rfl rfl ?_
  refine px_aload_n dX12_isLit_143 rfl rfl ?_
  refine gf_X12_80 rfl dX12_isLit_144 zl_329 zk_329 rfl zr_329_25 zl_353 ?_
  refine px_iload_n dX12_isLit_147 rfl rfl ?_
  obtain ⟨hi, h⟩ := h
  refine px_iaload (n := 80) dX12_isLit_148 zl_353 zk_353 zs_353 hi ?_
  refine px_aload_n dX12_isLit_149 rfl rfl ?_
  refine gf_X12_355 rfl dX12_isLit_150 zl_329 zk_329 ?_
  refine px_imul dX12_isLit_153 ?_
  refine px_aload_n dX12_isLit_154 rfl rfl ?_
  refine gf_X12_80 rfl dX12_isLit_155 zl_329 zk_329 rfl zr_329_25 zl_353 ?_
  refine px_iload dX12_isLit_158 rfl ?_
  obtain ⟨hi, h⟩ := h
  refine px_iaload (n := 80) dX12_isLit_160 zl_353 zk_353 zs_353 hi ?_
  refine px_aload_n dX12_isLit_161 rfl rfl ?_
  refine gf_X12_80 rfl dX12_isLit_162 zl_329 zk_329 rfl zr_329_25 zl_353 ?_
  refine px_iload_n dX12_isLit_165 rfl rfl ?_
  obtain ⟨hi, h⟩ := h
  refine px_iaload (n := 80) dX12_isLit_166 zl_353 zk_353 zs_353 hi ?_
  refine px_isub dX12_isLit_167 ?_
  refine px_iload dX12_isLit_168 rfl ?_
  refine px_imul dX12_isLit_170 ?_
  refine px_iadd dX12_isLit_171 ?_
  refine pf_X12_358 rfl dX12_isLit_172 zl_329 zk_329 ?_
  obtain ⟨gi2, hgi2⟩ : ∃ y : Gi, y = uI gi1 329 (upd (gi1 329) 46 (((gi1 353 x3.toNatClampNeg) * (gi1 329 48)) + (((gi1 353 x4.toNatClampNeg) - (gi1 353 x3.toNatClampNeg)) * x6))) := ⟨_, rfl⟩
  have h := h gi2 hgi2
  refine px_namegi hgi2 ?_
  refine px_aload_n dX12_isLit_175 rfl rfl ?_
  refine px_aload_n dX12_isLit_176 rfl rfl ?_
  refine gf_X12_83 rfl dX12_isLit_177 zl_329 zk_329 rfl zr_329_26 zl_354 ?_
  refine px_iload_n dX12_isLit_180 rfl rfl ?_
  obtain ⟨hi, h⟩ := h
  refine px_iaload (n := 80) dX12_isLit_181 zl_354 zk_354 zs_354 hi ?_
  refine px_aload_n dX12_isLit_182 rfl rfl ?_
  refine gf_X12_355 rfl dX12_isLit_183 zl_329 zk_329 ?_
  refine px_imul dX12_isLit_186 ?_
  refine px_aload_n dX12_isLit_187 rfl rfl ?_
  refine gf_X12_83 rfl dX12_isLit_188 zl_329 zk_329 rfl zr_329_26 zl_354 ?_
  refine px_iload dX12_isLit_191 rfl ?_
  obtain ⟨hi, h⟩ := h
  refine px_iaload (n := 80) dX12_isLit_193 zl_354 zk_354 zs_354 hi ?_
  refine px_aload_n dX12_isLit_194 rfl rfl ?_
  refine gf_X12_83 rfl dX12_isLit_195 zl_329 zk_329 rfl zr_329_26 zl_354 ?_
  refine px_iload_n dX12_isLit_198 rfl rfl ?_
  obtain ⟨hi, h⟩ := h
  refine px_iaload (n := 80) dX12_isLit_199 zl_354 zk_354 zs_354 hi ?_
  refine px_isub dX12_isLit_200 ?_
  refine px_iload dX12_isLit_201 rfl ?_
  refine px_imul dX12_isLit_203 ?_
  refine px_iadd dX12_isLit_204 ?_
  refine pf_X12_361 rfl dX12_isLit_205 zl_329 zk_329 ?_
  obtain ⟨gi3, hgi3⟩ : ∃ y : Gi, y = uI gi2 329 (upd (gi2 329) 47 (((gi2 354 x3.toNatClampNeg) * (gi2 329 48)) + (((gi2 354 x4.toNatClampNeg) - (gi2 354 x3.toNatClampNeg)) * x6))) := ⟨_, rfl⟩
  have h := h gi3 hgi3
  refine px_namegi hgi3 ?_
  refine px_iconst (v := (1 : Int32)) dX12_isLit_208 (by decide) ?_
  exact px_ireturn dX12_isLit_209 rfl ⟨.boolean, rfl, rfl, by decide⟩ ⟨rfl, _, rfl, h⟩
set_option maxRecDepth 100000 in
theorem v_X12_isLit_64 {x1 : Int32} {x2 : Int32} {x3 : Int32} {x4 : Int32} {x5 : Int32} {gi : Gi} {gl : Gl} {Q : Int32 → Gi → Gl → Prop}  (h : f_X12_isLit_64 x1 x2 x3 x4 x5 gi gl Q) : p_X12_isLit_64 x1 x2 x3 x4 x5 gi gl Q := by
  unfold f_X12_isLit_64 at h
  show PAt mX12_isLit NN NN κF 64 [some (.ref 329), some (.int x1), some (.int x2), some (.int x3), some (.int x4), some (.int x5), none] [] gi gl _
  refine px_iload dX12_isLit_64 rfl ?_
  refine px_if_ge (tgt := 84) dX12_isLit_66 (by decide) ?_
  by_cases hc : 0 ≤ x4
  · rw [if_pos hc] at h ⊢
    refine px_iinc (v := x5 + (1 : Int32)) (ls2 := [some (.ref 329), some (.int x1), some (.int x2), some (.int x3), some (.int x4), some (.int (x5 + (1 : Int32))), none]) dX12_isLit_84 rfl rfl (by decide) rfl ?_
    refine px_goto (tgt := 14) dX12_isLit_87 (by decide) ?_
    exact PAt.forget h (lsub_at ⟨rfl, ⟨rfl, ⟨rfl, ⟨rfl, ⟨rfl, ⟨rfl, trivial⟩⟩⟩⟩⟩⟩)
  · rw [if_neg hc] at h ⊢
    refine px_aload_n dX12_isLit_69 rfl rfl ?_
    refine gf_X12_77 rfl dX12_isLit_70 zl_329 zk_329 rfl zr_329_24 zl_352 ?_
    refine px_iload dX12_isLit_73 rfl ?_
    obtain ⟨hi, h⟩ := h
    refine px_iaload (n := 80) dX12_isLit_75 zl_352 zk_352 zs_352 hi ?_
    refine px_iload_n dX12_isLit_76 rfl rfl ?_
    refine px_icmp_lt (tgt := 84) dX12_isLit_77 (by decide) ?_
    by_cases hc : (gi 352 x5.toNatClampNeg) < x2
    · rw [if_pos hc] at h ⊢
      refine px_iinc (v := x5 + (1 : Int32)) (ls2 := [some (.ref 329), some (.int x1), some (.int x2), some (.int x3), some (.int x4), some (.int (x5 + (1 : Int32))), none]) dX12_isLit_84 rfl rfl (by decide) rfl ?_
      refine px_goto (tgt := 14) dX12_isLit_87 (by decide) ?_
      exact PAt.forget h (lsub_at ⟨rfl, ⟨rfl, ⟨rfl, ⟨rfl, ⟨rfl, ⟨rfl, trivial⟩⟩⟩⟩⟩⟩)
    · rw [if_neg hc] at h ⊢
      refine px_iload dX12_isLit_80 rfl ?_
      refine px_istore (ls2 := [some (.ref 329), some (.int x1), some (.int x2), some (.int x3), some (.int x5), some (.int x5), none]) dX12_isLit_82 (by decide) rfl ?_
      refine px_iinc (v := x5 + (1 : Int32)) (ls2 := [some (.ref 329), some (.int x1), some (.int x2), some (.int x3), some (.int x5), some (.int (x5 + (1 : Int32))), none]) dX12_isLit_84 rfl rfl (by decide) rfl ?_
      refine px_goto (tgt := 14) dX12_isLit_87 (by decide) ?_
      exact PAt.forget h (lsub_at ⟨rfl, ⟨rfl, ⟨rfl, ⟨rfl, ⟨rfl, ⟨rfl, trivial⟩⟩⟩⟩⟩⟩)
abbrev p_X12_hasRows_8 (x1 : Int32) (x2 : Int32) (gi : Gi) (gl : Gl) (Q : Int32 → Gi → Gl → Prop) : Prop := PAt mX12_hasRows NN NN κF 8 [some (.ref 329), some (.int x1), some (.int x2)] [] gi gl (RiQ Q)
def f_X12_hasRows (x1 : Int32) (gi : Gi) (gl : Gl) (Q : Int32 → Gi → Gl → Prop) : Prop :=
∀ z1 : Int32, z1 = (40 : Int32) * (gi 329 0) →
p_X12_hasRows_8 x1 z1 gi gl Q
def f_X12_hasRows_8 (x1 : Int32) (x2 : Int32) (gi : Gi) (gl : Gl) (Q : Int32 → Gi → Gl → Prop) : Prop :=
vp_in (gi 329 0) 2 ∧
if (((40 : Int32) * (gi 329 0)) + (gi 334 (gi 329 0).toNatClampNeg)) ≤ x2 then
(Q (0 : Int32) gi gl)
else
(vp_in x2 80 ∧
if ¬ (gi 351 x2.toNatClampNeg) = x1 then
(p_X12_hasRows_8 x1 (x2 + (1 : Int32)) gi gl Q)
else
(Q (1 : Int32) gi gl))
set_option maxRecDepth 100000 in
theorem v_X12_hasRows {x1 : Int32} {gi : Gi} {gl : Gl} {Q : Int32 → Gi → Gl → Prop}  (h : f_X12_hasRows x1 gi gl Q) : p_X12_hasRows x1 gi gl Q := by
  unfold f_X12_hasRows at h
  show PAt mX12_hasRows NN NN κF 0 [some (.ref 329), some (.int x1), none] [] gi gl _
  refine px_bipush (v := (40 : Int32)) dX12_hasRows_0 (by decide) ?_
  refine px_aload_n dX12_hasRows_2 rfl rfl ?_
  refine gf_X12_312 rfl dX12_hasRows_3 zl_329 zk_329 ?_
  refine px_imul dX12_hasRows_6 ?_
  obtain ⟨z1, hz1⟩ : ∃ y : Int32, y = (40 : Int32) * (gi 329 0) := ⟨_, rfl⟩
  have h := h z1 hz1
  refine px_namei hz1 ?_
  refine px_istore_n (ls2 := [some (.ref 329), some (.int x1), some (.int z1)]) (i := 2) rfl dX12_hasRows_7 (by decide) rfl ?_
  exact PAt.forget h (lsub_at ⟨rfl, ⟨rfl, ⟨rfl, trivial⟩⟩⟩)
set_option maxRecDepth 100000 in
theorem v_X12_hasRows_8 {x1 : Int32} {x2 : Int32} {gi : Gi} {gl : Gl} {Q : Int32 → Gi → Gl → Prop}  (h : f_X12_hasRows_8 x1 x2 gi gl Q) : p_X12_hasRows_8 x1 x2 gi gl Q := by
  unfold f_X12_hasRows_8 at h
  show PAt mX12_hasRows NN NN κF 8 [some (.ref 329), some (.int x1), some (.int x2)] [] gi gl _
  refine px_iload_n dX12_hasRows_8 rfl rfl ?_
  refine px_bipush (v := (40 : Int32)) dX12_hasRows_9 (by decide) ?_
  refine px_aload_n dX12_hasRows_11 rfl rfl ?_
  refine gf_X12_312 rfl dX12_hasRows_12 zl_329 zk_329 ?_
  refine px_imul dX12_hasRows_15 ?_
  refine px_aload_n dX12_hasRows_16 rfl rfl ?_
  refine gf_X12_22 rfl dX12_hasRows_17 zl_329 zk_329 rfl zr_329_6 zl_334 ?_
  refine px_aload_n dX12_hasRows_20 rfl rfl ?_
  refine gf_X12_312 rfl dX12_hasRows_21 zl_329 zk_329 ?_
  obtain ⟨hi, h⟩ := h
  refine px_iaload (n := 2) dX12_hasRows_24 zl_334 zk_334 zs_334 hi ?_
  refine px_iadd dX12_hasRows_25 ?_
  refine px_icmp_ge (tgt := 47) dX12_hasRows_26 (by decide) ?_
  by_cases hc : (((40 : Int32) * (gi 329 0)) + (gi 334 (gi 329 0).toNatClampNeg)) ≤ x2
  · rw [if_pos hc] at h ⊢
    refine px_iconst (v := (0 : Int32)) dX12_hasRows_47 (by decide) ?_
    exact px_ireturn dX12_hasRows_48 rfl ⟨.boolean, rfl, rfl, by decide⟩ ⟨rfl, _, rfl, h⟩
  · rw [if_neg hc] at h ⊢
    refine px_aload_n dX12_hasRows_29 rfl rfl ?_
    refine gf_X12_74 rfl dX12_hasRows_30 zl_329 zk_329 rfl zr_329_23 zl_351 ?_
    refine px_iload_n dX12_hasRows_33 rfl rfl ?_
    obtain ⟨hi, h⟩ := h
    refine px_iaload (n := 80) dX12_hasRows_34 zl_351 zk_351 zs_351 hi ?_
    refine px_iload_n dX12_hasRows_35 rfl rfl ?_
    refine px_icmp_ne (tgt := 41) dX12_hasRows_36 (by decide) ?_
    by_cases hc : ¬ (gi 351 x2.toNatClampNeg) = x1
    · rw [if_pos hc] at h ⊢
      refine px_iinc (v := x2 + (1 : Int32)) (ls2 := [some (.ref 329), some (.int x1), some (.int (x2 + (1 : Int32)))]) dX12_hasRows_41 rfl rfl (by decide) rfl ?_
      refine px_goto (tgt := 8) dX12_hasRows_44 (by decide) ?_
      exact PAt.forget h (lsub_at ⟨rfl, ⟨rfl, ⟨rfl, trivial⟩⟩⟩)
    · rw [if_neg hc] at h ⊢
      refine px_iconst (v := (1 : Int32)) dX12_hasRows_39 (by decide) ?_
      exact px_ireturn dX12_hasRows_40 rfl ⟨.boolean, rfl, rfl, by decide⟩ ⟨rfl, _, rfl, h⟩
abbrev p_X12_divisor_28 (y4 : Int64) (y6 : Int64) (gi : Gi) (gl : Gl) (Q : Int64 → Gi → Gl → Prop) : Prop := PAt mX12_divisor NN NN κF 28 [none, none, none, none, some (.long y4), none, some (.long y6), none, none, none] [] gi gl (RlQ Q)
def f_X12_divisor (y0 : Int64) (y2 : Int64) (gi : Gi) (gl : Gl) (Q : Int64 → Gi → Gl → Prop) : Prop :=
if (0 : Int64) ≤ y0 then
(if (0 : Int64) ≤ y2 then
(p_X12_divisor_28 y0 y2 gi gl Q)
else
(∀ z1 : Int64, z1 = -y2 →
p_X12_divisor_28 y0 z1 gi gl Q))
else
(∀ z2 : Int64, z2 = -y0 →
if (0 : Int64) ≤ y2 then
(p_X12_divisor_28 z2 y2 gi gl Q)
else
(∀ z3 : Int64, z3 = -y2 →
p_X12_divisor_28 z2 z3 gi gl Q))
def f_X12_divisor_28 (y4 : Int64) (y6 : Int64) (gi : Gi) (gl : Gl) (Q : Int64 → Gi → Gl → Prop) : Prop :=
if y6 ≤ (0 : Int64) then
(Q y4 gi gl)
else
(¬ y6 = 0 ∧
∀ z1 : Int64, z1 = jrl y4 y6 →
p_X12_divisor_28 y6 z1 gi gl Q)
set_option maxRecDepth 100000 in
theorem v_X12_divisor {y0 : Int64} {y2 : Int64} {gi : Gi} {gl : Gl} {Q : Int64 → Gi → Gl → Prop}  (h : f_X12_divisor y0 y2 gi gl Q) : p_X12_divisor y0 y2 gi gl Q := by
  unfold f_X12_divisor at h
  show PAt mX12_divisor NN NN κF 0 [some (.long y0), none, some (.long y2), none, none, none, none, none, none, none] [] gi gl _
  refine px_lload_n dX12_divisor_0 rfl rfl ?_
  refine px_lconst (v := (0 : Int64)) dX12_divisor_1 (by decide) ?_
  refine px_lc_ge (tgt := 11) dX12_divisor_2 dX12_divisor_3 (by decide) ?_
  by_cases hc : (0 : Int64) ≤ y0
  · rw [if_pos hc] at h ⊢
    refine px_lload_n dX12_divisor_11 rfl rfl ?_
    refine px_lstore (ls2 := [some (.long y0), none, some (.long y2), none, some (.long y0), none, none, none, none, none]) dX12_divisor_12 (by decide) rfl ?_
    refine px_lload_n dX12_divisor_14 rfl rfl ?_
    refine px_lconst (v := (0 : Int64)) dX12_divisor_15 (by decide) ?_
    refine px_lc_ge (tgt := 25) dX12_divisor_16 dX12_divisor_17 (by decide) ?_
    by_cases hc : (0 : Int64) ≤ y2
    · rw [if_pos hc] at h ⊢
      refine px_lload_n dX12_divisor_25 rfl rfl ?_
      refine px_lstore (ls2 := [some (.long y0), none, some (.long y2), none, some (.long y0), none, some (.long y2), none, none, none]) dX12_divisor_26 (by decide) rfl ?_
      exact PAt.forget h (lsub_at ⟨rfl, ⟨rfl, trivial⟩⟩)
    · rw [if_neg hc] at h ⊢
      refine px_lload_n dX12_divisor_20 rfl rfl ?_
      refine px_lneg dX12_divisor_21 ?_
      refine px_goto (tgt := 26) dX12_divisor_22 (by decide) ?_
      obtain ⟨z1, hz1⟩ : ∃ y : Int64, y = -y2 := ⟨_, rfl⟩
      have h := h z1 hz1
      refine px_namel hz1 ?_
      refine px_lstore (ls2 := [some (.long y0), none, some (.long y2), none, some (.long y0), none, some (.long z1), none, none, none]) dX12_divisor_26 (by decide) rfl ?_
      exact PAt.forget h (lsub_at ⟨rfl, ⟨rfl, trivial⟩⟩)
  · rw [if_neg hc] at h ⊢
    refine px_lload_n dX12_divisor_6 rfl rfl ?_
    refine px_lneg dX12_divisor_7 ?_
    refine px_goto (tgt := 12) dX12_divisor_8 (by decide) ?_
    obtain ⟨z2, hz2⟩ : ∃ y : Int64, y = -y0 := ⟨_, rfl⟩
    have h := h z2 hz2
    refine px_namel hz2 ?_
    refine px_lstore (ls2 := [some (.long y0), none, some (.long y2), none, some (.long z2), none, none, none, none, none]) dX12_divisor_12 (by decide) rfl ?_
    refine px_lload_n dX12_divisor_14 rfl rfl ?_
    refine px_lconst (v := (0 : Int64)) dX12_divisor_15 (by decide) ?_
    refine px_lc_ge (tgt := 25) dX12_divisor_16 dX12_divisor_17 (by decide) ?_
    by_cases hc : (0 : Int64) ≤ y2
    · rw [if_pos hc] at h ⊢
      refine px_lload_n dX12_divisor_25 rfl rfl ?_
      refine px_lstore (ls2 := [some (.long y0), none, some (.long y2), none, some (.long z2), none, some (.long y2), none, none, none]) dX12_divisor_26 (by decide) rfl ?_
      exact PAt.forget h (lsub_at ⟨rfl, ⟨rfl, trivial⟩⟩)
    · rw [if_neg hc] at h ⊢
      refine px_lload_n dX12_divisor_20 rfl rfl ?_
      refine px_lneg dX12_divisor_21 ?_
      refine px_goto (tgt := 26) dX12_divisor_22 (by decide) ?_
      obtain ⟨z3, hz3⟩ : ∃ y : Int64, y = -y2 := ⟨_, rfl⟩
      have h := h z3 hz3
      refine px_namel hz3 ?_
      refine px_lstore (ls2 := [some (.long y0), none, some (.long y2), none, some (.long z2), none, some (.long z3), none, none, none]) dX12_divisor_26 (by decide) rfl ?_
      exact PAt.forget h (lsub_at ⟨rfl, ⟨rfl, trivial⟩⟩)
set_option maxRecDepth 100000 in
theorem v_X12_divisor_28 {y4 : Int64} {y6 : Int64} {gi : Gi} {gl : Gl} {Q : Int64 → Gi → Gl → Prop}  (h : f_X12_divisor_28 y4 y6 gi gl Q) : p_X12_divisor_28 y4 y6 gi gl Q := by
  unfold f_X12_divisor_28 at h
  show PAt mX12_divisor NN NN κF 28 [none, none, none, none, some (.long y4), none, some (.long y6), none, none, none] [] gi gl _
  refine px_lload dX12_divisor_28 rfl ?_
  refine px_lconst (v := (0 : Int64)) dX12_divisor_30 (by decide) ?_
  refine px_lc_le (tgt := 53) dX12_divisor_31 dX12_divisor_32 (by decide) ?_
  by_cases hc : y6 ≤ (0 : Int64)
  · rw [if_pos hc] at h ⊢
    refine px_lload dX12_divisor_53 rfl ?_
    exact px_lreturn dX12_divisor_55 rfl rfl ⟨rfl, _, rfl, h⟩
  · rw [if_neg hc] at h ⊢
    refine px_lload dX12_divisor_35 rfl ?_
    refine px_lload dX12_divisor_37 rfl ?_
    obtain ⟨hne, h⟩ := h
    refine px_lrem dX12_divisor_39 hne ?_
    obtain ⟨z1, hz1⟩ : ∃ y : Int64, y = jrl y4 y6 := ⟨_, rfl⟩
    have h := h z1 hz1
    refine px_namel hz1 ?_
    refine px_lstore (ls2 := [none, none, none, none, some (.long y4), none, some (.long y6), none, some (.long z1), none]) dX12_divisor_40 (by decide) rfl ?_
    refine px_lload dX12_divisor_42 rfl ?_
    refine px_lstore (ls2 := [none, none, none, none, some (.long y6), none, some (.long y6), none, some (.long z1), none]) dX12_divisor_44 (by decide) rfl ?_
    refine px_lload dX12_divisor_46 rfl ?_
    refine px_lstore (ls2 := [none, none, none, none, some (.long y6), none, some (.long z1), none, some (.long z1), none]) dX12_divisor_48 (by decide) rfl ?_
    refine px_goto (tgt := 28) dX12_divisor_50 (by decide) ?_
    exact PAt.forget h (lsub_at ⟨rfl, ⟨rfl, trivial⟩⟩)
abbrev p_X12_shadow_146 (x4 : Int32) (y6 : Int64) (t0 : Int64) (gi : Gi) (gl : Gl) (Q : Int32 → Gi → Gl → Prop) : Prop := PAt mX12_shadow NN NN κF 146 [none, none, none, none, some (.int x4), none, some (.long y6), none, none, none, none, none] [.long t0] gi gl (RiQ Q)
def f_X12_shadow (x1 : Int32) (x2 : Int32) (x3 : Int32) (x4 : Int32) (gi : Gi) (gl : Gl) (Q : Int32 → Gi → Gl → Prop) : Prop :=
vp_in (gi 329 0) 2 ∧
p_X12_within x1 (0 : Int32) ((gi 332 (gi 329 0).toNatClampNeg) - (1 : Int32)) gi gl (fun (r3 : Int32) (gi1 : Gi) (gl2 : Gl) =>
if r3 = 0 then
(Q ((-1000000) : Int32) gi1 gl2)
else
(p_X12_within x2 (0 : Int32) (11 : Int32) gi1 gl2 (fun (r6 : Int32) (gi4 : Gi) (gl5 : Gl) =>
if r6 = 0 then
(Q ((-1000000) : Int32) gi4 gl5)
else
(p_X12_within x3 (0 : Int32) (719 : Int32) gi4 gl5 (fun (r9 : Int32) (gi7 : Gi) (gl8 : Gl) =>
if r9 = 0 then
(Q ((-1000000) : Int32) gi7 gl8)
else
(p_X12_within x4 (0 : Int32) (3 : Int32) gi7 gl8 (fun (r12 : Int32) (gi10 : Gi) (gl11 : Gl) =>
if r12 = 0 then
(Q ((-1000000) : Int32) gi10 gl11)
else
(p_X12_isLit x2 x3 gi10 gl11 (fun (r15 : Int32) (gi13 : Gi) (gl14 : Gl) =>
if ¬ r15 = 0 then
(∀ z16 : Int32, z16 = ((10 : Int32) * (gi13 329 0)) + x1 →
∀ z17 : Int64, z17 = (10 : Int64) * ((gi13 329 48).toInt64) →
if (2 : Int32) ≤ x4 then
(vp_in z16 20 ∧
vp_in z16 20 ∧
p_X12_shadow_146 x4 z17 ((((gi13 347 z16.toNatClampNeg).toInt64) * z17) + (((gi13 348 z16.toNatClampNeg).toInt64) * ((gi13 329 47).toInt64))) gi13 gl14 Q)
else
(vp_in z16 20 ∧
vp_in z16 20 ∧
p_X12_shadow_146 x4 z17 ((((gi13 346 z16.toNatClampNeg).toInt64) * z17) + (((gi13 348 z16.toNatClampNeg).toInt64) * ((gi13 329 46).toInt64))) gi13 gl14 Q))
else
(Q ((-1000000) : Int32) gi13 gl14))))))))))
def f_X12_shadow_146 (x4 : Int32) (y6 : Int64) (t0 : Int64) (gi : Gi) (gl : Gl) (Q : Int32 → Gi → Gl → Prop) : Prop :=
p_X12_divisor t0 y6 gi gl (fun (r3 : Int64) (gi1 : Gi) (gl2 : Gl) =>
if ¬ (jr x4 (2 : Int32)) = 0 then
(¬ r3 = 0 ∧
Q ((y6 / r3).toInt32) gi1 gl2)
else
(¬ r3 = 0 ∧
Q ((t0 / r3).toInt32) gi1 gl2))
set_option maxRecDepth 100000 in
theorem v_X12_shadow {x1 : Int32} {x2 : Int32} {x3 : Int32} {x4 : Int32} {gi : Gi} {gl : Gl} {Q : Int32 → Gi → Gl → Prop}  (h : f_X12_shadow x1 x2 x3 x4 gi gl Q) : p_X12_shadow x1 x2 x3 x4 gi gl Q := by
  unfold f_X12_shadow at h
  show PAt mX12_shadow NN NN κF 0 [some (.ref 329), some (.int x1), some (.int x2), some (.int x3), some (.int x4), none, none, none, none, none, none, none] [] gi gl _
  refine px_iload_n dX12_shadow_0 rfl rfl ?_
  refine px_iconst (v := (0 : Int32)) dX12_shadow_1 (by decide) ?_
  refine px_aload_n dX12_shadow_2 rfl rfl ?_
  refine gf_X12_16 rfl dX12_shadow_3 zl_329 zk_329 rfl zr_329_4 zl_332 ?_
  refine px_aload_n dX12_shadow_6 rfl rfl ?_
  refine gf_X12_312 rfl dX12_shadow_7 zl_329 zk_329 ?_
  obtain ⟨hi, h⟩ := h
  refine px_iaload (n := 2) dX12_shadow_10 zl_332 zk_332 zs_332 hi ?_
  refine px_iconst (v := (1 : Int32)) dX12_shadow_11 (by decide) ?_
  refine px_isub dX12_shadow_12 ?_
  refine px_callS_I (As := [.int x1, .int (0 : Int32), .int ((gi 332 (gi 329 0).toNatClampNeg) - (1 : Int32))]) (st := []) dX12_shadow_13 lk_X12_189.1 lk_X12_189.2 (by decide) rfl (Nat.le_of_ble_eq_true rfl) rfl rfl (Nat.le_of_ble_eq_true rfl) ⟨Nat.le_refl _, Nat.le_refl _, Nat.le_refl _⟩ ?_
  refine PAt.mono h (fun v κ gi1 gl2 hq => ?_)
  obtain ⟨rfl, r3, rfl, h⟩ := hq
  refine px_if_eq (tgt := 59) dX12_shadow_16 (by decide) ?_
  by_cases hc : r3 = 0
  · rw [if_pos hc] at h ⊢
    refine px_ldcw (v := ((-1000000) : Int32)) dX12_shadow_59 w_1568 ?_
    exact px_ireturn dX12_shadow_62 rfl ⟨.int, rfl, rfl, rfl⟩ ⟨rfl, _, rfl, h⟩
  · rw [if_neg hc] at h ⊢
    refine px_iload_n dX12_shadow_19 rfl rfl ?_
    refine px_iconst (v := (0 : Int32)) dX12_shadow_20 (by decide) ?_
    refine px_bipush (v := (11 : Int32)) dX12_shadow_21 (by decide) ?_
    refine px_callS_I (As := [.int x2, .int (0 : Int32), .int (11 : Int32)]) (st := []) dX12_shadow_23 lk_X12_189.1 lk_X12_189.2 (by decide) rfl (Nat.le_of_ble_eq_true rfl) rfl rfl (Nat.le_of_ble_eq_true rfl) ⟨Nat.le_refl _, Nat.le_refl _, Nat.le_refl _⟩ ?_
    refine PAt.mono h (fun v κ gi4 gl5 hq => ?_)
    obtain ⟨rfl, r6, rfl, h⟩ := hq
    refine px_if_eq (tgt := 59) dX12_shadow_26 (by decide) ?_
    by_cases hc : r6 = 0
    · rw [if_pos hc] at h ⊢
      refine px_ldcw (v := ((-1000000) : Int32)) dX12_shadow_59 w_1568 ?_
      exact px_ireturn dX12_shadow_62 rfl ⟨.int, rfl, rfl, rfl⟩ ⟨rfl, _, rfl, h⟩
    · rw [if_neg hc] at h ⊢
      refine px_iload_n dX12_shadow_29 rfl rfl ?_
      refine px_iconst (v := (0 : Int32)) dX12_shadow_30 (by decide) ?_
      refine px_sipush (v := (719 : Int32)) dX12_shadow_31 (by decide) ?_
      refine px_callS_I (As := [.int x3, .int (0 : Int32), .int (719 : Int32)]) (st := []) dX12_shadow_34 lk_X12_189.1 lk_X12_189.2 (by decide) rfl (Nat.le_of_ble_eq_true rfl) rfl rfl (Nat.le_of_ble_eq_true rfl) ⟨Nat.le_refl _, Nat.le_refl _, Nat.le_refl _⟩ ?_
      refine PAt.mono h (fun v κ gi7 gl8 hq => ?_)
      obtain ⟨rfl, r9, rfl, h⟩ := hq
      refine px_if_eq (tgt := 59) dX12_shadow_37 (by decide) ?_
      by_cases hc : r9 = 0
      · rw [if_pos hc] at h ⊢
        refine px_ldcw (v := ((-1000000) : Int32)) dX12_shadow_59 w_1568 ?_
        exact px_ireturn dX12_shadow_62 rfl ⟨.int, rfl, rfl, rfl⟩ ⟨rfl, _, rfl, h⟩
      · rw [if_neg hc] at h ⊢
        refine px_iload dX12_shadow_40 rfl ?_
        refine px_iconst (v := (0 : Int32)) dX12_shadow_42 (by decide) ?_
        refine px_iconst (v := (3 : Int32)) dX12_shadow_43 (by decide) ?_
        refine px_callS_I (As := [.int x4, .int (0 : Int32), .int (3 : Int32)]) (st := []) dX12_shadow_44 lk_X12_189.1 lk_X12_189.2 (by decide) rfl (Nat.le_of_ble_eq_true rfl) rfl rfl (Nat.le_of_ble_eq_true rfl) ⟨Nat.le_refl _, Nat.le_refl _, Nat.le_refl _⟩ ?_
        refine PAt.mono h (fun v κ gi10 gl11 hq => ?_)
        obtain ⟨rfl, r12, rfl, h⟩ := hq
        refine px_if_eq (tgt := 59) dX12_shadow_47 (by decide) ?_
        by_cases hc : r12 = 0
        · rw [if_pos hc] at h ⊢
          refine px_ldcw (v := ((-1000000) : Int32)) dX12_shadow_59 w_1568 ?_
          exact px_ireturn dX12_shadow_62 rfl ⟨.int, rfl, rfl, rfl⟩ ⟨rfl, _, rfl, h⟩
        · rw [if_neg hc] at h ⊢
          refine px_aload_n dX12_shadow_50 rfl rfl ?_
          refine px_iload_n dX12_shadow_51 rfl rfl ?_
          refine px_iload_n dX12_shadow_52 rfl rfl ?_
          refine px_callV_I (As := [.int x2, .int x3]) (st := []) dX12_shadow_53 lk_X12_364.1 lk_X12_364.2 (b := 329) zl_329 zk_329 (by decide) rfl (by decide) rfl (Nat.le_of_ble_eq_true rfl) rfl rfl (Nat.le_of_ble_eq_true rfl) ⟨Nat.le_refl _, Nat.le_refl _, Nat.le_refl _⟩ ?_
          refine PAt.mono h (fun v κ gi13 gl14 hq => ?_)
          obtain ⟨rfl, r15, rfl, h⟩ := hq
          refine px_if_ne (tgt := 63) dX12_shadow_56 (by decide) ?_
          by_cases hc : ¬ r15 = 0
          · rw [if_pos hc] at h ⊢
            refine px_bipush (v := (10 : Int32)) dX12_shadow_63 (by decide) ?_
            refine px_aload_n dX12_shadow_65 rfl rfl ?_
            refine gf_X12_312 rfl dX12_shadow_66 zl_329 zk_329 ?_
            refine px_imul dX12_shadow_69 ?_
            refine px_iload_n dX12_shadow_70 rfl rfl ?_
            refine px_iadd dX12_shadow_71 ?_
            obtain ⟨z16, hz16⟩ : ∃ y : Int32, y = ((10 : Int32) * (gi13 329 0)) + x1 := ⟨_, rfl⟩
            have h := h z16 hz16
            refine px_namei hz16 ?_
            refine px_istore (ls2 := [some (.ref 329), some (.int x1), some (.int x2), some (.int x3), some (.int x4), some (.int z16), none, none, none, none, none, none]) dX12_shadow_72 (by decide) rfl ?_
            refine px_ldc2 (v := (10 : Int64)) dX12_shadow_74 w_1569 ?_
            refine px_aload_n dX12_shadow_77 rfl rfl ?_
            refine gf_X12_355 rfl dX12_shadow_78 zl_329 zk_329 ?_
            refine px_i2l dX12_shadow_81 ?_
            refine px_lmul dX12_shadow_82 ?_
            obtain ⟨z17, hz17⟩ : ∃ y : Int64, y = (10 : Int64) * ((gi13 329 48).toInt64) := ⟨_, rfl⟩
            have h := h z17 hz17
            refine px_namel hz17 ?_
            refine px_lstore (ls2 := [some (.ref 329), some (.int x1), some (.int x2), some (.int x3), some (.int x4), some (.int z16), some (.long z17), none, none, none, none, none]) dX12_shadow_83 (by decide) rfl ?_
            refine px_iload dX12_shadow_85 rfl ?_
            refine px_iconst (v := (2 : Int32)) dX12_shadow_87 (by decide) ?_
            refine px_icmp_ge (tgt := 120) dX12_shadow_88 (by decide) ?_
            by_cases hc : (2 : Int32) ≤ x4
            · rw [if_pos hc] at h ⊢
              refine px_aload_n dX12_shadow_120 rfl rfl ?_
              refine gf_X12_62 rfl dX12_shadow_121 zl_329 zk_329 rfl zr_329_19 zl_347 ?_
              refine px_iload dX12_shadow_124 rfl ?_
              obtain ⟨hi, h⟩ := h
              refine px_iaload (n := 20) dX12_shadow_126 zl_347 zk_347 zs_347 hi ?_
              refine px_i2l dX12_shadow_127 ?_
              refine px_lload dX12_shadow_128 rfl ?_
              refine px_lmul dX12_shadow_130 ?_
              refine px_aload_n dX12_shadow_131 rfl rfl ?_
              refine gf_X12_65 rfl dX12_shadow_132 zl_329 zk_329 rfl zr_329_20 zl_348 ?_
              refine px_iload dX12_shadow_135 rfl ?_
              obtain ⟨hi, h⟩ := h
              refine px_iaload (n := 20) dX12_shadow_137 zl_348 zk_348 zs_348 hi ?_
              refine px_i2l dX12_shadow_138 ?_
              refine px_aload_n dX12_shadow_139 rfl rfl ?_
              refine gf_X12_361 rfl dX12_shadow_140 zl_329 zk_329 ?_
              refine px_i2l dX12_shadow_143 ?_
              refine px_lmul dX12_shadow_144 ?_
              refine px_ladd dX12_shadow_145 ?_
              exact PAt.forget h (lsub_at ⟨rfl, ⟨rfl, trivial⟩⟩)
            · rw [if_neg hc] at h ⊢
              refine px_aload_n dX12_shadow_91 rfl rfl ?_
              refine gf_X12_59 rfl dX12_shadow_92 zl_329 zk_329 rfl zr_329_18 zl_346 ?_
              refine px_iload dX12_shadow_95 rfl ?_
              obtain ⟨hi, h⟩ := h
              refine px_iaload (n := 20) dX12_shadow_97 zl_346 zk_346 zs_346 hi ?_
              refine px_i2l dX12_shadow_98 ?_
              refine px_lload dX12_shadow_99 rfl ?_
              refine px_lmul dX12_shadow_101 ?_
              refine px_aload_n dX12_shadow_102 rfl rfl ?_
              refine gf_X12_65 rfl dX12_shadow_103 zl_329 zk_329 rfl zr_329_20 zl_348 ?_
              refine px_iload dX12_shadow_106 rfl ?_
              obtain ⟨hi, h⟩ := h
              refine px_iaload (n := 20) dX12_shadow_108 zl_348 zk_348 zs_348 hi ?_
              refine px_i2l dX12_shadow_109 ?_
              refine px_aload_n dX12_shadow_110 rfl rfl ?_
              refine gf_X12_358 rfl dX12_shadow_111 zl_329 zk_329 ?_
              refine px_i2l dX12_shadow_114 ?_
              refine px_lmul dX12_shadow_115 ?_
              refine px_ladd dX12_shadow_116 ?_
              refine px_goto (tgt := 146) dX12_shadow_117 (by decide) ?_
              exact PAt.forget h (lsub_at ⟨rfl, ⟨rfl, trivial⟩⟩)
          · rw [if_neg hc] at h ⊢
            refine px_ldcw (v := ((-1000000) : Int32)) dX12_shadow_59 w_1568 ?_
            exact px_ireturn dX12_shadow_62 rfl ⟨.int, rfl, rfl, rfl⟩ ⟨rfl, _, rfl, h⟩
set_option maxRecDepth 100000 in
theorem v_X12_shadow_146 {x4 : Int32} {y6 : Int64} {t0 : Int64} {gi : Gi} {gl : Gl} {Q : Int32 → Gi → Gl → Prop}  (h : f_X12_shadow_146 x4 y6 t0 gi gl Q) : p_X12_shadow_146 x4 y6 t0 gi gl Q := by
  unfold f_X12_shadow_146 at h
  show PAt mX12_shadow NN NN κF 146 [none, none, none, none, some (.int x4), none, some (.long y6), none, none, none, none, none] [.long t0] gi gl _
  refine px_lstore (ls2 := [none, none, none, none, some (.int x4), none, some (.long y6), none, some (.long t0), none, none, none]) dX12_shadow_146 (by decide) rfl ?_
  refine px_lload dX12_shadow_148 rfl ?_
  refine px_lload dX12_shadow_150 rfl ?_
  refine px_callS_L (As := [.long t0, .long y6]) (st := []) dX12_shadow_152 lk_X12_370.1 lk_X12_370.2 (by decide) rfl (Nat.le_of_ble_eq_true rfl) rfl rfl (Nat.le_of_ble_eq_true rfl) ⟨Nat.le_refl _, Nat.le_refl _, Nat.le_refl _⟩ ?_
  refine PAt.mono h (fun v κ gi1 gl2 hq => ?_)
  obtain ⟨rfl, r3, rfl, h⟩ := hq
  refine px_lstore (ls2 := [none, none, none, none, some (.int x4), none, some (.long y6), none, some (.long t0), none, some (.long r3), none]) dX12_shadow_155 (by decide) rfl ?_
  refine px_iload dX12_shadow_157 rfl ?_
  refine px_iconst (v := (2 : Int32)) dX12_shadow_159 (by decide) ?_
  refine px_irem dX12_shadow_160 (by decide) ?_
  refine px_if_ne (tgt := 172) dX12_shadow_161 (by decide) ?_
  by_cases hc : ¬ (jr x4 (2 : Int32)) = 0
  · rw [if_pos hc] at h ⊢
    refine px_lload dX12_shadow_172 rfl ?_
    refine px_lload dX12_shadow_174 rfl ?_
    obtain ⟨hne, h⟩ := h
    refine px_ldiv dX12_shadow_176 hne ?_
    refine px_l2i dX12_shadow_177 ?_
    exact px_ireturn dX12_shadow_178 rfl ⟨.int, rfl, rfl, rfl⟩ ⟨rfl, _, rfl, h⟩
  · rw [if_neg hc] at h ⊢
    refine px_lload dX12_shadow_164 rfl ?_
    refine px_lload dX12_shadow_166 rfl ?_
    obtain ⟨hne, h⟩ := h
    refine px_ldiv dX12_shadow_168 hne ?_
    refine px_goto (tgt := 177) dX12_shadow_169 (by decide) ?_
    refine px_l2i dX12_shadow_177 ?_
    exact px_ireturn dX12_shadow_178 rfl ⟨.int, rfl, rfl, rfl⟩ ⟨rfl, _, rfl, h⟩
def f_X12_isNear (x1 : Int32) (gi : Gi) (gl : Gl) (Q : Int32 → Gi → Gl → Prop) : Prop :=
vp_in x1 480 ∧
∀ z1 : Int32, z1 = ((10 : Int32) * (gi 329 0)) + (gi 358 x1.toNatClampNeg) →
vp_in z1 20 ∧
vp_in x1 480 ∧
vp_in z1 20 ∧
∀ z2 : Int32, z2 = ((((gi 346 z1.toNatClampNeg) - (gi 359 x1.toNatClampNeg)) * (10 : Int32)) * (gi 329 48)) + ((gi 348 z1.toNatClampNeg) * (gi 329 46)) →
vp_in z1 20 ∧
vp_in x1 480 ∧
vp_in z1 20 ∧
∀ z3 : Int32, z3 = ((((gi 347 z1.toNatClampNeg) - (gi 360 x1.toNatClampNeg)) * (10 : Int32)) * (gi 329 48)) + ((gi 348 z1.toNatClampNeg) * (gi 329 47)) →
vp_in x1 480 ∧
∀ z4 : Int32, z4 = ((gi 361 x1.toNatClampNeg) * (10 : Int32)) * (gi 329 48) →
if z4 < z2 then
(Q (0 : Int32) gi gl)
else
(if z4 < (-z2) then
(Q (0 : Int32) gi gl)
else
(if z4 < z3 then
(Q (0 : Int32) gi gl)
else
(if z4 < (-z3) then
(Q (0 : Int32) gi gl)
else
(Q (1 : Int32) gi gl))))
set_option maxRecDepth 100000 in
theorem v_X12_isNear {x1 : Int32} {gi : Gi} {gl : Gl} {Q : Int32 → Gi → Gl → Prop}  (h : f_X12_isNear x1 gi gl Q) : p_X12_isNear x1 gi gl Q := by
  unfold f_X12_isNear at h
  show PAt mX12_isNear NN NN κF 0 [some (.ref 329), some (.int x1), none, none, none, none] [] gi gl _
  refine px_bipush (v := (10 : Int32)) dX12_isNear_0 (by decide) ?_
  refine px_aload_n dX12_isNear_2 rfl rfl ?_
  refine gf_X12_312 rfl dX12_isNear_3 zl_329 zk_329 ?_
  refine px_imul dX12_isNear_6 ?_
  refine px_aload_n dX12_isNear_7 rfl rfl ?_
  refine gf_X12_95 rfl dX12_isNear_8 zl_329 zk_329 rfl zr_329_30 zl_358 ?_
  refine px_iload_n dX12_isNear_11 rfl rfl ?_
  obtain ⟨hi, h⟩ := h
  refine px_iaload (n := 480) dX12_isNear_12 zl_358 zk_358 zs_358 hi ?_
  refine px_iadd dX12_isNear_13 ?_
  obtain ⟨z1, hz1⟩ : ∃ y : Int32, y = ((10 : Int32) * (gi 329 0)) + (gi 358 x1.toNatClampNeg) := ⟨_, rfl⟩
  have h := h z1 hz1
  refine px_namei hz1 ?_
  refine px_istore_n (ls2 := [some (.ref 329), some (.int x1), some (.int z1), none, none, none]) (i := 2) rfl dX12_isNear_14 (by decide) rfl ?_
  refine px_aload_n dX12_isNear_15 rfl rfl ?_
  refine gf_X12_59 rfl dX12_isNear_16 zl_329 zk_329 rfl zr_329_18 zl_346 ?_
  refine px_iload_n dX12_isNear_19 rfl rfl ?_
  obtain ⟨hi, h⟩ := h
  refine px_iaload (n := 20) dX12_isNear_20 zl_346 zk_346 zs_346 hi ?_
  refine px_aload_n dX12_isNear_21 rfl rfl ?_
  refine gf_X12_98 rfl dX12_isNear_22 zl_329 zk_329 rfl zr_329_31 zl_359 ?_
  refine px_iload_n dX12_isNear_25 rfl rfl ?_
  obtain ⟨hi, h⟩ := h
  refine px_iaload (n := 480) dX12_isNear_26 zl_359 zk_359 zs_359 hi ?_
  refine px_isub dX12_isNear_27 ?_
  refine px_bipush (v := (10 : Int32)) dX12_isNear_28 (by decide) ?_
  refine px_imul dX12_isNear_30 ?_
  refine px_aload_n dX12_isNear_31 rfl rfl ?_
  refine gf_X12_355 rfl dX12_isNear_32 zl_329 zk_329 ?_
  refine px_imul dX12_isNear_35 ?_
  refine px_aload_n dX12_isNear_36 rfl rfl ?_
  refine gf_X12_65 rfl dX12_isNear_37 zl_329 zk_329 rfl zr_329_20 zl_348 ?_
  refine px_iload_n dX12_isNear_40 rfl rfl ?_
  obtain ⟨hi, h⟩ := h
  refine px_iaload (n := 20) dX12_isNear_41 zl_348 zk_348 zs_348 hi ?_
  refine px_aload_n dX12_isNear_42 rfl rfl ?_
  refine gf_X12_358 rfl dX12_isNear_43 zl_329 zk_329 ?_
  refine px_imul dX12_isNear_46 ?_
  refine px_iadd dX12_isNear_47 ?_
  obtain ⟨z2, hz2⟩ : ∃ y : Int32, y = ((((gi 346 z1.toNatClampNeg) - (gi 359 x1.toNatClampNeg)) * (10 : Int32)) * (gi 329 48)) + ((gi 348 z1.toNatClampNeg) * (gi 329 46)) := ⟨_, rfl⟩
  have h := h z2 hz2
  refine px_namei hz2 ?_
  refine px_istore_n (ls2 := [some (.ref 329), some (.int x1), some (.int z1), some (.int z2), none, none]) (i := 3) rfl dX12_isNear_48 (by decide) rfl ?_
  refine px_aload_n dX12_isNear_49 rfl rfl ?_
  refine gf_X12_62 rfl dX12_isNear_50 zl_329 zk_329 rfl zr_329_19 zl_347 ?_
  refine px_iload_n dX12_isNear_53 rfl rfl ?_
  obtain ⟨hi, h⟩ := h
  refine px_iaload (n := 20) dX12_isNear_54 zl_347 zk_347 zs_347 hi ?_
  refine px_aload_n dX12_isNear_55 rfl rfl ?_
  refine gf_X12_101 rfl dX12_isNear_56 zl_329 zk_329 rfl zr_329_32 zl_360 ?_
  refine px_iload_n dX12_isNear_59 rfl rfl ?_
  obtain ⟨hi, h⟩ := h
  refine px_iaload (n := 480) dX12_isNear_60 zl_360 zk_360 zs_360 hi ?_
  refine px_isub dX12_isNear_61 ?_
  refine px_bipush (v := (10 : Int32)) dX12_isNear_62 (by decide) ?_
  refine px_imul dX12_isNear_64 ?_
  refine px_aload_n dX12_isNear_65 rfl rfl ?_
  refine gf_X12_355 rfl dX12_isNear_66 zl_329 zk_329 ?_
  refine px_imul dX12_isNear_69 ?_
  refine px_aload_n dX12_isNear_70 rfl rfl ?_
  refine gf_X12_65 rfl dX12_isNear_71 zl_329 zk_329 rfl zr_329_20 zl_348 ?_
  refine px_iload_n dX12_isNear_74 rfl rfl ?_
  obtain ⟨hi, h⟩ := h
  refine px_iaload (n := 20) dX12_isNear_75 zl_348 zk_348 zs_348 hi ?_
  refine px_aload_n dX12_isNear_76 rfl rfl ?_
  refine gf_X12_361 rfl dX12_isNear_77 zl_329 zk_329 ?_
  refine px_imul dX12_isNear_80 ?_
  refine px_iadd dX12_isNear_81 ?_
  obtain ⟨z3, hz3⟩ : ∃ y : Int32, y = ((((gi 347 z1.toNatClampNeg) - (gi 360 x1.toNatClampNeg)) * (10 : Int32)) * (gi 329 48)) + ((gi 348 z1.toNatClampNeg) * (gi 329 47)) := ⟨_, rfl⟩
  have h := h z3 hz3
  refine px_namei hz3 ?_
  refine px_istore (ls2 := [some (.ref 329), some (.int x1), some (.int z1), some (.int z2), some (.int z3), none]) dX12_isNear_82 (by decide) rfl ?_
  refine px_aload_n dX12_isNear_84 rfl rfl ?_
  refine gf_X12_104 rfl dX12_isNear_85 zl_329 zk_329 rfl zr_329_33 zl_361 ?_
  refine px_iload_n dX12_isNear_88 rfl rfl ?_
  obtain ⟨hi, h⟩ := h
  refine px_iaload (n := 480) dX12_isNear_89 zl_361 zk_361 zs_361 hi ?_
  refine px_bipush (v := (10 : Int32)) dX12_isNear_90 (by decide) ?_
  refine px_imul dX12_isNear_92 ?_
  refine px_aload_n dX12_isNear_93 rfl rfl ?_
  refine gf_X12_355 rfl dX12_isNear_94 zl_329 zk_329 ?_
  refine px_imul dX12_isNear_97 ?_
  obtain ⟨z4, hz4⟩ : ∃ y : Int32, y = ((gi 361 x1.toNatClampNeg) * (10 : Int32)) * (gi 329 48) := ⟨_, rfl⟩
  have h := h z4 hz4
  refine px_namei hz4 ?_
  refine px_istore (ls2 := [some (.ref 329), some (.int x1), some (.int z1), some (.int z2), some (.int z3), some (.int z4)]) dX12_isNear_98 (by decide) rfl ?_
  refine px_iload_n dX12_isNear_100 rfl rfl ?_
  refine px_iload dX12_isNear_101 rfl ?_
  refine px_icmp_gt (tgt := 132) dX12_isNear_103 (by decide) ?_
  by_cases hc : z4 < z2
  · rw [if_pos hc] at h ⊢
    refine px_iconst (v := (0 : Int32)) dX12_isNear_132 (by decide) ?_
    exact px_ireturn dX12_isNear_133 rfl ⟨.boolean, rfl, rfl, by decide⟩ ⟨rfl, _, rfl, h⟩
  · rw [if_neg hc] at h ⊢
    refine px_iload_n dX12_isNear_106 rfl rfl ?_
    refine px_ineg dX12_isNear_107 ?_
    refine px_iload dX12_isNear_108 rfl ?_
    refine px_icmp_gt (tgt := 132) dX12_isNear_110 (by decide) ?_
    by_cases hc : z4 < (-z2)
    · rw [if_pos hc] at h ⊢
      refine px_iconst (v := (0 : Int32)) dX12_isNear_132 (by decide) ?_
      exact px_ireturn dX12_isNear_133 rfl ⟨.boolean, rfl, rfl, by decide⟩ ⟨rfl, _, rfl, h⟩
    · rw [if_neg hc] at h ⊢
      refine px_iload dX12_isNear_113 rfl ?_
      refine px_iload dX12_isNear_115 rfl ?_
      refine px_icmp_gt (tgt := 132) dX12_isNear_117 (by decide) ?_
      by_cases hc : z4 < z3
      · rw [if_pos hc] at h ⊢
        refine px_iconst (v := (0 : Int32)) dX12_isNear_132 (by decide) ?_
        exact px_ireturn dX12_isNear_133 rfl ⟨.boolean, rfl, rfl, by decide⟩ ⟨rfl, _, rfl, h⟩
      · rw [if_neg hc] at h ⊢
        refine px_iload dX12_isNear_120 rfl ?_
        refine px_ineg dX12_isNear_122 ?_
        refine px_iload dX12_isNear_123 rfl ?_
        refine px_icmp_gt (tgt := 132) dX12_isNear_125 (by decide) ?_
        by_cases hc : z4 < (-z3)
        · rw [if_pos hc] at h ⊢
          refine px_iconst (v := (0 : Int32)) dX12_isNear_132 (by decide) ?_
          exact px_ireturn dX12_isNear_133 rfl ⟨.boolean, rfl, rfl, by decide⟩ ⟨rfl, _, rfl, h⟩
        · rw [if_neg hc] at h ⊢
          refine px_iconst (v := (1 : Int32)) dX12_isNear_128 (by decide) ?_
          refine px_goto (tgt := 133) dX12_isNear_129 (by decide) ?_
          exact px_ireturn dX12_isNear_133 rfl ⟨.boolean, rfl, rfl, by decide⟩ ⟨rfl, _, rfl, h⟩
abbrev p_X12_standsOn_38 (x2 : Int32) (x3 : Int32) (s0 : Int32) (gi : Gi) (gl : Gl) (Q : Int32 → Gi → Gl → Prop) : Prop := PAt mX12_standsOn NN NN κF 38 [some (.ref 329), none, some (.int x2), some (.int x3), none] [.int s0] gi gl (RiQ Q)
def f_X12_standsOn (x1 : Int32) (x2 : Int32) (gi : Gi) (gl : Gl) (Q : Int32 → Gi → Gl → Prop) : Prop :=
∀ z1 : Int32, z1 = ((12 : Int32) * (gi 329 0)) + x1 →
if ¬ x1 = (gi 329 50) then
(vp_in z1 24 ∧
vp_in z1 24 ∧
p_X12_standsOn_38 x2 z1 ((gi 340 z1.toNatClampNeg) - (gi 341 z1.toNatClampNeg)) gi gl Q)
else
(p_X12_standsOn_38 x2 z1 (gi 329 51) gi gl Q)
def f_X12_standsOn_38 (x2 : Int32) (x3 : Int32) (s0 : Int32) (gi : Gi) (gl : Gl) (Q : Int32 → Gi → Gl → Prop) : Prop :=
if x2 < s0 then
(Q (0 : Int32) gi gl)
else
(vp_in x3 24 ∧
if (gi 342 x3.toNatClampNeg) < 0 then
(Q (1 : Int32) gi gl)
else
(vp_in x3 24 ∧
vp_in x3 24 ∧
if (((gi 342 x3.toNatClampNeg) + (gi 329 49)) + (gi 343 x3.toNatClampNeg)) < x2 then
(Q (0 : Int32) gi gl)
else
(Q (1 : Int32) gi gl)))
set_option maxRecDepth 100000 in
theorem v_X12_standsOn {x1 : Int32} {x2 : Int32} {gi : Gi} {gl : Gl} {Q : Int32 → Gi → Gl → Prop}  (h : f_X12_standsOn x1 x2 gi gl Q) : p_X12_standsOn x1 x2 gi gl Q := by
  unfold f_X12_standsOn at h
  show PAt mX12_standsOn NN NN κF 0 [some (.ref 329), some (.int x1), some (.int x2), none, none] [] gi gl _
  refine px_bipush (v := (12 : Int32)) dX12_standsOn_0 (by decide) ?_
  refine px_aload_n dX12_standsOn_2 rfl rfl ?_
  refine gf_X12_312 rfl dX12_standsOn_3 zl_329 zk_329 ?_
  refine px_imul dX12_standsOn_6 ?_
  refine px_iload_n dX12_standsOn_7 rfl rfl ?_
  refine px_iadd dX12_standsOn_8 ?_
  obtain ⟨z1, hz1⟩ : ∃ y : Int32, y = ((12 : Int32) * (gi 329 0)) + x1 := ⟨_, rfl⟩
  have h := h z1 hz1
  refine px_namei hz1 ?_
  refine px_istore_n (ls2 := [some (.ref 329), some (.int x1), some (.int x2), some (.int z1), none]) (i := 3) rfl dX12_standsOn_9 (by decide) rfl ?_
  refine px_iload_n dX12_standsOn_10 rfl rfl ?_
  refine px_aload_n dX12_standsOn_11 rfl rfl ?_
  refine gf_X12_118 rfl dX12_standsOn_12 zl_329 zk_329 ?_
  refine px_icmp_ne (tgt := 25) dX12_standsOn_15 (by decide) ?_
  by_cases hc : ¬ x1 = (gi 329 50)
  · rw [if_pos hc] at h ⊢
    refine px_aload_n dX12_standsOn_25 rfl rfl ?_
    refine gf_X12_41 rfl dX12_standsOn_26 zl_329 zk_329 rfl zr_329_12 zl_340 ?_
    refine px_iload_n dX12_standsOn_29 rfl rfl ?_
    obtain ⟨hi, h⟩ := h
    refine px_iaload (n := 24) dX12_standsOn_30 zl_340 zk_340 zs_340 hi ?_
    refine px_aload_n dX12_standsOn_31 rfl rfl ?_
    refine gf_X12_44 rfl dX12_standsOn_32 zl_329 zk_329 rfl zr_329_13 zl_341 ?_
    refine px_iload_n dX12_standsOn_35 rfl rfl ?_
    obtain ⟨hi, h⟩ := h
    refine px_iaload (n := 24) dX12_standsOn_36 zl_341 zk_341 zs_341 hi ?_
    refine px_isub dX12_standsOn_37 ?_
    exact PAt.forget h (lsub_at ⟨rfl, ⟨rfl, ⟨rfl, trivial⟩⟩⟩)
  · rw [if_neg hc] at h ⊢
    refine px_aload_n dX12_standsOn_18 rfl rfl ?_
    refine gf_X12_374 rfl dX12_standsOn_19 zl_329 zk_329 ?_
    refine px_goto (tgt := 38) dX12_standsOn_22 (by decide) ?_
    exact PAt.forget h (lsub_at ⟨rfl, ⟨rfl, ⟨rfl, trivial⟩⟩⟩)
set_option maxRecDepth 100000 in
theorem v_X12_standsOn_38 {x2 : Int32} {x3 : Int32} {s0 : Int32} {gi : Gi} {gl : Gl} {Q : Int32 → Gi → Gl → Prop}  (h : f_X12_standsOn_38 x2 x3 s0 gi gl Q) : p_X12_standsOn_38 x2 x3 s0 gi gl Q := by
  unfold f_X12_standsOn_38 at h
  show PAt mX12_standsOn NN NN κF 38 [some (.ref 329), none, some (.int x2), some (.int x3), none] [.int s0] gi gl _
  refine px_istore (ls2 := [some (.ref 329), none, some (.int x2), some (.int x3), some (.int s0)]) dX12_standsOn_38 (by decide) rfl ?_
  refine px_iload_n dX12_standsOn_40 rfl rfl ?_
  refine px_iload dX12_standsOn_41 rfl ?_
  refine px_icmp_lt (tgt := 81) dX12_standsOn_43 (by decide) ?_
  by_cases hc : x2 < s0
  · rw [if_pos hc] at h ⊢
    refine px_iconst (v := (0 : Int32)) dX12_standsOn_81 (by decide) ?_
    exact px_ireturn dX12_standsOn_82 rfl ⟨.boolean, rfl, rfl, by decide⟩ ⟨rfl, _, rfl, h⟩
  · rw [if_neg hc] at h ⊢
    refine px_aload_n dX12_standsOn_46 rfl rfl ?_
    refine gf_X12_47 rfl dX12_standsOn_47 zl_329 zk_329 rfl zr_329_14 zl_342 ?_
    refine px_iload_n dX12_standsOn_50 rfl rfl ?_
    obtain ⟨hi, h⟩ := h
    refine px_iaload (n := 24) dX12_standsOn_51 zl_342 zk_342 zs_342 hi ?_
    refine px_if_lt (tgt := 77) dX12_standsOn_52 (by decide) ?_
    by_cases hc : (gi 342 x3.toNatClampNeg) < 0
    · rw [if_pos hc] at h ⊢
      refine px_iconst (v := (1 : Int32)) dX12_standsOn_77 (by decide) ?_
      refine px_goto (tgt := 82) dX12_standsOn_78 (by decide) ?_
      exact px_ireturn dX12_standsOn_82 rfl ⟨.boolean, rfl, rfl, by decide⟩ ⟨rfl, _, rfl, h⟩
    · rw [if_neg hc] at h ⊢
      refine px_iload_n dX12_standsOn_55 rfl rfl ?_
      refine px_aload_n dX12_standsOn_56 rfl rfl ?_
      refine gf_X12_47 rfl dX12_standsOn_57 zl_329 zk_329 rfl zr_329_14 zl_342 ?_
      refine px_iload_n dX12_standsOn_60 rfl rfl ?_
      obtain ⟨hi, h⟩ := h
      refine px_iaload (n := 24) dX12_standsOn_61 zl_342 zk_342 zs_342 hi ?_
      refine px_aload_n dX12_standsOn_62 rfl rfl ?_
      refine gf_X12_377 rfl dX12_standsOn_63 zl_329 zk_329 ?_
      refine px_iadd dX12_standsOn_66 ?_
      refine px_aload_n dX12_standsOn_67 rfl rfl ?_
      refine gf_X12_50 rfl dX12_standsOn_68 zl_329 zk_329 rfl zr_329_15 zl_343 ?_
      refine px_iload_n dX12_standsOn_71 rfl rfl ?_
      obtain ⟨hi, h⟩ := h
      refine px_iaload (n := 24) dX12_standsOn_72 zl_343 zk_343 zs_343 hi ?_
      refine px_iadd dX12_standsOn_73 ?_
      refine px_icmp_gt (tgt := 81) dX12_standsOn_74 (by decide) ?_
      by_cases hc : (((gi 342 x3.toNatClampNeg) + (gi 329 49)) + (gi 343 x3.toNatClampNeg)) < x2
      · rw [if_pos hc] at h ⊢
        refine px_iconst (v := (0 : Int32)) dX12_standsOn_81 (by decide) ?_
        exact px_ireturn dX12_standsOn_82 rfl ⟨.boolean, rfl, rfl, by decide⟩ ⟨rfl, _, rfl, h⟩
      · rw [if_neg hc] at h ⊢
        refine px_iconst (v := (1 : Int32)) dX12_standsOn_77 (by decide) ?_
        refine px_goto (tgt := 82) dX12_standsOn_78 (by decide) ?_
        exact px_ireturn dX12_standsOn_82 rfl ⟨.boolean, rfl, rfl, by decide⟩ ⟨rfl, _, rfl, h⟩
