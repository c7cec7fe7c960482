/-! laid by program: X6 -/
abbrev p_X6_weigh_23 (p : Nat) (x2 : Int32) (gi : Gi) (gl : Gl) (Q : Gi → Gl → Prop) : Prop := PAt mX6_weigh NN NN κF 23 [some (.ref 25), some (.ref p), some (.int x2), none] [] gi gl (RvQ Q)
def f_X6_weigh (p : Nat) (gi : Gi) (gl : Gl) (Q : Gi → Gl → Prop) : Prop :=
p_X5_size p gi gl (fun (r3 : Int32) (gi1 : Gi) (gl2 : Gl) =>
∀ gi4 : Gi, gi4 = uI gi1 25 (upd (gi1 25) 7 (jmin r3 (12 : Int32))) →
p_J7_fill_53178 26 (0 : Int32) gi4 gl2 (fun (gi5 : Gi) (gl6 : Gl) =>
p_X6_weigh_23 p (0 : Int32) gi5 gl6 Q))
def f_X6_weigh_23 (p : Nat) (x2 : Int32) (gi : Gi) (gl : Gl) (Q : Gi → Gl → Prop) : Prop :=
if (12 : Int32) ≤ x2 then
(p_X6_markSmaller  gi gl (fun (gi1 : Gi) (gl2 : Gl) =>
Q gi1 gl2))
else
(∀ gi3 : Gi, gi3 = uI gi 25 (upd (gi 25) 5 (0 : Int32)) →
p_X6_noteDays p x2 gi3 gl (fun (gi4 : Gi) (gl5 : Gl) =>
∀ z6 : Int32, z6 = gi4 25 5 →
p_X6_noteMinutes p x2 gi4 gl5 (fun (gi7 : Gi) (gl8 : Gl) =>
p_X6_markMoments z6 gi7 gl8 (fun (gi9 : Gi) (gl10 : Gl) =>
p_X6_weigh_23 p (x2 + (1 : Int32)) gi9 gl10 Q))))
set_option maxRecDepth 100000 in
theorem v_X6_weigh {p : Nat} {gi : Gi} {gl : Gl} {Q : Gi → Gl → Prop} (hpN : p < NN) (hpK : sK p = 5) (h : f_X6_weigh p gi gl Q) : p_X6_weigh p gi gl Q := by
  unfold f_X6_weigh at h
  show PAt mX6_weigh NN NN κF 0 [some (.ref 25), some (.ref p), none, none] [] gi gl _
  refine px_aload_n dX6_weigh_0 rfl rfl ?_
  refine px_aload_n dX6_weigh_1 rfl rfl ?_
  refine px_callV_I (As := []) (st := [.ref 25]) dX6_weigh_2 lk_X6_28.1 lk_X6_28.2 (b := p) hpN hpK (by decide) rfl (by decide) rfl (Nat.le_of_ble_eq_true rfl) rfl rfl (Nat.le_of_ble_eq_true rfl) ⟨Nat.le_refl _, Nat.le_refl _, Nat.le_refl _⟩ ?_
  refine PAt.mono h (fun v κ gi1 gl2 hq => ?_)
  obtain ⟨rfl, r3, rfl, h⟩ := hq
  refine px_bipush (v := (12 : Int32)) dX6_weigh_5 (by decide) ?_
  refine px_mmin dX6_weigh_7 w_956 w_436 w_112 w_437 (by decide) (Nat.le_of_ble_eq_true rfl) ⟨Nat.le_refl _, Nat.le_refl _⟩ ?_
  refine pf_X6_40 rfl dX6_weigh_10 zl_25 zk_25 ?_
  obtain ⟨gi4, hgi4⟩ : ∃ y : Gi, y = uI gi1 25 (upd (gi1 25) 7 (jmin r3 (12 : Int32))) := ⟨_, rfl⟩
  have h := h gi4 hgi4
  refine px_namegi hgi4 ?_
  refine px_aload_n dX6_weigh_13 rfl rfl ?_
  refine gf_X6_11 rfl dX6_weigh_14 zl_25 zk_25 rfl zr_25_1 zl_26 ?_
  refine px_iconst (v := (0 : Int32)) dX6_weigh_17 (by decide) ?_
  refine px_callS_V (As := [.ref 26, .int (0 : Int32)]) (st := []) dX6_weigh_18 lk_X6_43.1 lk_X6_43.2 (by decide) rfl (Nat.le_of_ble_eq_true rfl) rfl rfl (Nat.le_of_ble_eq_true rfl) ⟨Nat.le_refl _, Nat.le_refl _, Nat.le_refl _⟩ ?_
  refine PAt.mono h (fun v κ gi5 gl6 hq => ?_)
  obtain ⟨rfl, -, h⟩ := hq
  refine px_iconst (v := (0 : Int32)) dX6_weigh_21 (by decide) ?_
  refine px_istore_n (ls2 := [some (.ref 25), some (.ref p), some (.int (0 : Int32)), none]) (i := 2) rfl dX6_weigh_22 (by decide) rfl ?_
  exact PAt.forget h (lsub_at ⟨rfl, ⟨rfl, ⟨rfl, trivial⟩⟩⟩)
set_option maxRecDepth 100000 in
theorem v_X6_weigh_23 {p : Nat} {x2 : Int32} {gi : Gi} {gl : Gl} {Q : Gi → Gl → Prop} (hpN : p < NN) (hpK : sK p = 5) (h : f_X6_weigh_23 p x2 gi gl Q) : p_X6_weigh_23 p x2 gi gl Q := by
  unfold f_X6_weigh_23 at h
  show PAt mX6_weigh NN NN κF 23 [some (.ref 25), some (.ref p), some (.int x2), none] [] gi gl _
  refine px_iload_n dX6_weigh_23 rfl rfl ?_
  refine px_bipush (v := (12 : Int32)) dX6_weigh_24 (by decide) ?_
  refine px_icmp_ge (tgt := 62) dX6_weigh_26 (by decide) ?_
  by_cases hc : (12 : Int32) ≤ x2
  · rw [if_pos hc] at h ⊢
    refine px_aload_n dX6_weigh_62 rfl rfl ?_
    refine px_callV_V (As := []) (st := []) dX6_weigh_63 lk_X6_63.1 lk_X6_63.2 (b := 25) zl_25 zk_25 (by decide) rfl (by decide) rfl (Nat.le_of_ble_eq_true rfl) rfl rfl (Nat.le_of_ble_eq_true rfl) ⟨Nat.le_refl _, Nat.le_refl _, Nat.le_refl _⟩ ?_
    refine PAt.mono h (fun v κ gi1 gl2 hq => ?_)
    obtain ⟨rfl, -, h⟩ := hq
    exact px_return dX6_weigh_66 rfl rfl ⟨rfl, rfl, h⟩
  · rw [if_neg hc] at h ⊢
    refine px_aload_n dX6_weigh_29 rfl rfl ?_
    refine px_iconst (v := (0 : Int32)) dX6_weigh_30 (by decide) ?_
    refine pf_X6_49 rfl dX6_weigh_31 zl_25 zk_25 ?_
    obtain ⟨gi3, hgi3⟩ : ∃ y : Gi, y = uI gi 25 (upd (gi 25) 5 (0 : Int32)) := ⟨_, rfl⟩
    have h := h gi3 hgi3
    refine px_namegi hgi3 ?_
    refine px_aload_n dX6_weigh_34 rfl rfl ?_
    refine px_aload_n dX6_weigh_35 rfl rfl ?_
    refine px_iload_n dX6_weigh_36 rfl rfl ?_
    refine px_callV_V (As := [.ref p, .int x2]) (st := []) dX6_weigh_37 lk_X6_52.1 lk_X6_52.2 (b := 25) zl_25 zk_25 (by decide) rfl (by decide) rfl (Nat.le_of_ble_eq_true rfl) rfl rfl (Nat.le_of_ble_eq_true rfl) ⟨Nat.le_refl _, Nat.le_refl _, Nat.le_refl _⟩ ?_
    refine PAt.mono h (fun v κ gi4 gl5 hq => ?_)
    obtain ⟨rfl, -, h⟩ := hq
    refine px_aload_n dX6_weigh_40 rfl rfl ?_
    refine gf_X6_49 rfl dX6_weigh_41 zl_25 zk_25 ?_
    obtain ⟨z6, hz6⟩ : ∃ y : Int32, y = gi4 25 5 := ⟨_, rfl⟩
    have h := h z6 hz6
    refine px_namei hz6 ?_
    refine px_istore_n (ls2 := [some (.ref 25), some (.ref p), some (.int x2), some (.int z6)]) (i := 3) rfl dX6_weigh_44 (by decide) rfl ?_
    refine px_aload_n dX6_weigh_45 rfl rfl ?_
    refine px_aload_n dX6_weigh_46 rfl rfl ?_
    refine px_iload_n dX6_weigh_47 rfl rfl ?_
    refine px_callV_V (As := [.ref p, .int x2]) (st := []) dX6_weigh_48 lk_X6_56.1 lk_X6_56.2 (b := 25) zl_25 zk_25 (by decide) rfl (by decide) rfl (Nat.le_of_ble_eq_true rfl) rfl rfl (Nat.le_of_ble_eq_true rfl) ⟨Nat.le_refl _, Nat.le_refl _, Nat.le_refl _⟩ ?_
    refine PAt.mono h (fun v κ gi7 gl8 hq => ?_)
    obtain ⟨rfl, -, h⟩ := hq
    refine px_aload_n dX6_weigh_51 rfl rfl ?_
    refine px_iload_n dX6_weigh_52 rfl rfl ?_
    refine px_callV_V (As := [.int z6]) (st := []) dX6_weigh_53 lk_X6_59.1 lk_X6_59.2 (b := 25) zl_25 zk_25 (by decide) rfl (by decide) rfl (Nat.le_of_ble_eq_true rfl) rfl rfl (Nat.le_of_ble_eq_true rfl) ⟨Nat.le_refl _, Nat.le_refl _, Nat.le_refl _⟩ ?_
    refine PAt.mono h (fun v κ gi9 gl10 hq => ?_)
    obtain ⟨rfl, -, h⟩ := hq
    refine px_iinc (v := x2 + (1 : Int32)) (ls2 := [some (.ref 25), some (.ref p), some (.int (x2 + (1 : Int32))), some (.int z6)]) dX6_weigh_56 rfl rfl (by decide) rfl ?_
    refine px_goto (tgt := 23) dX6_weigh_59 (by decide) ?_
    exact PAt.forget h (lsub_at ⟨rfl, ⟨rfl, ⟨rfl, trivial⟩⟩⟩)
abbrev p_X6_smallestQuarrel_4 (x1 : Int32) (x2 : Int32) (gi : Gi) (gl : Gl) (Q : Int32 → Gi → Gl → Prop) : Prop := PAt mX6_smallestQuarrel NN NN κF 4 [some (.ref 25), some (.int x1), some (.int x2)] [] gi gl (RiQ Q)
def f_X6_smallestQuarrel  (gi : Gi) (gl : Gl) (Q : Int32 → Gi → Gl → Prop) : Prop :=
p_X6_smallestQuarrel_4 (0 : Int32) (1 : Int32) gi gl Q
def f_X6_smallestQuarrel_4 (x1 : Int32) (x2 : Int32) (gi : Gi) (gl : Gl) (Q : Int32 → Gi → Gl → Prop) : Prop :=
if (jl (1 : Int32) (gi 25 7)) ≤ x2 then
(Q x1 gi gl)
else
(vp_in x2 4096 ∧
if ¬ (gi 26 x2.toNatClampNeg) = 0 then
(p_X6_smallestQuarrel_4 x1 (x2 + (1 : Int32)) gi gl Q)
else
(if x1 = 0 then
(p_X6_smallestQuarrel_4 x2 (x2 + (1 : Int32)) gi gl Q)
else
(p_J6_bitCount_0f7a4 x2 gi gl (fun (r3 : Int32) (gi1 : Gi) (gl2 : Gl) =>
p_J6_bitCount_0f7a4 x1 gi1 gl2 (fun (r6 : Int32) (gi4 : Gi) (gl5 : Gl) =>
if r6 ≤ r3 then
(p_X6_smallestQuarrel_4 x1 (x2 + (1 : Int32)) gi4 gl5 Q)
else
(p_X6_smallestQuarrel_4 x2 (x2 + (1 : Int32)) gi4 gl5 Q))))))
set_option maxRecDepth 100000 in
theorem v_X6_smallestQuarrel  {gi : Gi} {gl : Gl} {Q : Int32 → Gi → Gl → Prop}  (h : f_X6_smallestQuarrel  gi gl Q) : p_X6_smallestQuarrel  gi gl Q := by
  unfold f_X6_smallestQuarrel at h
  show PAt mX6_smallestQuarrel NN NN κF 0 [some (.ref 25), none, none] [] gi gl _
  refine px_iconst (v := (0 : Int32)) dX6_smallestQuarrel_0 (by decide) ?_
  refine px_istore_n (ls2 := [some (.ref 25), some (.int (0 : Int32)), none]) (i := 1) rfl dX6_smallestQuarrel_1 (by decide) rfl ?_
  refine px_iconst (v := (1 : Int32)) dX6_smallestQuarrel_2 (by decide) ?_
  refine px_istore_n (ls2 := [some (.ref 25), some (.int (0 : Int32)), some (.int (1 : Int32))]) (i := 2) rfl dX6_smallestQuarrel_3 (by decide) rfl ?_
  exact PAt.forget h (lsub_at ⟨rfl, ⟨rfl, ⟨rfl, trivial⟩⟩⟩)
set_option maxRecDepth 100000 in
theorem v_X6_smallestQuarrel_4 {x1 : Int32} {x2 : Int32} {gi : Gi} {gl : Gl} {Q : Int32 → Gi → Gl → Prop}  (h : f_X6_smallestQuarrel_4 x1 x2 gi gl Q) : p_X6_smallestQuarrel_4 x1 x2 gi gl Q := by
  unfold f_X6_smallestQuarrel_4 at h
  show PAt mX6_smallestQuarrel NN NN κF 4 [some (.ref 25), some (.int x1), some (.int x2)] [] gi gl _
  refine px_iload_n dX6_smallestQuarrel_4 rfl rfl ?_
  refine px_iconst (v := (1 : Int32)) dX6_smallestQuarrel_5 (by decide) ?_
  refine px_aload_n dX6_smallestQuarrel_6 rfl rfl ?_
  refine gf_X6_40 rfl dX6_smallestQuarrel_7 zl_25 zk_25 ?_
  refine px_ishl dX6_smallestQuarrel_10 ?_
  refine px_icmp_ge (tgt := 46) dX6_smallestQuarrel_11 (by decide) ?_
  by_cases hc : (jl (1 : Int32) (gi 25 7)) ≤ x2
  · rw [if_pos hc] at h ⊢
    refine px_iload_n dX6_smallestQuarrel_46 rfl rfl ?_
    exact px_ireturn dX6_smallestQuarrel_47 rfl ⟨.int, rfl, rfl, rfl⟩ ⟨rfl, _, rfl, h⟩
  · rw [if_neg hc] at h ⊢
    refine px_aload_n dX6_smallestQuarrel_14 rfl rfl ?_
    refine gf_X6_11 rfl dX6_smallestQuarrel_15 zl_25 zk_25 rfl zr_25_1 zl_26 ?_
    refine px_iload_n dX6_smallestQuarrel_18 rfl rfl ?_
    obtain ⟨hi, h⟩ := h
    refine px_iaload (n := 4096) dX6_smallestQuarrel_19 zl_26 zk_26 zs_26 hi ?_
    refine px_if_ne (tgt := 40) dX6_smallestQuarrel_20 (by decide) ?_
    by_cases hc : ¬ (gi 26 x2.toNatClampNeg) = 0
    · rw [if_pos hc] at h ⊢
      refine px_iinc (v := x2 + (1 : Int32)) (ls2 := [some (.ref 25), some (.int x1), some (.int (x2 + (1 : Int32)))]) dX6_smallestQuarrel_40 rfl rfl (by decide) rfl ?_
      refine px_goto (tgt := 4) dX6_smallestQuarrel_43 (by decide) ?_
      exact PAt.forget h (lsub_at ⟨rfl, ⟨rfl, ⟨rfl, trivial⟩⟩⟩)
    · rw [if_neg hc] at h ⊢
      refine px_iload_n dX6_smallestQuarrel_23 rfl rfl ?_
      refine px_if_eq (tgt := 38) dX6_smallestQuarrel_24 (by decide) ?_
      by_cases hc : x1 = 0
      · rw [if_pos hc] at h ⊢
        refine px_iload_n dX6_smallestQuarrel_38 rfl rfl ?_
        refine px_istore_n (ls2 := [some (.ref 25), some (.int x2), some (.int x2)]) (i := 1) rfl dX6_smallestQuarrel_39 (by decide) rfl ?_
        refine px_iinc (v := x2 + (1 : Int32)) (ls2 := [some (.ref 25), some (.int x2), some (.int (x2 + (1 : Int32)))]) dX6_smallestQuarrel_40 rfl rfl (by decide) rfl ?_
        refine px_goto (tgt := 4) dX6_smallestQuarrel_43 (by decide) ?_
        exact PAt.forget h (lsub_at ⟨rfl, ⟨rfl, ⟨rfl, trivial⟩⟩⟩)
      · rw [if_neg hc] at h ⊢
        refine px_iload_n dX6_smallestQuarrel_27 rfl rfl ?_
        refine px_callS_I (As := [.int x2]) (st := []) dX6_smallestQuarrel_28 lk_X6_66.1 lk_X6_66.2 (by decide) rfl (Nat.le_of_ble_eq_true rfl) rfl rfl (Nat.le_of_ble_eq_true rfl) ⟨Nat.le_refl _, Nat.le_refl _, Nat.le_refl _⟩ ?_
        refine PAt.mono h (fun v κ gi1 gl2 hq => ?_)
        obtain ⟨rfl, r3, rfl, h⟩ := hq
        refine px_iload_n dX6_smallestQuarrel_31 rfl rfl ?_
        refine px_callS_I (As := [.int x1]) (st := [.int r3]) dX6_smallestQuarrel_32 lk_X6_66.1 lk_X6_66.2 (by decide) rfl (Nat.le_of_ble_eq_true rfl) rfl rfl (Nat.le_of_ble_eq_true rfl) ⟨Nat.le_refl _, Nat.le_refl _, Nat.le_refl _⟩ ?_
        refine PAt.mono h (fun v κ gi4 gl5 hq => ?_)
        obtain ⟨rfl, r6, rfl, h⟩ := hq
        refine px_icmp_ge (tgt := 40) dX6_smallestQuarrel_35 (by decide) ?_
        by_cases hc : r6 ≤ r3
        · rw [if_pos hc] at h ⊢
          refine px_iinc (v := x2 + (1 : Int32)) (ls2 := [some (.ref 25), some (.int x1), some (.int (x2 + (1 : Int32)))]) dX6_smallestQuarrel_40 rfl rfl (by decide) rfl ?_
          refine px_goto (tgt := 4) dX6_smallestQuarrel_43 (by decide) ?_
          exact PAt.forget h (lsub_at ⟨rfl, ⟨rfl, ⟨rfl, trivial⟩⟩⟩)
        · rw [if_neg hc] at h ⊢
          refine px_iload_n dX6_smallestQuarrel_38 rfl rfl ?_
          refine px_istore_n (ls2 := [some (.ref 25), some (.int x2), some (.int x2)]) (i := 1) rfl dX6_smallestQuarrel_39 (by decide) rfl ?_
          refine px_iinc (v := x2 + (1 : Int32)) (ls2 := [some (.ref 25), some (.int x2), some (.int (x2 + (1 : Int32)))]) dX6_smallestQuarrel_40 rfl rfl (by decide) rfl ?_
          refine px_goto (tgt := 4) dX6_smallestQuarrel_43 (by decide) ?_
          exact PAt.forget h (lsub_at ⟨rfl, ⟨rfl, ⟨rfl, trivial⟩⟩⟩)
abbrev p_X6_smallestDoubt_13 (x1 : Int32) (x2 : Int32) (x3 : Int32) (gi : Gi) (gl : Gl) (Q : Int32 → Gi → Gl → Prop) : Prop := PAt mX6_smallestDoubt NN NN κF 13 [some (.ref 25), some (.int x1), some (.int x2), some (.int x3)] [] gi gl (RiQ Q)
def f_X6_smallestDoubt  (gi : Gi) (gl : Gl) (Q : Int32 → Gi → Gl → Prop) : Prop :=
∀ z1 : Int32, z1 = (jl (1 : Int32) (gi 25 7)) - (1 : Int32) →
p_X6_smallestDoubt_13 z1 z1 (0 : Int32) gi gl Q
def f_X6_smallestDoubt_13 (x1 : Int32) (x2 : Int32) (x3 : Int32) (gi : Gi) (gl : Gl) (Q : Int32 → Gi → Gl → Prop) : Prop :=
if x1 < x3 then
(Q x2 gi gl)
else
(vp_in (x1 &&& (x3 ^^^ ((-1) : Int32))) 4096 ∧
if ¬ (gi 26 (x1 &&& (x3 ^^^ ((-1) : Int32))).toNatClampNeg) = (1 : Int32) then
(p_X6_smallestDoubt_13 x1 x2 (x3 + (1 : Int32)) gi gl Q)
else
(p_J6_bitCount_0f7a4 x3 gi gl (fun (r3 : Int32) (gi1 : Gi) (gl2 : Gl) =>
p_J6_bitCount_0f7a4 x2 gi1 gl2 (fun (r6 : Int32) (gi4 : Gi) (gl5 : Gl) =>
if r6 ≤ r3 then
(p_X6_smallestDoubt_13 x1 x2 (x3 + (1 : Int32)) gi4 gl5 Q)
else
(p_X6_smallestDoubt_13 x1 x3 (x3 + (1 : Int32)) gi4 gl5 Q)))))
set_option maxRecDepth 100000 in
theorem v_X6_smallestDoubt  {gi : Gi} {gl : Gl} {Q : Int32 → Gi → Gl → Prop}  (h : f_X6_smallestDoubt  gi gl Q) : p_X6_smallestDoubt  gi gl Q := by
  unfold f_X6_smallestDoubt at h
  show PAt mX6_smallestDoubt NN NN κF 0 [some (.ref 25), none, none, none] [] gi gl _
  refine px_iconst (v := (1 : Int32)) dX6_smallestDoubt_0 (by decide) ?_
  refine px_aload_n dX6_smallestDoubt_1 rfl rfl ?_
  refine gf_X6_40 rfl dX6_smallestDoubt_2 zl_25 zk_25 ?_
  refine px_ishl dX6_smallestDoubt_5 ?_
  refine px_iconst (v := (1 : Int32)) dX6_smallestDoubt_6 (by decide) ?_
  refine px_isub dX6_smallestDoubt_7 ?_
  obtain ⟨z1, hz1⟩ : ∃ y : Int32, y = (jl (1 : Int32) (gi 25 7)) - (1 : Int32) := ⟨_, rfl⟩
  have h := h z1 hz1
  refine px_namei hz1 ?_
  refine px_istore_n (ls2 := [some (.ref 25), some (.int z1), none, none]) (i := 1) rfl dX6_smallestDoubt_8 (by decide) rfl ?_
  refine px_iload_n dX6_smallestDoubt_9 rfl rfl ?_
  refine px_istore_n (ls2 := [some (.ref 25), some (.int z1), some (.int z1), none]) (i := 2) rfl dX6_smallestDoubt_10 (by decide) rfl ?_
  refine px_iconst (v := (0 : Int32)) dX6_smallestDoubt_11 (by decide) ?_
  refine px_istore_n (ls2 := [some (.ref 25), some (.int z1), some (.int z1), some (.int (0 : Int32))]) (i := 3) rfl dX6_smallestDoubt_12 (by decide) rfl ?_
  exact PAt.forget h (lsub_at ⟨rfl, ⟨rfl, ⟨rfl, ⟨rfl, trivial⟩⟩⟩⟩)
set_option maxRecDepth 100000 in
theorem v_X6_smallestDoubt_13 {x1 : Int32} {x2 : Int32} {x3 : Int32} {gi : Gi} {gl : Gl} {Q : Int32 → Gi → Gl → Prop}  (h : f_X6_smallestDoubt_13 x1 x2 x3 gi gl Q) : p_X6_smallestDoubt_13 x1 x2 x3 gi gl Q := by
  unfold f_X6_smallestDoubt_13 at h
  show PAt mX6_smallestDoubt NN NN κF 13 [some (.ref 25), some (.int x1), some (.int x2), some (.int x3)] [] gi gl _
  refine px_iload_n dX6_smallestDoubt_13 rfl rfl ?_
  refine px_iload_n dX6_smallestDoubt_14 rfl rfl ?_
  refine px_icmp_gt (tgt := 51) dX6_smallestDoubt_15 (by decide) ?_
  by_cases hc : x1 < x3
  · rw [if_pos hc] at h ⊢
    refine px_iload_n dX6_smallestDoubt_51 rfl rfl ?_
    exact px_ireturn dX6_smallestDoubt_52 rfl ⟨.int, rfl, rfl, rfl⟩ ⟨rfl, _, rfl, h⟩
  · rw [if_neg hc] at h ⊢
    refine px_aload_n dX6_smallestDoubt_18 rfl rfl ?_
    refine gf_X6_11 rfl dX6_smallestDoubt_19 zl_25 zk_25 rfl zr_25_1 zl_26 ?_
    refine px_iload_n dX6_smallestDoubt_22 rfl rfl ?_
    refine px_iload_n dX6_smallestDoubt_23 rfl rfl ?_
    refine px_iconst (v := ((-1) : Int32)) dX6_smallestDoubt_24 (by decide) ?_
    refine px_ixor dX6_smallestDoubt_25 ?_
    refine px_iand dX6_smallestDoubt_26 ?_
    obtain ⟨hi, h⟩ := h
    refine px_iaload (n := 4096) dX6_smallestDoubt_27 zl_26 zk_26 zs_26 hi ?_
    refine px_iconst (v := (1 : Int32)) dX6_smallestDoubt_28 (by decide) ?_
    refine px_icmp_ne (tgt := 45) dX6_smallestDoubt_29 (by decide) ?_
    by_cases hc : ¬ (gi 26 (x1 &&& (x3 ^^^ ((-1) : Int32))).toNatClampNeg) = (1 : Int32)
    · rw [if_pos hc] at h ⊢
      refine px_iinc (v := x3 + (1 : Int32)) (ls2 := [some (.ref 25), some (.int x1), some (.int x2), some (.int (x3 + (1 : Int32)))]) dX6_smallestDoubt_45 rfl rfl (by decide) rfl ?_
      refine px_goto (tgt := 13) dX6_smallestDoubt_48 (by decide) ?_
      exact PAt.forget h (lsub_at ⟨rfl, ⟨rfl, ⟨rfl, ⟨rfl, trivial⟩⟩⟩⟩)
    · rw [if_neg hc] at h ⊢
      refine px_iload_n dX6_smallestDoubt_32 rfl rfl ?_
      refine px_callS_I (As := [.int x3]) (st := []) dX6_smallestDoubt_33 lk_X6_66.1 lk_X6_66.2 (by decide) rfl (Nat.le_of_ble_eq_true rfl) rfl rfl (Nat.le_of_ble_eq_true rfl) ⟨Nat.le_refl _, Nat.le_refl _, Nat.le_refl _⟩ ?_
      refine PAt.mono h (fun v κ gi1 gl2 hq => ?_)
      obtain ⟨rfl, r3, rfl, h⟩ := hq
      refine px_iload_n dX6_smallestDoubt_36 rfl rfl ?_
      refine px_callS_I (As := [.int x2]) (st := [.int r3]) dX6_smallestDoubt_37 lk_X6_66.1 lk_X6_66.2 (by decide) rfl (Nat.le_of_ble_eq_true rfl) rfl rfl (Nat.le_of_ble_eq_true rfl) ⟨Nat.le_refl _, Nat.le_refl _, Nat.le_refl _⟩ ?_
      refine PAt.mono h (fun v κ gi4 gl5 hq => ?_)
      obtain ⟨rfl, r6, rfl, h⟩ := hq
      refine px_icmp_ge (tgt := 45) dX6_smallestDoubt_40 (by decide) ?_
      by_cases hc : r6 ≤ r3
      · rw [if_pos hc] at h ⊢
        refine px_iinc (v := x3 + (1 : Int32)) (ls2 := [some (.ref 25), some (.int x1), some (.int x2), some (.int (x3 + (1 : Int32)))]) dX6_smallestDoubt_45 rfl rfl (by decide) rfl ?_
        refine px_goto (tgt := 13) dX6_smallestDoubt_48 (by decide) ?_
        exact PAt.forget h (lsub_at ⟨rfl, ⟨rfl, ⟨rfl, ⟨rfl, trivial⟩⟩⟩⟩)
      · rw [if_neg hc] at h ⊢
        refine px_iload_n dX6_smallestDoubt_43 rfl rfl ?_
        refine px_istore_n (ls2 := [some (.ref 25), some (.int x1), some (.int x3), some (.int x3)]) (i := 2) rfl dX6_smallestDoubt_44 (by decide) rfl ?_
        refine px_iinc (v := x3 + (1 : Int32)) (ls2 := [some (.ref 25), some (.int x1), some (.int x3), some (.int (x3 + (1 : Int32)))]) dX6_smallestDoubt_45 rfl rfl (by decide) rfl ?_
        refine px_goto (tgt := 13) dX6_smallestDoubt_48 (by decide) ?_
        exact PAt.forget h (lsub_at ⟨rfl, ⟨rfl, ⟨rfl, ⟨rfl, trivial⟩⟩⟩⟩)
abbrev p_X6_rivals_22 (x1 : Int32) (x2 : Int32) (x3 : Int32) (x4 : Int32) (gi : Gi) (gl : Gl) (Q : Int32 → Gi → Gl → Prop) : Prop := PAt mX6_rivals NN NN κF 22 [some (.ref 25), some (.int x1), some (.int x2), some (.int x3), some (.int x4)] [] gi gl (RiQ Q)
def f_X6_rivals  (gi : Gi) (gl : Gl) (Q : Int32 → Gi → Gl → Prop) : Prop :=
∀ z1 : Int32, z1 = (jl (1 : Int32) (gi 25 7)) - (1 : Int32) →
p_X6_smallestDoubt  gi gl (fun (r4 : Int32) (gi2 : Gi) (gl3 : Gl) =>
p_J6_bitCount_0f7a4 r4 gi2 gl3 (fun (r7 : Int32) (gi5 : Gi) (gl6 : Gl) =>
p_X6_rivals_22 z1 r7 (0 : Int32) (0 : Int32) gi5 gl6 Q))
def f_X6_rivals_22 (x1 : Int32) (x2 : Int32) (x3 : Int32) (x4 : Int32) (gi : Gi) (gl : Gl) (Q : Int32 → Gi → Gl → Prop) : Prop :=
if x1 < x4 then
(Q x3 gi gl)
else
(vp_in (x1 &&& (x4 ^^^ ((-1) : Int32))) 4096 ∧
if ¬ (gi 26 (x1 &&& (x4 ^^^ ((-1) : Int32))).toNatClampNeg) = (1 : Int32) then
(p_X6_rivals_22 x1 x2 x3 (x4 + (1 : Int32)) gi gl Q)
else
(p_J6_bitCount_0f7a4 x4 gi gl (fun (r3 : Int32) (gi1 : Gi) (gl2 : Gl) =>
if ¬ r3 = x2 then
(p_X6_rivals_22 x1 x2 x3 (x4 + (1 : Int32)) gi1 gl2 Q)
else
(p_X6_rivals_22 x1 x2 (x3 + (1 : Int32)) (x4 + (1 : Int32)) gi1 gl2 Q))))
set_option maxRecDepth 100000 in
theorem v_X6_rivals  {gi : Gi} {gl : Gl} {Q : Int32 → Gi → Gl → Prop}  (h : f_X6_rivals  gi gl Q) : p_X6_rivals  gi gl Q := by
  unfold f_X6_rivals at h
  show PAt mX6_rivals NN NN κF 0 [some (.ref 25), none, none, none, none] [] gi gl _
  refine px_iconst (v := (1 : Int32)) dX6_rivals_0 (by decide) ?_
  refine px_aload_n dX6_rivals_1 rfl rfl ?_
  refine gf_X6_40 rfl dX6_rivals_2 zl_25 zk_25 ?_
  refine px_ishl dX6_rivals_5 ?_
  refine px_iconst (v := (1 : Int32)) dX6_rivals_6 (by decide) ?_
  refine px_isub dX6_rivals_7 ?_
  obtain ⟨z1, hz1⟩ : ∃ y : Int32, y = (jl (1 : Int32) (gi 25 7)) - (1 : Int32) := ⟨_, rfl⟩
  have h := h z1 hz1
  refine px_namei hz1 ?_
  refine px_istore_n (ls2 := [some (.ref 25), some (.int z1), none, none, none]) (i := 1) rfl dX6_rivals_8 (by decide) rfl ?_
  refine px_aload_n dX6_rivals_9 rfl rfl ?_
  refine px_callV_I (As := []) (st := []) dX6_rivals_10 lk_X6_72.1 lk_X6_72.2 (b := 25) zl_25 zk_25 (by decide) rfl (by decide) rfl (Nat.le_of_ble_eq_true rfl) rfl rfl (Nat.le_of_ble_eq_true rfl) ⟨Nat.le_refl _, Nat.le_refl _, Nat.le_refl _⟩ ?_
  refine PAt.mono h (fun v κ gi2 gl3 hq => ?_)
  obtain ⟨rfl, r4, rfl, h⟩ := hq
  refine px_callS_I (As := [.int r4]) (st := []) dX6_rivals_13 lk_X6_66.1 lk_X6_66.2 (by decide) rfl (Nat.le_of_ble_eq_true rfl) rfl rfl (Nat.le_of_ble_eq_true rfl) ⟨Nat.le_refl _, Nat.le_refl _, Nat.le_refl _⟩ ?_
  refine PAt.mono h (fun v κ gi5 gl6 hq => ?_)
  obtain ⟨rfl, r7, rfl, h⟩ := hq
  refine px_istore_n (ls2 := [some (.ref 25), some (.int z1), some (.int r7), none, none]) (i := 2) rfl dX6_rivals_16 (by decide) rfl ?_
  refine px_iconst (v := (0 : Int32)) dX6_rivals_17 (by decide) ?_
  refine px_istore_n (ls2 := [some (.ref 25), some (.int z1), some (.int r7), some (.int (0 : Int32)), none]) (i := 3) rfl dX6_rivals_18 (by decide) rfl ?_
  refine px_iconst (v := (0 : Int32)) dX6_rivals_19 (by decide) ?_
  refine px_istore (ls2 := [some (.ref 25), some (.int z1), some (.int r7), some (.int (0 : Int32)), some (.int (0 : Int32))]) dX6_rivals_20 (by decide) rfl ?_
  exact PAt.forget h (lsub_at ⟨rfl, ⟨rfl, ⟨rfl, ⟨rfl, ⟨rfl, trivial⟩⟩⟩⟩⟩)
set_option maxRecDepth 100000 in
theorem v_X6_rivals_22 {x1 : Int32} {x2 : Int32} {x3 : Int32} {x4 : Int32} {gi : Gi} {gl : Gl} {Q : Int32 → Gi → Gl → Prop}  (h : f_X6_rivals_22 x1 x2 x3 x4 gi gl Q) : p_X6_rivals_22 x1 x2 x3 x4 gi gl Q := by
  unfold f_X6_rivals_22 at h
  show PAt mX6_rivals NN NN κF 22 [some (.ref 25), some (.int x1), some (.int x2), some (.int x3), some (.int x4)] [] gi gl _
  refine px_iload dX6_rivals_22 rfl ?_
  refine px_iload_n dX6_rivals_24 rfl rfl ?_
  refine px_icmp_gt (tgt := 61) dX6_rivals_25 (by decide) ?_
  by_cases hc : x1 < x4
  · rw [if_pos hc] at h ⊢
    refine px_iload_n dX6_rivals_61 rfl rfl ?_
    exact px_ireturn dX6_rivals_62 rfl ⟨.int, rfl, rfl, rfl⟩ ⟨rfl, _, rfl, h⟩
  · rw [if_neg hc] at h ⊢
    refine px_aload_n dX6_rivals_28 rfl rfl ?_
    refine gf_X6_11 rfl dX6_rivals_29 zl_25 zk_25 rfl zr_25_1 zl_26 ?_
    refine px_iload_n dX6_rivals_32 rfl rfl ?_
    refine px_iload dX6_rivals_33 rfl ?_
    refine px_iconst (v := ((-1) : Int32)) dX6_rivals_35 (by decide) ?_
    refine px_ixor dX6_rivals_36 ?_
    refine px_iand dX6_rivals_37 ?_
    obtain ⟨hi, h⟩ := h
    refine px_iaload (n := 4096) dX6_rivals_38 zl_26 zk_26 zs_26 hi ?_
    refine px_iconst (v := (1 : Int32)) dX6_rivals_39 (by decide) ?_
    refine px_icmp_ne (tgt := 55) dX6_rivals_40 (by decide) ?_
    by_cases hc : ¬ (gi 26 (x1 &&& (x4 ^^^ ((-1) : Int32))).toNatClampNeg) = (1 : Int32)
    · rw [if_pos hc] at h ⊢
      refine px_iinc (v := x4 + (1 : Int32)) (ls2 := [some (.ref 25), some (.int x1), some (.int x2), some (.int x3), some (.int (x4 + (1 : Int32)))]) dX6_rivals_55 rfl rfl (by decide) rfl ?_
      refine px_goto (tgt := 22) dX6_rivals_58 (by decide) ?_
      exact PAt.forget h (lsub_at ⟨rfl, ⟨rfl, ⟨rfl, ⟨rfl, ⟨rfl, trivial⟩⟩⟩⟩⟩)
    · rw [if_neg hc] at h ⊢
      refine px_iload dX6_rivals_43 rfl ?_
      refine px_callS_I (As := [.int x4]) (st := []) dX6_rivals_45 lk_X6_66.1 lk_X6_66.2 (by decide) rfl (Nat.le_of_ble_eq_true rfl) rfl rfl (Nat.le_of_ble_eq_true rfl) ⟨Nat.le_refl _, Nat.le_refl _, Nat.le_refl _⟩ ?_
      refine PAt.mono h (fun v κ gi1 gl2 hq => ?_)
      obtain ⟨rfl, r3, rfl, h⟩ := hq
      refine px_iload_n dX6_rivals_48 rfl rfl ?_
      refine px_icmp_ne (tgt := 55) dX6_rivals_49 (by decide) ?_
      by_cases hc : ¬ r3 = x2
      · rw [if_pos hc] at h ⊢
        refine px_iinc (v := x4 + (1 : Int32)) (ls2 := [some (.ref 25), some (.int x1), some (.int x2), some (.int x3), some (.int (x4 + (1 : Int32)))]) dX6_rivals_55 rfl rfl (by decide) rfl ?_
        refine px_goto (tgt := 22) dX6_rivals_58 (by decide) ?_
        exact PAt.forget h (lsub_at ⟨rfl, ⟨rfl, ⟨rfl, ⟨rfl, ⟨rfl, trivial⟩⟩⟩⟩⟩)
      · rw [if_neg hc] at h ⊢
        refine px_iinc (v := x3 + (1 : Int32)) (ls2 := [some (.ref 25), some (.int x1), some (.int x2), some (.int (x3 + (1 : Int32))), some (.int x4)]) dX6_rivals_52 rfl rfl (by decide) rfl ?_
        refine px_iinc (v := x4 + (1 : Int32)) (ls2 := [some (.ref 25), some (.int x1), some (.int x2), some (.int (x3 + (1 : Int32))), some (.int (x4 + (1 : Int32)))]) dX6_rivals_55 rfl rfl (by decide) rfl ?_
        refine px_goto (tgt := 22) dX6_rivals_58 (by decide) ?_
        exact PAt.forget h (lsub_at ⟨rfl, ⟨rfl, ⟨rfl, ⟨rfl, ⟨rfl, trivial⟩⟩⟩⟩⟩)
abbrev p_X6_noteDays_12 (p : Nat) (x3 : Int32) (gi : Gi) (gl : Gl) (Q : Gi → Gl → Prop) : Prop := PAt mX6_noteDays NN NN κF 12 [some (.ref 25), some (.ref p), none, some (.int x3), none] [] gi gl (RvQ Q)
abbrev p_X6_noteDays_21 (p : Nat) (x3 : Int32) (x4 : Int32) (gi : Gi) (gl : Gl) (Q : Gi → Gl → Prop) : Prop := PAt mX6_noteDays NN NN κF 21 [some (.ref 25), some (.ref p), none, some (.int x3), some (.int x4)] [] gi gl (RvQ Q)
def f_X6_noteDays (p : Nat) (x2 : Int32) (gi : Gi) (gl : Gl) (Q : Gi → Gl → Prop) : Prop :=
∀ gi1 : Gi, gi1 = uI gi 25 (upd (gi 25) 6 ((gi 25 6) + (1 : Int32))) →
p_X6_noteDays_12 p x2 gi1 gl Q
def f_X6_noteDays_12 (p : Nat) (x3 : Int32) (gi : Gi) (gl : Gl) (Q : Gi → Gl → Prop) : Prop :=
if (120 : Int32) ≤ x3 then
(Q gi gl)
else
(p_X6_noteDays_21 p x3 (0 : Int32) gi gl Q)
def f_X6_noteDays_21 (p : Nat) (x3 : Int32) (x4 : Int32) (gi : Gi) (gl : Gl) (Q : Gi → Gl → Prop) : Prop :=
if (gi 25 7) ≤ x4 then
(p_X6_noteRow  gi gl (fun (gi1 : Gi) (gl2 : Gl) =>
p_X6_noteDays_12 p (x3 + (12 : Int32)) gi1 gl2 Q))
else
(p_X2_daysLet p x4 x3 (0 : Int32) gi gl (fun (r5 : Int32) (gi3 : Gi) (gl4 : Gl) =>
vp_in x4 12 ∧
∀ gi6 : Gi, gi6 = uI gi3 29 (upd (gi3 29) x4.toNatClampNeg r5) →
p_X6_noteDays_21 p x3 (x4 + (1 : Int32)) gi6 gl4 Q))
set_option maxRecDepth 100000 in
theorem v_X6_noteDays {p : Nat} {x2 : Int32} {gi : Gi} {gl : Gl} {Q : Gi → Gl → Prop} (hpN : p < NN) (hpK : sK p = 5) (h : f_X6_noteDays p x2 gi gl Q) : p_X6_noteDays p x2 gi gl Q := by
  unfold f_X6_noteDays at h
  show PAt mX6_noteDays NN NN κF 0 [some (.ref 25), some (.ref p), some (.int x2), none, none] [] gi gl _
  refine px_aload_n dX6_noteDays_0 rfl rfl ?_
  refine px_dup dX6_noteDays_1 rfl ?_
  refine gf_X6_75 rfl dX6_noteDays_2 zl_25 zk_25 ?_
  refine px_iconst (v := (1 : Int32)) dX6_noteDays_5 (by decide) ?_
  refine px_iadd dX6_noteDays_6 ?_
  refine pf_X6_75 rfl dX6_noteDays_7 zl_25 zk_25 ?_
  obtain ⟨gi1, hgi1⟩ : ∃ y : Gi, y = uI gi 25 (upd (gi 25) 6 ((gi 25 6) + (1 : Int32))) := ⟨_, rfl⟩
  have h := h gi1 hgi1
  refine px_namegi hgi1 ?_
  refine px_iload_n dX6_noteDays_10 rfl rfl ?_
  refine px_istore_n (ls2 := [some (.ref 25), some (.ref p), some (.int x2), some (.int x2), none]) (i := 3) rfl dX6_noteDays_11 (by decide) rfl ?_
  exact PAt.forget h (lsub_at ⟨rfl, ⟨rfl, ⟨rfl, trivial⟩⟩⟩)
set_option maxRecDepth 100000 in
theorem v_X6_noteDays_12 {p : Nat} {x3 : Int32} {gi : Gi} {gl : Gl} {Q : Gi → Gl → Prop} (hpN : p < NN) (hpK : sK p = 5) (h : f_X6_noteDays_12 p x3 gi gl Q) : p_X6_noteDays_12 p x3 gi gl Q := by
  unfold f_X6_noteDays_12 at h
  show PAt mX6_noteDays NN NN κF 12 [some (.ref 25), some (.ref p), none, some (.int x3), none] [] gi gl _
  refine px_iload_n dX6_noteDays_12 rfl rfl ?_
  refine px_bipush (v := (120 : Int32)) dX6_noteDays_13 (by decide) ?_
  refine px_icmp_ge (tgt := 65) dX6_noteDays_15 (by decide) ?_
  by_cases hc : (120 : Int32) ≤ x3
  · rw [if_pos hc] at h ⊢
    exact px_return dX6_noteDays_65 rfl rfl ⟨rfl, rfl, h⟩
  · rw [if_neg hc] at h ⊢
    refine px_iconst (v := (0 : Int32)) dX6_noteDays_18 (by decide) ?_
    refine px_istore (ls2 := [some (.ref 25), some (.ref p), none, some (.int x3), some (.int (0 : Int32))]) dX6_noteDays_19 (by decide) rfl ?_
    exact PAt.forget h (lsub_at ⟨rfl, ⟨rfl, ⟨rfl, ⟨rfl, trivial⟩⟩⟩⟩)
set_option maxRecDepth 100000 in
theorem v_X6_noteDays_21 {p : Nat} {x3 : Int32} {x4 : Int32} {gi : Gi} {gl : Gl} {Q : Gi → Gl → Prop} (hpN : p < NN) (hpK : sK p = 5) (h : f_X6_noteDays_21 p x3 x4 gi gl Q) : p_X6_noteDays_21 p x3 x4 gi gl Q := by
  unfold f_X6_noteDays_21 at h
  show PAt mX6_noteDays NN NN κF 21 [some (.ref 25), some (.ref p), none, some (.int x3), some (.int x4)] [] gi gl _
  refine px_iload dX6_noteDays_21 rfl ?_
  refine px_aload_n dX6_noteDays_23 rfl rfl ?_
  refine gf_X6_40 rfl dX6_noteDays_24 zl_25 zk_25 ?_
  refine px_icmp_ge (tgt := 55) dX6_noteDays_27 (by decide) ?_
  by_cases hc : (gi 25 7) ≤ x4
  · rw [if_pos hc] at h ⊢
    refine px_aload_n dX6_noteDays_55 rfl rfl ?_
    refine px_callV_V (As := []) (st := []) dX6_noteDays_56 lk_X6_84.1 lk_X6_84.2 (b := 25) zl_25 zk_25 (by decide) rfl (by decide) rfl (Nat.le_of_ble_eq_true rfl) rfl rfl (Nat.le_of_ble_eq_true rfl) ⟨Nat.le_refl _, Nat.le_refl _, Nat.le_refl _⟩ ?_
    refine PAt.mono h (fun v κ gi1 gl2 hq => ?_)
    obtain ⟨rfl, -, h⟩ := hq
    refine px_iinc (v := x3 + (12 : Int32)) (ls2 := [some (.ref 25), some (.ref p), none, some (.int (x3 + (12 : Int32))), some (.int x4)]) dX6_noteDays_59 rfl rfl (by decide) rfl ?_
    refine px_goto (tgt := 12) dX6_noteDays_62 (by decide) ?_
    exact PAt.forget h (lsub_at ⟨rfl, ⟨rfl, ⟨rfl, trivial⟩⟩⟩)
  · rw [if_neg hc] at h ⊢
    refine px_aload_n dX6_noteDays_30 rfl rfl ?_
    refine gf_X6_21 rfl dX6_noteDays_31 zl_25 zk_25 rfl zr_25_4 zl_29 ?_
    refine px_iload dX6_noteDays_34 rfl ?_
    refine px_aload_n dX6_noteDays_36 rfl rfl ?_
    refine gf_X6_24 rfl dX6_noteDays_37 zl_25 zk_25 rfl zr_25_0 zl_24 ?_
    refine px_aload_n dX6_noteDays_40 rfl rfl ?_
    refine px_iload dX6_noteDays_41 rfl ?_
    refine px_iload_n dX6_noteDays_43 rfl rfl ?_
    refine px_iconst (v := (0 : Int32)) dX6_noteDays_44 (by decide) ?_
    refine px_callV_I (As := [.ref p, .int x4, .int x3, .int (0 : Int32)]) (st := [.int x4, .ref 29]) dX6_noteDays_45 lk_X6_78.1 lk_X6_78.2 (b := 24) zl_24 zk_24 (by decide) rfl (by decide) rfl (Nat.le_of_ble_eq_true rfl) rfl rfl (Nat.le_of_ble_eq_true rfl) ⟨Nat.le_refl _, Nat.le_refl _, Nat.le_refl _⟩ ?_
    refine PAt.mono h (fun v κ gi3 gl4 hq => ?_)
    obtain ⟨rfl, r5, rfl, h⟩ := hq
    obtain ⟨hi, h⟩ := h
    refine px_iastore (n := 12) dX6_noteDays_48 zl_29 zk_29 zs_29 hi ?_
    obtain ⟨gi6, hgi6⟩ : ∃ y : Gi, y = uI gi3 29 (upd (gi3 29) x4.toNatClampNeg r5) := ⟨_, rfl⟩
    have h := h gi6 hgi6
    refine px_namegi hgi6 ?_
    refine px_iinc (v := x4 + (1 : Int32)) (ls2 := [some (.ref 25), some (.ref p), none, some (.int x3), some (.int (x4 + (1 : Int32)))]) dX6_noteDays_49 rfl rfl (by decide) rfl ?_
    refine px_goto (tgt := 21) dX6_noteDays_52 (by decide) ?_
    exact PAt.forget h (lsub_at ⟨rfl, ⟨rfl, ⟨rfl, ⟨rfl, trivial⟩⟩⟩⟩)
abbrev p_X6_noteMinutes_12 (p : Nat) (x2 : Int32) (x3 : Int32) (gi : Gi) (gl : Gl) (Q : Gi → Gl → Prop) : Prop := PAt mX6_noteMinutes NN NN κF 12 [some (.ref 25), some (.ref p), some (.int x2), some (.int x3), none] [] gi gl (RvQ Q)
abbrev p_X6_noteMinutes_21 (p : Nat) (x2 : Int32) (x3 : Int32) (x4 : Int32) (gi : Gi) (gl : Gl) (Q : Gi → Gl → Prop) : Prop := PAt mX6_noteMinutes NN NN κF 21 [some (.ref 25), some (.ref p), some (.int x2), some (.int x3), some (.int x4)] [] gi gl (RvQ Q)
def f_X6_noteMinutes (p : Nat) (x2 : Int32) (gi : Gi) (gl : Gl) (Q : Gi → Gl → Prop) : Prop :=
∀ gi1 : Gi, gi1 = uI gi 25 (upd (gi 25) 6 ((gi 25 6) + (1 : Int32))) →
p_X6_noteMinutes_12 p x2 (0 : Int32) gi1 gl Q
def f_X6_noteMinutes_12 (p : Nat) (x2 : Int32) (x3 : Int32) (gi : Gi) (gl : Gl) (Q : Gi → Gl → Prop) : Prop :=
if (24 : Int32) ≤ x3 then
(Q gi gl)
else
(p_X6_noteMinutes_21 p x2 x3 (0 : Int32) gi gl Q)
def f_X6_noteMinutes_21 (p : Nat) (x2 : Int32) (x3 : Int32) (x4 : Int32) (gi : Gi) (gl : Gl) (Q : Gi → Gl → Prop) : Prop :=
if (gi 25 7) ≤ x4 then
(p_X6_noteRow  gi gl (fun (gi1 : Gi) (gl2 : Gl) =>
p_X6_noteMinutes_12 p x2 (x3 + (1 : Int32)) gi1 gl2 Q))
else
(p_X2_minutesLet p x4 x2 x3 gi gl (fun (r5 : Int32) (gi3 : Gi) (gl4 : Gl) =>
vp_in x4 12 ∧
∀ gi6 : Gi, gi6 = uI gi3 29 (upd (gi3 29) x4.toNatClampNeg r5) →
p_X6_noteMinutes_21 p x2 x3 (x4 + (1 : Int32)) gi6 gl4 Q))
set_option maxRecDepth 100000 in
theorem v_X6_noteMinutes {p : Nat} {x2 : Int32} {gi : Gi} {gl : Gl} {Q : Gi → Gl → Prop} (hpN : p < NN) (hpK : sK p = 5) (h : f_X6_noteMinutes p x2 gi gl Q) : p_X6_noteMinutes p x2 gi gl Q := by
  unfold f_X6_noteMinutes at h
  show PAt mX6_noteMinutes NN NN κF 0 [some (.ref 25), some (.ref p), some (.int x2), none, none] [] gi gl _
  refine px_aload_n dX6_noteMinutes_0 rfl rfl ?_
  refine px_dup dX6_noteMinutes_1 rfl ?_
  refine gf_X6_75 rfl dX6_noteMinutes_2 zl_25 zk_25 ?_
  refine px_iconst (v := (1 : Int32)) dX6_noteMinutes_5 (by decide) ?_
  refine px_iadd dX6_noteMinutes_6 ?_
  refine pf_X6_75 rfl dX6_noteMinutes_7 zl_25 zk_25 ?_
  obtain ⟨gi1, hgi1⟩ : ∃ y : Gi, y = uI gi 25 (upd (gi 25) 6 ((gi 25 6) + (1 : Int32))) := ⟨_, rfl⟩
  have h := h gi1 hgi1
  refine px_namegi hgi1 ?_
  refine px_iconst (v := (0 : Int32)) dX6_noteMinutes_10 (by decide) ?_
  refine px_istore_n (ls2 := [some (.ref 25), some (.ref p), some (.int x2), some (.int (0 : Int32)), none]) (i := 3) rfl dX6_noteMinutes_11 (by decide) rfl ?_
  exact PAt.forget h (lsub_at ⟨rfl, ⟨rfl, ⟨rfl, ⟨rfl, trivial⟩⟩⟩⟩)
set_option maxRecDepth 100000 in
theorem v_X6_noteMinutes_12 {p : Nat} {x2 : Int32} {x3 : Int32} {gi : Gi} {gl : Gl} {Q : Gi → Gl → Prop} (hpN : p < NN) (hpK : sK p = 5) (h : f_X6_noteMinutes_12 p x2 x3 gi gl Q) : p_X6_noteMinutes_12 p x2 x3 gi gl Q := by
  unfold f_X6_noteMinutes_12 at h
  show PAt mX6_noteMinutes NN NN κF 12 [some (.ref 25), some (.ref p), some (.int x2), some (.int x3), none] [] gi gl _
  refine px_iload_n dX6_noteMinutes_12 rfl rfl ?_
  refine px_bipush (v := (24 : Int32)) dX6_noteMinutes_13 (by decide) ?_
  refine px_icmp_ge (tgt := 65) dX6_noteMinutes_15 (by decide) ?_
  by_cases hc : (24 : Int32) ≤ x3
  · rw [if_pos hc] at h ⊢
    exact px_return dX6_noteMinutes_65 rfl rfl ⟨rfl, rfl, h⟩
  · rw [if_neg hc] at h ⊢
    refine px_iconst (v := (0 : Int32)) dX6_noteMinutes_18 (by decide) ?_
    refine px_istore (ls2 := [some (.ref 25), some (.ref p), some (.int x2), some (.int x3), some (.int (0 : Int32))]) dX6_noteMinutes_19 (by decide) rfl ?_
    exact PAt.forget h (lsub_at ⟨rfl, ⟨rfl, ⟨rfl, ⟨rfl, ⟨rfl, trivial⟩⟩⟩⟩⟩)
set_option maxRecDepth 100000 in
theorem v_X6_noteMinutes_21 {p : Nat} {x2 : Int32} {x3 : Int32} {x4 : Int32} {gi : Gi} {gl : Gl} {Q : Gi → Gl → Prop} (hpN : p < NN) (hpK : sK p = 5) (h : f_X6_noteMinutes_21 p x2 x3 x4 gi gl Q) : p_X6_noteMinutes_21 p x2 x3 x4 gi gl Q := by
  unfold f_X6_noteMinutes_21 at h
  show PAt mX6_noteMinutes NN NN κF 21 [some (.ref 25), some (.ref p), some (.int x2), some (.int x3), some (.int x4)] [] gi gl _
  refine px_iload dX6_noteMinutes_21 rfl ?_
  refine px_aload_n dX6_noteMinutes_23 rfl rfl ?_
  refine gf_X6_40 rfl dX6_noteMinutes_24 zl_25 zk_25 ?_
  refine px_icmp_ge (tgt := 55) dX6_noteMinutes_27 (by decide) ?_
  by_cases hc : (gi 25 7) ≤ x4
  · rw [if_pos hc] at h ⊢
    refine px_aload_n dX6_noteMinutes_55 rfl rfl ?_
    refine px_callV_V (As := []) (st := []) dX6_noteMinutes_56 lk_X6_84.1 lk_X6_84.2 (b := 25) zl_25 zk_25 (by decide) rfl (by decide) rfl (Nat.le_of_ble_eq_true rfl) rfl rfl (Nat.le_of_ble_eq_true rfl) ⟨Nat.le_refl _, Nat.le_refl _, Nat.le_refl _⟩ ?_
    refine PAt.mono h (fun v κ gi1 gl2 hq => ?_)
    obtain ⟨rfl, -, h⟩ := hq
    refine px_iinc (v := x3 + (1 : Int32)) (ls2 := [some (.ref 25), some (.ref p), some (.int x2), some (.int (x3 + (1 : Int32))), some (.int x4)]) dX6_noteMinutes_59 rfl rfl (by decide) rfl ?_
    refine px_goto (tgt := 12) dX6_noteMinutes_62 (by decide) ?_
    exact PAt.forget h (lsub_at ⟨rfl, ⟨rfl, ⟨rfl, ⟨rfl, trivial⟩⟩⟩⟩)
  · rw [if_neg hc] at h ⊢
    refine px_aload_n dX6_noteMinutes_30 rfl rfl ?_
    refine gf_X6_21 rfl dX6_noteMinutes_31 zl_25 zk_25 rfl zr_25_4 zl_29 ?_
    refine px_iload dX6_noteMinutes_34 rfl ?_
    refine px_aload_n dX6_noteMinutes_36 rfl rfl ?_
    refine gf_X6_24 rfl dX6_noteMinutes_37 zl_25 zk_25 rfl zr_25_0 zl_24 ?_
    refine px_aload_n dX6_noteMinutes_40 rfl rfl ?_
    refine px_iload dX6_noteMinutes_41 rfl ?_
    refine px_iload_n dX6_noteMinutes_43 rfl rfl ?_
    refine px_iload_n dX6_noteMinutes_44 rfl rfl ?_
    refine px_callV_I (As := [.ref p, .int x4, .int x2, .int x3]) (st := [.int x4, .ref 29]) dX6_noteMinutes_45 lk_X6_87.1 lk_X6_87.2 (b := 24) zl_24 zk_24 (by decide) rfl (by decide) rfl (Nat.le_of_ble_eq_true rfl) rfl rfl (Nat.le_of_ble_eq_true rfl) ⟨Nat.le_refl _, Nat.le_refl _, Nat.le_refl _⟩ ?_
    refine PAt.mono h (fun v κ gi3 gl4 hq => ?_)
    obtain ⟨rfl, r5, rfl, h⟩ := hq
    obtain ⟨hi, h⟩ := h
    refine px_iastore (n := 12) dX6_noteMinutes_48 zl_29 zk_29 zs_29 hi ?_
    obtain ⟨gi6, hgi6⟩ : ∃ y : Gi, y = uI gi3 29 (upd (gi3 29) x4.toNatClampNeg r5) := ⟨_, rfl⟩
    have h := h gi6 hgi6
    refine px_namegi hgi6 ?_
    refine px_iinc (v := x4 + (1 : Int32)) (ls2 := [some (.ref 25), some (.ref p), some (.int x2), some (.int x3), some (.int (x4 + (1 : Int32)))]) dX6_noteMinutes_49 rfl rfl (by decide) rfl ?_
    refine px_goto (tgt := 21) dX6_noteMinutes_52 (by decide) ?_
    exact PAt.forget h (lsub_at ⟨rfl, ⟨rfl, ⟨rfl, ⟨rfl, ⟨rfl, trivial⟩⟩⟩⟩⟩)
abbrev p_X6_noteRow_5 (x1 : Int32) (x2 : Int32) (gi : Gi) (gl : Gl) (Q : Gi → Gl → Prop) : Prop := PAt mX6_noteRow NN NN κF 5 [some (.ref 25), some (.int x1), some (.int x2), none, none, none, none] [] gi gl (RvQ Q)
abbrev p_X6_noteRow_29 (x1 : Int32) (x2 : Int32) (x3 : Int32) (x4 : Int32) (x5 : Int32) (x6 : Int32) (gi : Gi) (gl : Gl) (Q : Gi → Gl → Prop) : Prop := PAt mX6_noteRow NN NN κF 29 [some (.ref 25), some (.int x1), some (.int x2), some (.int x3), some (.int x4), some (.int x5), some (.int x6)] [] gi gl (RvQ Q)
def f_X6_noteRow  (gi : Gi) (gl : Gl) (Q : Gi → Gl → Prop) : Prop :=
p_X6_noteRow_5 (1073741823 : Int32) (0 : Int32) gi gl Q
def f_X6_noteRow_5 (x1 : Int32) (x2 : Int32) (gi : Gi) (gl : Gl) (Q : Gi → Gl → Prop) : Prop :=
if (30 : Int32) ≤ x2 then
(Q gi gl)
else
(if x1 = 0 then
(Q gi gl)
else
(∀ z1 : Int32, z1 = x1 &&& (-x1) →
p_X6_noteRow_29 x1 x2 z1 x1 (0 : Int32) (0 : Int32) gi gl Q))
def f_X6_noteRow_29 (x1 : Int32) (x2 : Int32) (x3 : Int32) (x4 : Int32) (x5 : Int32) (x6 : Int32) (gi : Gi) (gl : Gl) (Q : Gi → Gl → Prop) : Prop :=
if (gi 25 7) ≤ x6 then
(vp_in x5 4096 ∧
if (gi 27 x5.toNatClampNeg) = (gi 25 6) then
(∀ z1 : Int32, z1 = x1 &&& (x4 ^^^ ((-1) : Int32)) →
p_X6_noteRow_5 z1 (x2 + (1 : Int32)) gi gl Q)
else
(if (1020 : Int32) ≤ (gi 25 5) then
(∀ z2 : Int32, z2 = x1 &&& (x4 ^^^ ((-1) : Int32)) →
p_X6_noteRow_5 z2 (x2 + (1 : Int32)) gi gl Q)
else
(vp_in x5 4096 ∧
∀ gi3 : Gi, gi3 = uI gi 27 (upd (gi 27) x5.toNatClampNeg (gi 25 6)) →
vp_in (gi3 25 5) 1020 ∧
∀ gi4 : Gi, gi4 = uI gi3 28 (upd (gi3 28) (gi3 25 5).toNatClampNeg x5) →
∀ gi5 : Gi, gi5 = uI gi4 25 (upd (gi4 25) 5 ((gi4 25 5) + (1 : Int32))) →
∀ z6 : Int32, z6 = x1 &&& (x4 ^^^ ((-1) : Int32)) →
p_X6_noteRow_5 z6 (x2 + (1 : Int32)) gi5 gl Q)))
else
(vp_in x6 12 ∧
if ((gi 29 x6.toNatClampNeg) &&& x3) = 0 then
(vp_in x6 12 ∧
∀ z7 : Int32, z7 = x4 &&& ((gi 29 x6.toNatClampNeg) ^^^ ((-1) : Int32)) →
p_X6_noteRow_29 x1 x2 x3 z7 x5 (x6 + (1 : Int32)) gi gl Q)
else
(∀ z8 : Int32, z8 = x5 ||| (jl (1 : Int32) x6) →
vp_in x6 12 ∧
∀ z9 : Int32, z9 = x4 &&& (gi 29 x6.toNatClampNeg) →
p_X6_noteRow_29 x1 x2 x3 z9 z8 (x6 + (1 : Int32)) gi gl Q))
set_option maxRecDepth 100000 in
theorem v_X6_noteRow  {gi : Gi} {gl : Gl} {Q : Gi → Gl → Prop}  (h : f_X6_noteRow  gi gl Q) : p_X6_noteRow  gi gl Q := by
  unfold f_X6_noteRow at h
  show PAt mX6_noteRow NN NN κF 0 [some (.ref 25), none, none, none, none, none, none] [] gi gl _
  refine px_ldc (v := (1073741823 : Int32)) dX6_noteRow_0 w_967 ?_
  refine px_istore_n (ls2 := [some (.ref 25), some (.int (1073741823 : Int32)), none, none, none, none, none]) (i := 1) rfl dX6_noteRow_2 (by decide) rfl ?_
  refine px_iconst (v := (0 : Int32)) dX6_noteRow_3 (by decide) ?_
  refine px_istore_n (ls2 := [some (.ref 25), some (.int (1073741823 : Int32)), some (.int (0 : Int32)), none, none, none, none]) (i := 2) rfl dX6_noteRow_4 (by decide) rfl ?_
  exact PAt.forget h (lsub_at ⟨rfl, ⟨rfl, ⟨rfl, trivial⟩⟩⟩)
set_option maxRecDepth 100000 in
theorem v_X6_noteRow_5 {x1 : Int32} {x2 : Int32} {gi : Gi} {gl : Gl} {Q : Gi → Gl → Prop}  (h : f_X6_noteRow_5 x1 x2 gi gl Q) : p_X6_noteRow_5 x1 x2 gi gl Q := by
  unfold f_X6_noteRow_5 at h
  show PAt mX6_noteRow NN NN κF 5 [some (.ref 25), some (.int x1), some (.int x2), none, none, none, none] [] gi gl _
  refine px_iload_n dX6_noteRow_5 rfl rfl ?_
  refine px_bipush (v := (30 : Int32)) dX6_noteRow_6 (by decide) ?_
  refine px_icmp_ge (tgt := 165) dX6_noteRow_8 (by decide) ?_
  by_cases hc : (30 : Int32) ≤ x2
  · rw [if_pos hc] at h ⊢
    exact px_return dX6_noteRow_165 rfl rfl ⟨rfl, rfl, h⟩
  · rw [if_neg hc] at h ⊢
    refine px_iload_n dX6_noteRow_11 rfl rfl ?_
    refine px_if_eq (tgt := 165) dX6_noteRow_12 (by decide) ?_
    by_cases hc : x1 = 0
    · rw [if_pos hc] at h ⊢
      exact px_return dX6_noteRow_165 rfl rfl ⟨rfl, rfl, h⟩
    · rw [if_neg hc] at h ⊢
      refine px_iload_n dX6_noteRow_15 rfl rfl ?_
      refine px_iload_n dX6_noteRow_16 rfl rfl ?_
      refine px_ineg dX6_noteRow_17 ?_
      refine px_iand dX6_noteRow_18 ?_
      obtain ⟨z1, hz1⟩ : ∃ y : Int32, y = x1 &&& (-x1) := ⟨_, rfl⟩
      have h := h z1 hz1
      refine px_namei hz1 ?_
      refine px_istore_n (ls2 := [some (.ref 25), some (.int x1), some (.int x2), some (.int z1), none, none, none]) (i := 3) rfl dX6_noteRow_19 (by decide) rfl ?_
      refine px_iload_n dX6_noteRow_20 rfl rfl ?_
      refine px_istore (ls2 := [some (.ref 25), some (.int x1), some (.int x2), some (.int z1), some (.int x1), none, none]) dX6_noteRow_21 (by decide) rfl ?_
      refine px_iconst (v := (0 : Int32)) dX6_noteRow_23 (by decide) ?_
      refine px_istore (ls2 := [some (.ref 25), some (.int x1), some (.int x2), some (.int z1), some (.int x1), some (.int (0 : Int32)), none]) dX6_noteRow_24 (by decide) rfl ?_
      refine px_iconst (v := (0 : Int32)) dX6_noteRow_26 (by decide) ?_
      refine px_istore (ls2 := [some (.ref 25), some (.int x1), some (.int x2), some (.int z1), some (.int x1), some (.int (0 : Int32)), some (.int (0 : Int32))]) dX6_noteRow_27 (by decide) rfl ?_
      exact PAt.forget h (lsub_at ⟨rfl, ⟨rfl, ⟨rfl, ⟨rfl, ⟨rfl, ⟨rfl, ⟨rfl, trivial⟩⟩⟩⟩⟩⟩⟩)
set_option maxRecDepth 100000 in
theorem v_X6_noteRow_29 {x1 : Int32} {x2 : Int32} {x3 : Int32} {x4 : Int32} {x5 : Int32} {x6 : Int32} {gi : Gi} {gl : Gl} {Q : Gi → Gl → Prop}  (h : f_X6_noteRow_29 x1 x2 x3 x4 x5 x6 gi gl Q) : p_X6_noteRow_29 x1 x2 x3 x4 x5 x6 gi gl Q := by
  unfold f_X6_noteRow_29 at h
  show PAt mX6_noteRow NN NN κF 29 [some (.ref 25), some (.int x1), some (.int x2), some (.int x3), some (.int x4), some (.int x5), some (.int x6)] [] gi gl _
  refine px_iload dX6_noteRow_29 rfl ?_
  refine px_aload_n dX6_noteRow_31 rfl rfl ?_
  refine gf_X6_40 rfl dX6_noteRow_32 zl_25 zk_25 ?_
  refine px_icmp_ge (tgt := 94) dX6_noteRow_35 (by decide) ?_
  by_cases hc : (gi 25 7) ≤ x6
  · rw [if_pos hc] at h ⊢
    refine px_aload_n dX6_noteRow_94 rfl rfl ?_
    refine gf_X6_15 rfl dX6_noteRow_95 zl_25 zk_25 rfl zr_25_2 zl_27 ?_
    refine px_iload dX6_noteRow_98 rfl ?_
    obtain ⟨hi, h⟩ := h
    refine px_iaload (n := 4096) dX6_noteRow_100 zl_27 zk_27 zs_27 hi ?_
    refine px_aload_n dX6_noteRow_101 rfl rfl ?_
    refine gf_X6_75 rfl dX6_noteRow_102 zl_25 zk_25 ?_
    refine px_icmp_eq (tgt := 152) dX6_noteRow_105 (by decide) ?_
    by_cases hc : (gi 27 x5.toNatClampNeg) = (gi 25 6)
    · rw [if_pos hc] at h ⊢
      refine px_iload_n dX6_noteRow_152 rfl rfl ?_
      refine px_iload dX6_noteRow_153 rfl ?_
      refine px_iconst (v := ((-1) : Int32)) dX6_noteRow_155 (by decide) ?_
      refine px_ixor dX6_noteRow_156 ?_
      refine px_iand dX6_noteRow_157 ?_
      obtain ⟨z1, hz1⟩ : ∃ y : Int32, y = x1 &&& (x4 ^^^ ((-1) : Int32)) := ⟨_, rfl⟩
      have h := h z1 hz1
      refine px_namei hz1 ?_
      refine px_istore_n (ls2 := [some (.ref 25), some (.int z1), some (.int x2), some (.int x3), some (.int x4), some (.int x5), some (.int x6)]) (i := 1) rfl dX6_noteRow_158 (by decide) rfl ?_
      refine px_iinc (v := x2 + (1 : Int32)) (ls2 := [some (.ref 25), some (.int z1), some (.int (x2 + (1 : Int32))), some (.int x3), some (.int x4), some (.int x5), some (.int x6)]) dX6_noteRow_159 rfl rfl (by decide) rfl ?_
      refine px_goto (tgt := 5) dX6_noteRow_162 (by decide) ?_
      exact PAt.forget h (lsub_at ⟨rfl, ⟨rfl, ⟨rfl, trivial⟩⟩⟩)
    · rw [if_neg hc] at h ⊢
      refine px_aload_n dX6_noteRow_108 rfl rfl ?_
      refine gf_X6_49 rfl dX6_noteRow_109 zl_25 zk_25 ?_
      refine px_aload_n dX6_noteRow_112 rfl rfl ?_
      refine gf_X6_18 rfl dX6_noteRow_113 zl_25 zk_25 rfl zr_25_3 zl_28 ?_
      refine px_alen (n := 1020) (t0 := 0) (v := (1020 : Int32)) dX6_noteRow_116 zl_28 zk_28 zs_28 (by decide) (fun _ => rfl) (by decide) ?_
      refine px_icmp_ge (tgt := 152) dX6_noteRow_117 (by decide) ?_
      by_cases hc : (1020 : Int32) ≤ (gi 25 5)
      · rw [if_pos hc] at h ⊢
        refine px_iload_n dX6_noteRow_152 rfl rfl ?_
        refine px_iload dX6_noteRow_153 rfl ?_
        refine px_iconst (v := ((-1) : Int32)) dX6_noteRow_155 (by decide) ?_
        refine px_ixor dX6_noteRow_156 ?_
        refine px_iand dX6_noteRow_157 ?_
        obtain ⟨z2, hz2⟩ : ∃ y : Int32, y = x1 &&& (x4 ^^^ ((-1) : Int32)) := ⟨_, rfl⟩
        have h := h z2 hz2
        refine px_namei hz2 ?_
        refine px_istore_n (ls2 := [some (.ref 25), some (.int z2), some (.int x2), some (.int x3), some (.int x4), some (.int x5), some (.int x6)]) (i := 1) rfl dX6_noteRow_158 (by decide) rfl ?_
        refine px_iinc (v := x2 + (1 : Int32)) (ls2 := [some (.ref 25), some (.int z2), some (.int (x2 + (1 : Int32))), some (.int x3), some (.int x4), some (.int x5), some (.int x6)]) dX6_noteRow_159 rfl rfl (by decide) rfl ?_
        refine px_goto (tgt := 5) dX6_noteRow_162 (by decide) ?_
        exact PAt.forget h (lsub_at ⟨rfl, ⟨rfl, ⟨rfl, trivial⟩⟩⟩)
      · rw [if_neg hc] at h ⊢
        refine px_aload_n dX6_noteRow_120 rfl rfl ?_
        refine gf_X6_15 rfl dX6_noteRow_121 zl_25 zk_25 rfl zr_25_2 zl_27 ?_
        refine px_iload dX6_noteRow_124 rfl ?_
        refine px_aload_n dX6_noteRow_126 rfl rfl ?_
        refine gf_X6_75 rfl dX6_noteRow_127 zl_25 zk_25 ?_
        obtain ⟨hi, h⟩ := h
        refine px_iastore (n := 4096) dX6_noteRow_130 zl_27 zk_27 zs_27 hi ?_
        obtain ⟨gi3, hgi3⟩ : ∃ y : Gi, y = uI gi 27 (upd (gi 27) x5.toNatClampNeg (gi 25 6)) := ⟨_, rfl⟩
        have h := h gi3 hgi3
        refine px_namegi hgi3 ?_
        refine px_aload_n dX6_noteRow_131 rfl rfl ?_
        refine gf_X6_18 rfl dX6_noteRow_132 zl_25 zk_25 rfl zr_25_3 zl_28 ?_
        refine px_aload_n dX6_noteRow_135 rfl rfl ?_
        refine gf_X6_49 rfl dX6_noteRow_136 zl_25 zk_25 ?_
        refine px_iload dX6_noteRow_139 rfl ?_
        obtain ⟨hi, h⟩ := h
        refine px_iastore (n := 1020) dX6_noteRow_141 zl_28 zk_28 zs_28 hi ?_
        obtain ⟨gi4, hgi4⟩ : ∃ y : Gi, y = uI gi3 28 (upd (gi3 28) (gi3 25 5).toNatClampNeg x5) := ⟨_, rfl⟩
        have h := h gi4 hgi4
        refine px_namegi hgi4 ?_
        refine px_aload_n dX6_noteRow_142 rfl rfl ?_
        refine px_dup dX6_noteRow_143 rfl ?_
        refine gf_X6_49 rfl dX6_noteRow_144 zl_25 zk_25 ?_
        refine px_iconst (v := (1 : Int32)) dX6_noteRow_147 (by decide) ?_
        refine px_iadd dX6_noteRow_148 ?_
        refine pf_X6_49 rfl dX6_noteRow_149 zl_25 zk_25 ?_
        obtain ⟨gi5, hgi5⟩ : ∃ y : Gi, y = uI gi4 25 (upd (gi4 25) 5 ((gi4 25 5) + (1 : Int32))) := ⟨_, rfl⟩
        have h := h gi5 hgi5
        refine px_namegi hgi5 ?_
        refine px_iload_n dX6_noteRow_152 rfl rfl ?_
        refine px_iload dX6_noteRow_153 rfl ?_
        refine px_iconst (v := ((-1) : Int32)) dX6_noteRow_155 (by decide) ?_
        refine px_ixor dX6_noteRow_156 ?_
        refine px_iand dX6_noteRow_157 ?_
        obtain ⟨z6, hz6⟩ : ∃ y : Int32, y = x1 &&& (x4 ^^^ ((-1) : Int32)) := ⟨_, rfl⟩
        have h := h z6 hz6
        refine px_namei hz6 ?_
        refine px_istore_n (ls2 := [some (.ref 25), some (.int z6), some (.int x2), some (.int x3), some (.int x4), some (.int x5), some (.int x6)]) (i := 1) rfl dX6_noteRow_158 (by decide) rfl ?_
        refine px_iinc (v := x2 + (1 : Int32)) (ls2 := [some (.ref 25), some (.int z6), some (.int (x2 + (1 : Int32))), some (.int x3), some (.int x4), some (.int x5), some (.int x6)]) dX6_noteRow_159 rfl rfl (by decide) rfl ?_
        refine px_goto (tgt := 5) dX6_noteRow_162 (by decide) ?_
        exact PAt.forget h (lsub_at ⟨rfl, ⟨rfl, ⟨rfl, trivial⟩⟩⟩)
  · rw [if_neg hc] at h ⊢
    refine px_aload_n dX6_noteRow_38 rfl rfl ?_
    refine gf_X6_21 rfl dX6_noteRow_39 zl_25 zk_25 rfl zr_25_4 zl_29 ?_
    refine px_iload dX6_noteRow_42 rfl ?_
    obtain ⟨hi, h⟩ := h
    refine px_iaload (n := 12) dX6_noteRow_44 zl_29 zk_29 zs_29 hi ?_
    refine px_iload_n dX6_noteRow_45 rfl rfl ?_
    refine px_iand dX6_noteRow_46 ?_
    refine px_if_eq (tgt := 74) dX6_noteRow_47 (by decide) ?_
    by_cases hc : ((gi 29 x6.toNatClampNeg) &&& x3) = 0
    · rw [if_pos hc] at h ⊢
      refine px_iload dX6_noteRow_74 rfl ?_
      refine px_aload_n dX6_noteRow_76 rfl rfl ?_
      refine gf_X6_21 rfl dX6_noteRow_77 zl_25 zk_25 rfl zr_25_4 zl_29 ?_
      refine px_iload dX6_noteRow_80 rfl ?_
      obtain ⟨hi, h⟩ := h
      refine px_iaload (n := 12) dX6_noteRow_82 zl_29 zk_29 zs_29 hi ?_
      refine px_iconst (v := ((-1) : Int32)) dX6_noteRow_83 (by decide) ?_
      refine px_ixor dX6_noteRow_84 ?_
      refine px_iand dX6_noteRow_85 ?_
      obtain ⟨z7, hz7⟩ : ∃ y : Int32, y = x4 &&& ((gi 29 x6.toNatClampNeg) ^^^ ((-1) : Int32)) := ⟨_, rfl⟩
      have h := h z7 hz7
      refine px_namei hz7 ?_
      refine px_istore (ls2 := [some (.ref 25), some (.int x1), some (.int x2), some (.int x3), some (.int z7), some (.int x5), some (.int x6)]) dX6_noteRow_86 (by decide) rfl ?_
      refine px_iinc (v := x6 + (1 : Int32)) (ls2 := [some (.ref 25), some (.int x1), some (.int x2), some (.int x3), some (.int z7), some (.int x5), some (.int (x6 + (1 : Int32)))]) dX6_noteRow_88 rfl rfl (by decide) rfl ?_
      refine px_goto (tgt := 29) dX6_noteRow_91 (by decide) ?_
      exact PAt.forget h (lsub_at ⟨rfl, ⟨rfl, ⟨rfl, ⟨rfl, ⟨rfl, ⟨rfl, ⟨rfl, trivial⟩⟩⟩⟩⟩⟩⟩)
    · rw [if_neg hc] at h ⊢
      refine px_iload dX6_noteRow_50 rfl ?_
      refine px_iconst (v := (1 : Int32)) dX6_noteRow_52 (by decide) ?_
      refine px_iload dX6_noteRow_53 rfl ?_
      refine px_ishl dX6_noteRow_55 ?_
      refine px_ior dX6_noteRow_56 ?_
      obtain ⟨z8, hz8⟩ : ∃ y : Int32, y = x5 ||| (jl (1 : Int32) x6) := ⟨_, rfl⟩
      have h := h z8 hz8
      refine px_namei hz8 ?_
      refine px_istore (ls2 := [some (.ref 25), some (.int x1), some (.int x2), some (.int x3), some (.int x4), some (.int z8), some (.int x6)]) dX6_noteRow_57 (by decide) rfl ?_
      refine px_iload dX6_noteRow_59 rfl ?_
      refine px_aload_n dX6_noteRow_61 rfl rfl ?_
      refine gf_X6_21 rfl dX6_noteRow_62 zl_25 zk_25 rfl zr_25_4 zl_29 ?_
      refine px_iload dX6_noteRow_65 rfl ?_
      obtain ⟨hi, h⟩ := h
      refine px_iaload (n := 12) dX6_noteRow_67 zl_29 zk_29 zs_29 hi ?_
      refine px_iand dX6_noteRow_68 ?_
      obtain ⟨z9, hz9⟩ : ∃ y : Int32, y = x4 &&& (gi 29 x6.toNatClampNeg) := ⟨_, rfl⟩
      have h := h z9 hz9
      refine px_namei hz9 ?_
      refine px_istore (ls2 := [some (.ref 25), some (.int x1), some (.int x2), some (.int x3), some (.int z9), some (.int z8), some (.int x6)]) dX6_noteRow_69 (by decide) rfl ?_
      refine px_goto (tgt := 88) dX6_noteRow_71 (by decide) ?_
      refine px_iinc (v := x6 + (1 : Int32)) (ls2 := [some (.ref 25), some (.int x1), some (.int x2), some (.int x3), some (.int z9), some (.int z8), some (.int (x6 + (1 : Int32)))]) dX6_noteRow_88 rfl rfl (by decide) rfl ?_
      refine px_goto (tgt := 29) dX6_noteRow_91 (by decide) ?_
      exact PAt.forget h (lsub_at ⟨rfl, ⟨rfl, ⟨rfl, ⟨rfl, ⟨rfl, ⟨rfl, ⟨rfl, trivial⟩⟩⟩⟩⟩⟩⟩)
abbrev p_X6_markMoments_2 (x1 : Int32) (x2 : Int32) (gi : Gi) (gl : Gl) (Q : Gi → Gl → Prop) : Prop := PAt mX6_markMoments NN NN κF 2 [some (.ref 25), some (.int x1), some (.int x2), none] [] gi gl (RvQ Q)
abbrev p_X6_markMoments_9 (x1 : Int32) (x2 : Int32) (x3 : Int32) (gi : Gi) (gl : Gl) (Q : Gi → Gl → Prop) : Prop := PAt mX6_markMoments NN NN κF 9 [some (.ref 25), some (.int x1), some (.int x2), some (.int x3)] [] gi gl (RvQ Q)
def f_X6_markMoments (x1 : Int32) (gi : Gi) (gl : Gl) (Q : Gi → Gl → Prop) : Prop :=
p_X6_markMoments_2 x1 (0 : Int32) gi gl Q
def f_X6_markMoments_2 (x1 : Int32) (x2 : Int32) (gi : Gi) (gl : Gl) (Q : Gi → Gl → Prop) : Prop :=
if x1 ≤ x2 then
(Q gi gl)
else
(p_X6_markMoments_9 x1 x2 x1 gi gl Q)
def f_X6_markMoments_9 (x1 : Int32) (x2 : Int32) (x3 : Int32) (gi : Gi) (gl : Gl) (Q : Gi → Gl → Prop) : Prop :=
if (gi 25 5) ≤ x3 then
(p_X6_markMoments_2 x1 (x2 + (1 : Int32)) gi gl Q)
else
(vp_in x2 1020 ∧
vp_in x3 1020 ∧
vp_in ((gi 28 x2.toNatClampNeg) &&& (gi 28 x3.toNatClampNeg)) 4096 ∧
∀ gi1 : Gi, gi1 = uI gi 26 (upd (gi 26) ((gi 28 x2.toNatClampNeg) &&& (gi 28 x3.toNatClampNeg)).toNatClampNeg (1 : Int32)) →
p_X6_markMoments_9 x1 x2 (x3 + (1 : Int32)) gi1 gl Q)
set_option maxRecDepth 100000 in
theorem v_X6_markMoments {x1 : Int32} {gi : Gi} {gl : Gl} {Q : Gi → Gl → Prop}  (h : f_X6_markMoments x1 gi gl Q) : p_X6_markMoments x1 gi gl Q := by
  unfold f_X6_markMoments at h
  show PAt mX6_markMoments NN NN κF 0 [some (.ref 25), some (.int x1), none, none] [] gi gl _
  refine px_iconst (v := (0 : Int32)) dX6_markMoments_0 (by decide) ?_
  refine px_istore_n (ls2 := [some (.ref 25), some (.int x1), some (.int (0 : Int32)), none]) (i := 2) rfl dX6_markMoments_1 (by decide) rfl ?_
  exact PAt.forget h (lsub_at ⟨rfl, ⟨rfl, ⟨rfl, trivial⟩⟩⟩)
set_option maxRecDepth 100000 in
theorem v_X6_markMoments_2 {x1 : Int32} {x2 : Int32} {gi : Gi} {gl : Gl} {Q : Gi → Gl → Prop}  (h : f_X6_markMoments_2 x1 x2 gi gl Q) : p_X6_markMoments_2 x1 x2 gi gl Q := by
  unfold f_X6_markMoments_2 at h
  show PAt mX6_markMoments NN NN κF 2 [some (.ref 25), some (.int x1), some (.int x2), none] [] gi gl _
  refine px_iload_n dX6_markMoments_2 rfl rfl ?_
  refine px_iload_n dX6_markMoments_3 rfl rfl ?_
  refine px_icmp_ge (tgt := 48) dX6_markMoments_4 (by decide) ?_
  by_cases hc : x1 ≤ x2
  · rw [if_pos hc] at h ⊢
    exact px_return dX6_markMoments_48 rfl rfl ⟨rfl, rfl, h⟩
  · rw [if_neg hc] at h ⊢
    refine px_iload_n dX6_markMoments_7 rfl rfl ?_
    refine px_istore_n (ls2 := [some (.ref 25), some (.int x1), some (.int x2), some (.int x1)]) (i := 3) rfl dX6_markMoments_8 (by decide) rfl ?_
    exact PAt.forget h (lsub_at ⟨rfl, ⟨rfl, ⟨rfl, ⟨rfl, trivial⟩⟩⟩⟩)
set_option maxRecDepth 100000 in
theorem v_X6_markMoments_9 {x1 : Int32} {x2 : Int32} {x3 : Int32} {gi : Gi} {gl : Gl} {Q : Gi → Gl → Prop}  (h : f_X6_markMoments_9 x1 x2 x3 gi gl Q) : p_X6_markMoments_9 x1 x2 x3 gi gl Q := by
  unfold f_X6_markMoments_9 at h
  show PAt mX6_markMoments NN NN κF 9 [some (.ref 25), some (.int x1), some (.int x2), some (.int x3)] [] gi gl _
  refine px_iload_n dX6_markMoments_9 rfl rfl ?_
  refine px_aload_n dX6_markMoments_10 rfl rfl ?_
  refine gf_X6_49 rfl dX6_markMoments_11 zl_25 zk_25 ?_
  refine px_icmp_ge (tgt := 42) dX6_markMoments_14 (by decide) ?_
  by_cases hc : (gi 25 5) ≤ x3
  · rw [if_pos hc] at h ⊢
    refine px_iinc (v := x2 + (1 : Int32)) (ls2 := [some (.ref 25), some (.int x1), some (.int (x2 + (1 : Int32))), some (.int x3)]) dX6_markMoments_42 rfl rfl (by decide) rfl ?_
    refine px_goto (tgt := 2) dX6_markMoments_45 (by decide) ?_
    exact PAt.forget h (lsub_at ⟨rfl, ⟨rfl, ⟨rfl, trivial⟩⟩⟩)
  · rw [if_neg hc] at h ⊢
    refine px_aload_n dX6_markMoments_17 rfl rfl ?_
    refine gf_X6_11 rfl dX6_markMoments_18 zl_25 zk_25 rfl zr_25_1 zl_26 ?_
    refine px_aload_n dX6_markMoments_21 rfl rfl ?_
    refine gf_X6_18 rfl dX6_markMoments_22 zl_25 zk_25 rfl zr_25_3 zl_28 ?_
    refine px_iload_n dX6_markMoments_25 rfl rfl ?_
    obtain ⟨hi, h⟩ := h
    refine px_iaload (n := 1020) dX6_markMoments_26 zl_28 zk_28 zs_28 hi ?_
    refine px_aload_n dX6_markMoments_27 rfl rfl ?_
    refine gf_X6_18 rfl dX6_markMoments_28 zl_25 zk_25 rfl zr_25_3 zl_28 ?_
    refine px_iload_n dX6_markMoments_31 rfl rfl ?_
    obtain ⟨hi, h⟩ := h
    refine px_iaload (n := 1020) dX6_markMoments_32 zl_28 zk_28 zs_28 hi ?_
    refine px_iand dX6_markMoments_33 ?_
    refine px_iconst (v := (1 : Int32)) dX6_markMoments_34 (by decide) ?_
    obtain ⟨hi, h⟩ := h
    refine px_iastore (n := 4096) dX6_markMoments_35 zl_26 zk_26 zs_26 hi ?_
    obtain ⟨gi1, hgi1⟩ : ∃ y : Gi, y = uI gi 26 (upd (gi 26) ((gi 28 x2.toNatClampNeg) &&& (gi 28 x3.toNatClampNeg)).toNatClampNeg (1 : Int32)) := ⟨_, rfl⟩
    have h := h gi1 hgi1
    refine px_namegi hgi1 ?_
    refine px_iinc (v := x3 + (1 : Int32)) (ls2 := [some (.ref 25), some (.int x1), some (.int x2), some (.int (x3 + (1 : Int32)))]) dX6_markMoments_36 rfl rfl (by decide) rfl ?_
    refine px_goto (tgt := 9) dX6_markMoments_39 (by decide) ?_
    exact PAt.forget h (lsub_at ⟨rfl, ⟨rfl, ⟨rfl, ⟨rfl, trivial⟩⟩⟩⟩)
abbrev p_X6_markSmaller_2 (x1 : Int32) (gi : Gi) (gl : Gl) (Q : Gi → Gl → Prop) : Prop := PAt mX6_markSmaller NN NN κF 2 [some (.ref 25), some (.int x1), none] [] gi gl (RvQ Q)
abbrev p_X6_markSmaller_12 (x1 : Int32) (x2 : Int32) (gi : Gi) (gl : Gl) (Q : Gi → Gl → Prop) : Prop := PAt mX6_markSmaller NN NN κF 12 [some (.ref 25), some (.int x1), some (.int x2)] [] gi gl (RvQ Q)
def f_X6_markSmaller  (gi : Gi) (gl : Gl) (Q : Gi → Gl → Prop) : Prop :=
p_X6_markSmaller_2 (0 : Int32) gi gl Q
def f_X6_markSmaller_2 (x1 : Int32) (gi : Gi) (gl : Gl) (Q : Gi → Gl → Prop) : Prop :=
if (gi 25 7) ≤ x1 then
(Q gi gl)
else
(p_X6_markSmaller_12 x1 (0 : Int32) gi gl Q)
def f_X6_markSmaller_12 (x1 : Int32) (x2 : Int32) (gi : Gi) (gl : Gl) (Q : Gi → Gl → Prop) : Prop :=
if (jl (1 : Int32) (gi 25 7)) ≤ x2 then
(p_X6_markSmaller_2 (x1 + (1 : Int32)) gi gl Q)
else
(if ¬ ((ja x2 x1) &&& (1 : Int32)) = (1 : Int32) then
(p_X6_markSmaller_12 x1 (x2 + (1 : Int32)) gi gl Q)
else
(vp_in x2 4096 ∧
if ¬ (gi 26 x2.toNatClampNeg) = (1 : Int32) then
(p_X6_markSmaller_12 x1 (x2 + (1 : Int32)) gi gl Q)
else
(vp_in (x2 &&& ((jl (1 : Int32) x1) ^^^ ((-1) : Int32))) 4096 ∧
∀ gi1 : Gi, gi1 = uI gi 26 (upd (gi 26) (x2 &&& ((jl (1 : Int32) x1) ^^^ ((-1) : Int32))).toNatClampNeg (1 : Int32)) →
p_X6_markSmaller_12 x1 (x2 + (1 : Int32)) gi1 gl Q)))
set_option maxRecDepth 100000 in
theorem v_X6_markSmaller  {gi : Gi} {gl : Gl} {Q : Gi → Gl → Prop}  (h : f_X6_markSmaller  gi gl Q) : p_X6_markSmaller  gi gl Q := by
  unfold f_X6_markSmaller at h
  show PAt mX6_markSmaller NN NN κF 0 [some (.ref 25), none, none] [] gi gl _
  refine px_iconst (v := (0 : Int32)) dX6_markSmaller_0 (by decide) ?_
  refine px_istore_n (ls2 := [some (.ref 25), some (.int (0 : Int32)), none]) (i := 1) rfl dX6_markSmaller_1 (by decide) rfl ?_
  exact PAt.forget h (lsub_at ⟨rfl, ⟨rfl, trivial⟩⟩)
set_option maxRecDepth 100000 in
theorem v_X6_markSmaller_2 {x1 : Int32} {gi : Gi} {gl : Gl} {Q : Gi → Gl → Prop}  (h : f_X6_markSmaller_2 x1 gi gl Q) : p_X6_markSmaller_2 x1 gi gl Q := by
  unfold f_X6_markSmaller_2 at h
  show PAt mX6_markSmaller NN NN κF 2 [some (.ref 25), some (.int x1), none] [] gi gl _
  refine px_iload_n dX6_markSmaller_2 rfl rfl ?_
  refine px_aload_n dX6_markSmaller_3 rfl rfl ?_
  refine gf_X6_40 rfl dX6_markSmaller_4 zl_25 zk_25 ?_
  refine px_icmp_ge (tgt := 66) dX6_markSmaller_7 (by decide) ?_
  by_cases hc : (gi 25 7) ≤ x1
  · rw [if_pos hc] at h ⊢
    exact px_return dX6_markSmaller_66 rfl rfl ⟨rfl, rfl, h⟩
  · rw [if_neg hc] at h ⊢
    refine px_iconst (v := (0 : Int32)) dX6_markSmaller_10 (by decide) ?_
    refine px_istore_n (ls2 := [some (.ref 25), some (.int x1), some (.int (0 : Int32))]) (i := 2) rfl dX6_markSmaller_11 (by decide) rfl ?_
    exact PAt.forget h (lsub_at ⟨rfl, ⟨rfl, ⟨rfl, trivial⟩⟩⟩)
set_option maxRecDepth 100000 in
theorem v_X6_markSmaller_12 {x1 : Int32} {x2 : Int32} {gi : Gi} {gl : Gl} {Q : Gi → Gl → Prop}  (h : f_X6_markSmaller_12 x1 x2 gi gl Q) : p_X6_markSmaller_12 x1 x2 gi gl Q := by
  unfold f_X6_markSmaller_12 at h
  show PAt mX6_markSmaller NN NN κF 12 [some (.ref 25), some (.int x1), some (.int x2)] [] gi gl _
  refine px_iload_n dX6_markSmaller_12 rfl rfl ?_
  refine px_iconst (v := (1 : Int32)) dX6_markSmaller_13 (by decide) ?_
  refine px_aload_n dX6_markSmaller_14 rfl rfl ?_
  refine gf_X6_40 rfl dX6_markSmaller_15 zl_25 zk_25 ?_
  refine px_ishl dX6_markSmaller_18 ?_
  refine px_icmp_ge (tgt := 60) dX6_markSmaller_19 (by decide) ?_
  by_cases hc : (jl (1 : Int32) (gi 25 7)) ≤ x2
  · rw [if_pos hc] at h ⊢
    refine px_iinc (v := x1 + (1 : Int32)) (ls2 := [some (.ref 25), some (.int (x1 + (1 : Int32))), some (.int x2)]) dX6_markSmaller_60 rfl rfl (by decide) rfl ?_
    refine px_goto (tgt := 2) dX6_markSmaller_63 (by decide) ?_
    exact PAt.forget h (lsub_at ⟨rfl, ⟨rfl, trivial⟩⟩)
  · rw [if_neg hc] at h ⊢
    refine px_iload_n dX6_markSmaller_22 rfl rfl ?_
    refine px_iload_n dX6_markSmaller_23 rfl rfl ?_
    refine px_ishr dX6_markSmaller_24 ?_
    refine px_iconst (v := (1 : Int32)) dX6_markSmaller_25 (by decide) ?_
    refine px_iand dX6_markSmaller_26 ?_
    refine px_iconst (v := (1 : Int32)) dX6_markSmaller_27 (by decide) ?_
    refine px_icmp_ne (tgt := 54) dX6_markSmaller_28 (by decide) ?_
    by_cases hc : ¬ ((ja x2 x1) &&& (1 : Int32)) = (1 : Int32)
    · rw [if_pos hc] at h ⊢
      refine px_iinc (v := x2 + (1 : Int32)) (ls2 := [some (.ref 25), some (.int x1), some (.int (x2 + (1 : Int32)))]) dX6_markSmaller_54 rfl rfl (by decide) rfl ?_
      refine px_goto (tgt := 12) dX6_markSmaller_57 (by decide) ?_
      exact PAt.forget h (lsub_at ⟨rfl, ⟨rfl, ⟨rfl, trivial⟩⟩⟩)
    · rw [if_neg hc] at h ⊢
      refine px_aload_n dX6_markSmaller_31 rfl rfl ?_
      refine gf_X6_11 rfl dX6_markSmaller_32 zl_25 zk_25 rfl zr_25_1 zl_26 ?_
      refine px_iload_n dX6_markSmaller_35 rfl rfl ?_
      obtain ⟨hi, h⟩ := h
      refine px_iaload (n := 4096) dX6_markSmaller_36 zl_26 zk_26 zs_26 hi ?_
      refine px_iconst (v := (1 : Int32)) dX6_markSmaller_37 (by decide) ?_
      refine px_icmp_ne (tgt := 54) dX6_markSmaller_38 (by decide) ?_
      by_cases hc : ¬ (gi 26 x2.toNatClampNeg) = (1 : Int32)
      · rw [if_pos hc] at h ⊢
        refine px_iinc (v := x2 + (1 : Int32)) (ls2 := [some (.ref 25), some (.int x1), some (.int (x2 + (1 : Int32)))]) dX6_markSmaller_54 rfl rfl (by decide) rfl ?_
        refine px_goto (tgt := 12) dX6_markSmaller_57 (by decide) ?_
        exact PAt.forget h (lsub_at ⟨rfl, ⟨rfl, ⟨rfl, trivial⟩⟩⟩)
      · rw [if_neg hc] at h ⊢
        refine px_aload_n dX6_markSmaller_41 rfl rfl ?_
        refine gf_X6_11 rfl dX6_markSmaller_42 zl_25 zk_25 rfl zr_25_1 zl_26 ?_
        refine px_iload_n dX6_markSmaller_45 rfl rfl ?_
        refine px_iconst (v := (1 : Int32)) dX6_markSmaller_46 (by decide) ?_
        refine px_iload_n dX6_markSmaller_47 rfl rfl ?_
        refine px_ishl dX6_markSmaller_48 ?_
        refine px_iconst (v := ((-1) : Int32)) dX6_markSmaller_49 (by decide) ?_
        refine px_ixor dX6_markSmaller_50 ?_
        refine px_iand dX6_markSmaller_51 ?_
        refine px_iconst (v := (1 : Int32)) dX6_markSmaller_52 (by decide) ?_
        obtain ⟨hi, h⟩ := h
        refine px_iastore (n := 4096) dX6_markSmaller_53 zl_26 zk_26 zs_26 hi ?_
        obtain ⟨gi1, hgi1⟩ : ∃ y : Gi, y = uI gi 26 (upd (gi 26) (x2 &&& ((jl (1 : Int32) x1) ^^^ ((-1) : Int32))).toNatClampNeg (1 : Int32)) := ⟨_, rfl⟩
        have h := h gi1 hgi1
        refine px_namegi hgi1 ?_
        refine px_iinc (v := x2 + (1 : Int32)) (ls2 := [some (.ref 25), some (.int x1), some (.int (x2 + (1 : Int32)))]) dX6_markSmaller_54 rfl rfl (by decide) rfl ?_
        refine px_goto (tgt := 12) dX6_markSmaller_57 (by decide) ?_
        exact PAt.forget h (lsub_at ⟨rfl, ⟨rfl, ⟨rfl, trivial⟩⟩⟩)
