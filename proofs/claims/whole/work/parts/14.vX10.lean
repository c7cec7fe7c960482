/-! laid by program: X10 -/
def f_X10_clear (a : Nat) (gi : Gi) (gl : Gl) (Q : Gi → Gl → Prop) : Prop :=
p_J7_fill_53178 (a + 1) (0 : Int32) gi gl (fun (gi1 : Gi) (gl2 : Gl) =>
p_J7_fill_53178 (a + 4) (0 : Int32) gi1 gl2 (fun (gi3 : Gi) (gl4 : Gl) =>
Q gi3 gl4))
set_option maxRecDepth 100000 in
theorem v_X10_clear {a : Nat} {gi : Gi} {gl : Gl} {Q : Gi → Gl → Prop} (haN : a < NN) (haK : sK a = 10) (h : f_X10_clear a gi gl Q) : p_X10_clear a gi gl Q := by
  unfold f_X10_clear at h
  show PAt mX10_clear NN NN κF 0 [some (.ref a)] [] gi gl _
  refine px_aload_n dX10_clear_0 rfl rfl ?_
  refine gf_X10_9 rfl dX10_clear_1 haN haK rfl (ly10_r0 haN haK) (ly10_lt1 haN haK) ?_
  refine px_iconst (v := (0 : Int32)) dX10_clear_4 (by decide) ?_
  refine px_callS_V (As := [.ref (a + 1), .int (0 : Int32)]) (st := []) dX10_clear_5 lk_X10_28.1 lk_X10_28.2 (by decide) rfl (Nat.le_of_ble_eq_true rfl) rfl rfl (Nat.le_of_ble_eq_true rfl) ⟨Nat.le_refl _, Nat.le_refl _, Nat.le_refl _⟩ ?_
  refine PAt.mono h (fun v κ gi1 gl2 hq => ?_)
  obtain ⟨rfl, -, h⟩ := hq
  refine px_aload_n dX10_clear_8 rfl rfl ?_
  refine gf_X10_22 rfl dX10_clear_9 haN haK rfl (ly10_r3 haN haK) (ly10_lt4 haN haK) ?_
  refine px_iconst (v := (0 : Int32)) dX10_clear_12 (by decide) ?_
  refine px_callS_V (As := [.ref (a + 4), .int (0 : Int32)]) (st := []) dX10_clear_13 lk_X10_28.1 lk_X10_28.2 (by decide) rfl (Nat.le_of_ble_eq_true rfl) rfl rfl (Nat.le_of_ble_eq_true rfl) ⟨Nat.le_refl _, Nat.le_refl _, Nat.le_refl _⟩ ?_
  refine PAt.mono h (fun v κ gi3 gl4 hq => ?_)
  obtain ⟨rfl, -, h⟩ := hq
  exact px_return dX10_clear_16 rfl rfl ⟨rfl, rfl, h⟩
def f_X10_copyFrom (a : Nat) (p : Nat) (gi : Gi) (gl : Gl) (Q : Gi → Gl → Prop) : Prop :=
∀ gi1 : Gi, gi1 = uI gi (a + 1) (va_cpy (gi (p + 1)) (gi (a + 1)) (0 : Int32).toNatClampNeg (0 : Int32).toNatClampNeg (6 : Int32).toNatClampNeg) →
∀ gl2 : Gl, gl2 = uL gl (a + 2) (va_cpy (gl (p + 2)) (gl (a + 2)) (0 : Int32).toNatClampNeg (0 : Int32).toNatClampNeg (48 : Int32).toNatClampNeg) →
∀ gi3 : Gi, gi3 = uI gi1 (a + 3) (va_cpy (gi1 (p + 3)) (gi1 (a + 3)) (0 : Int32).toNatClampNeg (0 : Int32).toNatClampNeg (192 : Int32).toNatClampNeg) →
∀ gi4 : Gi, gi4 = uI gi3 (a + 4) (va_cpy (gi3 (p + 4)) (gi3 (a + 4)) (0 : Int32).toNatClampNeg (0 : Int32).toNatClampNeg (12 : Int32).toNatClampNeg) →
∀ gi5 : Gi, gi5 = uI gi4 (a + 5) (va_cpy (gi4 (p + 5)) (gi4 (a + 5)) (0 : Int32).toNatClampNeg (0 : Int32).toNatClampNeg (1440 : Int32).toNatClampNeg) →
Q gi5 gl2
set_option maxRecDepth 100000 in
theorem v_X10_copyFrom {a : Nat} {p : Nat} {gi : Gi} {gl : Gl} {Q : Gi → Gl → Prop} (haN : a < NN) (haK : sK a = 10) (hpN : p < NN) (hpK : sK p = 10) (h : f_X10_copyFrom a p gi gl Q) : p_X10_copyFrom a p gi gl Q := by
  unfold f_X10_copyFrom at h
  show PAt mX10_copyFrom NN NN κF 0 [some (.ref a), some (.ref p)] [] gi gl _
  refine px_aload_n dX10_copyFrom_0 rfl rfl ?_
  refine gf_X10_9 rfl dX10_copyFrom_1 hpN hpK rfl (ly10_r0 hpN hpK) (ly10_lt1 hpN hpK) ?_
  refine px_iconst (v := (0 : Int32)) dX10_copyFrom_4 (by decide) ?_
  refine px_aload_n dX10_copyFrom_5 rfl rfl ?_
  refine gf_X10_9 rfl dX10_copyFrom_6 haN haK rfl (ly10_r0 haN haK) (ly10_lt1 haN haK) ?_
  refine px_iconst (v := (0 : Int32)) dX10_copyFrom_9 (by decide) ?_
  refine px_aload_n dX10_copyFrom_10 rfl rfl ?_
  refine gf_X10_9 rfl dX10_copyFrom_11 haN haK rfl (ly10_r0 haN haK) (ly10_lt1 haN haK) ?_
  refine px_alen (n := 6) (t0 := 0) (v := (6 : Int32)) dX10_copyFrom_14 (ly10_lt1 haN haK) (ly10_k1 haN haK) (ly10_s1 haN haK) (by decide) (fun _ => rfl) (by decide) ?_
  refine px_copyi (na := 6) (nb := 6) dX10_copyFrom_15 (ly10_lt1 hpN hpK) (ly10_lt1 haN haK) rfl (ly10_k1 hpN hpK) (ly10_k1 haN haK) (ly10_s1 hpN hpK) (ly10_s1 haN haK) w_643 w_645 w_644 w_117 (by decide) (by decide) (by decide) (by decide +kernel) (by decide +kernel) (by decide) (by decide) ?_
  obtain ⟨gi1, hgi1⟩ : ∃ y : Gi, y = uI gi (a + 1) (va_cpy (gi (p + 1)) (gi (a + 1)) (0 : Int32).toNatClampNeg (0 : Int32).toNatClampNeg (6 : Int32).toNatClampNeg) := ⟨_, rfl⟩
  have h := h gi1 hgi1
  refine px_namegi hgi1 ?_
  refine px_aload_n dX10_copyFrom_18 rfl rfl ?_
  refine gf_X10_15 rfl dX10_copyFrom_19 hpN hpK rfl (ly10_r1 hpN hpK) (ly10_lt2 hpN hpK) ?_
  refine px_iconst (v := (0 : Int32)) dX10_copyFrom_22 (by decide) ?_
  refine px_aload_n dX10_copyFrom_23 rfl rfl ?_
  refine gf_X10_15 rfl dX10_copyFrom_24 haN haK rfl (ly10_r1 haN haK) (ly10_lt2 haN haK) ?_
  refine px_iconst (v := (0 : Int32)) dX10_copyFrom_27 (by decide) ?_
  refine px_aload_n dX10_copyFrom_28 rfl rfl ?_
  refine gf_X10_15 rfl dX10_copyFrom_29 haN haK rfl (ly10_r1 haN haK) (ly10_lt2 haN haK) ?_
  refine px_alen (n := 48) (t0 := 1) (v := (48 : Int32)) dX10_copyFrom_32 (ly10_lt2 haN haK) (ly10_k2 haN haK) (ly10_s2 haN haK) (by decide) (fun _ => rfl) (by decide) ?_
  refine px_copyl (na := 48) (nb := 48) dX10_copyFrom_33 (ly10_lt2 hpN hpK) (ly10_lt2 haN haK) rfl (ly10_k2 hpN hpK) (ly10_k2 haN haK) (ly10_s2 hpN hpK) (ly10_s2 haN haK) w_643 w_645 w_644 w_117 (by decide) (by decide) (by decide) (by decide +kernel) (by decide +kernel) (by decide) (by decide) ?_
  obtain ⟨gl2, hgl2⟩ : ∃ y : Gl, y = uL gl (a + 2) (va_cpy (gl (p + 2)) (gl (a + 2)) (0 : Int32).toNatClampNeg (0 : Int32).toNatClampNeg (48 : Int32).toNatClampNeg) := ⟨_, rfl⟩
  have h := h gl2 hgl2
  refine px_namegl hgl2 ?_
  refine px_aload_n dX10_copyFrom_36 rfl rfl ?_
  refine gf_X10_19 rfl dX10_copyFrom_37 hpN hpK rfl (ly10_r2 hpN hpK) (ly10_lt3 hpN hpK) ?_
  refine px_iconst (v := (0 : Int32)) dX10_copyFrom_40 (by decide) ?_
  refine px_aload_n dX10_copyFrom_41 rfl rfl ?_
  refine gf_X10_19 rfl dX10_copyFrom_42 haN haK rfl (ly10_r2 haN haK) (ly10_lt3 haN haK) ?_
  refine px_iconst (v := (0 : Int32)) dX10_copyFrom_45 (by decide) ?_
  refine px_aload_n dX10_copyFrom_46 rfl rfl ?_
  refine gf_X10_19 rfl dX10_copyFrom_47 haN haK rfl (ly10_r2 haN haK) (ly10_lt3 haN haK) ?_
  refine px_alen (n := 192) (t0 := 0) (v := (192 : Int32)) dX10_copyFrom_50 (ly10_lt3 haN haK) (ly10_k3 haN haK) (ly10_s3 haN haK) (by decide) (fun _ => rfl) (by decide) ?_
  refine px_copyi (na := 192) (nb := 192) dX10_copyFrom_51 (ly10_lt3 hpN hpK) (ly10_lt3 haN haK) rfl (ly10_k3 hpN hpK) (ly10_k3 haN haK) (ly10_s3 hpN hpK) (ly10_s3 haN haK) w_643 w_645 w_644 w_117 (by decide) (by decide) (by decide) (by decide +kernel) (by decide +kernel) (by decide) (by decide) ?_
  obtain ⟨gi3, hgi3⟩ : ∃ y : Gi, y = uI gi1 (a + 3) (va_cpy (gi1 (p + 3)) (gi1 (a + 3)) (0 : Int32).toNatClampNeg (0 : Int32).toNatClampNeg (192 : Int32).toNatClampNeg) := ⟨_, rfl⟩
  have h := h gi3 hgi3
  refine px_namegi hgi3 ?_
  refine px_aload_n dX10_copyFrom_54 rfl rfl ?_
  refine gf_X10_22 rfl dX10_copyFrom_55 hpN hpK rfl (ly10_r3 hpN hpK) (ly10_lt4 hpN hpK) ?_
  refine px_iconst (v := (0 : Int32)) dX10_copyFrom_58 (by decide) ?_
  refine px_aload_n dX10_copyFrom_59 rfl rfl ?_
  refine gf_X10_22 rfl dX10_copyFrom_60 haN haK rfl (ly10_r3 haN haK) (ly10_lt4 haN haK) ?_
  refine px_iconst (v := (0 : Int32)) dX10_copyFrom_63 (by decide) ?_
  refine px_aload_n dX10_copyFrom_64 rfl rfl ?_
  refine gf_X10_22 rfl dX10_copyFrom_65 haN haK rfl (ly10_r3 haN haK) (ly10_lt4 haN haK) ?_
  refine px_alen (n := 12) (t0 := 0) (v := (12 : Int32)) dX10_copyFrom_68 (ly10_lt4 haN haK) (ly10_k4 haN haK) (ly10_s4 haN haK) (by decide) (fun _ => rfl) (by decide) ?_
  refine px_copyi (na := 12) (nb := 12) dX10_copyFrom_69 (ly10_lt4 hpN hpK) (ly10_lt4 haN haK) rfl (ly10_k4 hpN hpK) (ly10_k4 haN haK) (ly10_s4 hpN hpK) (ly10_s4 haN haK) w_643 w_645 w_644 w_117 (by decide) (by decide) (by decide) (by decide +kernel) (by decide +kernel) (by decide) (by decide) ?_
  obtain ⟨gi4, hgi4⟩ : ∃ y : Gi, y = uI gi3 (a + 4) (va_cpy (gi3 (p + 4)) (gi3 (a + 4)) (0 : Int32).toNatClampNeg (0 : Int32).toNatClampNeg (12 : Int32).toNatClampNeg) := ⟨_, rfl⟩
  have h := h gi4 hgi4
  refine px_namegi hgi4 ?_
  refine px_aload_n dX10_copyFrom_72 rfl rfl ?_
  refine gf_X10_25 rfl dX10_copyFrom_73 hpN hpK rfl (ly10_r4 hpN hpK) (ly10_lt5 hpN hpK) ?_
  refine px_iconst (v := (0 : Int32)) dX10_copyFrom_76 (by decide) ?_
  refine px_aload_n dX10_copyFrom_77 rfl rfl ?_
  refine gf_X10_25 rfl dX10_copyFrom_78 haN haK rfl (ly10_r4 haN haK) (ly10_lt5 haN haK) ?_
  refine px_iconst (v := (0 : Int32)) dX10_copyFrom_81 (by decide) ?_
  refine px_aload_n dX10_copyFrom_82 rfl rfl ?_
  refine gf_X10_25 rfl dX10_copyFrom_83 haN haK rfl (ly10_r4 haN haK) (ly10_lt5 haN haK) ?_
  refine px_alen (n := 1440) (t0 := 0) (v := (1440 : Int32)) dX10_copyFrom_86 (ly10_lt5 haN haK) (ly10_k5 haN haK) (ly10_s5 haN haK) (by decide) (fun _ => rfl) (by decide) ?_
  refine px_copyi (na := 1440) (nb := 1440) dX10_copyFrom_87 (ly10_lt5 hpN hpK) (ly10_lt5 haN haK) rfl (ly10_k5 hpN hpK) (ly10_k5 haN haK) (ly10_s5 hpN hpK) (ly10_s5 haN haK) w_643 w_645 w_644 w_117 (by decide) (by decide) (by decide) (by decide +kernel) (by decide +kernel) (by decide) (by decide) ?_
  obtain ⟨gi5, hgi5⟩ : ∃ y : Gi, y = uI gi4 (a + 5) (va_cpy (gi4 (p + 5)) (gi4 (a + 5)) (0 : Int32).toNatClampNeg (0 : Int32).toNatClampNeg (1440 : Int32).toNatClampNeg) := ⟨_, rfl⟩
  have h := h gi5 hgi5
  refine px_namegi hgi5 ?_
  exact px_return dX10_copyFrom_90 rfl rfl ⟨rfl, rfl, h⟩
def f_X10_countOf (a : Nat) (x1 : Int32) (gi : Gi) (gl : Gl) (Q : Int32 → Gi → Gl → Prop) : Prop :=
if x1 < 0 then
(Q ((-1) : Int32) gi gl)
else
(if x1 < (6 : Int32) then
(vp_in x1 6 ∧
Q (gi (a + 1) x1.toNatClampNeg) gi gl)
else
(Q ((-1) : Int32) gi gl))
set_option maxRecDepth 100000 in
theorem v_X10_countOf {a : Nat} {x1 : Int32} {gi : Gi} {gl : Gl} {Q : Int32 → Gi → Gl → Prop} (haN : a < NN) (haK : sK a = 10) (h : f_X10_countOf a x1 gi gl Q) : p_X10_countOf a x1 gi gl Q := by
  unfold f_X10_countOf at h
  show PAt mX10_countOf NN NN κF 0 [some (.ref a), some (.int x1)] [] gi gl _
  refine px_iload_n dX10_countOf_0 rfl rfl ?_
  refine px_if_lt (tgt := 13) dX10_countOf_1 (by decide) ?_
  by_cases hc : x1 < 0
  · rw [if_pos hc] at h ⊢
    refine px_iconst (v := ((-1) : Int32)) dX10_countOf_13 (by decide) ?_
    refine px_goto (tgt := 23) dX10_countOf_14 (by decide) ?_
    exact px_ireturn dX10_countOf_23 rfl ⟨.int, rfl, rfl, rfl⟩ ⟨rfl, _, rfl, h⟩
  · rw [if_neg hc] at h ⊢
    refine px_iload_n dX10_countOf_4 rfl rfl ?_
    refine px_aload_n dX10_countOf_5 rfl rfl ?_
    refine gf_X10_9 rfl dX10_countOf_6 haN haK rfl (ly10_r0 haN haK) (ly10_lt1 haN haK) ?_
    refine px_alen (n := 6) (t0 := 0) (v := (6 : Int32)) dX10_countOf_9 (ly10_lt1 haN haK) (ly10_k1 haN haK) (ly10_s1 haN haK) (by decide) (fun _ => rfl) (by decide) ?_
    refine px_icmp_lt (tgt := 17) dX10_countOf_10 (by decide) ?_
    by_cases hc : x1 < (6 : Int32)
    · rw [if_pos hc] at h ⊢
      refine px_aload_n dX10_countOf_17 rfl rfl ?_
      refine gf_X10_9 rfl dX10_countOf_18 haN haK rfl (ly10_r0 haN haK) (ly10_lt1 haN haK) ?_
      refine px_iload_n dX10_countOf_21 rfl rfl ?_
      obtain ⟨hi, h⟩ := h
      refine px_iaload (n := 6) dX10_countOf_22 (ly10_lt1 haN haK) (ly10_k1 haN haK) (ly10_s1 haN haK) hi ?_
      exact px_ireturn dX10_countOf_23 rfl ⟨.int, rfl, rfl, rfl⟩ ⟨rfl, _, rfl, h⟩
    · rw [if_neg hc] at h ⊢
      refine px_iconst (v := ((-1) : Int32)) dX10_countOf_13 (by decide) ?_
      refine px_goto (tgt := 23) dX10_countOf_14 (by decide) ?_
      exact px_ireturn dX10_countOf_23 rfl ⟨.int, rfl, rfl, rfl⟩ ⟨rfl, _, rfl, h⟩
def f_X10_has (a : Nat) (x1 : Int32) (x2 : Int32) (gi : Gi) (gl : Gl) (Q : Int32 → Gi → Gl → Prop) : Prop :=
if x1 < 0 then
(Q (0 : Int32) gi gl)
else
(if (4 : Int32) ≤ x1 then
(Q (0 : Int32) gi gl)
else
(if x2 < 0 then
(Q (0 : Int32) gi gl)
else
(vp_in x1 6 ∧
if (gi (a + 1) x1.toNatClampNeg) ≤ x2 then
(Q (0 : Int32) gi gl)
else
(Q (1 : Int32) gi gl))))
set_option maxRecDepth 100000 in
theorem v_X10_has {a : Nat} {x1 : Int32} {x2 : Int32} {gi : Gi} {gl : Gl} {Q : Int32 → Gi → Gl → Prop} (haN : a < NN) (haK : sK a = 10) (h : f_X10_has a x1 x2 gi gl Q) : p_X10_has a x1 x2 gi gl Q := by
  unfold f_X10_has at h
  show PAt mX10_has NN NN κF 0 [some (.ref a), some (.int x1), some (.int x2)] [] gi gl _
  refine px_iload_n dX10_has_0 rfl rfl ?_
  refine px_if_lt (tgt := 27) dX10_has_1 (by decide) ?_
  by_cases hc : x1 < 0
  · rw [if_pos hc] at h ⊢
    refine px_iconst (v := (0 : Int32)) dX10_has_27 (by decide) ?_
    exact px_ireturn dX10_has_28 rfl ⟨.boolean, rfl, rfl, by decide⟩ ⟨rfl, _, rfl, h⟩
  · rw [if_neg hc] at h ⊢
    refine px_iload_n dX10_has_4 rfl rfl ?_
    refine px_iconst (v := (4 : Int32)) dX10_has_5 (by decide) ?_
    refine px_icmp_ge (tgt := 27) dX10_has_6 (by decide) ?_
    by_cases hc : (4 : Int32) ≤ x1
    · rw [if_pos hc] at h ⊢
      refine px_iconst (v := (0 : Int32)) dX10_has_27 (by decide) ?_
      exact px_ireturn dX10_has_28 rfl ⟨.boolean, rfl, rfl, by decide⟩ ⟨rfl, _, rfl, h⟩
    · rw [if_neg hc] at h ⊢
      refine px_iload_n dX10_has_9 rfl rfl ?_
      refine px_if_lt (tgt := 27) dX10_has_10 (by decide) ?_
      by_cases hc : x2 < 0
      · rw [if_pos hc] at h ⊢
        refine px_iconst (v := (0 : Int32)) dX10_has_27 (by decide) ?_
        exact px_ireturn dX10_has_28 rfl ⟨.boolean, rfl, rfl, by decide⟩ ⟨rfl, _, rfl, h⟩
      · rw [if_neg hc] at h ⊢
        refine px_iload_n dX10_has_13 rfl rfl ?_
        refine px_aload_n dX10_has_14 rfl rfl ?_
        refine gf_X10_9 rfl dX10_has_15 haN haK rfl (ly10_r0 haN haK) (ly10_lt1 haN haK) ?_
        refine px_iload_n dX10_has_18 rfl rfl ?_
        obtain ⟨hi, h⟩ := h
        refine px_iaload (n := 6) dX10_has_19 (ly10_lt1 haN haK) (ly10_k1 haN haK) (ly10_s1 haN haK) hi ?_
        refine px_icmp_ge (tgt := 27) dX10_has_20 (by decide) ?_
        by_cases hc : (gi (a + 1) x1.toNatClampNeg) ≤ x2
        · rw [if_pos hc] at h ⊢
          refine px_iconst (v := (0 : Int32)) dX10_has_27 (by decide) ?_
          exact px_ireturn dX10_has_28 rfl ⟨.boolean, rfl, rfl, by decide⟩ ⟨rfl, _, rfl, h⟩
        · rw [if_neg hc] at h ⊢
          refine px_iconst (v := (1 : Int32)) dX10_has_23 (by decide) ?_
          refine px_goto (tgt := 28) dX10_has_24 (by decide) ?_
          exact px_ireturn dX10_has_28 rfl ⟨.boolean, rfl, rfl, by decide⟩ ⟨rfl, _, rfl, h⟩
def f_X10_of (a : Nat) (x1 : Int32) (x2 : Int32) (x3 : Int32) (gi : Gi) (gl : Gl) (Q : Int32 → Gi → Gl → Prop) : Prop :=
if x1 < 0 then
(Q ((-1) : Int32) gi gl)
else
(if (4 : Int32) ≤ x1 then
(Q ((-1) : Int32) gi gl)
else
(if x2 < 0 then
(Q ((-1) : Int32) gi gl)
else
(vp_in x1 6 ∧
if (gi (a + 1) x1.toNatClampNeg) ≤ x2 then
(Q ((-1) : Int32) gi gl)
else
(if x3 < 0 then
(Q ((-1) : Int32) gi gl)
else
(if x3 < (4 : Int32) then
(vp_in ((((x1 * (12 : Int32)) + x2) * (4 : Int32)) + x3) 192 ∧
Q (gi (a + 3) ((((x1 * (12 : Int32)) + x2) * (4 : Int32)) + x3).toNatClampNeg) gi gl)
else
(Q ((-1) : Int32) gi gl))))))
set_option maxRecDepth 100000 in
theorem v_X10_of {a : Nat} {x1 : Int32} {x2 : Int32} {x3 : Int32} {gi : Gi} {gl : Gl} {Q : Int32 → Gi → Gl → Prop} (haN : a < NN) (haK : sK a = 10) (h : f_X10_of a x1 x2 x3 gi gl Q) : p_X10_of a x1 x2 x3 gi gl Q := by
  unfold f_X10_of at h
  show PAt mX10_of NN NN κF 0 [some (.ref a), some (.int x1), some (.int x2), some (.int x3)] [] gi gl _
  refine px_iload_n dX10_of_0 rfl rfl ?_
  refine px_if_lt (tgt := 32) dX10_of_1 (by decide) ?_
  by_cases hc : x1 < 0
  · rw [if_pos hc] at h ⊢
    refine px_iconst (v := ((-1) : Int32)) dX10_of_32 (by decide) ?_
    exact px_ireturn dX10_of_33 rfl ⟨.int, rfl, rfl, rfl⟩ ⟨rfl, _, rfl, h⟩
  · rw [if_neg hc] at h ⊢
    refine px_iload_n dX10_of_4 rfl rfl ?_
    refine px_iconst (v := (4 : Int32)) dX10_of_5 (by decide) ?_
    refine px_icmp_ge (tgt := 32) dX10_of_6 (by decide) ?_
    by_cases hc : (4 : Int32) ≤ x1
    · rw [if_pos hc] at h ⊢
      refine px_iconst (v := ((-1) : Int32)) dX10_of_32 (by decide) ?_
      exact px_ireturn dX10_of_33 rfl ⟨.int, rfl, rfl, rfl⟩ ⟨rfl, _, rfl, h⟩
    · rw [if_neg hc] at h ⊢
      refine px_iload_n dX10_of_9 rfl rfl ?_
      refine px_if_lt (tgt := 32) dX10_of_10 (by decide) ?_
      by_cases hc : x2 < 0
      · rw [if_pos hc] at h ⊢
        refine px_iconst (v := ((-1) : Int32)) dX10_of_32 (by decide) ?_
        exact px_ireturn dX10_of_33 rfl ⟨.int, rfl, rfl, rfl⟩ ⟨rfl, _, rfl, h⟩
      · rw [if_neg hc] at h ⊢
        refine px_iload_n dX10_of_13 rfl rfl ?_
        refine px_aload_n dX10_of_14 rfl rfl ?_
        refine gf_X10_9 rfl dX10_of_15 haN haK rfl (ly10_r0 haN haK) (ly10_lt1 haN haK) ?_
        refine px_iload_n dX10_of_18 rfl rfl ?_
        obtain ⟨hi, h⟩ := h
        refine px_iaload (n := 6) dX10_of_19 (ly10_lt1 haN haK) (ly10_k1 haN haK) (ly10_s1 haN haK) hi ?_
        refine px_icmp_ge (tgt := 32) dX10_of_20 (by decide) ?_
        by_cases hc : (gi (a + 1) x1.toNatClampNeg) ≤ x2
        · rw [if_pos hc] at h ⊢
          refine px_iconst (v := ((-1) : Int32)) dX10_of_32 (by decide) ?_
          exact px_ireturn dX10_of_33 rfl ⟨.int, rfl, rfl, rfl⟩ ⟨rfl, _, rfl, h⟩
        · rw [if_neg hc] at h ⊢
          refine px_iload_n dX10_of_23 rfl rfl ?_
          refine px_if_lt (tgt := 32) dX10_of_24 (by decide) ?_
          by_cases hc : x3 < 0
          · rw [if_pos hc] at h ⊢
            refine px_iconst (v := ((-1) : Int32)) dX10_of_32 (by decide) ?_
            exact px_ireturn dX10_of_33 rfl ⟨.int, rfl, rfl, rfl⟩ ⟨rfl, _, rfl, h⟩
          · rw [if_neg hc] at h ⊢
            refine px_iload_n dX10_of_27 rfl rfl ?_
            refine px_iconst (v := (4 : Int32)) dX10_of_28 (by decide) ?_
            refine px_icmp_lt (tgt := 34) dX10_of_29 (by decide) ?_
            by_cases hc : x3 < (4 : Int32)
            · rw [if_pos hc] at h ⊢
              refine px_aload_n dX10_of_34 rfl rfl ?_
              refine gf_X10_19 rfl dX10_of_35 haN haK rfl (ly10_r2 haN haK) (ly10_lt3 haN haK) ?_
              refine px_iload_n dX10_of_38 rfl rfl ?_
              refine px_bipush (v := (12 : Int32)) dX10_of_39 (by decide) ?_
              refine px_imul dX10_of_41 ?_
              refine px_iload_n dX10_of_42 rfl rfl ?_
              refine px_iadd dX10_of_43 ?_
              refine px_iconst (v := (4 : Int32)) dX10_of_44 (by decide) ?_
              refine px_imul dX10_of_45 ?_
              refine px_iload_n dX10_of_46 rfl rfl ?_
              refine px_iadd dX10_of_47 ?_
              obtain ⟨hi, h⟩ := h
              refine px_iaload (n := 192) dX10_of_48 (ly10_lt3 haN haK) (ly10_k3 haN haK) (ly10_s3 haN haK) hi ?_
              exact px_ireturn dX10_of_49 rfl ⟨.int, rfl, rfl, rfl⟩ ⟨rfl, _, rfl, h⟩
            · rw [if_neg hc] at h ⊢
              refine px_iconst (v := ((-1) : Int32)) dX10_of_32 (by decide) ?_
              exact px_ireturn dX10_of_33 rfl ⟨.int, rfl, rfl, rfl⟩ ⟨rfl, _, rfl, h⟩
def f_X10_takesMore (a : Nat) (x1 : Int32) (gi : Gi) (gl : Gl) (Q : Int32 → Gi → Gl → Prop) : Prop :=
if ¬ x1 = (4 : Int32) then
(if x1 < 0 then
(Q (0 : Int32) gi gl)
else
(if (4 : Int32) ≤ x1 then
(Q (0 : Int32) gi gl)
else
(vp_in x1 6 ∧
vp_in x1 4 ∧
if (([12, 6, 10, 4] : List Int32).getD x1.toNatClampNeg 0) ≤ (gi (a + 1) x1.toNatClampNeg) then
(Q (0 : Int32) gi gl)
else
(Q (1 : Int32) gi gl))))
else
(if (40 : Int32) ≤ (gi (a + 1) (4 : Int32).toNatClampNeg) then
(Q (0 : Int32) gi gl)
else
(Q (1 : Int32) gi gl))
set_option maxRecDepth 100000 in
theorem v_X10_takesMore {a : Nat} {x1 : Int32} {gi : Gi} {gl : Gl} {Q : Int32 → Gi → Gl → Prop} (haN : a < NN) (haK : sK a = 10) (h : f_X10_takesMore a x1 gi gl Q) : p_X10_takesMore a x1 gi gl Q := by
  unfold f_X10_takesMore at h
  show PAt mX10_takesMore NN NN κF 0 [some (.ref a), some (.int x1)] [] gi gl _
  refine px_iload_n dX10_takesMore_0 rfl rfl ?_
  refine px_iconst (v := (4 : Int32)) dX10_takesMore_1 (by decide) ?_
  refine px_icmp_ne (tgt := 22) dX10_takesMore_2 (by decide) ?_
  by_cases hc : ¬ x1 = (4 : Int32)
  · rw [if_pos hc] at h ⊢
    refine px_iload_n dX10_takesMore_22 rfl rfl ?_
    refine px_if_lt (tgt := 52) dX10_takesMore_23 (by decide) ?_
    by_cases hc : x1 < 0
    · rw [if_pos hc] at h ⊢
      refine px_iconst (v := (0 : Int32)) dX10_takesMore_52 (by decide) ?_
      exact px_ireturn dX10_takesMore_53 rfl ⟨.boolean, rfl, rfl, by decide⟩ ⟨rfl, _, rfl, h⟩
    · rw [if_neg hc] at h ⊢
      refine px_iload_n dX10_takesMore_26 rfl rfl ?_
      refine px_getsMo dX10_takesMore_27 w_533 ?_
      refine px_mostL dX10_takesMore_30 ?_
      refine px_icmp_ge (tgt := 52) dX10_takesMore_31 (by decide) ?_
      by_cases hc : (4 : Int32) ≤ x1
      · rw [if_pos hc] at h ⊢
        refine px_iconst (v := (0 : Int32)) dX10_takesMore_52 (by decide) ?_
        exact px_ireturn dX10_takesMore_53 rfl ⟨.boolean, rfl, rfl, by decide⟩ ⟨rfl, _, rfl, h⟩
      · rw [if_neg hc] at h ⊢
        refine px_aload_n dX10_takesMore_34 rfl rfl ?_
        refine gf_X10_9 rfl dX10_takesMore_35 haN haK rfl (ly10_r0 haN haK) (ly10_lt1 haN haK) ?_
        refine px_iload_n dX10_takesMore_38 rfl rfl ?_
        obtain ⟨hi, h⟩ := h
        refine px_iaload (n := 6) dX10_takesMore_39 (ly10_lt1 haN haK) (ly10_k1 haN haK) (ly10_s1 haN haK) hi ?_
        refine px_getsMo dX10_takesMore_40 w_533 ?_
        refine px_iload_n dX10_takesMore_43 rfl rfl ?_
        obtain ⟨hi, h⟩ := h
        refine px_mostI dX10_takesMore_44 hi ?_
        refine px_icmp_ge (tgt := 52) dX10_takesMore_45 (by decide) ?_
        by_cases hc : (([12, 6, 10, 4] : List Int32).getD x1.toNatClampNeg 0) ≤ (gi (a + 1) x1.toNatClampNeg)
        · rw [if_pos hc] at h ⊢
          refine px_iconst (v := (0 : Int32)) dX10_takesMore_52 (by decide) ?_
          exact px_ireturn dX10_takesMore_53 rfl ⟨.boolean, rfl, rfl, by decide⟩ ⟨rfl, _, rfl, h⟩
        · rw [if_neg hc] at h ⊢
          refine px_iconst (v := (1 : Int32)) dX10_takesMore_48 (by decide) ?_
          refine px_goto (tgt := 53) dX10_takesMore_49 (by decide) ?_
          exact px_ireturn dX10_takesMore_53 rfl ⟨.boolean, rfl, rfl, by decide⟩ ⟨rfl, _, rfl, h⟩
  · rw [if_neg hc] at h ⊢
    refine px_aload_n dX10_takesMore_5 rfl rfl ?_
    refine gf_X10_9 rfl dX10_takesMore_6 haN haK rfl (ly10_r0 haN haK) (ly10_lt1 haN haK) ?_
    refine px_iconst (v := (4 : Int32)) dX10_takesMore_9 (by decide) ?_
    refine px_iaload (n := 6) dX10_takesMore_10 (ly10_lt1 haN haK) (ly10_k1 haN haK) (ly10_s1 haN haK) (vp_lit (by decide)) ?_
    refine px_bipush (v := (40 : Int32)) dX10_takesMore_11 (by decide) ?_
    refine px_icmp_ge (tgt := 20) dX10_takesMore_13 (by decide) ?_
    by_cases hc : (40 : Int32) ≤ (gi (a + 1) (4 : Int32).toNatClampNeg)
    · rw [if_pos hc] at h ⊢
      refine px_iconst (v := (0 : Int32)) dX10_takesMore_20 (by decide) ?_
      exact px_ireturn dX10_takesMore_21 rfl ⟨.boolean, rfl, rfl, by decide⟩ ⟨rfl, _, rfl, h⟩
    · rw [if_neg hc] at h ⊢
      refine px_iconst (v := (1 : Int32)) dX10_takesMore_16 (by decide) ?_
      refine px_goto (tgt := 21) dX10_takesMore_17 (by decide) ?_
      exact px_ireturn dX10_takesMore_21 rfl ⟨.boolean, rfl, rfl, by decide⟩ ⟨rfl, _, rfl, h⟩
def f_X10_tell (a : Nat) (x1 : Int32) (y2 : Int64) (gi : Gi) (gl : Gl) (Q : Gi → Gl → Prop) : Prop :=
if x1 < 0 then
(Q gi gl)
else
(if (4 : Int32) ≤ x1 then
(Q gi gl)
else
(p_X10_takesMore a x1 gi gl (fun (r3 : Int32) (gi1 : Gi) (gl2 : Gl) =>
if r3 = 0 then
(Q gi1 gl2)
else
(vp_in x1 6 ∧
vp_in ((x1 * (12 : Int32)) + (gi1 (a + 1) x1.toNatClampNeg)) 48 ∧
∀ gl4 : Gl, gl4 = uL gl2 (a + 2) (vp_updL (gl2 (a + 2)) ((x1 * (12 : Int32)) + (gi1 (a + 1) x1.toNatClampNeg)).toNatClampNeg y2) →
vp_in x1 6 ∧
vp_in x1 6 ∧
∀ gi5 : Gi, gi5 = uI gi1 (a + 1) (upd (gi1 (a + 1)) x1.toNatClampNeg ((gi1 (a + 1) x1.toNatClampNeg) + (1 : Int32))) →
Q gi5 gl4))))
set_option maxRecDepth 100000 in
theorem v_X10_tell {a : Nat} {x1 : Int32} {y2 : Int64} {gi : Gi} {gl : Gl} {Q : Gi → Gl → Prop} (haN : a < NN) (haK : sK a = 10) (h : f_X10_tell a x1 y2 gi gl Q) : p_X10_tell a x1 y2 gi gl Q := by
  unfold f_X10_tell at h
  show PAt mX10_tell NN NN κF 0 [some (.ref a), some (.int x1), some (.long y2), none] [] gi gl _
  refine px_iload_n dX10_tell_0 rfl rfl ?_
  refine px_if_lt (tgt := 44) dX10_tell_1 (by decide) ?_
  by_cases hc : x1 < 0
  · rw [if_pos hc] at h ⊢
    exact px_return dX10_tell_44 rfl rfl ⟨rfl, rfl, h⟩
  · rw [if_neg hc] at h ⊢
    refine px_iload_n dX10_tell_4 rfl rfl ?_
    refine px_iconst (v := (4 : Int32)) dX10_tell_5 (by decide) ?_
    refine px_icmp_ge (tgt := 44) dX10_tell_6 (by decide) ?_
    by_cases hc : (4 : Int32) ≤ x1
    · rw [if_pos hc] at h ⊢
      exact px_return dX10_tell_44 rfl rfl ⟨rfl, rfl, h⟩
    · rw [if_neg hc] at h ⊢
      refine px_aload_n dX10_tell_9 rfl rfl ?_
      refine px_iload_n dX10_tell_10 rfl rfl ?_
      refine px_callV_I (As := [.int x1]) (st := []) dX10_tell_11 lk_X10_43.1 lk_X10_43.2 (b := a) haN haK (by decide) rfl (by decide) rfl (Nat.le_of_ble_eq_true rfl) rfl rfl (Nat.le_of_ble_eq_true rfl) ⟨Nat.le_refl _, Nat.le_refl _, Nat.le_refl _⟩ ?_
      refine PAt.mono h (fun v κ gi1 gl2 hq => ?_)
      obtain ⟨rfl, r3, rfl, h⟩ := hq
      refine px_if_eq (tgt := 44) dX10_tell_14 (by decide) ?_
      by_cases hc : r3 = 0
      · rw [if_pos hc] at h ⊢
        exact px_return dX10_tell_44 rfl rfl ⟨rfl, rfl, h⟩
      · rw [if_neg hc] at h ⊢
        refine px_aload_n dX10_tell_17 rfl rfl ?_
        refine gf_X10_15 rfl dX10_tell_18 haN haK rfl (ly10_r1 haN haK) (ly10_lt2 haN haK) ?_
        refine px_iload_n dX10_tell_21 rfl rfl ?_
        refine px_bipush (v := (12 : Int32)) dX10_tell_22 (by decide) ?_
        refine px_imul dX10_tell_24 ?_
        refine px_aload_n dX10_tell_25 rfl rfl ?_
        refine gf_X10_9 rfl dX10_tell_26 haN haK rfl (ly10_r0 haN haK) (ly10_lt1 haN haK) ?_
        refine px_iload_n dX10_tell_29 rfl rfl ?_
        obtain ⟨hi, h⟩ := h
        refine px_iaload (n := 6) dX10_tell_30 (ly10_lt1 haN haK) (ly10_k1 haN haK) (ly10_s1 haN haK) hi ?_
        refine px_iadd dX10_tell_31 ?_
        refine px_lload_n dX10_tell_32 rfl rfl ?_
        obtain ⟨hi, h⟩ := h
        refine px_lastore (n := 48) dX10_tell_33 (ly10_lt2 haN haK) (ly10_k2 haN haK) (ly10_s2 haN haK) hi ?_
        obtain ⟨gl4, hgl4⟩ : ∃ y : Gl, y = uL gl2 (a + 2) (vp_updL (gl2 (a + 2)) ((x1 * (12 : Int32)) + (gi1 (a + 1) x1.toNatClampNeg)).toNatClampNeg y2) := ⟨_, rfl⟩
        have h := h gl4 hgl4
        refine px_namegl hgl4 ?_
        refine px_aload_n dX10_tell_34 rfl rfl ?_
        refine gf_X10_9 rfl dX10_tell_35 haN haK rfl (ly10_r0 haN haK) (ly10_lt1 haN haK) ?_
        refine px_iload_n dX10_tell_38 rfl rfl ?_
        refine px_dup2 dX10_tell_39 rfl rfl ?_
        obtain ⟨hi, h⟩ := h
        refine px_iaload (n := 6) dX10_tell_40 (ly10_lt1 haN haK) (ly10_k1 haN haK) (ly10_s1 haN haK) hi ?_
        refine px_iconst (v := (1 : Int32)) dX10_tell_41 (by decide) ?_
        refine px_iadd dX10_tell_42 ?_
        obtain ⟨hi, h⟩ := h
        refine px_iastore (n := 6) dX10_tell_43 (ly10_lt1 haN haK) (ly10_k1 haN haK) (ly10_s1 haN haK) hi ?_
        obtain ⟨gi5, hgi5⟩ : ∃ y : Gi, y = uI gi1 (a + 1) (upd (gi1 (a + 1)) x1.toNatClampNeg ((gi1 (a + 1) x1.toNatClampNeg) + (1 : Int32))) := ⟨_, rfl⟩
        have h := h gi5 hgi5
        refine px_namegi hgi5 ?_
        exact px_return dX10_tell_44 rfl rfl ⟨rfl, rfl, h⟩
def f_X10_setLast (a : Nat) (x1 : Int32) (x2 : Int32) (x3 : Int32) (x4 : Int32) (x5 : Int32) (gi : Gi) (gl : Gl) (Q : Gi → Gl → Prop) : Prop :=
if x1 < 0 then
(Q gi gl)
else
(if (4 : Int32) ≤ x1 then
(Q gi gl)
else
(vp_in x1 6 ∧
p_X10_has a x1 ((gi (a + 1) x1.toNatClampNeg) - (1 : Int32)) gi gl (fun (r3 : Int32) (gi1 : Gi) (gl2 : Gl) =>
if ¬ r3 = 0 then
(vp_in x1 6 ∧
∀ z4 : Int32, z4 = (((x1 * (12 : Int32)) + (gi1 (a + 1) x1.toNatClampNeg)) - (1 : Int32)) * (4 : Int32) →
vp_in z4 192 ∧
∀ gi5 : Gi, gi5 = uI gi1 (a + 3) (upd (gi1 (a + 3)) z4.toNatClampNeg x2) →
vp_in (z4 + (1 : Int32)) 192 ∧
∀ gi6 : Gi, gi6 = uI gi5 (a + 3) (upd (gi5 (a + 3)) (z4 + (1 : Int32)).toNatClampNeg x3) →
vp_in (z4 + (2 : Int32)) 192 ∧
∀ gi7 : Gi, gi7 = uI gi6 (a + 3) (upd (gi6 (a + 3)) (z4 + (2 : Int32)).toNatClampNeg x4) →
vp_in (z4 + (3 : Int32)) 192 ∧
∀ gi8 : Gi, gi8 = uI gi7 (a + 3) (upd (gi7 (a + 3)) (z4 + (3 : Int32)).toNatClampNeg x5) →
Q gi8 gl2)
else
(Q gi1 gl2))))
set_option maxRecDepth 100000 in
theorem v_X10_setLast {a : Nat} {x1 : Int32} {x2 : Int32} {x3 : Int32} {x4 : Int32} {x5 : Int32} {gi : Gi} {gl : Gl} {Q : Gi → Gl → Prop} (haN : a < NN) (haK : sK a = 10) (h : f_X10_setLast a x1 x2 x3 x4 x5 gi gl Q) : p_X10_setLast a x1 x2 x3 x4 x5 gi gl Q := by
  unfold f_X10_setLast at h
  show PAt mX10_setLast NN NN κF 0 [some (.ref a), some (.int x1), some (.int x2), some (.int x3), some (.int x4), some (.int x5), none] [] gi gl _
  refine px_iload_n dX10_setLast_0 rfl rfl ?_
  refine px_if_lt (tgt := 25) dX10_setLast_1 (by decide) ?_
  by_cases hc : x1 < 0
  · rw [if_pos hc] at h ⊢
    exact px_return dX10_setLast_25 rfl rfl ⟨rfl, rfl, h⟩
  · rw [if_neg hc] at h ⊢
    refine px_iload_n dX10_setLast_4 rfl rfl ?_
    refine px_iconst (v := (4 : Int32)) dX10_setLast_5 (by decide) ?_
    refine px_icmp_ge (tgt := 25) dX10_setLast_6 (by decide) ?_
    by_cases hc : (4 : Int32) ≤ x1
    · rw [if_pos hc] at h ⊢
      exact px_return dX10_setLast_25 rfl rfl ⟨rfl, rfl, h⟩
    · rw [if_neg hc] at h ⊢
      refine px_aload_n dX10_setLast_9 rfl rfl ?_
      refine px_iload_n dX10_setLast_10 rfl rfl ?_
      refine px_aload_n dX10_setLast_11 rfl rfl ?_
      refine gf_X10_9 rfl dX10_setLast_12 haN haK rfl (ly10_r0 haN haK) (ly10_lt1 haN haK) ?_
      refine px_iload_n dX10_setLast_15 rfl rfl ?_
      obtain ⟨hi, h⟩ := h
      refine px_iaload (n := 6) dX10_setLast_16 (ly10_lt1 haN haK) (ly10_k1 haN haK) (ly10_s1 haN haK) hi ?_
      refine px_iconst (v := (1 : Int32)) dX10_setLast_17 (by decide) ?_
      refine px_isub dX10_setLast_18 ?_
      refine px_callV_I (As := [.int x1, .int ((gi (a + 1) x1.toNatClampNeg) - (1 : Int32))]) (st := []) dX10_setLast_19 lk_X10_47.1 lk_X10_47.2 (b := a) haN haK (by decide) rfl (by decide) rfl (Nat.le_of_ble_eq_true rfl) rfl rfl (Nat.le_of_ble_eq_true rfl) ⟨Nat.le_refl _, Nat.le_refl _, Nat.le_refl _⟩ ?_
      refine PAt.mono h (fun v κ gi1 gl2 hq => ?_)
      obtain ⟨rfl, r3, rfl, h⟩ := hq
      refine px_if_ne (tgt := 26) dX10_setLast_22 (by decide) ?_
      by_cases hc : ¬ r3 = 0
      · rw [if_pos hc] at h ⊢
        refine px_iload_n dX10_setLast_26 rfl rfl ?_
        refine px_bipush (v := (12 : Int32)) dX10_setLast_27 (by decide) ?_
        refine px_imul dX10_setLast_29 ?_
        refine px_aload_n dX10_setLast_30 rfl rfl ?_
        refine gf_X10_9 rfl dX10_setLast_31 haN haK rfl (ly10_r0 haN haK) (ly10_lt1 haN haK) ?_
        refine px_iload_n dX10_setLast_34 rfl rfl ?_
        obtain ⟨hi, h⟩ := h
        refine px_iaload (n := 6) dX10_setLast_35 (ly10_lt1 haN haK) (ly10_k1 haN haK) (ly10_s1 haN haK) hi ?_
        refine px_iadd dX10_setLast_36 ?_
        refine px_iconst (v := (1 : Int32)) dX10_setLast_37 (by decide) ?_
        refine px_isub dX10_setLast_38 ?_
        refine px_iconst (v := (4 : Int32)) dX10_setLast_39 (by decide) ?_
        refine px_imul dX10_setLast_40 ?_
        obtain ⟨z4, hz4⟩ : ∃ y : Int32, y = (((x1 * (12 : Int32)) + (gi1 (a + 1) x1.toNatClampNeg)) - (1 : Int32)) * (4 : Int32) := ⟨_, rfl⟩
        have h := h z4 hz4
        refine px_namei hz4 ?_
        refine px_istore (ls2 := [some (.ref a), some (.int x1), some (.int x2), some (.int x3), some (.int x4), some (.int x5), some (.int z4)]) dX10_setLast_41 (by decide) rfl ?_
        refine px_aload_n dX10_setLast_43 rfl rfl ?_
        refine gf_X10_19 rfl dX10_setLast_44 haN haK rfl (ly10_r2 haN haK) (ly10_lt3 haN haK) ?_
        refine px_iload dX10_setLast_47 rfl ?_
        refine px_iload_n dX10_setLast_49 rfl rfl ?_
        obtain ⟨hi, h⟩ := h
        refine px_iastore (n := 192) dX10_setLast_50 (ly10_lt3 haN haK) (ly10_k3 haN haK) (ly10_s3 haN haK) hi ?_
        obtain ⟨gi5, hgi5⟩ : ∃ y : Gi, y = uI gi1 (a + 3) (upd (gi1 (a + 3)) z4.toNatClampNeg x2) := ⟨_, rfl⟩
        have h := h gi5 hgi5
        refine px_namegi hgi5 ?_
        refine px_aload_n dX10_setLast_51 rfl rfl ?_
        refine gf_X10_19 rfl dX10_setLast_52 haN haK rfl (ly10_r2 haN haK) (ly10_lt3 haN haK) ?_
        refine px_iload dX10_setLast_55 rfl ?_
        refine px_iconst (v := (1 : Int32)) dX10_setLast_57 (by decide) ?_
        refine px_iadd dX10_setLast_58 ?_
        refine px_iload_n dX10_setLast_59 rfl rfl ?_
        obtain ⟨hi, h⟩ := h
        refine px_iastore (n := 192) dX10_setLast_60 (ly10_lt3 haN haK) (ly10_k3 haN haK) (ly10_s3 haN haK) hi ?_
        obtain ⟨gi6, hgi6⟩ : ∃ y : Gi, y = uI gi5 (a + 3) (upd (gi5 (a + 3)) (z4 + (1 : Int32)).toNatClampNeg x3) := ⟨_, rfl⟩
        have h := h gi6 hgi6
        refine px_namegi hgi6 ?_
        refine px_aload_n dX10_setLast_61 rfl rfl ?_
        refine gf_X10_19 rfl dX10_setLast_62 haN haK rfl (ly10_r2 haN haK) (ly10_lt3 haN haK) ?_
        refine px_iload dX10_setLast_65 rfl ?_
        refine px_iconst (v := (2 : Int32)) dX10_setLast_67 (by decide) ?_
        refine px_iadd dX10_setLast_68 ?_
        refine px_iload dX10_setLast_69 rfl ?_
        obtain ⟨hi, h⟩ := h
        refine px_iastore (n := 192) dX10_setLast_71 (ly10_lt3 haN haK) (ly10_k3 haN haK) (ly10_s3 haN haK) hi ?_
        obtain ⟨gi7, hgi7⟩ : ∃ y : Gi, y = uI gi6 (a + 3) (upd (gi6 (a + 3)) (z4 + (2 : Int32)).toNatClampNeg x4) := ⟨_, rfl⟩
        have h := h gi7 hgi7
        refine px_namegi hgi7 ?_
        refine px_aload_n dX10_setLast_72 rfl rfl ?_
        refine gf_X10_19 rfl dX10_setLast_73 haN haK rfl (ly10_r2 haN haK) (ly10_lt3 haN haK) ?_
        refine px_iload dX10_setLast_76 rfl ?_
        refine px_iconst (v := (3 : Int32)) dX10_setLast_78 (by decide) ?_
        refine px_iadd dX10_setLast_79 ?_
        refine px_iload dX10_setLast_80 rfl ?_
        obtain ⟨hi, h⟩ := h
        refine px_iastore (n := 192) dX10_setLast_82 (ly10_lt3 haN haK) (ly10_k3 haN haK) (ly10_s3 haN haK) hi ?_
        obtain ⟨gi8, hgi8⟩ : ∃ y : Gi, y = uI gi7 (a + 3) (upd (gi7 (a + 3)) (z4 + (3 : Int32)).toNatClampNeg x5) := ⟨_, rfl⟩
        have h := h gi8 hgi8
        refine px_namegi hgi8 ?_
        exact px_return dX10_setLast_83 rfl rfl ⟨rfl, rfl, h⟩
      · rw [if_neg hc] at h ⊢
        exact px_return dX10_setLast_25 rfl rfl ⟨rfl, rfl, h⟩
def f_X10_tellSun (a : Nat) (x1 : Int32) (x2 : Int32) (x3 : Int32) (x4 : Int32) (gi : Gi) (gl : Gl) (Q : Gi → Gl → Prop) : Prop :=
if x1 < 0 then
(Q gi gl)
else
(if (12 : Int32) ≤ x1 then
(Q gi gl)
else
(p_X10_takesMore a (4 : Int32) gi gl (fun (r3 : Int32) (gi1 : Gi) (gl2 : Gl) =>
if ¬ r3 = 0 then
(vp_in x1 12 ∧
∀ z4 : Int32, z4 = ((x1 * (40 : Int32)) + (gi1 (a + 4) x1.toNatClampNeg)) * (3 : Int32) →
vp_in z4 1440 ∧
∀ gi5 : Gi, gi5 = uI gi1 (a + 5) (upd (gi1 (a + 5)) z4.toNatClampNeg x2) →
vp_in (z4 + (1 : Int32)) 1440 ∧
∀ gi6 : Gi, gi6 = uI gi5 (a + 5) (upd (gi5 (a + 5)) (z4 + (1 : Int32)).toNatClampNeg x3) →
vp_in (z4 + (2 : Int32)) 1440 ∧
∀ gi7 : Gi, gi7 = uI gi6 (a + 5) (upd (gi6 (a + 5)) (z4 + (2 : Int32)).toNatClampNeg x4) →
vp_in x1 12 ∧
vp_in x1 12 ∧
∀ gi8 : Gi, gi8 = uI gi7 (a + 4) (upd (gi7 (a + 4)) x1.toNatClampNeg ((gi7 (a + 4) x1.toNatClampNeg) + (1 : Int32))) →
∀ gi9 : Gi, gi9 = uI gi8 (a + 1) (upd (gi8 (a + 1)) (4 : Int32).toNatClampNeg ((gi8 (a + 1) (4 : Int32).toNatClampNeg) + (1 : Int32))) →
Q gi9 gl2)
else
(Q gi1 gl2))))
set_option maxRecDepth 100000 in
theorem v_X10_tellSun {a : Nat} {x1 : Int32} {x2 : Int32} {x3 : Int32} {x4 : Int32} {gi : Gi} {gl : Gl} {Q : Gi → Gl → Prop} (haN : a < NN) (haK : sK a = 10) (h : f_X10_tellSun a x1 x2 x3 x4 gi gl Q) : p_X10_tellSun a x1 x2 x3 x4 gi gl Q := by
  unfold f_X10_tellSun at h
  show PAt mX10_tellSun NN NN κF 0 [some (.ref a), some (.int x1), some (.int x2), some (.int x3), some (.int x4), none] [] gi gl _
  refine px_iload_n dX10_tellSun_0 rfl rfl ?_
  refine px_if_lt (tgt := 18) dX10_tellSun_1 (by decide) ?_
  by_cases hc : x1 < 0
  · rw [if_pos hc] at h ⊢
    exact px_return dX10_tellSun_18 rfl rfl ⟨rfl, rfl, h⟩
  · rw [if_neg hc] at h ⊢
    refine px_iload_n dX10_tellSun_4 rfl rfl ?_
    refine px_bipush (v := (12 : Int32)) dX10_tellSun_5 (by decide) ?_
    refine px_icmp_ge (tgt := 18) dX10_tellSun_7 (by decide) ?_
    by_cases hc : (12 : Int32) ≤ x1
    · rw [if_pos hc] at h ⊢
      exact px_return dX10_tellSun_18 rfl rfl ⟨rfl, rfl, h⟩
    · rw [if_neg hc] at h ⊢
      refine px_aload_n dX10_tellSun_10 rfl rfl ?_
      refine px_iconst (v := (4 : Int32)) dX10_tellSun_11 (by decide) ?_
      refine px_callV_I (As := [.int (4 : Int32)]) (st := []) dX10_tellSun_12 lk_X10_43.1 lk_X10_43.2 (b := a) haN haK (by decide) rfl (by decide) rfl (Nat.le_of_ble_eq_true rfl) rfl rfl (Nat.le_of_ble_eq_true rfl) ⟨Nat.le_refl _, Nat.le_refl _, Nat.le_refl _⟩ ?_
      refine PAt.mono h (fun v κ gi1 gl2 hq => ?_)
      obtain ⟨rfl, r3, rfl, h⟩ := hq
      refine px_if_ne (tgt := 19) dX10_tellSun_15 (by decide) ?_
      by_cases hc : ¬ r3 = 0
      · rw [if_pos hc] at h ⊢
        refine px_iload_n dX10_tellSun_19 rfl rfl ?_
        refine px_bipush (v := (40 : Int32)) dX10_tellSun_20 (by decide) ?_
        refine px_imul dX10_tellSun_22 ?_
        refine px_aload_n dX10_tellSun_23 rfl rfl ?_
        refine gf_X10_22 rfl dX10_tellSun_24 haN haK rfl (ly10_r3 haN haK) (ly10_lt4 haN haK) ?_
        refine px_iload_n dX10_tellSun_27 rfl rfl ?_
        obtain ⟨hi, h⟩ := h
        refine px_iaload (n := 12) dX10_tellSun_28 (ly10_lt4 haN haK) (ly10_k4 haN haK) (ly10_s4 haN haK) hi ?_
        refine px_iadd dX10_tellSun_29 ?_
        refine px_iconst (v := (3 : Int32)) dX10_tellSun_30 (by decide) ?_
        refine px_imul dX10_tellSun_31 ?_
        obtain ⟨z4, hz4⟩ : ∃ y : Int32, y = ((x1 * (40 : Int32)) + (gi1 (a + 4) x1.toNatClampNeg)) * (3 : Int32) := ⟨_, rfl⟩
        have h := h z4 hz4
        refine px_namei hz4 ?_
        refine px_istore (ls2 := [some (.ref a), some (.int x1), some (.int x2), some (.int x3), some (.int x4), some (.int z4)]) dX10_tellSun_32 (by decide) rfl ?_
        refine px_aload_n dX10_tellSun_34 rfl rfl ?_
        refine gf_X10_25 rfl dX10_tellSun_35 haN haK rfl (ly10_r4 haN haK) (ly10_lt5 haN haK) ?_
        refine px_iload dX10_tellSun_38 rfl ?_
        refine px_iload_n dX10_tellSun_40 rfl rfl ?_
        obtain ⟨hi, h⟩ := h
        refine px_iastore (n := 1440) dX10_tellSun_41 (ly10_lt5 haN haK) (ly10_k5 haN haK) (ly10_s5 haN haK) hi ?_
        obtain ⟨gi5, hgi5⟩ : ∃ y : Gi, y = uI gi1 (a + 5) (upd (gi1 (a + 5)) z4.toNatClampNeg x2) := ⟨_, rfl⟩
        have h := h gi5 hgi5
        refine px_namegi hgi5 ?_
        refine px_aload_n dX10_tellSun_42 rfl rfl ?_
        refine gf_X10_25 rfl dX10_tellSun_43 haN haK rfl (ly10_r4 haN haK) (ly10_lt5 haN haK) ?_
        refine px_iload dX10_tellSun_46 rfl ?_
        refine px_iconst (v := (1 : Int32)) dX10_tellSun_48 (by decide) ?_
        refine px_iadd dX10_tellSun_49 ?_
        refine px_iload_n dX10_tellSun_50 rfl rfl ?_
        obtain ⟨hi, h⟩ := h
        refine px_iastore (n := 1440) dX10_tellSun_51 (ly10_lt5 haN haK) (ly10_k5 haN haK) (ly10_s5 haN haK) hi ?_
        obtain ⟨gi6, hgi6⟩ : ∃ y : Gi, y = uI gi5 (a + 5) (upd (gi5 (a + 5)) (z4 + (1 : Int32)).toNatClampNeg x3) := ⟨_, rfl⟩
        have h := h gi6 hgi6
        refine px_namegi hgi6 ?_
        refine px_aload_n dX10_tellSun_52 rfl rfl ?_
        refine gf_X10_25 rfl dX10_tellSun_53 haN haK rfl (ly10_r4 haN haK) (ly10_lt5 haN haK) ?_
        refine px_iload dX10_tellSun_56 rfl ?_
        refine px_iconst (v := (2 : Int32)) dX10_tellSun_58 (by decide) ?_
        refine px_iadd dX10_tellSun_59 ?_
        refine px_iload dX10_tellSun_60 rfl ?_
        obtain ⟨hi, h⟩ := h
        refine px_iastore (n := 1440) dX10_tellSun_62 (ly10_lt5 haN haK) (ly10_k5 haN haK) (ly10_s5 haN haK) hi ?_
        obtain ⟨gi7, hgi7⟩ : ∃ y : Gi, y = uI gi6 (a + 5) (upd (gi6 (a + 5)) (z4 + (2 : Int32)).toNatClampNeg x4) := ⟨_, rfl⟩
        have h := h gi7 hgi7
        refine px_namegi hgi7 ?_
        refine px_aload_n dX10_tellSun_63 rfl rfl ?_
        refine gf_X10_22 rfl dX10_tellSun_64 haN haK rfl (ly10_r3 haN haK) (ly10_lt4 haN haK) ?_
        refine px_iload_n dX10_tellSun_67 rfl rfl ?_
        refine px_dup2 dX10_tellSun_68 rfl rfl ?_
        obtain ⟨hi, h⟩ := h
        refine px_iaload (n := 12) dX10_tellSun_69 (ly10_lt4 haN haK) (ly10_k4 haN haK) (ly10_s4 haN haK) hi ?_
        refine px_iconst (v := (1 : Int32)) dX10_tellSun_70 (by decide) ?_
        refine px_iadd dX10_tellSun_71 ?_
        obtain ⟨hi, h⟩ := h
        refine px_iastore (n := 12) dX10_tellSun_72 (ly10_lt4 haN haK) (ly10_k4 haN haK) (ly10_s4 haN haK) hi ?_
        obtain ⟨gi8, hgi8⟩ : ∃ y : Gi, y = uI gi7 (a + 4) (upd (gi7 (a + 4)) x1.toNatClampNeg ((gi7 (a + 4) x1.toNatClampNeg) + (1 : Int32))) := ⟨_, rfl⟩
        have h := h gi8 hgi8
        refine px_namegi hgi8 ?_
        refine px_aload_n dX10_tellSun_73 rfl rfl ?_
        refine gf_X10_9 rfl dX10_tellSun_74 haN haK rfl (ly10_r0 haN haK) (ly10_lt1 haN haK) ?_
        refine px_iconst (v := (4 : Int32)) dX10_tellSun_77 (by decide) ?_
        refine px_dup2 dX10_tellSun_78 rfl rfl ?_
        refine px_iaload (n := 6) dX10_tellSun_79 (ly10_lt1 haN haK) (ly10_k1 haN haK) (ly10_s1 haN haK) (vp_lit (by decide)) ?_
        refine px_iconst (v := (1 : Int32)) dX10_tellSun_80 (by decide) ?_
        refine px_iadd dX10_tellSun_81 ?_
        refine px_iastore (n := 6) dX10_tellSun_82 (ly10_lt1 haN haK) (ly10_k1 haN haK) (ly10_s1 haN haK) (vp_lit (by decide)) ?_
        obtain ⟨gi9, hgi9⟩ : ∃ y : Gi, y = uI gi8 (a + 1) (upd (gi8 (a + 1)) (4 : Int32).toNatClampNeg ((gi8 (a + 1) (4 : Int32).toNatClampNeg) + (1 : Int32))) := ⟨_, rfl⟩
        have h := h gi9 hgi9
        refine px_namegi hgi9 ?_
        exact px_return dX10_tellSun_83 rfl rfl ⟨rfl, rfl, h⟩
      · rw [if_neg hc] at h ⊢
        exact px_return dX10_tellSun_18 rfl rfl ⟨rfl, rfl, h⟩
def f_X10_tellStatement (a : Nat) (gi : Gi) (gl : Gl) (Q : Gi → Gl → Prop) : Prop :=
∀ gi1 : Gi, gi1 = uI gi (a + 1) (upd (gi (a + 1)) (5 : Int32).toNatClampNeg ((gi (a + 1) (5 : Int32).toNatClampNeg) + (1 : Int32))) →
Q gi1 gl
set_option maxRecDepth 100000 in
theorem v_X10_tellStatement {a : Nat} {gi : Gi} {gl : Gl} {Q : Gi → Gl → Prop} (haN : a < NN) (haK : sK a = 10) (h : f_X10_tellStatement a gi gl Q) : p_X10_tellStatement a gi gl Q := by
  unfold f_X10_tellStatement at h
  show PAt mX10_tellStatement NN NN κF 0 [some (.ref a)] [] gi gl _
  refine px_aload_n dX10_tellStatement_0 rfl rfl ?_
  refine gf_X10_9 rfl dX10_tellStatement_1 haN haK rfl (ly10_r0 haN haK) (ly10_lt1 haN haK) ?_
  refine px_iconst (v := (5 : Int32)) dX10_tellStatement_4 (by decide) ?_
  refine px_dup2 dX10_tellStatement_5 rfl rfl ?_
  refine px_iaload (n := 6) dX10_tellStatement_6 (ly10_lt1 haN haK) (ly10_k1 haN haK) (ly10_s1 haN haK) (vp_lit (by decide)) ?_
  refine px_iconst (v := (1 : Int32)) dX10_tellStatement_7 (by decide) ?_
  refine px_iadd dX10_tellStatement_8 ?_
  refine px_iastore (n := 6) dX10_tellStatement_9 (ly10_lt1 haN haK) (ly10_k1 haN haK) (ly10_s1 haN haK) (vp_lit (by decide)) ?_
  obtain ⟨gi1, hgi1⟩ : ∃ y : Gi, y = uI gi (a + 1) (upd (gi (a + 1)) (5 : Int32).toNatClampNeg ((gi (a + 1) (5 : Int32).toNatClampNeg) + (1 : Int32))) := ⟨_, rfl⟩
  have h := h gi1 hgi1
  refine px_namegi hgi1 ?_
  exact px_return dX10_tellStatement_10 rfl rfl ⟨rfl, rfl, h⟩
abbrev p_X10_find_24 (a : Nat) (x1 : Int32) (y2 : Int64) (x4 : Int32) (x5 : Int32) (gi : Gi) (gl : Gl) (Q : Int32 → Gi → Gl → Prop) : Prop := PAt mX10_find NN NN κF 24 [some (.ref a), some (.int x1), some (.long y2), none, some (.int x4), some (.int x5)] [] gi gl (RiQ Q)
def f_X10_find (a : Nat) (x1 : Int32) (y2 : Int64) (gi : Gi) (gl : Gl) (Q : Int32 → Gi → Gl → Prop) : Prop :=
if x1 < 0 then
(p_X10_find_24 a x1 y2 (0 : Int32) (0 : Int32) gi gl Q)
else
(if x1 < (4 : Int32) then
(vp_in x1 6 ∧
∀ z1 : Int32, z1 = gi (a + 1) x1.toNatClampNeg →
p_X10_find_24 a x1 y2 z1 (0 : Int32) gi gl Q)
else
(p_X10_find_24 a x1 y2 (0 : Int32) (0 : Int32) gi gl Q))
def f_X10_find_24 (a : Nat) (x1 : Int32) (y2 : Int64) (x4 : Int32) (x5 : Int32) (gi : Gi) (gl : Gl) (Q : Int32 → Gi → Gl → Prop) : Prop :=
if x4 ≤ x5 then
(Q ((-1) : Int32) gi gl)
else
(if (12 : Int32) ≤ x5 then
(Q ((-1) : Int32) gi gl)
else
(vp_in ((x1 * (12 : Int32)) + x5) 48 ∧
if ¬ (gl (a + 2) ((x1 * (12 : Int32)) + x5).toNatClampNeg) = y2 then
(p_X10_find_24 a x1 y2 x4 (x5 + (1 : Int32)) gi gl Q)
else
(Q x5 gi gl)))
set_option maxRecDepth 100000 in
theorem v_X10_find {a : Nat} {x1 : Int32} {y2 : Int64} {gi : Gi} {gl : Gl} {Q : Int32 → Gi → Gl → Prop} (haN : a < NN) (haK : sK a = 10) (h : f_X10_find a x1 y2 gi gl Q) : p_X10_find a x1 y2 gi gl Q := by
  unfold f_X10_find at h
  show PAt mX10_find NN NN κF 0 [some (.ref a), some (.int x1), some (.long y2), none, none, none] [] gi gl _
  refine px_iload_n dX10_find_0 rfl rfl ?_
  refine px_if_lt (tgt := 9) dX10_find_1 (by decide) ?_
  by_cases hc : x1 < 0
  · rw [if_pos hc] at h ⊢
    refine px_iconst (v := (0 : Int32)) dX10_find_9 (by decide) ?_
    refine px_goto (tgt := 19) dX10_find_10 (by decide) ?_
    refine px_istore (ls2 := [some (.ref a), some (.int x1), some (.long y2), none, some (.int (0 : Int32)), none]) dX10_find_19 (by decide) rfl ?_
    refine px_iconst (v := (0 : Int32)) dX10_find_21 (by decide) ?_
    refine px_istore (ls2 := [some (.ref a), some (.int x1), some (.long y2), none, some (.int (0 : Int32)), some (.int (0 : Int32))]) dX10_find_22 (by decide) rfl ?_
    exact PAt.forget h (lsub_at ⟨rfl, ⟨rfl, ⟨rfl, ⟨rfl, ⟨rfl, trivial⟩⟩⟩⟩⟩)
  · rw [if_neg hc] at h ⊢
    refine px_iload_n dX10_find_4 rfl rfl ?_
    refine px_iconst (v := (4 : Int32)) dX10_find_5 (by decide) ?_
    refine px_icmp_lt (tgt := 13) dX10_find_6 (by decide) ?_
    by_cases hc : x1 < (4 : Int32)
    · rw [if_pos hc] at h ⊢
      refine px_aload_n dX10_find_13 rfl rfl ?_
      refine gf_X10_9 rfl dX10_find_14 haN haK rfl (ly10_r0 haN haK) (ly10_lt1 haN haK) ?_
      refine px_iload_n dX10_find_17 rfl rfl ?_
      obtain ⟨hi, h⟩ := h
      refine px_iaload (n := 6) dX10_find_18 (ly10_lt1 haN haK) (ly10_k1 haN haK) (ly10_s1 haN haK) hi ?_
      obtain ⟨z1, hz1⟩ : ∃ y : Int32, y = gi (a + 1) x1.toNatClampNeg := ⟨_, rfl⟩
      have h := h z1 hz1
      refine px_namei hz1 ?_
      refine px_istore (ls2 := [some (.ref a), some (.int x1), some (.long y2), none, some (.int z1), none]) dX10_find_19 (by decide) rfl ?_
      refine px_iconst (v := (0 : Int32)) dX10_find_21 (by decide) ?_
      refine px_istore (ls2 := [some (.ref a), some (.int x1), some (.long y2), none, some (.int z1), some (.int (0 : Int32))]) dX10_find_22 (by decide) rfl ?_
      exact PAt.forget h (lsub_at ⟨rfl, ⟨rfl, ⟨rfl, ⟨rfl, ⟨rfl, trivial⟩⟩⟩⟩⟩)
    · rw [if_neg hc] at h ⊢
      refine px_iconst (v := (0 : Int32)) dX10_find_9 (by decide) ?_
      refine px_goto (tgt := 19) dX10_find_10 (by decide) ?_
      refine px_istore (ls2 := [some (.ref a), some (.int x1), some (.long y2), none, some (.int (0 : Int32)), none]) dX10_find_19 (by decide) rfl ?_
      refine px_iconst (v := (0 : Int32)) dX10_find_21 (by decide) ?_
      refine px_istore (ls2 := [some (.ref a), some (.int x1), some (.long y2), none, some (.int (0 : Int32)), some (.int (0 : Int32))]) dX10_find_22 (by decide) rfl ?_
      exact PAt.forget h (lsub_at ⟨rfl, ⟨rfl, ⟨rfl, ⟨rfl, ⟨rfl, trivial⟩⟩⟩⟩⟩)
set_option maxRecDepth 100000 in
theorem v_X10_find_24 {a : Nat} {x1 : Int32} {y2 : Int64} {x4 : Int32} {x5 : Int32} {gi : Gi} {gl : Gl} {Q : Int32 → Gi → Gl → Prop} (haN : a < NN) (haK : sK a = 10) (h : f_X10_find_24 a x1 y2 x4 x5 gi gl Q) : p_X10_find_24 a x1 y2 x4 x5 gi gl Q := by
  unfold f_X10_find_24 at h
  show PAt mX10_find NN NN κF 24 [some (.ref a), some (.int x1), some (.long y2), none, some (.int x4), some (.int x5)] [] gi gl _
  refine px_iload dX10_find_24 rfl ?_
  refine px_iload dX10_find_26 rfl ?_
  refine px_icmp_ge (tgt := 64) dX10_find_28 (by decide) ?_
  by_cases hc : x4 ≤ x5
  · rw [if_pos hc] at h ⊢
    refine px_iconst (v := ((-1) : Int32)) dX10_find_64 (by decide) ?_
    exact px_ireturn dX10_find_65 rfl ⟨.int, rfl, rfl, rfl⟩ ⟨rfl, _, rfl, h⟩
  · rw [if_neg hc] at h ⊢
    refine px_iload dX10_find_31 rfl ?_
    refine px_bipush (v := (12 : Int32)) dX10_find_33 (by decide) ?_
    refine px_icmp_ge (tgt := 64) dX10_find_35 (by decide) ?_
    by_cases hc : (12 : Int32) ≤ x5
    · rw [if_pos hc] at h ⊢
      refine px_iconst (v := ((-1) : Int32)) dX10_find_64 (by decide) ?_
      exact px_ireturn dX10_find_65 rfl ⟨.int, rfl, rfl, rfl⟩ ⟨rfl, _, rfl, h⟩
    · rw [if_neg hc] at h ⊢
      refine px_aload_n dX10_find_38 rfl rfl ?_
      refine gf_X10_15 rfl dX10_find_39 haN haK rfl (ly10_r1 haN haK) (ly10_lt2 haN haK) ?_
      refine px_iload_n dX10_find_42 rfl rfl ?_
      refine px_bipush (v := (12 : Int32)) dX10_find_43 (by decide) ?_
      refine px_imul dX10_find_45 ?_
      refine px_iload dX10_find_46 rfl ?_
      refine px_iadd dX10_find_48 ?_
      obtain ⟨hi, h⟩ := h
      refine px_laload (n := 48) dX10_find_49 (ly10_lt2 haN haK) (ly10_k2 haN haK) (ly10_s2 haN haK) hi ?_
      refine px_lload_n dX10_find_50 rfl rfl ?_
      refine px_lc_ne (tgt := 58) dX10_find_51 dX10_find_52 (by decide) ?_
      by_cases hc : ¬ (gl (a + 2) ((x1 * (12 : Int32)) + x5).toNatClampNeg) = y2
      · rw [if_pos hc] at h ⊢
        refine px_iinc (v := x5 + (1 : Int32)) (ls2 := [some (.ref a), some (.int x1), some (.long y2), none, some (.int x4), some (.int (x5 + (1 : Int32)))]) dX10_find_58 rfl rfl (by decide) rfl ?_
        refine px_goto (tgt := 24) dX10_find_61 (by decide) ?_
        exact PAt.forget h (lsub_at ⟨rfl, ⟨rfl, ⟨rfl, ⟨rfl, ⟨rfl, trivial⟩⟩⟩⟩⟩)
      · rw [if_neg hc] at h ⊢
        refine px_iload dX10_find_55 rfl ?_
        exact px_ireturn dX10_find_57 rfl ⟨.int, rfl, rfl, rfl⟩ ⟨rfl, _, rfl, h⟩
abbrev p_X10_knows_2 (a : Nat) (y1 : Int64) (x3 : Int32) (gi : Gi) (gl : Gl) (Q : Int32 → Gi → Gl → Prop) : Prop := PAt mX10_knows NN NN κF 2 [some (.ref a), some (.long y1), none, some (.int x3)] [] gi gl (RiQ Q)
def f_X10_knows (a : Nat) (y1 : Int64) (gi : Gi) (gl : Gl) (Q : Int32 → Gi → Gl → Prop) : Prop :=
p_X10_knows_2 a y1 (0 : Int32) gi gl Q
def f_X10_knows_2 (a : Nat) (y1 : Int64) (x3 : Int32) (gi : Gi) (gl : Gl) (Q : Int32 → Gi → Gl → Prop) : Prop :=
if (4 : Int32) ≤ x3 then
(Q (0 : Int32) gi gl)
else
(p_X10_find a x3 y1 gi gl (fun (r3 : Int32) (gi1 : Gi) (gl2 : Gl) =>
if r3 = ((-1) : Int32) then
(p_X10_knows_2 a y1 (x3 + (1 : Int32)) gi1 gl2 Q)
else
(Q (1 : Int32) gi1 gl2)))
set_option maxRecDepth 100000 in
theorem v_X10_knows {a : Nat} {y1 : Int64} {gi : Gi} {gl : Gl} {Q : Int32 → Gi → Gl → Prop} (haN : a < NN) (haK : sK a = 10) (h : f_X10_knows a y1 gi gl Q) : p_X10_knows a y1 gi gl Q := by
  unfold f_X10_knows at h
  show PAt mX10_knows NN NN κF 0 [some (.ref a), some (.long y1), none, none] [] gi gl _
  refine px_iconst (v := (0 : Int32)) dX10_knows_0 (by decide) ?_
  refine px_istore_n (ls2 := [some (.ref a), some (.long y1), none, some (.int (0 : Int32))]) (i := 3) rfl dX10_knows_1 (by decide) rfl ?_
  exact PAt.forget h (lsub_at ⟨rfl, ⟨rfl, ⟨rfl, trivial⟩⟩⟩)
set_option maxRecDepth 100000 in
theorem v_X10_knows_2 {a : Nat} {y1 : Int64} {x3 : Int32} {gi : Gi} {gl : Gl} {Q : Int32 → Gi → Gl → Prop} (haN : a < NN) (haK : sK a = 10) (h : f_X10_knows_2 a y1 x3 gi gl Q) : p_X10_knows_2 a y1 x3 gi gl Q := by
  unfold f_X10_knows_2 at h
  show PAt mX10_knows NN NN κF 2 [some (.ref a), some (.long y1), none, some (.int x3)] [] gi gl _
  refine px_iload_n dX10_knows_2 rfl rfl ?_
  refine px_iconst (v := (4 : Int32)) dX10_knows_3 (by decide) ?_
  refine px_icmp_ge (tgt := 25) dX10_knows_4 (by decide) ?_
  by_cases hc : (4 : Int32) ≤ x3
  · rw [if_pos hc] at h ⊢
    refine px_iconst (v := (0 : Int32)) dX10_knows_25 (by decide) ?_
    exact px_ireturn dX10_knows_26 rfl ⟨.boolean, rfl, rfl, by decide⟩ ⟨rfl, _, rfl, h⟩
  · rw [if_neg hc] at h ⊢
    refine px_aload_n dX10_knows_7 rfl rfl ?_
    refine px_iload_n dX10_knows_8 rfl rfl ?_
    refine px_lload_n dX10_knows_9 rfl rfl ?_
    refine px_callV_I (As := [.int x3, .long y1]) (st := []) dX10_knows_10 lk_X10_51.1 lk_X10_51.2 (b := a) haN haK (by decide) rfl (by decide) rfl (Nat.le_of_ble_eq_true rfl) rfl rfl (Nat.le_of_ble_eq_true rfl) ⟨Nat.le_refl _, Nat.le_refl _, Nat.le_refl _⟩ ?_
    refine PAt.mono h (fun v κ gi1 gl2 hq => ?_)
    obtain ⟨rfl, r3, rfl, h⟩ := hq
    refine px_iconst (v := ((-1) : Int32)) dX10_knows_13 (by decide) ?_
    refine px_icmp_eq (tgt := 19) dX10_knows_14 (by decide) ?_
    by_cases hc : r3 = ((-1) : Int32)
    · rw [if_pos hc] at h ⊢
      refine px_iinc (v := x3 + (1 : Int32)) (ls2 := [some (.ref a), some (.long y1), none, some (.int (x3 + (1 : Int32)))]) dX10_knows_19 rfl rfl (by decide) rfl ?_
      refine px_goto (tgt := 2) dX10_knows_22 (by decide) ?_
      exact PAt.forget h (lsub_at ⟨rfl, ⟨rfl, ⟨rfl, trivial⟩⟩⟩)
    · rw [if_neg hc] at h ⊢
      refine px_iconst (v := (1 : Int32)) dX10_knows_17 (by decide) ?_
      exact px_ireturn dX10_knows_18 rfl ⟨.boolean, rfl, rfl, by decide⟩ ⟨rfl, _, rfl, h⟩
def f_X10_sunRowsIn (a : Nat) (x1 : Int32) (gi : Gi) (gl : Gl) (Q : Int32 → Gi → Gl → Prop) : Prop :=
if x1 < 0 then
(Q (0 : Int32) gi gl)
else
(if x1 < (12 : Int32) then
(vp_in x1 12 ∧
Q (gi (a + 4) x1.toNatClampNeg) gi gl)
else
(Q (0 : Int32) gi gl))
set_option maxRecDepth 100000 in
theorem v_X10_sunRowsIn {a : Nat} {x1 : Int32} {gi : Gi} {gl : Gl} {Q : Int32 → Gi → Gl → Prop} (haN : a < NN) (haK : sK a = 10) (h : f_X10_sunRowsIn a x1 gi gl Q) : p_X10_sunRowsIn a x1 gi gl Q := by
  unfold f_X10_sunRowsIn at h
  show PAt mX10_sunRowsIn NN NN κF 0 [some (.ref a), some (.int x1)] [] gi gl _
  refine px_iload_n dX10_sunRowsIn_0 rfl rfl ?_
  refine px_if_lt (tgt := 10) dX10_sunRowsIn_1 (by decide) ?_
  by_cases hc : x1 < 0
  · rw [if_pos hc] at h ⊢
    refine px_iconst (v := (0 : Int32)) dX10_sunRowsIn_10 (by decide) ?_
    refine px_goto (tgt := 20) dX10_sunRowsIn_11 (by decide) ?_
    exact px_ireturn dX10_sunRowsIn_20 rfl ⟨.int, rfl, rfl, rfl⟩ ⟨rfl, _, rfl, h⟩
  · rw [if_neg hc] at h ⊢
    refine px_iload_n dX10_sunRowsIn_4 rfl rfl ?_
    refine px_bipush (v := (12 : Int32)) dX10_sunRowsIn_5 (by decide) ?_
    refine px_icmp_lt (tgt := 14) dX10_sunRowsIn_7 (by decide) ?_
    by_cases hc : x1 < (12 : Int32)
    · rw [if_pos hc] at h ⊢
      refine px_aload_n dX10_sunRowsIn_14 rfl rfl ?_
      refine gf_X10_22 rfl dX10_sunRowsIn_15 haN haK rfl (ly10_r3 haN haK) (ly10_lt4 haN haK) ?_
      refine px_iload_n dX10_sunRowsIn_18 rfl rfl ?_
      obtain ⟨hi, h⟩ := h
      refine px_iaload (n := 12) dX10_sunRowsIn_19 (ly10_lt4 haN haK) (ly10_k4 haN haK) (ly10_s4 haN haK) hi ?_
      exact px_ireturn dX10_sunRowsIn_20 rfl ⟨.int, rfl, rfl, rfl⟩ ⟨rfl, _, rfl, h⟩
    · rw [if_neg hc] at h ⊢
      refine px_iconst (v := (0 : Int32)) dX10_sunRowsIn_10 (by decide) ?_
      refine px_goto (tgt := 20) dX10_sunRowsIn_11 (by decide) ?_
      exact px_ireturn dX10_sunRowsIn_20 rfl ⟨.int, rfl, rfl, rfl⟩ ⟨rfl, _, rfl, h⟩
def f_X10_sunNumber (a : Nat) (x1 : Int32) (x2 : Int32) (x3 : Int32) (gi : Gi) (gl : Gl) (Q : Int32 → Gi → Gl → Prop) : Prop :=
if x1 < 0 then
(Q ((-1) : Int32) gi gl)
else
(if (12 : Int32) ≤ x1 then
(Q ((-1) : Int32) gi gl)
else
(if x2 < 0 then
(Q ((-1) : Int32) gi gl)
else
(vp_in x1 12 ∧
if (gi (a + 4) x1.toNatClampNeg) ≤ x2 then
(Q ((-1) : Int32) gi gl)
else
(if x3 < 0 then
(Q ((-1) : Int32) gi gl)
else
(if x3 < (3 : Int32) then
(vp_in ((((x1 * (40 : Int32)) + x2) * (3 : Int32)) + x3) 1440 ∧
Q (gi (a + 5) ((((x1 * (40 : Int32)) + x2) * (3 : Int32)) + x3).toNatClampNeg) gi gl)
else
(Q ((-1) : Int32) gi gl))))))
set_option maxRecDepth 100000 in
theorem v_X10_sunNumber {a : Nat} {x1 : Int32} {x2 : Int32} {x3 : Int32} {gi : Gi} {gl : Gl} {Q : Int32 → Gi → Gl → Prop} (haN : a < NN) (haK : sK a = 10) (h : f_X10_sunNumber a x1 x2 x3 gi gl Q) : p_X10_sunNumber a x1 x2 x3 gi gl Q := by
  unfold f_X10_sunNumber at h
  show PAt mX10_sunNumber NN NN κF 0 [some (.ref a), some (.int x1), some (.int x2), some (.int x3)] [] gi gl _
  refine px_iload_n dX10_sunNumber_0 rfl rfl ?_
  refine px_if_lt (tgt := 33) dX10_sunNumber_1 (by decide) ?_
  by_cases hc : x1 < 0
  · rw [if_pos hc] at h ⊢
    refine px_iconst (v := ((-1) : Int32)) dX10_sunNumber_33 (by decide) ?_
    exact px_ireturn dX10_sunNumber_34 rfl ⟨.int, rfl, rfl, rfl⟩ ⟨rfl, _, rfl, h⟩
  · rw [if_neg hc] at h ⊢
    refine px_iload_n dX10_sunNumber_4 rfl rfl ?_
    refine px_bipush (v := (12 : Int32)) dX10_sunNumber_5 (by decide) ?_
    refine px_icmp_ge (tgt := 33) dX10_sunNumber_7 (by decide) ?_
    by_cases hc : (12 : Int32) ≤ x1
    · rw [if_pos hc] at h ⊢
      refine px_iconst (v := ((-1) : Int32)) dX10_sunNumber_33 (by decide) ?_
      exact px_ireturn dX10_sunNumber_34 rfl ⟨.int, rfl, rfl, rfl⟩ ⟨rfl, _, rfl, h⟩
    · rw [if_neg hc] at h ⊢
      refine px_iload_n dX10_sunNumber_10 rfl rfl ?_
      refine px_if_lt (tgt := 33) dX10_sunNumber_11 (by decide) ?_
      by_cases hc : x2 < 0
      · rw [if_pos hc] at h ⊢
        refine px_iconst (v := ((-1) : Int32)) dX10_sunNumber_33 (by decide) ?_
        exact px_ireturn dX10_sunNumber_34 rfl ⟨.int, rfl, rfl, rfl⟩ ⟨rfl, _, rfl, h⟩
      · rw [if_neg hc] at h ⊢
        refine px_iload_n dX10_sunNumber_14 rfl rfl ?_
        refine px_aload_n dX10_sunNumber_15 rfl rfl ?_
        refine gf_X10_22 rfl dX10_sunNumber_16 haN haK rfl (ly10_r3 haN haK) (ly10_lt4 haN haK) ?_
        refine px_iload_n dX10_sunNumber_19 rfl rfl ?_
        obtain ⟨hi, h⟩ := h
        refine px_iaload (n := 12) dX10_sunNumber_20 (ly10_lt4 haN haK) (ly10_k4 haN haK) (ly10_s4 haN haK) hi ?_
        refine px_icmp_ge (tgt := 33) dX10_sunNumber_21 (by decide) ?_
        by_cases hc : (gi (a + 4) x1.toNatClampNeg) ≤ x2
        · rw [if_pos hc] at h ⊢
          refine px_iconst (v := ((-1) : Int32)) dX10_sunNumber_33 (by decide) ?_
          exact px_ireturn dX10_sunNumber_34 rfl ⟨.int, rfl, rfl, rfl⟩ ⟨rfl, _, rfl, h⟩
        · rw [if_neg hc] at h ⊢
          refine px_iload_n dX10_sunNumber_24 rfl rfl ?_
          refine px_if_lt (tgt := 33) dX10_sunNumber_25 (by decide) ?_
          by_cases hc : x3 < 0
          · rw [if_pos hc] at h ⊢
            refine px_iconst (v := ((-1) : Int32)) dX10_sunNumber_33 (by decide) ?_
            exact px_ireturn dX10_sunNumber_34 rfl ⟨.int, rfl, rfl, rfl⟩ ⟨rfl, _, rfl, h⟩
          · rw [if_neg hc] at h ⊢
            refine px_iload_n dX10_sunNumber_28 rfl rfl ?_
            refine px_iconst (v := (3 : Int32)) dX10_sunNumber_29 (by decide) ?_
            refine px_icmp_lt (tgt := 35) dX10_sunNumber_30 (by decide) ?_
            by_cases hc : x3 < (3 : Int32)
            · rw [if_pos hc] at h ⊢
              refine px_aload_n dX10_sunNumber_35 rfl rfl ?_
              refine gf_X10_25 rfl dX10_sunNumber_36 haN haK rfl (ly10_r4 haN haK) (ly10_lt5 haN haK) ?_
              refine px_iload_n dX10_sunNumber_39 rfl rfl ?_
              refine px_bipush (v := (40 : Int32)) dX10_sunNumber_40 (by decide) ?_
              refine px_imul dX10_sunNumber_42 ?_
              refine px_iload_n dX10_sunNumber_43 rfl rfl ?_
              refine px_iadd dX10_sunNumber_44 ?_
              refine px_iconst (v := (3 : Int32)) dX10_sunNumber_45 (by decide) ?_
              refine px_imul dX10_sunNumber_46 ?_
              refine px_iload_n dX10_sunNumber_47 rfl rfl ?_
              refine px_iadd dX10_sunNumber_48 ?_
              obtain ⟨hi, h⟩ := h
              refine px_iaload (n := 1440) dX10_sunNumber_49 (ly10_lt5 haN haK) (ly10_k5 haN haK) (ly10_s5 haN haK) hi ?_
              exact px_ireturn dX10_sunNumber_50 rfl ⟨.int, rfl, rfl, rfl⟩ ⟨rfl, _, rfl, h⟩
            · rw [if_neg hc] at h ⊢
              refine px_iconst (v := ((-1) : Int32)) dX10_sunNumber_33 (by decide) ?_
              exact px_ireturn dX10_sunNumber_34 rfl ⟨.int, rfl, rfl, rfl⟩ ⟨rfl, _, rfl, h⟩
