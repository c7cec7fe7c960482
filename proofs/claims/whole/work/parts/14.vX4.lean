/-! laid by program: X4 -/
def f_X4_copyFrom (a : Nat) (p : Nat) (gi : Gi) (gl : Gl) (Q : Gi → Gl → Prop) : Prop :=
∀ gi1 : Gi, gi1 = uI gi (a + 1) (va_cpy (gi (p + 1)) (gi (a + 1)) (0 : Int32).toNatClampNeg (0 : Int32).toNatClampNeg (120 : Int32).toNatClampNeg) →
∀ gi2 : Gi, gi2 = uI gi1 (a + 2) (va_cpy (gi1 (p + 2)) (gi1 (a + 2)) (0 : Int32).toNatClampNeg (0 : Int32).toNatClampNeg (288 : Int32).toNatClampNeg) →
∀ gi3 : Gi, gi3 = uI gi2 (a + 3) (va_cpy (gi2 (p + 3)) (gi2 (a + 3)) (0 : Int32).toNatClampNeg (0 : Int32).toNatClampNeg (12 : Int32).toNatClampNeg) →
∀ gi4 : Gi, gi4 = uI gi3 (a + 4) (va_cpy (gi3 (p + 4)) (gi3 (a + 4)) (0 : Int32).toNatClampNeg (0 : Int32).toNatClampNeg (12 : Int32).toNatClampNeg) →
Q gi4 gl
set_option maxRecDepth 100000 in
theorem v_X4_copyFrom {a : Nat} {p : Nat} {gi : Gi} {gl : Gl} {Q : Gi → Gl → Prop} (haN : a < NN) (haK : sK a = 4) (hpN : p < NN) (hpK : sK p = 4) (h : f_X4_copyFrom a p gi gl Q) : p_X4_copyFrom a p gi gl Q := by
  unfold f_X4_copyFrom at h
  show PAt mX4_copyFrom NN NN κF 0 [some (.ref a), some (.ref p)] [] gi gl _
  refine px_aload_n dX4_copyFrom_0 rfl rfl ?_
  refine gf_X4_9 rfl dX4_copyFrom_1 hpN hpK rfl (ly4_r0 hpN hpK) (ly4_lt1 hpN hpK) ?_
  refine px_iconst (v := (0 : Int32)) dX4_copyFrom_4 (by decide) ?_
  refine px_aload_n dX4_copyFrom_5 rfl rfl ?_
  refine gf_X4_9 rfl dX4_copyFrom_6 haN haK rfl (ly4_r0 haN haK) (ly4_lt1 haN haK) ?_
  refine px_iconst (v := (0 : Int32)) dX4_copyFrom_9 (by decide) ?_
  refine px_aload_n dX4_copyFrom_10 rfl rfl ?_
  refine gf_X4_9 rfl dX4_copyFrom_11 haN haK rfl (ly4_r0 haN haK) (ly4_lt1 haN haK) ?_
  refine px_alen (n := 120) (t0 := 0) (v := (120 : Int32)) dX4_copyFrom_14 (ly4_lt1 haN haK) (ly4_k1 haN haK) (ly4_s1 haN haK) (by decide) (fun _ => rfl) (by decide) ?_
  refine px_copyi (na := 120) (nb := 120) dX4_copyFrom_15 (ly4_lt1 hpN hpK) (ly4_lt1 haN haK) rfl (ly4_k1 hpN hpK) (ly4_k1 haN haK) (ly4_s1 hpN hpK) (ly4_s1 haN haK) w_838 w_645 w_644 w_117 (by decide) (by decide) (by decide) (by decide +kernel) (by decide +kernel) (by decide) (by decide) ?_
  obtain ⟨gi1, hgi1⟩ : ∃ y : Gi, y = uI gi (a + 1) (va_cpy (gi (p + 1)) (gi (a + 1)) (0 : Int32).toNatClampNeg (0 : Int32).toNatClampNeg (120 : Int32).toNatClampNeg) := ⟨_, rfl⟩
  have h := h gi1 hgi1
  refine px_namegi hgi1 ?_
  refine px_aload_n dX4_copyFrom_18 rfl rfl ?_
  refine gf_X4_15 rfl dX4_copyFrom_19 hpN hpK rfl (ly4_r1 hpN hpK) (ly4_lt2 hpN hpK) ?_
  refine px_iconst (v := (0 : Int32)) dX4_copyFrom_22 (by decide) ?_
  refine px_aload_n dX4_copyFrom_23 rfl rfl ?_
  refine gf_X4_15 rfl dX4_copyFrom_24 haN haK rfl (ly4_r1 haN haK) (ly4_lt2 haN haK) ?_
  refine px_iconst (v := (0 : Int32)) dX4_copyFrom_27 (by decide) ?_
  refine px_aload_n dX4_copyFrom_28 rfl rfl ?_
  refine gf_X4_15 rfl dX4_copyFrom_29 haN haK rfl (ly4_r1 haN haK) (ly4_lt2 haN haK) ?_
  refine px_alen (n := 288) (t0 := 0) (v := (288 : Int32)) dX4_copyFrom_32 (ly4_lt2 haN haK) (ly4_k2 haN haK) (ly4_s2 haN haK) (by decide) (fun _ => rfl) (by decide) ?_
  refine px_copyi (na := 288) (nb := 288) dX4_copyFrom_33 (ly4_lt2 hpN hpK) (ly4_lt2 haN haK) rfl (ly4_k2 hpN hpK) (ly4_k2 haN haK) (ly4_s2 hpN hpK) (ly4_s2 haN haK) w_838 w_645 w_644 w_117 (by decide) (by decide) (by decide) (by decide +kernel) (by decide +kernel) (by decide) (by decide) ?_
  obtain ⟨gi2, hgi2⟩ : ∃ y : Gi, y = uI gi1 (a + 2) (va_cpy (gi1 (p + 2)) (gi1 (a + 2)) (0 : Int32).toNatClampNeg (0 : Int32).toNatClampNeg (288 : Int32).toNatClampNeg) := ⟨_, rfl⟩
  have h := h gi2 hgi2
  refine px_namegi hgi2 ?_
  refine px_aload_n dX4_copyFrom_36 rfl rfl ?_
  refine gf_X4_18 rfl dX4_copyFrom_37 hpN hpK rfl (ly4_r2 hpN hpK) (ly4_lt3 hpN hpK) ?_
  refine px_iconst (v := (0 : Int32)) dX4_copyFrom_40 (by decide) ?_
  refine px_aload_n dX4_copyFrom_41 rfl rfl ?_
  refine gf_X4_18 rfl dX4_copyFrom_42 haN haK rfl (ly4_r2 haN haK) (ly4_lt3 haN haK) ?_
  refine px_iconst (v := (0 : Int32)) dX4_copyFrom_45 (by decide) ?_
  refine px_aload_n dX4_copyFrom_46 rfl rfl ?_
  refine gf_X4_18 rfl dX4_copyFrom_47 haN haK rfl (ly4_r2 haN haK) (ly4_lt3 haN haK) ?_
  refine px_alen (n := 12) (t0 := 0) (v := (12 : Int32)) dX4_copyFrom_50 (ly4_lt3 haN haK) (ly4_k3 haN haK) (ly4_s3 haN haK) (by decide) (fun _ => rfl) (by decide) ?_
  refine px_copyi (na := 12) (nb := 12) dX4_copyFrom_51 (ly4_lt3 hpN hpK) (ly4_lt3 haN haK) rfl (ly4_k3 hpN hpK) (ly4_k3 haN haK) (ly4_s3 hpN hpK) (ly4_s3 haN haK) w_838 w_645 w_644 w_117 (by decide) (by decide) (by decide) (by decide +kernel) (by decide +kernel) (by decide) (by decide) ?_
  obtain ⟨gi3, hgi3⟩ : ∃ y : Gi, y = uI gi2 (a + 3) (va_cpy (gi2 (p + 3)) (gi2 (a + 3)) (0 : Int32).toNatClampNeg (0 : Int32).toNatClampNeg (12 : Int32).toNatClampNeg) := ⟨_, rfl⟩
  have h := h gi3 hgi3
  refine px_namegi hgi3 ?_
  refine px_aload_n dX4_copyFrom_54 rfl rfl ?_
  refine gf_X4_21 rfl dX4_copyFrom_55 hpN hpK rfl (ly4_r3 hpN hpK) (ly4_lt4 hpN hpK) ?_
  refine px_iconst (v := (0 : Int32)) dX4_copyFrom_58 (by decide) ?_
  refine px_aload_n dX4_copyFrom_59 rfl rfl ?_
  refine gf_X4_21 rfl dX4_copyFrom_60 haN haK rfl (ly4_r3 haN haK) (ly4_lt4 haN haK) ?_
  refine px_iconst (v := (0 : Int32)) dX4_copyFrom_63 (by decide) ?_
  refine px_aload_n dX4_copyFrom_64 rfl rfl ?_
  refine gf_X4_21 rfl dX4_copyFrom_65 haN haK rfl (ly4_r3 haN haK) (ly4_lt4 haN haK) ?_
  refine px_alen (n := 12) (t0 := 0) (v := (12 : Int32)) dX4_copyFrom_68 (ly4_lt4 haN haK) (ly4_k4 haN haK) (ly4_s4 haN haK) (by decide) (fun _ => rfl) (by decide) ?_
  refine px_copyi (na := 12) (nb := 12) dX4_copyFrom_69 (ly4_lt4 hpN hpK) (ly4_lt4 haN haK) rfl (ly4_k4 hpN hpK) (ly4_k4 haN haK) (ly4_s4 hpN hpK) (ly4_s4 haN haK) w_838 w_645 w_644 w_117 (by decide) (by decide) (by decide) (by decide +kernel) (by decide +kernel) (by decide) (by decide) ?_
  obtain ⟨gi4, hgi4⟩ : ∃ y : Gi, y = uI gi3 (a + 4) (va_cpy (gi3 (p + 4)) (gi3 (a + 4)) (0 : Int32).toNatClampNeg (0 : Int32).toNatClampNeg (12 : Int32).toNatClampNeg) := ⟨_, rfl⟩
  have h := h gi4 hgi4
  refine px_namegi hgi4 ?_
  exact px_return dX4_copyFrom_72 rfl rfl ⟨rfl, rfl, h⟩
def f_X4_setDayRow (a : Nat) (x1 : Int32) (x2 : Int32) (gi : Gi) (gl : Gl) (Q : Gi → Gl → Prop) : Prop :=
if x1 < 0 then
(Q gi gl)
else
(if (120 : Int32) ≤ x1 then
(Q gi gl)
else
(vp_in x1 120 ∧
∀ gi1 : Gi, gi1 = uI gi (a + 1) (upd (gi (a + 1)) x1.toNatClampNeg x2) →
Q gi1 gl))
set_option maxRecDepth 100000 in
theorem v_X4_setDayRow {a : Nat} {x1 : Int32} {x2 : Int32} {gi : Gi} {gl : Gl} {Q : Gi → Gl → Prop} (haN : a < NN) (haK : sK a = 4) (h : f_X4_setDayRow a x1 x2 gi gl Q) : p_X4_setDayRow a x1 x2 gi gl Q := by
  unfold f_X4_setDayRow at h
  show PAt mX4_setDayRow NN NN κF 0 [some (.ref a), some (.int x1), some (.int x2)] [] gi gl _
  refine px_iload_n dX4_setDayRow_0 rfl rfl ?_
  refine px_if_lt (tgt := 17) dX4_setDayRow_1 (by decide) ?_
  by_cases hc : x1 < 0
  · rw [if_pos hc] at h ⊢
    exact px_return dX4_setDayRow_17 rfl rfl ⟨rfl, rfl, h⟩
  · rw [if_neg hc] at h ⊢
    refine px_iload_n dX4_setDayRow_4 rfl rfl ?_
    refine px_bipush (v := (120 : Int32)) dX4_setDayRow_5 (by decide) ?_
    refine px_icmp_ge (tgt := 17) dX4_setDayRow_7 (by decide) ?_
    by_cases hc : (120 : Int32) ≤ x1
    · rw [if_pos hc] at h ⊢
      exact px_return dX4_setDayRow_17 rfl rfl ⟨rfl, rfl, h⟩
    · rw [if_neg hc] at h ⊢
      refine px_aload_n dX4_setDayRow_10 rfl rfl ?_
      refine gf_X4_9 rfl dX4_setDayRow_11 haN haK rfl (ly4_r0 haN haK) (ly4_lt1 haN haK) ?_
      refine px_iload_n dX4_setDayRow_14 rfl rfl ?_
      refine px_iload_n dX4_setDayRow_15 rfl rfl ?_
      obtain ⟨hi, h⟩ := h
      refine px_iastore (n := 120) dX4_setDayRow_16 (ly4_lt1 haN haK) (ly4_k1 haN haK) (ly4_s1 haN haK) hi ?_
      obtain ⟨gi1, hgi1⟩ : ∃ y : Gi, y = uI gi (a + 1) (upd (gi (a + 1)) x1.toNatClampNeg x2) := ⟨_, rfl⟩
      have h := h gi1 hgi1
      refine px_namegi hgi1 ?_
      exact px_return dX4_setDayRow_17 rfl rfl ⟨rfl, rfl, h⟩
def f_X4_setMinuteRow (a : Nat) (x1 : Int32) (x2 : Int32) (x3 : Int32) (gi : Gi) (gl : Gl) (Q : Gi → Gl → Prop) : Prop :=
if x1 < 0 then
(Q gi gl)
else
(if (12 : Int32) ≤ x1 then
(Q gi gl)
else
(if x2 < 0 then
(Q gi gl)
else
(if (24 : Int32) ≤ x2 then
(Q gi gl)
else
(vp_in ((x1 * (24 : Int32)) + x2) 288 ∧
∀ gi1 : Gi, gi1 = uI gi (a + 2) (upd (gi (a + 2)) ((x1 * (24 : Int32)) + x2).toNatClampNeg x3) →
Q gi1 gl))))
set_option maxRecDepth 100000 in
theorem v_X4_setMinuteRow {a : Nat} {x1 : Int32} {x2 : Int32} {x3 : Int32} {gi : Gi} {gl : Gl} {Q : Gi → Gl → Prop} (haN : a < NN) (haK : sK a = 4) (h : f_X4_setMinuteRow a x1 x2 x3 gi gl Q) : p_X4_setMinuteRow a x1 x2 x3 gi gl Q := by
  unfold f_X4_setMinuteRow at h
  show PAt mX4_setMinuteRow NN NN κF 0 [some (.ref a), some (.int x1), some (.int x2), some (.int x3)] [] gi gl _
  refine px_iload_n dX4_setMinuteRow_0 rfl rfl ?_
  refine px_if_lt (tgt := 32) dX4_setMinuteRow_1 (by decide) ?_
  by_cases hc : x1 < 0
  · rw [if_pos hc] at h ⊢
    exact px_return dX4_setMinuteRow_32 rfl rfl ⟨rfl, rfl, h⟩
  · rw [if_neg hc] at h ⊢
    refine px_iload_n dX4_setMinuteRow_4 rfl rfl ?_
    refine px_bipush (v := (12 : Int32)) dX4_setMinuteRow_5 (by decide) ?_
    refine px_icmp_ge (tgt := 32) dX4_setMinuteRow_7 (by decide) ?_
    by_cases hc : (12 : Int32) ≤ x1
    · rw [if_pos hc] at h ⊢
      exact px_return dX4_setMinuteRow_32 rfl rfl ⟨rfl, rfl, h⟩
    · rw [if_neg hc] at h ⊢
      refine px_iload_n dX4_setMinuteRow_10 rfl rfl ?_
      refine px_if_lt (tgt := 32) dX4_setMinuteRow_11 (by decide) ?_
      by_cases hc : x2 < 0
      · rw [if_pos hc] at h ⊢
        exact px_return dX4_setMinuteRow_32 rfl rfl ⟨rfl, rfl, h⟩
      · rw [if_neg hc] at h ⊢
        refine px_iload_n dX4_setMinuteRow_14 rfl rfl ?_
        refine px_bipush (v := (24 : Int32)) dX4_setMinuteRow_15 (by decide) ?_
        refine px_icmp_ge (tgt := 32) dX4_setMinuteRow_17 (by decide) ?_
        by_cases hc : (24 : Int32) ≤ x2
        · rw [if_pos hc] at h ⊢
          exact px_return dX4_setMinuteRow_32 rfl rfl ⟨rfl, rfl, h⟩
        · rw [if_neg hc] at h ⊢
          refine px_aload_n dX4_setMinuteRow_20 rfl rfl ?_
          refine gf_X4_15 rfl dX4_setMinuteRow_21 haN haK rfl (ly4_r1 haN haK) (ly4_lt2 haN haK) ?_
          refine px_iload_n dX4_setMinuteRow_24 rfl rfl ?_
          refine px_bipush (v := (24 : Int32)) dX4_setMinuteRow_25 (by decide) ?_
          refine px_imul dX4_setMinuteRow_27 ?_
          refine px_iload_n dX4_setMinuteRow_28 rfl rfl ?_
          refine px_iadd dX4_setMinuteRow_29 ?_
          refine px_iload_n dX4_setMinuteRow_30 rfl rfl ?_
          obtain ⟨hi, h⟩ := h
          refine px_iastore (n := 288) dX4_setMinuteRow_31 (ly4_lt2 haN haK) (ly4_k2 haN haK) (ly4_s2 haN haK) hi ?_
          obtain ⟨gi1, hgi1⟩ : ∃ y : Gi, y = uI gi (a + 2) (upd (gi (a + 2)) ((x1 * (24 : Int32)) + x2).toNatClampNeg x3) := ⟨_, rfl⟩
          have h := h gi1 hgi1
          refine px_namegi hgi1 ?_
          exact px_return dX4_setMinuteRow_32 rfl rfl ⟨rfl, rfl, h⟩
def f_X4_dayRow (a : Nat) (x1 : Int32) (gi : Gi) (gl : Gl) (Q : Int32 → Gi → Gl → Prop) : Prop :=
if x1 < 0 then
(Q (0 : Int32) gi gl)
else
(if x1 < (120 : Int32) then
(vp_in x1 120 ∧
Q (gi (a + 1) x1.toNatClampNeg) gi gl)
else
(Q (0 : Int32) gi gl))
set_option maxRecDepth 100000 in
theorem v_X4_dayRow {a : Nat} {x1 : Int32} {gi : Gi} {gl : Gl} {Q : Int32 → Gi → Gl → Prop} (haN : a < NN) (haK : sK a = 4) (h : f_X4_dayRow a x1 gi gl Q) : p_X4_dayRow a x1 gi gl Q := by
  unfold f_X4_dayRow at h
  show PAt mX4_dayRow NN NN κF 0 [some (.ref a), some (.int x1)] [] gi gl _
  refine px_iload_n dX4_dayRow_0 rfl rfl ?_
  refine px_if_lt (tgt := 10) dX4_dayRow_1 (by decide) ?_
  by_cases hc : x1 < 0
  · rw [if_pos hc] at h ⊢
    refine px_iconst (v := (0 : Int32)) dX4_dayRow_10 (by decide) ?_
    refine px_goto (tgt := 20) dX4_dayRow_11 (by decide) ?_
    exact px_ireturn dX4_dayRow_20 rfl ⟨.int, rfl, rfl, rfl⟩ ⟨rfl, _, rfl, h⟩
  · rw [if_neg hc] at h ⊢
    refine px_iload_n dX4_dayRow_4 rfl rfl ?_
    refine px_bipush (v := (120 : Int32)) dX4_dayRow_5 (by decide) ?_
    refine px_icmp_lt (tgt := 14) dX4_dayRow_7 (by decide) ?_
    by_cases hc : x1 < (120 : Int32)
    · rw [if_pos hc] at h ⊢
      refine px_aload_n dX4_dayRow_14 rfl rfl ?_
      refine gf_X4_9 rfl dX4_dayRow_15 haN haK rfl (ly4_r0 haN haK) (ly4_lt1 haN haK) ?_
      refine px_iload_n dX4_dayRow_18 rfl rfl ?_
      obtain ⟨hi, h⟩ := h
      refine px_iaload (n := 120) dX4_dayRow_19 (ly4_lt1 haN haK) (ly4_k1 haN haK) (ly4_s1 haN haK) hi ?_
      exact px_ireturn dX4_dayRow_20 rfl ⟨.int, rfl, rfl, rfl⟩ ⟨rfl, _, rfl, h⟩
    · rw [if_neg hc] at h ⊢
      refine px_iconst (v := (0 : Int32)) dX4_dayRow_10 (by decide) ?_
      refine px_goto (tgt := 20) dX4_dayRow_11 (by decide) ?_
      exact px_ireturn dX4_dayRow_20 rfl ⟨.int, rfl, rfl, rfl⟩ ⟨rfl, _, rfl, h⟩
def f_X4_minuteRow (a : Nat) (x1 : Int32) (x2 : Int32) (gi : Gi) (gl : Gl) (Q : Int32 → Gi → Gl → Prop) : Prop :=
if x1 < 0 then
(Q (0 : Int32) gi gl)
else
(if (12 : Int32) ≤ x1 then
(Q (0 : Int32) gi gl)
else
(if x2 < 0 then
(Q (0 : Int32) gi gl)
else
(if x2 < (24 : Int32) then
(vp_in ((x1 * (24 : Int32)) + x2) 288 ∧
Q (gi (a + 2) ((x1 * (24 : Int32)) + x2).toNatClampNeg) gi gl)
else
(Q (0 : Int32) gi gl))))
set_option maxRecDepth 100000 in
theorem v_X4_minuteRow {a : Nat} {x1 : Int32} {x2 : Int32} {gi : Gi} {gl : Gl} {Q : Int32 → Gi → Gl → Prop} (haN : a < NN) (haK : sK a = 4) (h : f_X4_minuteRow a x1 x2 gi gl Q) : p_X4_minuteRow a x1 x2 gi gl Q := by
  unfold f_X4_minuteRow at h
  show PAt mX4_minuteRow NN NN κF 0 [some (.ref a), some (.int x1), some (.int x2)] [] gi gl _
  refine px_iload_n dX4_minuteRow_0 rfl rfl ?_
  refine px_if_lt (tgt := 20) dX4_minuteRow_1 (by decide) ?_
  by_cases hc : x1 < 0
  · rw [if_pos hc] at h ⊢
    refine px_iconst (v := (0 : Int32)) dX4_minuteRow_20 (by decide) ?_
    exact px_ireturn dX4_minuteRow_21 rfl ⟨.int, rfl, rfl, rfl⟩ ⟨rfl, _, rfl, h⟩
  · rw [if_neg hc] at h ⊢
    refine px_iload_n dX4_minuteRow_4 rfl rfl ?_
    refine px_bipush (v := (12 : Int32)) dX4_minuteRow_5 (by decide) ?_
    refine px_icmp_ge (tgt := 20) dX4_minuteRow_7 (by decide) ?_
    by_cases hc : (12 : Int32) ≤ x1
    · rw [if_pos hc] at h ⊢
      refine px_iconst (v := (0 : Int32)) dX4_minuteRow_20 (by decide) ?_
      exact px_ireturn dX4_minuteRow_21 rfl ⟨.int, rfl, rfl, rfl⟩ ⟨rfl, _, rfl, h⟩
    · rw [if_neg hc] at h ⊢
      refine px_iload_n dX4_minuteRow_10 rfl rfl ?_
      refine px_if_lt (tgt := 20) dX4_minuteRow_11 (by decide) ?_
      by_cases hc : x2 < 0
      · rw [if_pos hc] at h ⊢
        refine px_iconst (v := (0 : Int32)) dX4_minuteRow_20 (by decide) ?_
        exact px_ireturn dX4_minuteRow_21 rfl ⟨.int, rfl, rfl, rfl⟩ ⟨rfl, _, rfl, h⟩
      · rw [if_neg hc] at h ⊢
        refine px_iload_n dX4_minuteRow_14 rfl rfl ?_
        refine px_bipush (v := (24 : Int32)) dX4_minuteRow_15 (by decide) ?_
        refine px_icmp_lt (tgt := 22) dX4_minuteRow_17 (by decide) ?_
        by_cases hc : x2 < (24 : Int32)
        · rw [if_pos hc] at h ⊢
          refine px_aload_n dX4_minuteRow_22 rfl rfl ?_
          refine gf_X4_15 rfl dX4_minuteRow_23 haN haK rfl (ly4_r1 haN haK) (ly4_lt2 haN haK) ?_
          refine px_iload_n dX4_minuteRow_26 rfl rfl ?_
          refine px_bipush (v := (24 : Int32)) dX4_minuteRow_27 (by decide) ?_
          refine px_imul dX4_minuteRow_29 ?_
          refine px_iload_n dX4_minuteRow_30 rfl rfl ?_
          refine px_iadd dX4_minuteRow_31 ?_
          obtain ⟨hi, h⟩ := h
          refine px_iaload (n := 288) dX4_minuteRow_32 (ly4_lt2 haN haK) (ly4_k2 haN haK) (ly4_s2 haN haK) hi ?_
          exact px_ireturn dX4_minuteRow_33 rfl ⟨.int, rfl, rfl, rfl⟩ ⟨rfl, _, rfl, h⟩
        · rw [if_neg hc] at h ⊢
          refine px_iconst (v := (0 : Int32)) dX4_minuteRow_20 (by decide) ?_
          exact px_ireturn dX4_minuteRow_21 rfl ⟨.int, rfl, rfl, rfl⟩ ⟨rfl, _, rfl, h⟩
abbrev p_X4_settle_2 (a : Nat) (x1 : Int32) (gi : Gi) (gl : Gl) (Q : Gi → Gl → Prop) : Prop := PAt mX4_settle NN NN κF 2 [some (.ref a), some (.int x1), none, none, none] [] gi gl (RvQ Q)
abbrev p_X4_settle_26 (a : Nat) (x1 : Int32) (x2 : Int32) (x3 : Int32) (gi : Gi) (gl : Gl) (Q : Gi → Gl → Prop) : Prop := PAt mX4_settle NN NN κF 26 [some (.ref a), some (.int x1), some (.int x2), some (.int x3), none] [] gi gl (RvQ Q)
abbrev p_X4_settle_93 (a : Nat) (x1 : Int32) (x3 : Int32) (gi : Gi) (gl : Gl) (Q : Gi → Gl → Prop) : Prop := PAt mX4_settle NN NN κF 93 [some (.ref a), some (.int x1), none, some (.int x3), none] [] gi gl (RvQ Q)
def f_X4_settle (a : Nat) (gi : Gi) (gl : Gl) (Q : Gi → Gl → Prop) : Prop :=
p_X4_settle_2 a (0 : Int32) gi gl Q
def f_X4_settle_2 (a : Nat) (x1 : Int32) (gi : Gi) (gl : Gl) (Q : Gi → Gl → Prop) : Prop :=
if (12 : Int32) ≤ x1 then
(Q gi gl)
else
(vp_in x1 12 ∧
∀ gi1 : Gi, gi1 = uI gi (a + 3) (upd (gi (a + 3)) x1.toNatClampNeg (0 : Int32)) →
vp_in x1 12 ∧
∀ gi2 : Gi, gi2 = uI gi1 (a + 4) (upd (gi1 (a + 4)) x1.toNatClampNeg (0 : Int32)) →
p_X4_settle_26 a x1 (0 : Int32) (0 : Int32) gi2 gl Q)
def f_X4_settle_26 (a : Nat) (x1 : Int32) (x2 : Int32) (x3 : Int32) (gi : Gi) (gl : Gl) (Q : Gi → Gl → Prop) : Prop :=
if (24 : Int32) ≤ x3 then
(p_X4_settle_93 a x1 x1 gi gl Q)
else
(p_X4_minuteRow a x1 x3 gi gl (fun (r3 : Int32) (gi1 : Gi) (gl2 : Gl) =>
vp_in x1 12 ∧
p_J6_bitCount_0f7a4 r3 gi1 gl2 (fun (r6 : Int32) (gi4 : Gi) (gl5 : Gl) =>
vp_in x1 12 ∧
∀ gi7 : Gi, gi7 = uI gi4 (a + 3) (upd (gi4 (a + 3)) x1.toNatClampNeg ((gi1 (a + 3) x1.toNatClampNeg) + r6)) →
vp_in x1 12 ∧
p_J6_bitCount_0f7a4 (r3 &&& (((jl r3 (1 : Int32)) ||| x2) ^^^ ((-1) : Int32))) gi7 gl5 (fun (r10 : Int32) (gi8 : Gi) (gl9 : Gl) =>
vp_in x1 12 ∧
∀ gi11 : Gi, gi11 = uI gi8 (a + 4) (upd (gi8 (a + 4)) x1.toNatClampNeg ((gi7 (a + 4) x1.toNatClampNeg) + r10)) →
∀ z12 : Int32, z12 = (ja r3 (29 : Int32)) &&& (1 : Int32) →
p_X4_settle_26 a x1 z12 (x3 + (1 : Int32)) gi11 gl9 Q))))
def f_X4_settle_93 (a : Nat) (x1 : Int32) (x3 : Int32) (gi : Gi) (gl : Gl) (Q : Gi → Gl → Prop) : Prop :=
if (120 : Int32) ≤ x3 then
(p_X4_settle_2 a (x1 + (1 : Int32)) gi gl Q)
else
(vp_in x1 12 ∧
if ¬ (gi (a + 3) x1.toNatClampNeg) = 0 then
(p_X4_settle_2 a (x1 + (1 : Int32)) gi gl Q)
else
(vp_in x3 120 ∧
∀ gi1 : Gi, gi1 = uI gi (a + 1) (upd (gi (a + 1)) x3.toNatClampNeg (0 : Int32)) →
p_X4_settle_93 a x1 (x3 + (12 : Int32)) gi1 gl Q))
set_option maxRecDepth 100000 in
theorem v_X4_settle {a : Nat} {gi : Gi} {gl : Gl} {Q : Gi → Gl → Prop} (haN : a < NN) (haK : sK a = 4) (h : f_X4_settle a gi gl Q) : p_X4_settle a gi gl Q := by
  unfold f_X4_settle at h
  show PAt mX4_settle NN NN κF 0 [some (.ref a), none, none, none, none] [] gi gl _
  refine px_iconst (v := (0 : Int32)) dX4_settle_0 (by decide) ?_
  refine px_istore_n (ls2 := [some (.ref a), some (.int (0 : Int32)), none, none, none]) (i := 1) rfl dX4_settle_1 (by decide) rfl ?_
  exact PAt.forget h (lsub_at ⟨rfl, ⟨rfl, trivial⟩⟩)
set_option maxRecDepth 100000 in
theorem v_X4_settle_2 {a : Nat} {x1 : Int32} {gi : Gi} {gl : Gl} {Q : Gi → Gl → Prop} (haN : a < NN) (haK : sK a = 4) (h : f_X4_settle_2 a x1 gi gl Q) : p_X4_settle_2 a x1 gi gl Q := by
  unfold f_X4_settle_2 at h
  show PAt mX4_settle NN NN κF 2 [some (.ref a), some (.int x1), none, none, none] [] gi gl _
  refine px_iload_n dX4_settle_2 rfl rfl ?_
  refine px_bipush (v := (12 : Int32)) dX4_settle_3 (by decide) ?_
  refine px_icmp_ge (tgt := 127) dX4_settle_5 (by decide) ?_
  by_cases hc : (12 : Int32) ≤ x1
  · rw [if_pos hc] at h ⊢
    exact px_return dX4_settle_127 rfl rfl ⟨rfl, rfl, h⟩
  · rw [if_neg hc] at h ⊢
    refine px_iconst (v := (0 : Int32)) dX4_settle_8 (by decide) ?_
    refine px_istore_n (ls2 := [some (.ref a), some (.int x1), some (.int (0 : Int32)), none, none]) (i := 2) rfl dX4_settle_9 (by decide) rfl ?_
    refine px_aload_n dX4_settle_10 rfl rfl ?_
    refine gf_X4_18 rfl dX4_settle_11 haN haK rfl (ly4_r2 haN haK) (ly4_lt3 haN haK) ?_
    refine px_iload_n dX4_settle_14 rfl rfl ?_
    refine px_iconst (v := (0 : Int32)) dX4_settle_15 (by decide) ?_
    obtain ⟨hi, h⟩ := h
    refine px_iastore (n := 12) dX4_settle_16 (ly4_lt3 haN haK) (ly4_k3 haN haK) (ly4_s3 haN haK) hi ?_
    obtain ⟨gi1, hgi1⟩ : ∃ y : Gi, y = uI gi (a + 3) (upd (gi (a + 3)) x1.toNatClampNeg (0 : Int32)) := ⟨_, rfl⟩
    have h := h gi1 hgi1
    refine px_namegi hgi1 ?_
    refine px_aload_n dX4_settle_17 rfl rfl ?_
    refine gf_X4_21 rfl dX4_settle_18 haN haK rfl (ly4_r3 haN haK) (ly4_lt4 haN haK) ?_
    refine px_iload_n dX4_settle_21 rfl rfl ?_
    refine px_iconst (v := (0 : Int32)) dX4_settle_22 (by decide) ?_
    obtain ⟨hi, h⟩ := h
    refine px_iastore (n := 12) dX4_settle_23 (ly4_lt4 haN haK) (ly4_k4 haN haK) (ly4_s4 haN haK) hi ?_
    obtain ⟨gi2, hgi2⟩ : ∃ y : Gi, y = uI gi1 (a + 4) (upd (gi1 (a + 4)) x1.toNatClampNeg (0 : Int32)) := ⟨_, rfl⟩
    have h := h gi2 hgi2
    refine px_namegi hgi2 ?_
    refine px_iconst (v := (0 : Int32)) dX4_settle_24 (by decide) ?_
    refine px_istore_n (ls2 := [some (.ref a), some (.int x1), some (.int (0 : Int32)), some (.int (0 : Int32)), none]) (i := 3) rfl dX4_settle_25 (by decide) rfl ?_
    exact PAt.forget h (lsub_at ⟨rfl, ⟨rfl, ⟨rfl, ⟨rfl, trivial⟩⟩⟩⟩)
set_option maxRecDepth 100000 in
theorem v_X4_settle_26 {a : Nat} {x1 : Int32} {x2 : Int32} {x3 : Int32} {gi : Gi} {gl : Gl} {Q : Gi → Gl → Prop} (haN : a < NN) (haK : sK a = 4) (h : f_X4_settle_26 a x1 x2 x3 gi gl Q) : p_X4_settle_26 a x1 x2 x3 gi gl Q := by
  unfold f_X4_settle_26 at h
  show PAt mX4_settle NN NN κF 26 [some (.ref a), some (.int x1), some (.int x2), some (.int x3), none] [] gi gl _
  refine px_iload_n dX4_settle_26 rfl rfl ?_
  refine px_bipush (v := (24 : Int32)) dX4_settle_27 (by decide) ?_
  refine px_icmp_ge (tgt := 91) dX4_settle_29 (by decide) ?_
  by_cases hc : (24 : Int32) ≤ x3
  · rw [if_pos hc] at h ⊢
    refine px_iload_n dX4_settle_91 rfl rfl ?_
    refine px_istore_n (ls2 := [some (.ref a), some (.int x1), some (.int x2), some (.int x1), none]) (i := 3) rfl dX4_settle_92 (by decide) rfl ?_
    exact PAt.forget h (lsub_at ⟨rfl, ⟨rfl, ⟨rfl, trivial⟩⟩⟩)
  · rw [if_neg hc] at h ⊢
    refine px_aload_n dX4_settle_32 rfl rfl ?_
    refine px_iload_n dX4_settle_33 rfl rfl ?_
    refine px_iload_n dX4_settle_34 rfl rfl ?_
    refine px_callV_I (As := [.int x1, .int x3]) (st := []) dX4_settle_35 lk_X4_30.1 lk_X4_30.2 (b := a) haN haK (by decide) rfl (by decide) rfl (Nat.le_of_ble_eq_true rfl) rfl rfl (Nat.le_of_ble_eq_true rfl) ⟨Nat.le_refl _, Nat.le_refl _, Nat.le_refl _⟩ ?_
    refine PAt.mono h (fun v κ gi1 gl2 hq => ?_)
    obtain ⟨rfl, r3, rfl, h⟩ := hq
    refine px_istore (ls2 := [some (.ref a), some (.int x1), some (.int x2), some (.int x3), some (.int r3)]) dX4_settle_38 (by decide) rfl ?_
    refine px_aload_n dX4_settle_40 rfl rfl ?_
    refine gf_X4_18 rfl dX4_settle_41 haN haK rfl (ly4_r2 haN haK) (ly4_lt3 haN haK) ?_
    refine px_iload_n dX4_settle_44 rfl rfl ?_
    refine px_dup2 dX4_settle_45 rfl rfl ?_
    obtain ⟨hi, h⟩ := h
    refine px_iaload (n := 12) dX4_settle_46 (ly4_lt3 haN haK) (ly4_k3 haN haK) (ly4_s3 haN haK) hi ?_
    refine px_iload dX4_settle_47 rfl ?_
    refine px_callS_I (As := [.int r3]) (st := [.int (gi1 (a + 3) x1.toNatClampNeg), .int x1, .ref (a + 3)]) dX4_settle_49 lk_X4_34.1 lk_X4_34.2 (by decide) rfl (Nat.le_of_ble_eq_true rfl) rfl rfl (Nat.le_of_ble_eq_true rfl) ⟨Nat.le_refl _, Nat.le_refl _, Nat.le_refl _⟩ ?_
    refine PAt.mono h (fun v κ gi4 gl5 hq => ?_)
    obtain ⟨rfl, r6, rfl, h⟩ := hq
    refine px_iadd dX4_settle_52 ?_
    obtain ⟨hi, h⟩ := h
    refine px_iastore (n := 12) dX4_settle_53 (ly4_lt3 haN haK) (ly4_k3 haN haK) (ly4_s3 haN haK) hi ?_
    obtain ⟨gi7, hgi7⟩ : ∃ y : Gi, y = uI gi4 (a + 3) (upd (gi4 (a + 3)) x1.toNatClampNeg ((gi1 (a + 3) x1.toNatClampNeg) + r6)) := ⟨_, rfl⟩
    have h := h gi7 hgi7
    refine px_namegi hgi7 ?_
    refine px_aload_n dX4_settle_54 rfl rfl ?_
    refine gf_X4_21 rfl dX4_settle_55 haN haK rfl (ly4_r3 haN haK) (ly4_lt4 haN haK) ?_
    refine px_iload_n dX4_settle_58 rfl rfl ?_
    refine px_dup2 dX4_settle_59 rfl rfl ?_
    obtain ⟨hi, h⟩ := h
    refine px_iaload (n := 12) dX4_settle_60 (ly4_lt4 haN haK) (ly4_k4 haN haK) (ly4_s4 haN haK) hi ?_
    refine px_iload dX4_settle_61 rfl ?_
    refine px_iload dX4_settle_63 rfl ?_
    refine px_iconst (v := (1 : Int32)) dX4_settle_65 (by decide) ?_
    refine px_ishl dX4_settle_66 ?_
    refine px_iload_n dX4_settle_67 rfl rfl ?_
    refine px_ior dX4_settle_68 ?_
    refine px_iconst (v := ((-1) : Int32)) dX4_settle_69 (by decide) ?_
    refine px_ixor dX4_settle_70 ?_
    refine px_iand dX4_settle_71 ?_
    refine px_callS_I (As := [.int (r3 &&& (((jl r3 (1 : Int32)) ||| x2) ^^^ ((-1) : Int32)))]) (st := [.int (gi7 (a + 4) x1.toNatClampNeg), .int x1, .ref (a + 4)]) dX4_settle_72 lk_X4_34.1 lk_X4_34.2 (by decide) rfl (Nat.le_of_ble_eq_true rfl) rfl rfl (Nat.le_of_ble_eq_true rfl) ⟨Nat.le_refl _, Nat.le_refl _, Nat.le_refl _⟩ ?_
    refine PAt.mono h (fun v κ gi8 gl9 hq => ?_)
    obtain ⟨rfl, r10, rfl, h⟩ := hq
    refine px_iadd dX4_settle_75 ?_
    obtain ⟨hi, h⟩ := h
    refine px_iastore (n := 12) dX4_settle_76 (ly4_lt4 haN haK) (ly4_k4 haN haK) (ly4_s4 haN haK) hi ?_
    obtain ⟨gi11, hgi11⟩ : ∃ y : Gi, y = uI gi8 (a + 4) (upd (gi8 (a + 4)) x1.toNatClampNeg ((gi7 (a + 4) x1.toNatClampNeg) + r10)) := ⟨_, rfl⟩
    have h := h gi11 hgi11
    refine px_namegi hgi11 ?_
    refine px_iload dX4_settle_77 rfl ?_
    refine px_bipush (v := (29 : Int32)) dX4_settle_79 (by decide) ?_
    refine px_ishr dX4_settle_81 ?_
    refine px_iconst (v := (1 : Int32)) dX4_settle_82 (by decide) ?_
    refine px_iand dX4_settle_83 ?_
    obtain ⟨z12, hz12⟩ : ∃ y : Int32, y = (ja r3 (29 : Int32)) &&& (1 : Int32) := ⟨_, rfl⟩
    have h := h z12 hz12
    refine px_namei hz12 ?_
    refine px_istore_n (ls2 := [some (.ref a), some (.int x1), some (.int z12), some (.int x3), some (.int r3)]) (i := 2) rfl dX4_settle_84 (by decide) rfl ?_
    refine px_iinc (v := x3 + (1 : Int32)) (ls2 := [some (.ref a), some (.int x1), some (.int z12), some (.int (x3 + (1 : Int32))), some (.int r3)]) dX4_settle_85 rfl rfl (by decide) rfl ?_
    refine px_goto (tgt := 26) dX4_settle_88 (by decide) ?_
    exact PAt.forget h (lsub_at ⟨rfl, ⟨rfl, ⟨rfl, ⟨rfl, trivial⟩⟩⟩⟩)
set_option maxRecDepth 100000 in
theorem v_X4_settle_93 {a : Nat} {x1 : Int32} {x3 : Int32} {gi : Gi} {gl : Gl} {Q : Gi → Gl → Prop} (haN : a < NN) (haK : sK a = 4) (h : f_X4_settle_93 a x1 x3 gi gl Q) : p_X4_settle_93 a x1 x3 gi gl Q := by
  unfold f_X4_settle_93 at h
  show PAt mX4_settle NN NN κF 93 [some (.ref a), some (.int x1), none, some (.int x3), none] [] gi gl _
  refine px_iload_n dX4_settle_93 rfl rfl ?_
  refine px_bipush (v := (120 : Int32)) dX4_settle_94 (by decide) ?_
  refine px_icmp_ge (tgt := 121) dX4_settle_96 (by decide) ?_
  by_cases hc : (120 : Int32) ≤ x3
  · rw [if_pos hc] at h ⊢
    refine px_iinc (v := x1 + (1 : Int32)) (ls2 := [some (.ref a), some (.int (x1 + (1 : Int32))), none, some (.int x3), none]) dX4_settle_121 rfl rfl (by decide) rfl ?_
    refine px_goto (tgt := 2) dX4_settle_124 (by decide) ?_
    exact PAt.forget h (lsub_at ⟨rfl, ⟨rfl, trivial⟩⟩)
  · rw [if_neg hc] at h ⊢
    refine px_aload_n dX4_settle_99 rfl rfl ?_
    refine gf_X4_18 rfl dX4_settle_100 haN haK rfl (ly4_r2 haN haK) (ly4_lt3 haN haK) ?_
    refine px_iload_n dX4_settle_103 rfl rfl ?_
    obtain ⟨hi, h⟩ := h
    refine px_iaload (n := 12) dX4_settle_104 (ly4_lt3 haN haK) (ly4_k3 haN haK) (ly4_s3 haN haK) hi ?_
    refine px_if_ne (tgt := 121) dX4_settle_105 (by decide) ?_
    by_cases hc : ¬ (gi (a + 3) x1.toNatClampNeg) = 0
    · rw [if_pos hc] at h ⊢
      refine px_iinc (v := x1 + (1 : Int32)) (ls2 := [some (.ref a), some (.int (x1 + (1 : Int32))), none, some (.int x3), none]) dX4_settle_121 rfl rfl (by decide) rfl ?_
      refine px_goto (tgt := 2) dX4_settle_124 (by decide) ?_
      exact PAt.forget h (lsub_at ⟨rfl, ⟨rfl, trivial⟩⟩)
    · rw [if_neg hc] at h ⊢
      refine px_aload_n dX4_settle_108 rfl rfl ?_
      refine gf_X4_9 rfl dX4_settle_109 haN haK rfl (ly4_r0 haN haK) (ly4_lt1 haN haK) ?_
      refine px_iload_n dX4_settle_112 rfl rfl ?_
      refine px_iconst (v := (0 : Int32)) dX4_settle_113 (by decide) ?_
      obtain ⟨hi, h⟩ := h
      refine px_iastore (n := 120) dX4_settle_114 (ly4_lt1 haN haK) (ly4_k1 haN haK) (ly4_s1 haN haK) hi ?_
      obtain ⟨gi1, hgi1⟩ : ∃ y : Gi, y = uI gi (a + 1) (upd (gi (a + 1)) x3.toNatClampNeg (0 : Int32)) := ⟨_, rfl⟩
      have h := h gi1 hgi1
      refine px_namegi hgi1 ?_
      refine px_iinc (v := x3 + (12 : Int32)) (ls2 := [some (.ref a), some (.int x1), none, some (.int (x3 + (12 : Int32))), none]) dX4_settle_115 rfl rfl (by decide) rfl ?_
      refine px_goto (tgt := 93) dX4_settle_118 (by decide) ?_
      exact PAt.forget h (lsub_at ⟨rfl, ⟨rfl, ⟨rfl, trivial⟩⟩⟩)
def f_X4_minutesIn (a : Nat) (x1 : Int32) (gi : Gi) (gl : Gl) (Q : Int32 → Gi → Gl → Prop) : Prop :=
if x1 < 0 then
(Q (0 : Int32) gi gl)
else
(if x1 < (12 : Int32) then
(vp_in x1 12 ∧
Q (gi (a + 3) x1.toNatClampNeg) gi gl)
else
(Q (0 : Int32) gi gl))
set_option maxRecDepth 100000 in
theorem v_X4_minutesIn {a : Nat} {x1 : Int32} {gi : Gi} {gl : Gl} {Q : Int32 → Gi → Gl → Prop} (haN : a < NN) (haK : sK a = 4) (h : f_X4_minutesIn a x1 gi gl Q) : p_X4_minutesIn a x1 gi gl Q := by
  unfold f_X4_minutesIn at h
  show PAt mX4_minutesIn NN NN κF 0 [some (.ref a), some (.int x1)] [] gi gl _
  refine px_iload_n dX4_minutesIn_0 rfl rfl ?_
  refine px_if_lt (tgt := 10) dX4_minutesIn_1 (by decide) ?_
  by_cases hc : x1 < 0
  · rw [if_pos hc] at h ⊢
    refine px_iconst (v := (0 : Int32)) dX4_minutesIn_10 (by decide) ?_
    refine px_goto (tgt := 20) dX4_minutesIn_11 (by decide) ?_
    exact px_ireturn dX4_minutesIn_20 rfl ⟨.int, rfl, rfl, rfl⟩ ⟨rfl, _, rfl, h⟩
  · rw [if_neg hc] at h ⊢
    refine px_iload_n dX4_minutesIn_4 rfl rfl ?_
    refine px_bipush (v := (12 : Int32)) dX4_minutesIn_5 (by decide) ?_
    refine px_icmp_lt (tgt := 14) dX4_minutesIn_7 (by decide) ?_
    by_cases hc : x1 < (12 : Int32)
    · rw [if_pos hc] at h ⊢
      refine px_aload_n dX4_minutesIn_14 rfl rfl ?_
      refine gf_X4_18 rfl dX4_minutesIn_15 haN haK rfl (ly4_r2 haN haK) (ly4_lt3 haN haK) ?_
      refine px_iload_n dX4_minutesIn_18 rfl rfl ?_
      obtain ⟨hi, h⟩ := h
      refine px_iaload (n := 12) dX4_minutesIn_19 (ly4_lt3 haN haK) (ly4_k3 haN haK) (ly4_s3 haN haK) hi ?_
      exact px_ireturn dX4_minutesIn_20 rfl ⟨.int, rfl, rfl, rfl⟩ ⟨rfl, _, rfl, h⟩
    · rw [if_neg hc] at h ⊢
      refine px_iconst (v := (0 : Int32)) dX4_minutesIn_10 (by decide) ?_
      refine px_goto (tgt := 20) dX4_minutesIn_11 (by decide) ?_
      exact px_ireturn dX4_minutesIn_20 rfl ⟨.int, rfl, rfl, rfl⟩ ⟨rfl, _, rfl, h⟩
abbrev p_X4_momentCount_4 (a : Nat) (x1 : Int32) (x2 : Int32) (gi : Gi) (gl : Gl) (Q : Int32 → Gi → Gl → Prop) : Prop := PAt mX4_momentCount NN NN κF 4 [some (.ref a), some (.int x1), some (.int x2)] [] gi gl (RiQ Q)
def f_X4_momentCount (a : Nat) (gi : Gi) (gl : Gl) (Q : Int32 → Gi → Gl → Prop) : Prop :=
p_X4_momentCount_4 a (0 : Int32) (0 : Int32) gi gl Q
def f_X4_momentCount_4 (a : Nat) (x1 : Int32) (x2 : Int32) (gi : Gi) (gl : Gl) (Q : Int32 → Gi → Gl → Prop) : Prop :=
if (120 : Int32) ≤ x2 then
(Q x1 gi gl)
else
(vp_in x2 120 ∧
p_J6_bitCount_0f7a4 (gi (a + 1) x2.toNatClampNeg) gi gl (fun (r3 : Int32) (gi1 : Gi) (gl2 : Gl) =>
vp_in (jr x2 (12 : Int32)) 12 ∧
∀ z4 : Int32, z4 = x1 + (r3 * (gi1 (a + 3) (jr x2 (12 : Int32)).toNatClampNeg)) →
p_X4_momentCount_4 a z4 (x2 + (1 : Int32)) gi1 gl2 Q))
set_option maxRecDepth 100000 in
theorem v_X4_momentCount {a : Nat} {gi : Gi} {gl : Gl} {Q : Int32 → Gi → Gl → Prop} (haN : a < NN) (haK : sK a = 4) (h : f_X4_momentCount a gi gl Q) : p_X4_momentCount a gi gl Q := by
  unfold f_X4_momentCount at h
  show PAt mX4_momentCount NN NN κF 0 [some (.ref a), none, none] [] gi gl _
  refine px_iconst (v := (0 : Int32)) dX4_momentCount_0 (by decide) ?_
  refine px_istore_n (ls2 := [some (.ref a), some (.int (0 : Int32)), none]) (i := 1) rfl dX4_momentCount_1 (by decide) rfl ?_
  refine px_iconst (v := (0 : Int32)) dX4_momentCount_2 (by decide) ?_
  refine px_istore_n (ls2 := [some (.ref a), some (.int (0 : Int32)), some (.int (0 : Int32))]) (i := 2) rfl dX4_momentCount_3 (by decide) rfl ?_
  exact PAt.forget h (lsub_at ⟨rfl, ⟨rfl, ⟨rfl, trivial⟩⟩⟩)
set_option maxRecDepth 100000 in
theorem v_X4_momentCount_4 {a : Nat} {x1 : Int32} {x2 : Int32} {gi : Gi} {gl : Gl} {Q : Int32 → Gi → Gl → Prop} (haN : a < NN) (haK : sK a = 4) (h : f_X4_momentCount_4 a x1 x2 gi gl Q) : p_X4_momentCount_4 a x1 x2 gi gl Q := by
  unfold f_X4_momentCount_4 at h
  show PAt mX4_momentCount NN NN κF 4 [some (.ref a), some (.int x1), some (.int x2)] [] gi gl _
  refine px_iload_n dX4_momentCount_4 rfl rfl ?_
  refine px_bipush (v := (120 : Int32)) dX4_momentCount_5 (by decide) ?_
  refine px_icmp_ge (tgt := 38) dX4_momentCount_7 (by decide) ?_
  by_cases hc : (120 : Int32) ≤ x2
  · rw [if_pos hc] at h ⊢
    refine px_iload_n dX4_momentCount_38 rfl rfl ?_
    exact px_ireturn dX4_momentCount_39 rfl ⟨.int, rfl, rfl, rfl⟩ ⟨rfl, _, rfl, h⟩
  · rw [if_neg hc] at h ⊢
    refine px_iload_n dX4_momentCount_10 rfl rfl ?_
    refine px_aload_n dX4_momentCount_11 rfl rfl ?_
    refine gf_X4_9 rfl dX4_momentCount_12 haN haK rfl (ly4_r0 haN haK) (ly4_lt1 haN haK) ?_
    refine px_iload_n dX4_momentCount_15 rfl rfl ?_
    obtain ⟨hi, h⟩ := h
    refine px_iaload (n := 120) dX4_momentCount_16 (ly4_lt1 haN haK) (ly4_k1 haN haK) (ly4_s1 haN haK) hi ?_
    refine px_callS_I (As := [.int (gi (a + 1) x2.toNatClampNeg)]) (st := [.int x1]) dX4_momentCount_17 lk_X4_34.1 lk_X4_34.2 (by decide) rfl (Nat.le_of_ble_eq_true rfl) rfl rfl (Nat.le_of_ble_eq_true rfl) ⟨Nat.le_refl _, Nat.le_refl _, Nat.le_refl _⟩ ?_
    refine PAt.mono h (fun v κ gi1 gl2 hq => ?_)
    obtain ⟨rfl, r3, rfl, h⟩ := hq
    refine px_aload_n dX4_momentCount_20 rfl rfl ?_
    refine gf_X4_18 rfl dX4_momentCount_21 haN haK rfl (ly4_r2 haN haK) (ly4_lt3 haN haK) ?_
    refine px_iload_n dX4_momentCount_24 rfl rfl ?_
    refine px_bipush (v := (12 : Int32)) dX4_momentCount_25 (by decide) ?_
    refine px_irem dX4_momentCount_27 (by decide) ?_
    obtain ⟨hi, h⟩ := h
    refine px_iaload (n := 12) dX4_momentCount_28 (ly4_lt3 haN haK) (ly4_k3 haN haK) (ly4_s3 haN haK) hi ?_
    refine px_imul dX4_momentCount_29 ?_
    refine px_iadd dX4_momentCount_30 ?_
    obtain ⟨z4, hz4⟩ : ∃ y : Int32, y = x1 + (r3 * (gi1 (a + 3) (jr x2 (12 : Int32)).toNatClampNeg)) := ⟨_, rfl⟩
    have h := h z4 hz4
    refine px_namei hz4 ?_
    refine px_istore_n (ls2 := [some (.ref a), some (.int z4), some (.int x2)]) (i := 1) rfl dX4_momentCount_31 (by decide) rfl ?_
    refine px_iinc (v := x2 + (1 : Int32)) (ls2 := [some (.ref a), some (.int z4), some (.int (x2 + (1 : Int32)))]) dX4_momentCount_32 rfl rfl (by decide) rfl ?_
    refine px_goto (tgt := 4) dX4_momentCount_35 (by decide) ?_
    exact PAt.forget h (lsub_at ⟨rfl, ⟨rfl, ⟨rfl, trivial⟩⟩⟩)
abbrev p_X4_dayCount_4 (a : Nat) (x1 : Int32) (x2 : Int32) (gi : Gi) (gl : Gl) (Q : Int32 → Gi → Gl → Prop) : Prop := PAt mX4_dayCount NN NN κF 4 [some (.ref a), some (.int x1), some (.int x2)] [] gi gl (RiQ Q)
def f_X4_dayCount (a : Nat) (gi : Gi) (gl : Gl) (Q : Int32 → Gi → Gl → Prop) : Prop :=
p_X4_dayCount_4 a (0 : Int32) (0 : Int32) gi gl Q
def f_X4_dayCount_4 (a : Nat) (x1 : Int32) (x2 : Int32) (gi : Gi) (gl : Gl) (Q : Int32 → Gi → Gl → Prop) : Prop :=
if (120 : Int32) ≤ x2 then
(Q x1 gi gl)
else
(vp_in x2 120 ∧
p_J6_bitCount_0f7a4 (gi (a + 1) x2.toNatClampNeg) gi gl (fun (r3 : Int32) (gi1 : Gi) (gl2 : Gl) =>
∀ z4 : Int32, z4 = x1 + r3 →
p_X4_dayCount_4 a z4 (x2 + (1 : Int32)) gi1 gl2 Q))
set_option maxRecDepth 100000 in
theorem v_X4_dayCount {a : Nat} {gi : Gi} {gl : Gl} {Q : Int32 → Gi → Gl → Prop} (haN : a < NN) (haK : sK a = 4) (h : f_X4_dayCount a gi gl Q) : p_X4_dayCount a gi gl Q := by
  unfold f_X4_dayCount at h
  show PAt mX4_dayCount NN NN κF 0 [some (.ref a), none, none] [] gi gl _
  refine px_iconst (v := (0 : Int32)) dX4_dayCount_0 (by decide) ?_
  refine px_istore_n (ls2 := [some (.ref a), some (.int (0 : Int32)), none]) (i := 1) rfl dX4_dayCount_1 (by decide) rfl ?_
  refine px_iconst (v := (0 : Int32)) dX4_dayCount_2 (by decide) ?_
  refine px_istore_n (ls2 := [some (.ref a), some (.int (0 : Int32)), some (.int (0 : Int32))]) (i := 2) rfl dX4_dayCount_3 (by decide) rfl ?_
  exact PAt.forget h (lsub_at ⟨rfl, ⟨rfl, ⟨rfl, trivial⟩⟩⟩)
set_option maxRecDepth 100000 in
theorem v_X4_dayCount_4 {a : Nat} {x1 : Int32} {x2 : Int32} {gi : Gi} {gl : Gl} {Q : Int32 → Gi → Gl → Prop} (haN : a < NN) (haK : sK a = 4) (h : f_X4_dayCount_4 a x1 x2 gi gl Q) : p_X4_dayCount_4 a x1 x2 gi gl Q := by
  unfold f_X4_dayCount_4 at h
  show PAt mX4_dayCount NN NN κF 4 [some (.ref a), some (.int x1), some (.int x2)] [] gi gl _
  refine px_iload_n dX4_dayCount_4 rfl rfl ?_
  refine px_bipush (v := (120 : Int32)) dX4_dayCount_5 (by decide) ?_
  refine px_icmp_ge (tgt := 28) dX4_dayCount_7 (by decide) ?_
  by_cases hc : (120 : Int32) ≤ x2
  · rw [if_pos hc] at h ⊢
    refine px_iload_n dX4_dayCount_28 rfl rfl ?_
    exact px_ireturn dX4_dayCount_29 rfl ⟨.int, rfl, rfl, rfl⟩ ⟨rfl, _, rfl, h⟩
  · rw [if_neg hc] at h ⊢
    refine px_iload_n dX4_dayCount_10 rfl rfl ?_
    refine px_aload_n dX4_dayCount_11 rfl rfl ?_
    refine gf_X4_9 rfl dX4_dayCount_12 haN haK rfl (ly4_r0 haN haK) (ly4_lt1 haN haK) ?_
    refine px_iload_n dX4_dayCount_15 rfl rfl ?_
    obtain ⟨hi, h⟩ := h
    refine px_iaload (n := 120) dX4_dayCount_16 (ly4_lt1 haN haK) (ly4_k1 haN haK) (ly4_s1 haN haK) hi ?_
    refine px_callS_I (As := [.int (gi (a + 1) x2.toNatClampNeg)]) (st := [.int x1]) dX4_dayCount_17 lk_X4_34.1 lk_X4_34.2 (by decide) rfl (Nat.le_of_ble_eq_true rfl) rfl rfl (Nat.le_of_ble_eq_true rfl) ⟨Nat.le_refl _, Nat.le_refl _, Nat.le_refl _⟩ ?_
    refine PAt.mono h (fun v κ gi1 gl2 hq => ?_)
    obtain ⟨rfl, r3, rfl, h⟩ := hq
    refine px_iadd dX4_dayCount_20 ?_
    obtain ⟨z4, hz4⟩ : ∃ y : Int32, y = x1 + r3 := ⟨_, rfl⟩
    have h := h z4 hz4
    refine px_namei hz4 ?_
    refine px_istore_n (ls2 := [some (.ref a), some (.int z4), some (.int x2)]) (i := 1) rfl dX4_dayCount_21 (by decide) rfl ?_
    refine px_iinc (v := x2 + (1 : Int32)) (ls2 := [some (.ref a), some (.int z4), some (.int (x2 + (1 : Int32)))]) dX4_dayCount_22 rfl rfl (by decide) rfl ?_
    refine px_goto (tgt := 4) dX4_dayCount_25 (by decide) ?_
    exact PAt.forget h (lsub_at ⟨rfl, ⟨rfl, ⟨rfl, trivial⟩⟩⟩)
abbrev p_X4_dayAt_4 (a : Nat) (x2 : Int32) (x3 : Int32) (gi : Gi) (gl : Gl) (Q : Int32 → Gi → Gl → Prop) : Prop := PAt mX4_dayAt NN NN κF 4 [some (.ref a), none, some (.int x2), some (.int x3), none] [] gi gl (RiQ Q)
def f_X4_dayAt (a : Nat) (x1 : Int32) (gi : Gi) (gl : Gl) (Q : Int32 → Gi → Gl → Prop) : Prop :=
p_X4_dayAt_4 a x1 (0 : Int32) gi gl Q
def f_X4_dayAt_4 (a : Nat) (x2 : Int32) (x3 : Int32) (gi : Gi) (gl : Gl) (Q : Int32 → Gi → Gl → Prop) : Prop :=
if (120 : Int32) ≤ x3 then
(Q ((-1) : Int32) gi gl)
else
(vp_in x3 120 ∧
p_J6_bitCount_0f7a4 (gi (a + 1) x3.toNatClampNeg) gi gl (fun (r3 : Int32) (gi1 : Gi) (gl2 : Gl) =>
if r3 ≤ x2 then
(∀ z4 : Int32, z4 = x2 - r3 →
p_X4_dayAt_4 a z4 (x3 + (1 : Int32)) gi1 gl2 Q)
else
(vp_in x3 120 ∧
p_X4_placeOf (gi1 (a + 1) x3.toNatClampNeg) x2 gi1 gl2 (fun (r7 : Int32) (gi5 : Gi) (gl6 : Gl) =>
Q ((x3 * (30 : Int32)) + r7) gi5 gl6))))
set_option maxRecDepth 100000 in
theorem v_X4_dayAt {a : Nat} {x1 : Int32} {gi : Gi} {gl : Gl} {Q : Int32 → Gi → Gl → Prop} (haN : a < NN) (haK : sK a = 4) (h : f_X4_dayAt a x1 gi gl Q) : p_X4_dayAt a x1 gi gl Q := by
  unfold f_X4_dayAt at h
  show PAt mX4_dayAt NN NN κF 0 [some (.ref a), some (.int x1), none, none, none] [] gi gl _
  refine px_iload_n dX4_dayAt_0 rfl rfl ?_
  refine px_istore_n (ls2 := [some (.ref a), some (.int x1), some (.int x1), none, none]) (i := 2) rfl dX4_dayAt_1 (by decide) rfl ?_
  refine px_iconst (v := (0 : Int32)) dX4_dayAt_2 (by decide) ?_
  refine px_istore_n (ls2 := [some (.ref a), some (.int x1), some (.int x1), some (.int (0 : Int32)), none]) (i := 3) rfl dX4_dayAt_3 (by decide) rfl ?_
  exact PAt.forget h (lsub_at ⟨rfl, ⟨rfl, ⟨rfl, trivial⟩⟩⟩)
set_option maxRecDepth 100000 in
theorem v_X4_dayAt_4 {a : Nat} {x2 : Int32} {x3 : Int32} {gi : Gi} {gl : Gl} {Q : Int32 → Gi → Gl → Prop} (haN : a < NN) (haK : sK a = 4) (h : f_X4_dayAt_4 a x2 x3 gi gl Q) : p_X4_dayAt_4 a x2 x3 gi gl Q := by
  unfold f_X4_dayAt_4 at h
  show PAt mX4_dayAt NN NN κF 4 [some (.ref a), none, some (.int x2), some (.int x3), none] [] gi gl _
  refine px_iload_n dX4_dayAt_4 rfl rfl ?_
  refine px_bipush (v := (120 : Int32)) dX4_dayAt_5 (by decide) ?_
  refine px_icmp_ge (tgt := 54) dX4_dayAt_7 (by decide) ?_
  by_cases hc : (120 : Int32) ≤ x3
  · rw [if_pos hc] at h ⊢
    refine px_iconst (v := ((-1) : Int32)) dX4_dayAt_54 (by decide) ?_
    exact px_ireturn dX4_dayAt_55 rfl ⟨.int, rfl, rfl, rfl⟩ ⟨rfl, _, rfl, h⟩
  · rw [if_neg hc] at h ⊢
    refine px_aload_n dX4_dayAt_10 rfl rfl ?_
    refine gf_X4_9 rfl dX4_dayAt_11 haN haK rfl (ly4_r0 haN haK) (ly4_lt1 haN haK) ?_
    refine px_iload_n dX4_dayAt_14 rfl rfl ?_
    obtain ⟨hi, h⟩ := h
    refine px_iaload (n := 120) dX4_dayAt_15 (ly4_lt1 haN haK) (ly4_k1 haN haK) (ly4_s1 haN haK) hi ?_
    refine px_callS_I (As := [.int (gi (a + 1) x3.toNatClampNeg)]) (st := []) dX4_dayAt_16 lk_X4_34.1 lk_X4_34.2 (by decide) rfl (Nat.le_of_ble_eq_true rfl) rfl rfl (Nat.le_of_ble_eq_true rfl) ⟨Nat.le_refl _, Nat.le_refl _, Nat.le_refl _⟩ ?_
    refine PAt.mono h (fun v κ gi1 gl2 hq => ?_)
    obtain ⟨rfl, r3, rfl, h⟩ := hq
    refine px_istore (ls2 := [some (.ref a), none, some (.int x2), some (.int x3), some (.int r3)]) dX4_dayAt_19 (by decide) rfl ?_
    refine px_iload_n dX4_dayAt_21 rfl rfl ?_
    refine px_iload dX4_dayAt_22 rfl ?_
    refine px_icmp_ge (tgt := 43) dX4_dayAt_24 (by decide) ?_
    by_cases hc : r3 ≤ x2
    · rw [if_pos hc] at h ⊢
      refine px_iload_n dX4_dayAt_43 rfl rfl ?_
      refine px_iload dX4_dayAt_44 rfl ?_
      refine px_isub dX4_dayAt_46 ?_
      obtain ⟨z4, hz4⟩ : ∃ y : Int32, y = x2 - r3 := ⟨_, rfl⟩
      have h := h z4 hz4
      refine px_namei hz4 ?_
      refine px_istore_n (ls2 := [some (.ref a), none, some (.int z4), some (.int x3), some (.int r3)]) (i := 2) rfl dX4_dayAt_47 (by decide) rfl ?_
      refine px_iinc (v := x3 + (1 : Int32)) (ls2 := [some (.ref a), none, some (.int z4), some (.int (x3 + (1 : Int32))), some (.int r3)]) dX4_dayAt_48 rfl rfl (by decide) rfl ?_
      refine px_goto (tgt := 4) dX4_dayAt_51 (by decide) ?_
      exact PAt.forget h (lsub_at ⟨rfl, ⟨rfl, ⟨rfl, trivial⟩⟩⟩)
    · rw [if_neg hc] at h ⊢
      refine px_iload_n dX4_dayAt_27 rfl rfl ?_
      refine px_bipush (v := (30 : Int32)) dX4_dayAt_28 (by decide) ?_
      refine px_imul dX4_dayAt_30 ?_
      refine px_aload_n dX4_dayAt_31 rfl rfl ?_
      refine gf_X4_9 rfl dX4_dayAt_32 haN haK rfl (ly4_r0 haN haK) (ly4_lt1 haN haK) ?_
      refine px_iload_n dX4_dayAt_35 rfl rfl ?_
      obtain ⟨hi, h⟩ := h
      refine px_iaload (n := 120) dX4_dayAt_36 (ly4_lt1 haN haK) (ly4_k1 haN haK) (ly4_s1 haN haK) hi ?_
      refine px_iload_n dX4_dayAt_37 rfl rfl ?_
      refine px_callS_I (As := [.int (gi1 (a + 1) x3.toNatClampNeg), .int x2]) (st := [.int (x3 * (30 : Int32))]) dX4_dayAt_38 lk_X4_40.1 lk_X4_40.2 (by decide) rfl (Nat.le_of_ble_eq_true rfl) rfl rfl (Nat.le_of_ble_eq_true rfl) ⟨Nat.le_refl _, Nat.le_refl _, Nat.le_refl _⟩ ?_
      refine PAt.mono h (fun v κ gi5 gl6 hq => ?_)
      obtain ⟨rfl, r7, rfl, h⟩ := hq
      refine px_iadd dX4_dayAt_41 ?_
      exact px_ireturn dX4_dayAt_42 rfl ⟨.int, rfl, rfl, rfl⟩ ⟨rfl, _, rfl, h⟩
abbrev p_X4_runCount_4 (a : Nat) (x1 : Int32) (x2 : Int32) (gi : Gi) (gl : Gl) (Q : Int32 → Gi → Gl → Prop) : Prop := PAt mX4_runCount NN NN κF 4 [some (.ref a), some (.int x1), some (.int x2)] [] gi gl (RiQ Q)
def f_X4_runCount (a : Nat) (gi : Gi) (gl : Gl) (Q : Int32 → Gi → Gl → Prop) : Prop :=
p_X4_runCount_4 a (0 : Int32) (0 : Int32) gi gl Q
def f_X4_runCount_4 (a : Nat) (x1 : Int32) (x2 : Int32) (gi : Gi) (gl : Gl) (Q : Int32 → Gi → Gl → Prop) : Prop :=
if (120 : Int32) ≤ x2 then
(Q x1 gi gl)
else
(vp_in x2 120 ∧
p_J6_bitCount_0f7a4 (gi (a + 1) x2.toNatClampNeg) gi gl (fun (r3 : Int32) (gi1 : Gi) (gl2 : Gl) =>
vp_in (jr x2 (12 : Int32)) 12 ∧
∀ z4 : Int32, z4 = x1 + (r3 * (gi1 (a + 4) (jr x2 (12 : Int32)).toNatClampNeg)) →
p_X4_runCount_4 a z4 (x2 + (1 : Int32)) gi1 gl2 Q))
set_option maxRecDepth 100000 in
theorem v_X4_runCount {a : Nat} {gi : Gi} {gl : Gl} {Q : Int32 → Gi → Gl → Prop} (haN : a < NN) (haK : sK a = 4) (h : f_X4_runCount a gi gl Q) : p_X4_runCount a gi gl Q := by
  unfold f_X4_runCount at h
  show PAt mX4_runCount NN NN κF 0 [some (.ref a), none, none] [] gi gl _
  refine px_iconst (v := (0 : Int32)) dX4_runCount_0 (by decide) ?_
  refine px_istore_n (ls2 := [some (.ref a), some (.int (0 : Int32)), none]) (i := 1) rfl dX4_runCount_1 (by decide) rfl ?_
  refine px_iconst (v := (0 : Int32)) dX4_runCount_2 (by decide) ?_
  refine px_istore_n (ls2 := [some (.ref a), some (.int (0 : Int32)), some (.int (0 : Int32))]) (i := 2) rfl dX4_runCount_3 (by decide) rfl ?_
  exact PAt.forget h (lsub_at ⟨rfl, ⟨rfl, ⟨rfl, trivial⟩⟩⟩)
set_option maxRecDepth 100000 in
theorem v_X4_runCount_4 {a : Nat} {x1 : Int32} {x2 : Int32} {gi : Gi} {gl : Gl} {Q : Int32 → Gi → Gl → Prop} (haN : a < NN) (haK : sK a = 4) (h : f_X4_runCount_4 a x1 x2 gi gl Q) : p_X4_runCount_4 a x1 x2 gi gl Q := by
  unfold f_X4_runCount_4 at h
  show PAt mX4_runCount NN NN κF 4 [some (.ref a), some (.int x1), some (.int x2)] [] gi gl _
  refine px_iload_n dX4_runCount_4 rfl rfl ?_
  refine px_bipush (v := (120 : Int32)) dX4_runCount_5 (by decide) ?_
  refine px_icmp_ge (tgt := 38) dX4_runCount_7 (by decide) ?_
  by_cases hc : (120 : Int32) ≤ x2
  · rw [if_pos hc] at h ⊢
    refine px_iload_n dX4_runCount_38 rfl rfl ?_
    exact px_ireturn dX4_runCount_39 rfl ⟨.int, rfl, rfl, rfl⟩ ⟨rfl, _, rfl, h⟩
  · rw [if_neg hc] at h ⊢
    refine px_iload_n dX4_runCount_10 rfl rfl ?_
    refine px_aload_n dX4_runCount_11 rfl rfl ?_
    refine gf_X4_9 rfl dX4_runCount_12 haN haK rfl (ly4_r0 haN haK) (ly4_lt1 haN haK) ?_
    refine px_iload_n dX4_runCount_15 rfl rfl ?_
    obtain ⟨hi, h⟩ := h
    refine px_iaload (n := 120) dX4_runCount_16 (ly4_lt1 haN haK) (ly4_k1 haN haK) (ly4_s1 haN haK) hi ?_
    refine px_callS_I (As := [.int (gi (a + 1) x2.toNatClampNeg)]) (st := [.int x1]) dX4_runCount_17 lk_X4_34.1 lk_X4_34.2 (by decide) rfl (Nat.le_of_ble_eq_true rfl) rfl rfl (Nat.le_of_ble_eq_true rfl) ⟨Nat.le_refl _, Nat.le_refl _, Nat.le_refl _⟩ ?_
    refine PAt.mono h (fun v κ gi1 gl2 hq => ?_)
    obtain ⟨rfl, r3, rfl, h⟩ := hq
    refine px_aload_n dX4_runCount_20 rfl rfl ?_
    refine gf_X4_21 rfl dX4_runCount_21 haN haK rfl (ly4_r3 haN haK) (ly4_lt4 haN haK) ?_
    refine px_iload_n dX4_runCount_24 rfl rfl ?_
    refine px_bipush (v := (12 : Int32)) dX4_runCount_25 (by decide) ?_
    refine px_irem dX4_runCount_27 (by decide) ?_
    obtain ⟨hi, h⟩ := h
    refine px_iaload (n := 12) dX4_runCount_28 (ly4_lt4 haN haK) (ly4_k4 haN haK) (ly4_s4 haN haK) hi ?_
    refine px_imul dX4_runCount_29 ?_
    refine px_iadd dX4_runCount_30 ?_
    obtain ⟨z4, hz4⟩ : ∃ y : Int32, y = x1 + (r3 * (gi1 (a + 4) (jr x2 (12 : Int32)).toNatClampNeg)) := ⟨_, rfl⟩
    have h := h z4 hz4
    refine px_namei hz4 ?_
    refine px_istore_n (ls2 := [some (.ref a), some (.int z4), some (.int x2)]) (i := 1) rfl dX4_runCount_31 (by decide) rfl ?_
    refine px_iinc (v := x2 + (1 : Int32)) (ls2 := [some (.ref a), some (.int z4), some (.int (x2 + (1 : Int32)))]) dX4_runCount_32 rfl rfl (by decide) rfl ?_
    refine px_goto (tgt := 4) dX4_runCount_35 (by decide) ?_
    exact PAt.forget h (lsub_at ⟨rfl, ⟨rfl, ⟨rfl, trivial⟩⟩⟩)
abbrev p_X4_runAt_5 (a : Nat) (x2 : Int32) (x3 : Int32) (x4 : Int32) (gi : Gi) (gl : Gl) (Q : Int32 → Gi → Gl → Prop) : Prop := PAt mX4_runAt NN NN κF 5 [some (.ref a), none, some (.int x2), some (.int x3), some (.int x4), none, none, none] [] gi gl (RiQ Q)
def f_X4_runAt (a : Nat) (x1 : Int32) (x2 : Int32) (gi : Gi) (gl : Gl) (Q : Int32 → Gi → Gl → Prop) : Prop :=
p_X4_runAt_5 a x2 x1 (0 : Int32) gi gl Q
def f_X4_runAt_5 (a : Nat) (x2 : Int32) (x3 : Int32) (x4 : Int32) (gi : Gi) (gl : Gl) (Q : Int32 → Gi → Gl → Prop) : Prop :=
if (120 : Int32) ≤ x4 then
(Q ((-1) : Int32) gi gl)
else
(vp_in (jr x4 (12 : Int32)) 12 ∧
∀ z1 : Int32, z1 = gi (a + 4) (jr x4 (12 : Int32)).toNatClampNeg →
vp_in x4 120 ∧
p_J6_bitCount_0f7a4 (gi (a + 1) x4.toNatClampNeg) gi gl (fun (r4 : Int32) (gi2 : Gi) (gl3 : Gl) =>
∀ z5 : Int32, z5 = r4 * z1 →
if z5 ≤ x3 then
(∀ z6 : Int32, z6 = x3 - z5 →
p_X4_runAt_5 a x2 z6 (x4 + (1 : Int32)) gi2 gl3 Q)
else
(if z1 ≤ 0 then
(∀ z7 : Int32, z7 = x3 - z5 →
p_X4_runAt_5 a x2 z7 (x4 + (1 : Int32)) gi2 gl3 Q)
else
(¬ z1 = 0 ∧
p_X4_runStart a (jr x4 (12 : Int32)) (jr x3 z1) gi2 gl3 (fun (r10 : Int32) (gi8 : Gi) (gl9 : Gl) =>
if x2 = (0 : Int32) then
(vp_in x4 120 ∧
¬ z1 = 0 ∧
p_X4_placeOf (gi8 (a + 1) x4.toNatClampNeg) (x3 / z1) gi8 gl9 (fun (r13 : Int32) (gi11 : Gi) (gl12 : Gl) =>
Q ((x4 * (30 : Int32)) + r13) gi11 gl12))
else (
if x2 = (1 : Int32) then
(Q r10 gi8 gl9)
else (
if x2 = (2 : Int32) then
(p_X4_runEnd a (jr x4 (12 : Int32)) r10 gi8 gl9 (fun (r16 : Int32) (gi14 : Gi) (gl15 : Gl) =>
Q r16 gi14 gl15))
else (
Q ((-1) : Int32) gi8 gl9))))))))
set_option maxRecDepth 100000 in
theorem v_X4_runAt {a : Nat} {x1 : Int32} {x2 : Int32} {gi : Gi} {gl : Gl} {Q : Int32 → Gi → Gl → Prop} (haN : a < NN) (haK : sK a = 4) (h : f_X4_runAt a x1 x2 gi gl Q) : p_X4_runAt a x1 x2 gi gl Q := by
  unfold f_X4_runAt at h
  show PAt mX4_runAt NN NN κF 0 [some (.ref a), some (.int x1), some (.int x2), none, none, none, none, none] [] gi gl _
  refine px_iload_n dX4_runAt_0 rfl rfl ?_
  refine px_istore_n (ls2 := [some (.ref a), some (.int x1), some (.int x2), some (.int x1), none, none, none, none]) (i := 3) rfl dX4_runAt_1 (by decide) rfl ?_
  refine px_iconst (v := (0 : Int32)) dX4_runAt_2 (by decide) ?_
  refine px_istore (ls2 := [some (.ref a), some (.int x1), some (.int x2), some (.int x1), some (.int (0 : Int32)), none, none, none]) dX4_runAt_3 (by decide) rfl ?_
  exact PAt.forget h (lsub_at ⟨rfl, ⟨rfl, ⟨rfl, ⟨rfl, trivial⟩⟩⟩⟩)
set_option maxRecDepth 100000 in
theorem v_X4_runAt_5 {a : Nat} {x2 : Int32} {x3 : Int32} {x4 : Int32} {gi : Gi} {gl : Gl} {Q : Int32 → Gi → Gl → Prop} (haN : a < NN) (haK : sK a = 4) (h : f_X4_runAt_5 a x2 x3 x4 gi gl Q) : p_X4_runAt_5 a x2 x3 x4 gi gl Q := by
  unfold f_X4_runAt_5 at h
  show PAt mX4_runAt NN NN κF 5 [some (.ref a), none, some (.int x2), some (.int x3), some (.int x4), none, none, none] [] gi gl _
  refine px_iload dX4_runAt_5 rfl ?_
  refine px_bipush (v := (120 : Int32)) dX4_runAt_7 (by decide) ?_
  refine px_icmp_ge (tgt := 141) dX4_runAt_9 (by decide) ?_
  by_cases hc : (120 : Int32) ≤ x4
  · rw [if_pos hc] at h ⊢
    refine px_iconst (v := ((-1) : Int32)) dX4_runAt_141 (by decide) ?_
    exact px_ireturn dX4_runAt_142 rfl ⟨.int, rfl, rfl, rfl⟩ ⟨rfl, _, rfl, h⟩
  · rw [if_neg hc] at h ⊢
    refine px_aload_n dX4_runAt_12 rfl rfl ?_
    refine gf_X4_21 rfl dX4_runAt_13 haN haK rfl (ly4_r3 haN haK) (ly4_lt4 haN haK) ?_
    refine px_iload dX4_runAt_16 rfl ?_
    refine px_bipush (v := (12 : Int32)) dX4_runAt_18 (by decide) ?_
    refine px_irem dX4_runAt_20 (by decide) ?_
    obtain ⟨hi, h⟩ := h
    refine px_iaload (n := 12) dX4_runAt_21 (ly4_lt4 haN haK) (ly4_k4 haN haK) (ly4_s4 haN haK) hi ?_
    obtain ⟨z1, hz1⟩ : ∃ y : Int32, y = gi (a + 4) (jr x4 (12 : Int32)).toNatClampNeg := ⟨_, rfl⟩
    have h := h z1 hz1
    refine px_namei hz1 ?_
    refine px_istore (ls2 := [some (.ref a), none, some (.int x2), some (.int x3), some (.int x4), some (.int z1), none, none]) dX4_runAt_22 (by decide) rfl ?_
    refine px_aload_n dX4_runAt_24 rfl rfl ?_
    refine gf_X4_9 rfl dX4_runAt_25 haN haK rfl (ly4_r0 haN haK) (ly4_lt1 haN haK) ?_
    refine px_iload dX4_runAt_28 rfl ?_
    obtain ⟨hi, h⟩ := h
    refine px_iaload (n := 120) dX4_runAt_30 (ly4_lt1 haN haK) (ly4_k1 haN haK) (ly4_s1 haN haK) hi ?_
    refine px_callS_I (As := [.int (gi (a + 1) x4.toNatClampNeg)]) (st := []) dX4_runAt_31 lk_X4_34.1 lk_X4_34.2 (by decide) rfl (Nat.le_of_ble_eq_true rfl) rfl rfl (Nat.le_of_ble_eq_true rfl) ⟨Nat.le_refl _, Nat.le_refl _, Nat.le_refl _⟩ ?_
    refine PAt.mono h (fun v κ gi2 gl3 hq => ?_)
    obtain ⟨rfl, r4, rfl, h⟩ := hq
    refine px_iload dX4_runAt_34 rfl ?_
    refine px_imul dX4_runAt_36 ?_
    obtain ⟨z5, hz5⟩ : ∃ y : Int32, y = r4 * z1 := ⟨_, rfl⟩
    have h := h z5 hz5
    refine px_namei hz5 ?_
    refine px_istore (ls2 := [some (.ref a), none, some (.int x2), some (.int x3), some (.int x4), some (.int z1), some (.int z5), none]) dX4_runAt_37 (by decide) rfl ?_
    refine px_iload_n dX4_runAt_39 rfl rfl ?_
    refine px_iload dX4_runAt_40 rfl ?_
    refine px_icmp_ge (tgt := 130) dX4_runAt_42 (by decide) ?_
    by_cases hc : z5 ≤ x3
    · rw [if_pos hc] at h ⊢
      refine px_iload_n dX4_runAt_130 rfl rfl ?_
      refine px_iload dX4_runAt_131 rfl ?_
      refine px_isub dX4_runAt_133 ?_
      obtain ⟨z6, hz6⟩ : ∃ y : Int32, y = x3 - z5 := ⟨_, rfl⟩
      have h := h z6 hz6
      refine px_namei hz6 ?_
      refine px_istore_n (ls2 := [some (.ref a), none, some (.int x2), some (.int z6), some (.int x4), some (.int z1), some (.int z5), none]) (i := 3) rfl dX4_runAt_134 (by decide) rfl ?_
      refine px_iinc (v := x4 + (1 : Int32)) (ls2 := [some (.ref a), none, some (.int x2), some (.int z6), some (.int (x4 + (1 : Int32))), some (.int z1), some (.int z5), none]) dX4_runAt_135 rfl rfl (by decide) rfl ?_
      refine px_goto (tgt := 5) dX4_runAt_138 (by decide) ?_
      exact PAt.forget h (lsub_at ⟨rfl, ⟨rfl, ⟨rfl, ⟨rfl, trivial⟩⟩⟩⟩)
    · rw [if_neg hc] at h ⊢
      refine px_iload dX4_runAt_45 rfl ?_
      refine px_if_le (tgt := 130) dX4_runAt_47 (by decide) ?_
      by_cases hc : z1 ≤ 0
      · rw [if_pos hc] at h ⊢
        refine px_iload_n dX4_runAt_130 rfl rfl ?_
        refine px_iload dX4_runAt_131 rfl ?_
        refine px_isub dX4_runAt_133 ?_
        obtain ⟨z7, hz7⟩ : ∃ y : Int32, y = x3 - z5 := ⟨_, rfl⟩
        have h := h z7 hz7
        refine px_namei hz7 ?_
        refine px_istore_n (ls2 := [some (.ref a), none, some (.int x2), some (.int z7), some (.int x4), some (.int z1), some (.int z5), none]) (i := 3) rfl dX4_runAt_134 (by decide) rfl ?_
        refine px_iinc (v := x4 + (1 : Int32)) (ls2 := [some (.ref a), none, some (.int x2), some (.int z7), some (.int (x4 + (1 : Int32))), some (.int z1), some (.int z5), none]) dX4_runAt_135 rfl rfl (by decide) rfl ?_
        refine px_goto (tgt := 5) dX4_runAt_138 (by decide) ?_
        exact PAt.forget h (lsub_at ⟨rfl, ⟨rfl, ⟨rfl, ⟨rfl, trivial⟩⟩⟩⟩)
      · rw [if_neg hc] at h ⊢
        refine px_aload_n dX4_runAt_50 rfl rfl ?_
        refine px_iload dX4_runAt_51 rfl ?_
        refine px_bipush (v := (12 : Int32)) dX4_runAt_53 (by decide) ?_
        refine px_irem dX4_runAt_55 (by decide) ?_
        refine px_iload_n dX4_runAt_56 rfl rfl ?_
        refine px_iload dX4_runAt_57 rfl ?_
        obtain ⟨hne, h⟩ := h
        refine px_irem dX4_runAt_59 hne ?_
        refine px_callV_I (As := [.int (jr x4 (12 : Int32)), .int (jr x3 z1)]) (st := []) dX4_runAt_60 lk_X4_43.1 lk_X4_43.2 (b := a) haN haK (by decide) rfl (by decide) rfl (Nat.le_of_ble_eq_true rfl) rfl rfl (Nat.le_of_ble_eq_true rfl) ⟨Nat.le_refl _, Nat.le_refl _, Nat.le_refl _⟩ ?_
        refine PAt.mono h (fun v κ gi8 gl9 hq => ?_)
        obtain ⟨rfl, r10, rfl, h⟩ := hq
        refine px_istore (ls2 := [some (.ref a), none, some (.int x2), some (.int x3), some (.int x4), some (.int z1), some (.int z5), some (.int r10)]) dX4_runAt_63 (by decide) rfl ?_
        refine px_iload_n dX4_runAt_65 rfl rfl ?_
        by_cases hc0 : x2 = (0 : Int32)
        · rw [if_pos hc0] at h
          refine px_tblIn (tgt := 92) (off := 26) dX4_runAt_66 (by rw [hc0]; decide) (by rw [hc0]; decide) (by rw [hc0]; decide) (by decide) ?_
          refine px_iload dX4_runAt_92 rfl ?_
          refine px_bipush (v := (30 : Int32)) dX4_runAt_94 (by decide) ?_
          refine px_imul dX4_runAt_96 ?_
          refine px_aload_n dX4_runAt_97 rfl rfl ?_
          refine gf_X4_9 rfl dX4_runAt_98 haN haK rfl (ly4_r0 haN haK) (ly4_lt1 haN haK) ?_
          refine px_iload dX4_runAt_101 rfl ?_
          obtain ⟨hi, h⟩ := h
          refine px_iaload (n := 120) dX4_runAt_103 (ly4_lt1 haN haK) (ly4_k1 haN haK) (ly4_s1 haN haK) hi ?_
          refine px_iload_n dX4_runAt_104 rfl rfl ?_
          refine px_iload dX4_runAt_105 rfl ?_
          obtain ⟨hne, h⟩ := h
          refine px_idiv dX4_runAt_107 hne ?_
          refine px_callS_I (As := [.int (gi8 (a + 1) x4.toNatClampNeg), .int (x3 / z1)]) (st := [.int (x4 * (30 : Int32))]) dX4_runAt_108 lk_X4_40.1 lk_X4_40.2 (by decide) rfl (Nat.le_of_ble_eq_true rfl) rfl rfl (Nat.le_of_ble_eq_true rfl) ⟨Nat.le_refl _, Nat.le_refl _, Nat.le_refl _⟩ ?_
          refine PAt.mono h (fun v κ gi11 gl12 hq => ?_)
          obtain ⟨rfl, r13, rfl, h⟩ := hq
          refine px_iadd dX4_runAt_111 ?_
          exact px_ireturn dX4_runAt_112 rfl ⟨.int, rfl, rfl, rfl⟩ ⟨rfl, _, rfl, h⟩
        · rw [if_neg hc0] at h
          by_cases hc1 : x2 = (1 : Int32)
          · rw [if_pos hc1] at h
            refine px_tblIn (tgt := 113) (off := 47) dX4_runAt_66 (by rw [hc1]; decide) (by rw [hc1]; decide) (by rw [hc1]; decide) (by decide) ?_
            refine px_iload dX4_runAt_113 rfl ?_
            exact px_ireturn dX4_runAt_115 rfl ⟨.int, rfl, rfl, rfl⟩ ⟨rfl, _, rfl, h⟩
          · rw [if_neg hc1] at h
            by_cases hc2 : x2 = (2 : Int32)
            · rw [if_pos hc2] at h
              refine px_tblIn (tgt := 116) (off := 50) dX4_runAt_66 (by rw [hc2]; decide) (by rw [hc2]; decide) (by rw [hc2]; decide) (by decide) ?_
              refine px_aload_n dX4_runAt_116 rfl rfl ?_
              refine px_iload dX4_runAt_117 rfl ?_
              refine px_bipush (v := (12 : Int32)) dX4_runAt_119 (by decide) ?_
              refine px_irem dX4_runAt_121 (by decide) ?_
              refine px_iload dX4_runAt_122 rfl ?_
              refine px_callV_I (As := [.int (jr x4 (12 : Int32)), .int r10]) (st := []) dX4_runAt_124 lk_X4_46.1 lk_X4_46.2 (b := a) haN haK (by decide) rfl (by decide) rfl (Nat.le_of_ble_eq_true rfl) rfl rfl (Nat.le_of_ble_eq_true rfl) ⟨Nat.le_refl _, Nat.le_refl _, Nat.le_refl _⟩ ?_
              refine PAt.mono h (fun v κ gi14 gl15 hq => ?_)
              obtain ⟨rfl, r16, rfl, h⟩ := hq
              exact px_ireturn dX4_runAt_127 rfl ⟨.int, rfl, rfl, rfl⟩ ⟨rfl, _, rfl, h⟩
            · rw [if_neg hc2] at h
              refine px_tblOut (tgt := 128) dX4_runAt_66 (tbl_out3 hc0 hc1 hc2) (by decide) ?_
              refine px_iconst (v := ((-1) : Int32)) dX4_runAt_128 (by decide) ?_
              exact px_ireturn dX4_runAt_129 rfl ⟨.int, rfl, rfl, rfl⟩ ⟨rfl, _, rfl, h⟩
abbrev p_X4_pairsIn_10 (a : Nat) (p : Nat) (x1 : Int32) (x3 : Int32) (x4 : Int32) (x5 : Int32) (x6 : Int32) (gi : Gi) (gl : Gl) (Q : Int32 → Gi → Gl → Prop) : Prop := PAt mX4_pairsIn NN NN κF 10 [some (.ref a), some (.int x1), some (.ref p), some (.int x3), some (.int x4), some (.int x5), some (.int x6), none] [] gi gl (RiQ Q)
abbrev p_X4_pairsIn_47 (a : Nat) (p : Nat) (x1 : Int32) (x3 : Int32) (x4 : Int32) (x5 : Int32) (x6 : Int32) (x7 : Int32) (gi : Gi) (gl : Gl) (Q : Int32 → Gi → Gl → Prop) : Prop := PAt mX4_pairsIn NN NN κF 47 [some (.ref a), some (.int x1), some (.ref p), some (.int x3), some (.int x4), some (.int x5), some (.int x6), some (.int x7)] [] gi gl (RiQ Q)
def f_X4_pairsIn (a : Nat) (x1 : Int32) (p : Nat) (x3 : Int32) (x4 : Int32) (gi : Gi) (gl : Gl) (Q : Int32 → Gi → Gl → Prop) : Prop :=
∀ z1 : Int32, z1 = jmax x3 (0 : Int32) →
p_X4_pairsIn_10 a p x1 x3 x4 (0 : Int32) z1 gi gl Q
def f_X4_pairsIn_10 (a : Nat) (p : Nat) (x1 : Int32) (x3 : Int32) (x4 : Int32) (x5 : Int32) (x6 : Int32) (gi : Gi) (gl : Gl) (Q : Int32 → Gi → Gl → Prop) : Prop :=
if (jmin x4 (719 : Int32)) < x6 then
(p_X4_pairsIn_47 a p x1 x3 x4 x5 (0 : Int32) (0 : Int32) gi gl Q)
else
(p_X4_bitAt p x1 x6 gi gl (fun (r3 : Int32) (gi1 : Gi) (gl2 : Gl) =>
∀ z4 : Int32, z4 = x5 + r3 →
p_X4_pairsIn_10 a p x1 x3 x4 z4 (x6 + (1 : Int32)) gi1 gl2 Q))
def f_X4_pairsIn_47 (a : Nat) (p : Nat) (x1 : Int32) (x3 : Int32) (x4 : Int32) (x5 : Int32) (x6 : Int32) (x7 : Int32) (gi : Gi) (gl : Gl) (Q : Int32 → Gi → Gl → Prop) : Prop :=
if (719 : Int32) < x7 then
(Q x6 gi gl)
else
(p_X4_bitAt a x1 x7 gi gl (fun (r3 : Int32) (gi1 : Gi) (gl2 : Gl) =>
∀ z4 : Int32, z4 = x6 + (r3 * x5) →
p_X4_bitAt p x1 ((x7 + (1 : Int32)) + x4) gi1 gl2 (fun (r7 : Int32) (gi5 : Gi) (gl6 : Gl) =>
p_X4_bitAt p x1 (x7 + x3) gi5 gl6 (fun (r10 : Int32) (gi8 : Gi) (gl9 : Gl) =>
∀ z11 : Int32, z11 = x5 + (r7 - r10) →
p_X4_pairsIn_47 a p x1 x3 x4 z11 z4 (x7 + (1 : Int32)) gi8 gl9 Q))))
set_option maxRecDepth 100000 in
theorem v_X4_pairsIn {a : Nat} {x1 : Int32} {p : Nat} {x3 : Int32} {x4 : Int32} {gi : Gi} {gl : Gl} {Q : Int32 → Gi → Gl → Prop} (haN : a < NN) (haK : sK a = 4) (hpN : p < NN) (hpK : sK p = 4) (h : f_X4_pairsIn a x1 p x3 x4 gi gl Q) : p_X4_pairsIn a x1 p x3 x4 gi gl Q := by
  unfold f_X4_pairsIn at h
  show PAt mX4_pairsIn NN NN κF 0 [some (.ref a), some (.int x1), some (.ref p), some (.int x3), some (.int x4), none, none, none] [] gi gl _
  refine px_iconst (v := (0 : Int32)) dX4_pairsIn_0 (by decide) ?_
  refine px_istore (ls2 := [some (.ref a), some (.int x1), some (.ref p), some (.int x3), some (.int x4), some (.int (0 : Int32)), none, none]) dX4_pairsIn_1 (by decide) rfl ?_
  refine px_iload_n dX4_pairsIn_3 rfl rfl ?_
  refine px_iconst (v := (0 : Int32)) dX4_pairsIn_4 (by decide) ?_
  refine px_mmax dX4_pairsIn_5 w_1039 w_439 w_112 w_440 (by decide) (Nat.le_of_ble_eq_true rfl) ⟨Nat.le_refl _, Nat.le_refl _⟩ ?_
  obtain ⟨z1, hz1⟩ : ∃ y : Int32, y = jmax x3 (0 : Int32) := ⟨_, rfl⟩
  have h := h z1 hz1
  refine px_namei hz1 ?_
  refine px_istore (ls2 := [some (.ref a), some (.int x1), some (.ref p), some (.int x3), some (.int x4), some (.int (0 : Int32)), some (.int z1), none]) dX4_pairsIn_8 (by decide) rfl ?_
  exact PAt.forget h (lsub_at ⟨rfl, ⟨rfl, ⟨rfl, ⟨rfl, ⟨rfl, ⟨rfl, ⟨rfl, trivial⟩⟩⟩⟩⟩⟩⟩)
set_option maxRecDepth 100000 in
theorem v_X4_pairsIn_10 {a : Nat} {p : Nat} {x1 : Int32} {x3 : Int32} {x4 : Int32} {x5 : Int32} {x6 : Int32} {gi : Gi} {gl : Gl} {Q : Int32 → Gi → Gl → Prop} (haN : a < NN) (haK : sK a = 4) (hpN : p < NN) (hpK : sK p = 4) (h : f_X4_pairsIn_10 a p x1 x3 x4 x5 x6 gi gl Q) : p_X4_pairsIn_10 a p x1 x3 x4 x5 x6 gi gl Q := by
  unfold f_X4_pairsIn_10 at h
  show PAt mX4_pairsIn NN NN κF 10 [some (.ref a), some (.int x1), some (.ref p), some (.int x3), some (.int x4), some (.int x5), some (.int x6), none] [] gi gl _
  refine px_iload dX4_pairsIn_10 rfl ?_
  refine px_iload dX4_pairsIn_12 rfl ?_
  refine px_sipush (v := (719 : Int32)) dX4_pairsIn_14 (by decide) ?_
  refine px_mmin dX4_pairsIn_17 w_1040 w_436 w_112 w_437 (by decide) (Nat.le_of_ble_eq_true rfl) ⟨Nat.le_refl _, Nat.le_refl _⟩ ?_
  refine px_icmp_gt (tgt := 41) dX4_pairsIn_20 (by decide) ?_
  by_cases hc : (jmin x4 (719 : Int32)) < x6
  · rw [if_pos hc] at h ⊢
    refine px_iconst (v := (0 : Int32)) dX4_pairsIn_41 (by decide) ?_
    refine px_istore (ls2 := [some (.ref a), some (.int x1), some (.ref p), some (.int x3), some (.int x4), some (.int x5), some (.int (0 : Int32)), none]) dX4_pairsIn_42 (by decide) rfl ?_
    refine px_iconst (v := (0 : Int32)) dX4_pairsIn_44 (by decide) ?_
    refine px_istore (ls2 := [some (.ref a), some (.int x1), some (.ref p), some (.int x3), some (.int x4), some (.int x5), some (.int (0 : Int32)), some (.int (0 : Int32))]) dX4_pairsIn_45 (by decide) rfl ?_
    exact PAt.forget h (lsub_at ⟨rfl, ⟨rfl, ⟨rfl, ⟨rfl, ⟨rfl, ⟨rfl, ⟨rfl, ⟨rfl, trivial⟩⟩⟩⟩⟩⟩⟩⟩)
  · rw [if_neg hc] at h ⊢
    refine px_iload dX4_pairsIn_23 rfl ?_
    refine px_aload_n dX4_pairsIn_25 rfl rfl ?_
    refine px_iload_n dX4_pairsIn_26 rfl rfl ?_
    refine px_iload dX4_pairsIn_27 rfl ?_
    refine px_callV_I (As := [.int x1, .int x6]) (st := [.int x5]) dX4_pairsIn_29 lk_X4_57.1 lk_X4_57.2 (b := p) hpN hpK (by decide) rfl (by decide) rfl (Nat.le_of_ble_eq_true rfl) rfl rfl (Nat.le_of_ble_eq_true rfl) ⟨Nat.le_refl _, Nat.le_refl _, Nat.le_refl _⟩ ?_
    refine PAt.mono h (fun v κ gi1 gl2 hq => ?_)
    obtain ⟨rfl, r3, rfl, h⟩ := hq
    refine px_iadd dX4_pairsIn_32 ?_
    obtain ⟨z4, hz4⟩ : ∃ y : Int32, y = x5 + r3 := ⟨_, rfl⟩
    have h := h z4 hz4
    refine px_namei hz4 ?_
    refine px_istore (ls2 := [some (.ref a), some (.int x1), some (.ref p), some (.int x3), some (.int x4), some (.int z4), some (.int x6), none]) dX4_pairsIn_33 (by decide) rfl ?_
    refine px_iinc (v := x6 + (1 : Int32)) (ls2 := [some (.ref a), some (.int x1), some (.ref p), some (.int x3), some (.int x4), some (.int z4), some (.int (x6 + (1 : Int32))), none]) dX4_pairsIn_35 rfl rfl (by decide) rfl ?_
    refine px_goto (tgt := 10) dX4_pairsIn_38 (by decide) ?_
    exact PAt.forget h (lsub_at ⟨rfl, ⟨rfl, ⟨rfl, ⟨rfl, ⟨rfl, ⟨rfl, ⟨rfl, trivial⟩⟩⟩⟩⟩⟩⟩)
set_option maxRecDepth 100000 in
theorem v_X4_pairsIn_47 {a : Nat} {p : Nat} {x1 : Int32} {x3 : Int32} {x4 : Int32} {x5 : Int32} {x6 : Int32} {x7 : Int32} {gi : Gi} {gl : Gl} {Q : Int32 → Gi → Gl → Prop} (haN : a < NN) (haK : sK a = 4) (hpN : p < NN) (hpK : sK p = 4) (h : f_X4_pairsIn_47 a p x1 x3 x4 x5 x6 x7 gi gl Q) : p_X4_pairsIn_47 a p x1 x3 x4 x5 x6 x7 gi gl Q := by
  unfold f_X4_pairsIn_47 at h
  show PAt mX4_pairsIn NN NN κF 47 [some (.ref a), some (.int x1), some (.ref p), some (.int x3), some (.int x4), some (.int x5), some (.int x6), some (.int x7)] [] gi gl _
  refine px_iload dX4_pairsIn_47 rfl ?_
  refine px_sipush (v := (719 : Int32)) dX4_pairsIn_49 (by decide) ?_
  refine px_icmp_gt (tgt := 103) dX4_pairsIn_52 (by decide) ?_
  by_cases hc : (719 : Int32) < x7
  · rw [if_pos hc] at h ⊢
    refine px_iload dX4_pairsIn_103 rfl ?_
    exact px_ireturn dX4_pairsIn_105 rfl ⟨.int, rfl, rfl, rfl⟩ ⟨rfl, _, rfl, h⟩
  · rw [if_neg hc] at h ⊢
    refine px_iload dX4_pairsIn_55 rfl ?_
    refine px_aload_n dX4_pairsIn_57 rfl rfl ?_
    refine px_iload_n dX4_pairsIn_58 rfl rfl ?_
    refine px_iload dX4_pairsIn_59 rfl ?_
    refine px_callV_I (As := [.int x1, .int x7]) (st := [.int x6]) dX4_pairsIn_61 lk_X4_57.1 lk_X4_57.2 (b := a) haN haK (by decide) rfl (by decide) rfl (Nat.le_of_ble_eq_true rfl) rfl rfl (Nat.le_of_ble_eq_true rfl) ⟨Nat.le_refl _, Nat.le_refl _, Nat.le_refl _⟩ ?_
    refine PAt.mono h (fun v κ gi1 gl2 hq => ?_)
    obtain ⟨rfl, r3, rfl, h⟩ := hq
    refine px_iload dX4_pairsIn_64 rfl ?_
    refine px_imul dX4_pairsIn_66 ?_
    refine px_iadd dX4_pairsIn_67 ?_
    obtain ⟨z4, hz4⟩ : ∃ y : Int32, y = x6 + (r3 * x5) := ⟨_, rfl⟩
    have h := h z4 hz4
    refine px_namei hz4 ?_
    refine px_istore (ls2 := [some (.ref a), some (.int x1), some (.ref p), some (.int x3), some (.int x4), some (.int x5), some (.int z4), some (.int x7)]) dX4_pairsIn_68 (by decide) rfl ?_
    refine px_iload dX4_pairsIn_70 rfl ?_
    refine px_aload_n dX4_pairsIn_72 rfl rfl ?_
    refine px_iload_n dX4_pairsIn_73 rfl rfl ?_
    refine px_iload dX4_pairsIn_74 rfl ?_
    refine px_iconst (v := (1 : Int32)) dX4_pairsIn_76 (by decide) ?_
    refine px_iadd dX4_pairsIn_77 ?_
    refine px_iload dX4_pairsIn_78 rfl ?_
    refine px_iadd dX4_pairsIn_80 ?_
    refine px_callV_I (As := [.int x1, .int ((x7 + (1 : Int32)) + x4)]) (st := [.int x5]) dX4_pairsIn_81 lk_X4_57.1 lk_X4_57.2 (b := p) hpN hpK (by decide) rfl (by decide) rfl (Nat.le_of_ble_eq_true rfl) rfl rfl (Nat.le_of_ble_eq_true rfl) ⟨Nat.le_refl _, Nat.le_refl _, Nat.le_refl _⟩ ?_
    refine PAt.mono h (fun v κ gi5 gl6 hq => ?_)
    obtain ⟨rfl, r7, rfl, h⟩ := hq
    refine px_aload_n dX4_pairsIn_84 rfl rfl ?_
    refine px_iload_n dX4_pairsIn_85 rfl rfl ?_
    refine px_iload dX4_pairsIn_86 rfl ?_
    refine px_iload_n dX4_pairsIn_88 rfl rfl ?_
    refine px_iadd dX4_pairsIn_89 ?_
    refine px_callV_I (As := [.int x1, .int (x7 + x3)]) (st := [.int r7, .int x5]) dX4_pairsIn_90 lk_X4_57.1 lk_X4_57.2 (b := p) hpN hpK (by decide) rfl (by decide) rfl (Nat.le_of_ble_eq_true rfl) rfl rfl (Nat.le_of_ble_eq_true rfl) ⟨Nat.le_refl _, Nat.le_refl _, Nat.le_refl _⟩ ?_
    refine PAt.mono h (fun v κ gi8 gl9 hq => ?_)
    obtain ⟨rfl, r10, rfl, h⟩ := hq
    refine px_isub dX4_pairsIn_93 ?_
    refine px_iadd dX4_pairsIn_94 ?_
    obtain ⟨z11, hz11⟩ : ∃ y : Int32, y = x5 + (r7 - r10) := ⟨_, rfl⟩
    have h := h z11 hz11
    refine px_namei hz11 ?_
    refine px_istore (ls2 := [some (.ref a), some (.int x1), some (.ref p), some (.int x3), some (.int x4), some (.int z11), some (.int z4), some (.int x7)]) dX4_pairsIn_95 (by decide) rfl ?_
    refine px_iinc (v := x7 + (1 : Int32)) (ls2 := [some (.ref a), some (.int x1), some (.ref p), some (.int x3), some (.int x4), some (.int z11), some (.int z4), some (.int (x7 + (1 : Int32)))]) dX4_pairsIn_97 rfl rfl (by decide) rfl ?_
    refine px_goto (tgt := 47) dX4_pairsIn_100 (by decide) ?_
    exact PAt.forget h (lsub_at ⟨rfl, ⟨rfl, ⟨rfl, ⟨rfl, ⟨rfl, ⟨rfl, ⟨rfl, ⟨rfl, trivial⟩⟩⟩⟩⟩⟩⟩⟩)
def f_X4_bitAt (a : Nat) (x1 : Int32) (x2 : Int32) (gi : Gi) (gl : Gl) (Q : Int32 → Gi → Gl → Prop) : Prop :=
if 0 ≤ x2 then
(p_X4_minuteRow a x1 (x2 / (30 : Int32)) gi gl (fun (r3 : Int32) (gi1 : Gi) (gl2 : Gl) =>
Q ((ja r3 (jr x2 (30 : Int32))) &&& (1 : Int32)) gi1 gl2))
else
(Q (0 : Int32) gi gl)
set_option maxRecDepth 100000 in
theorem v_X4_bitAt {a : Nat} {x1 : Int32} {x2 : Int32} {gi : Gi} {gl : Gl} {Q : Int32 → Gi → Gl → Prop} (haN : a < NN) (haK : sK a = 4) (h : f_X4_bitAt a x1 x2 gi gl Q) : p_X4_bitAt a x1 x2 gi gl Q := by
  unfold f_X4_bitAt at h
  show PAt mX4_bitAt NN NN κF 0 [some (.ref a), some (.int x1), some (.int x2)] [] gi gl _
  refine px_iload_n dX4_bitAt_0 rfl rfl ?_
  refine px_if_ge (tgt := 8) dX4_bitAt_1 (by decide) ?_
  by_cases hc : 0 ≤ x2
  · rw [if_pos hc] at h ⊢
    refine px_aload_n dX4_bitAt_8 rfl rfl ?_
    refine px_iload_n dX4_bitAt_9 rfl rfl ?_
    refine px_iload_n dX4_bitAt_10 rfl rfl ?_
    refine px_bipush (v := (30 : Int32)) dX4_bitAt_11 (by decide) ?_
    refine px_idiv dX4_bitAt_13 (by decide) ?_
    refine px_callV_I (As := [.int x1, .int (x2 / (30 : Int32))]) (st := []) dX4_bitAt_14 lk_X4_30.1 lk_X4_30.2 (b := a) haN haK (by decide) rfl (by decide) rfl (Nat.le_of_ble_eq_true rfl) rfl rfl (Nat.le_of_ble_eq_true rfl) ⟨Nat.le_refl _, Nat.le_refl _, Nat.le_refl _⟩ ?_
    refine PAt.mono h (fun v κ gi1 gl2 hq => ?_)
    obtain ⟨rfl, r3, rfl, h⟩ := hq
    refine px_iload_n dX4_bitAt_17 rfl rfl ?_
    refine px_bipush (v := (30 : Int32)) dX4_bitAt_18 (by decide) ?_
    refine px_irem dX4_bitAt_20 (by decide) ?_
    refine px_ishr dX4_bitAt_21 ?_
    refine px_iconst (v := (1 : Int32)) dX4_bitAt_22 (by decide) ?_
    refine px_iand dX4_bitAt_23 ?_
    exact px_ireturn dX4_bitAt_24 rfl ⟨.int, rfl, rfl, rfl⟩ ⟨rfl, _, rfl, h⟩
  · rw [if_neg hc] at h ⊢
    refine px_iconst (v := (0 : Int32)) dX4_bitAt_4 (by decide) ?_
    refine px_goto (tgt := 24) dX4_bitAt_5 (by decide) ?_
    exact px_ireturn dX4_bitAt_24 rfl ⟨.int, rfl, rfl, rfl⟩ ⟨rfl, _, rfl, h⟩
abbrev p_X4_runStart_5 (a : Nat) (x1 : Int32) (x3 : Int32) (x4 : Int32) (gi : Gi) (gl : Gl) (Q : Int32 → Gi → Gl → Prop) : Prop := PAt mX4_runStart NN NN κF 5 [some (.ref a), some (.int x1), none, some (.int x3), some (.int x4)] [] gi gl (RiQ Q)
def f_X4_runStart (a : Nat) (x1 : Int32) (x2 : Int32) (gi : Gi) (gl : Gl) (Q : Int32 → Gi → Gl → Prop) : Prop :=
p_X4_runStart_5 a x1 x2 (0 : Int32) gi gl Q
def f_X4_runStart_5 (a : Nat) (x1 : Int32) (x3 : Int32) (x4 : Int32) (gi : Gi) (gl : Gl) (Q : Int32 → Gi → Gl → Prop) : Prop :=
if (719 : Int32) < x4 then
(Q ((-1) : Int32) gi gl)
else
(p_X4_bitAt a x1 x4 gi gl (fun (r3 : Int32) (gi1 : Gi) (gl2 : Gl) =>
if ¬ r3 = (1 : Int32) then
(p_X4_runStart_5 a x1 x3 (x4 + (1 : Int32)) gi1 gl2 Q)
else
(p_X4_bitAt a x1 (x4 - (1 : Int32)) gi1 gl2 (fun (r6 : Int32) (gi4 : Gi) (gl5 : Gl) =>
if ¬ r6 = 0 then
(p_X4_runStart_5 a x1 x3 (x4 + (1 : Int32)) gi4 gl5 Q)
else
(if ¬ x3 = 0 then
(p_X4_runStart_5 a x1 (x3 + ((-1) : Int32)) (x4 + (1 : Int32)) gi4 gl5 Q)
else
(Q x4 gi4 gl5))))))
set_option maxRecDepth 100000 in
theorem v_X4_runStart {a : Nat} {x1 : Int32} {x2 : Int32} {gi : Gi} {gl : Gl} {Q : Int32 → Gi → Gl → Prop} (haN : a < NN) (haK : sK a = 4) (h : f_X4_runStart a x1 x2 gi gl Q) : p_X4_runStart a x1 x2 gi gl Q := by
  unfold f_X4_runStart at h
  show PAt mX4_runStart NN NN κF 0 [some (.ref a), some (.int x1), some (.int x2), none, none] [] gi gl _
  refine px_iload_n dX4_runStart_0 rfl rfl ?_
  refine px_istore_n (ls2 := [some (.ref a), some (.int x1), some (.int x2), some (.int x2), none]) (i := 3) rfl dX4_runStart_1 (by decide) rfl ?_
  refine px_iconst (v := (0 : Int32)) dX4_runStart_2 (by decide) ?_
  refine px_istore (ls2 := [some (.ref a), some (.int x1), some (.int x2), some (.int x2), some (.int (0 : Int32))]) dX4_runStart_3 (by decide) rfl ?_
  exact PAt.forget h (lsub_at ⟨rfl, ⟨rfl, ⟨rfl, ⟨rfl, trivial⟩⟩⟩⟩)
set_option maxRecDepth 100000 in
theorem v_X4_runStart_5 {a : Nat} {x1 : Int32} {x3 : Int32} {x4 : Int32} {gi : Gi} {gl : Gl} {Q : Int32 → Gi → Gl → Prop} (haN : a < NN) (haK : sK a = 4) (h : f_X4_runStart_5 a x1 x3 x4 gi gl Q) : p_X4_runStart_5 a x1 x3 x4 gi gl Q := by
  unfold f_X4_runStart_5 at h
  show PAt mX4_runStart NN NN κF 5 [some (.ref a), some (.int x1), none, some (.int x3), some (.int x4)] [] gi gl _
  refine px_iload dX4_runStart_5 rfl ?_
  refine px_sipush (v := (719 : Int32)) dX4_runStart_7 (by decide) ?_
  refine px_icmp_gt (tgt := 52) dX4_runStart_10 (by decide) ?_
  by_cases hc : (719 : Int32) < x4
  · rw [if_pos hc] at h ⊢
    refine px_iconst (v := ((-1) : Int32)) dX4_runStart_52 (by decide) ?_
    exact px_ireturn dX4_runStart_53 rfl ⟨.int, rfl, rfl, rfl⟩ ⟨rfl, _, rfl, h⟩
  · rw [if_neg hc] at h ⊢
    refine px_aload_n dX4_runStart_13 rfl rfl ?_
    refine px_iload_n dX4_runStart_14 rfl rfl ?_
    refine px_iload dX4_runStart_15 rfl ?_
    refine px_callV_I (As := [.int x1, .int x4]) (st := []) dX4_runStart_17 lk_X4_57.1 lk_X4_57.2 (b := a) haN haK (by decide) rfl (by decide) rfl (Nat.le_of_ble_eq_true rfl) rfl rfl (Nat.le_of_ble_eq_true rfl) ⟨Nat.le_refl _, Nat.le_refl _, Nat.le_refl _⟩ ?_
    refine PAt.mono h (fun v κ gi1 gl2 hq => ?_)
    obtain ⟨rfl, r3, rfl, h⟩ := hq
    refine px_iconst (v := (1 : Int32)) dX4_runStart_20 (by decide) ?_
    refine px_icmp_ne (tgt := 46) dX4_runStart_21 (by decide) ?_
    by_cases hc : ¬ r3 = (1 : Int32)
    · rw [if_pos hc] at h ⊢
      refine px_iinc (v := x4 + (1 : Int32)) (ls2 := [some (.ref a), some (.int x1), none, some (.int x3), some (.int (x4 + (1 : Int32)))]) dX4_runStart_46 rfl rfl (by decide) rfl ?_
      refine px_goto (tgt := 5) dX4_runStart_49 (by decide) ?_
      exact PAt.forget h (lsub_at ⟨rfl, ⟨rfl, ⟨rfl, ⟨rfl, trivial⟩⟩⟩⟩)
    · rw [if_neg hc] at h ⊢
      refine px_aload_n dX4_runStart_24 rfl rfl ?_
      refine px_iload_n dX4_runStart_25 rfl rfl ?_
      refine px_iload dX4_runStart_26 rfl ?_
      refine px_iconst (v := (1 : Int32)) dX4_runStart_28 (by decide) ?_
      refine px_isub dX4_runStart_29 ?_
      refine px_callV_I (As := [.int x1, .int (x4 - (1 : Int32))]) (st := []) dX4_runStart_30 lk_X4_57.1 lk_X4_57.2 (b := a) haN haK (by decide) rfl (by decide) rfl (Nat.le_of_ble_eq_true rfl) rfl rfl (Nat.le_of_ble_eq_true rfl) ⟨Nat.le_refl _, Nat.le_refl _, Nat.le_refl _⟩ ?_
      refine PAt.mono h (fun v κ gi4 gl5 hq => ?_)
      obtain ⟨rfl, r6, rfl, h⟩ := hq
      refine px_if_ne (tgt := 46) dX4_runStart_33 (by decide) ?_
      by_cases hc : ¬ r6 = 0
      · rw [if_pos hc] at h ⊢
        refine px_iinc (v := x4 + (1 : Int32)) (ls2 := [some (.ref a), some (.int x1), none, some (.int x3), some (.int (x4 + (1 : Int32)))]) dX4_runStart_46 rfl rfl (by decide) rfl ?_
        refine px_goto (tgt := 5) dX4_runStart_49 (by decide) ?_
        exact PAt.forget h (lsub_at ⟨rfl, ⟨rfl, ⟨rfl, ⟨rfl, trivial⟩⟩⟩⟩)
      · rw [if_neg hc] at h ⊢
        refine px_iload_n dX4_runStart_36 rfl rfl ?_
        refine px_if_ne (tgt := 43) dX4_runStart_37 (by decide) ?_
        by_cases hc : ¬ x3 = 0
        · rw [if_pos hc] at h ⊢
          refine px_iinc (v := x3 + ((-1) : Int32)) (ls2 := [some (.ref a), some (.int x1), none, some (.int (x3 + ((-1) : Int32))), some (.int x4)]) dX4_runStart_43 rfl rfl (by decide) rfl ?_
          refine px_iinc (v := x4 + (1 : Int32)) (ls2 := [some (.ref a), some (.int x1), none, some (.int (x3 + ((-1) : Int32))), some (.int (x4 + (1 : Int32)))]) dX4_runStart_46 rfl rfl (by decide) rfl ?_
          refine px_goto (tgt := 5) dX4_runStart_49 (by decide) ?_
          exact PAt.forget h (lsub_at ⟨rfl, ⟨rfl, ⟨rfl, ⟨rfl, trivial⟩⟩⟩⟩)
        · rw [if_neg hc] at h ⊢
          refine px_iload dX4_runStart_40 rfl ?_
          exact px_ireturn dX4_runStart_42 rfl ⟨.int, rfl, rfl, rfl⟩ ⟨rfl, _, rfl, h⟩
abbrev p_X4_runEnd_2 (a : Nat) (x1 : Int32) (x3 : Int32) (gi : Gi) (gl : Gl) (Q : Int32 → Gi → Gl → Prop) : Prop := PAt mX4_runEnd NN NN κF 2 [some (.ref a), some (.int x1), none, some (.int x3)] [] gi gl (RiQ Q)
def f_X4_runEnd (a : Nat) (x1 : Int32) (x2 : Int32) (gi : Gi) (gl : Gl) (Q : Int32 → Gi → Gl → Prop) : Prop :=
p_X4_runEnd_2 a x1 x2 gi gl Q
def f_X4_runEnd_2 (a : Nat) (x1 : Int32) (x3 : Int32) (gi : Gi) (gl : Gl) (Q : Int32 → Gi → Gl → Prop) : Prop :=
if (719 : Int32) ≤ x3 then
(Q x3 gi gl)
else
(p_X4_bitAt a x1 (x3 + (1 : Int32)) gi gl (fun (r3 : Int32) (gi1 : Gi) (gl2 : Gl) =>
if ¬ r3 = (1 : Int32) then
(Q x3 gi1 gl2)
else
(p_X4_runEnd_2 a x1 (x3 + (1 : Int32)) gi1 gl2 Q)))
set_option maxRecDepth 100000 in
theorem v_X4_runEnd {a : Nat} {x1 : Int32} {x2 : Int32} {gi : Gi} {gl : Gl} {Q : Int32 → Gi → Gl → Prop} (haN : a < NN) (haK : sK a = 4) (h : f_X4_runEnd a x1 x2 gi gl Q) : p_X4_runEnd a x1 x2 gi gl Q := by
  unfold f_X4_runEnd at h
  show PAt mX4_runEnd NN NN κF 0 [some (.ref a), some (.int x1), some (.int x2), none] [] gi gl _
  refine px_iload_n dX4_runEnd_0 rfl rfl ?_
  refine px_istore_n (ls2 := [some (.ref a), some (.int x1), some (.int x2), some (.int x2)]) (i := 3) rfl dX4_runEnd_1 (by decide) rfl ?_
  exact PAt.forget h (lsub_at ⟨rfl, ⟨rfl, ⟨rfl, trivial⟩⟩⟩)
set_option maxRecDepth 100000 in
theorem v_X4_runEnd_2 {a : Nat} {x1 : Int32} {x3 : Int32} {gi : Gi} {gl : Gl} {Q : Int32 → Gi → Gl → Prop} (haN : a < NN) (haK : sK a = 4) (h : f_X4_runEnd_2 a x1 x3 gi gl Q) : p_X4_runEnd_2 a x1 x3 gi gl Q := by
  unfold f_X4_runEnd_2 at h
  show PAt mX4_runEnd NN NN κF 2 [some (.ref a), some (.int x1), none, some (.int x3)] [] gi gl _
  refine px_iload_n dX4_runEnd_2 rfl rfl ?_
  refine px_sipush (v := (719 : Int32)) dX4_runEnd_3 (by decide) ?_
  refine px_icmp_ge (tgt := 27) dX4_runEnd_6 (by decide) ?_
  by_cases hc : (719 : Int32) ≤ x3
  · rw [if_pos hc] at h ⊢
    refine px_iload_n dX4_runEnd_27 rfl rfl ?_
    exact px_ireturn dX4_runEnd_28 rfl ⟨.int, rfl, rfl, rfl⟩ ⟨rfl, _, rfl, h⟩
  · rw [if_neg hc] at h ⊢
    refine px_aload_n dX4_runEnd_9 rfl rfl ?_
    refine px_iload_n dX4_runEnd_10 rfl rfl ?_
    refine px_iload_n dX4_runEnd_11 rfl rfl ?_
    refine px_iconst (v := (1 : Int32)) dX4_runEnd_12 (by decide) ?_
    refine px_iadd dX4_runEnd_13 ?_
    refine px_callV_I (As := [.int x1, .int (x3 + (1 : Int32))]) (st := []) dX4_runEnd_14 lk_X4_57.1 lk_X4_57.2 (b := a) haN haK (by decide) rfl (by decide) rfl (Nat.le_of_ble_eq_true rfl) rfl rfl (Nat.le_of_ble_eq_true rfl) ⟨Nat.le_refl _, Nat.le_refl _, Nat.le_refl _⟩ ?_
    refine PAt.mono h (fun v κ gi1 gl2 hq => ?_)
    obtain ⟨rfl, r3, rfl, h⟩ := hq
    refine px_iconst (v := (1 : Int32)) dX4_runEnd_17 (by decide) ?_
    refine px_icmp_ne (tgt := 27) dX4_runEnd_18 (by decide) ?_
    by_cases hc : ¬ r3 = (1 : Int32)
    · rw [if_pos hc] at h ⊢
      refine px_iload_n dX4_runEnd_27 rfl rfl ?_
      exact px_ireturn dX4_runEnd_28 rfl ⟨.int, rfl, rfl, rfl⟩ ⟨rfl, _, rfl, h⟩
    · rw [if_neg hc] at h ⊢
      refine px_iinc (v := x3 + (1 : Int32)) (ls2 := [some (.ref a), some (.int x1), none, some (.int (x3 + (1 : Int32)))]) dX4_runEnd_21 rfl rfl (by decide) rfl ?_
      refine px_goto (tgt := 2) dX4_runEnd_24 (by decide) ?_
      exact PAt.forget h (lsub_at ⟨rfl, ⟨rfl, ⟨rfl, trivial⟩⟩⟩)
abbrev p_X4_placeOf_4 (x1 : Int32) (x2 : Int32) (x3 : Int32) (gi : Gi) (gl : Gl) (Q : Int32 → Gi → Gl → Prop) : Prop := PAt mX4_placeOf NN NN κF 4 [none, some (.int x1), some (.int x2), some (.int x3)] [] gi gl (RiQ Q)
def f_X4_placeOf (x0 : Int32) (x1 : Int32) (gi : Gi) (gl : Gl) (Q : Int32 → Gi → Gl → Prop) : Prop :=
p_X4_placeOf_4 x1 x0 (0 : Int32) gi gl Q
def f_X4_placeOf_4 (x1 : Int32) (x2 : Int32) (x3 : Int32) (gi : Gi) (gl : Gl) (Q : Int32 → Gi → Gl → Prop) : Prop :=
if x1 ≤ x3 then
(p_X11_lowest x2 gi gl (fun (r3 : Int32) (gi1 : Gi) (gl2 : Gl) =>
Q r3 gi1 gl2))
else
(if (30 : Int32) ≤ x3 then
(p_X11_lowest x2 gi gl (fun (r6 : Int32) (gi4 : Gi) (gl5 : Gl) =>
Q r6 gi4 gl5))
else
(∀ z7 : Int32, z7 = x2 &&& (x2 - (1 : Int32)) →
p_X4_placeOf_4 x1 z7 (x3 + (1 : Int32)) gi gl Q))
set_option maxRecDepth 100000 in
theorem v_X4_placeOf {x0 : Int32} {x1 : Int32} {gi : Gi} {gl : Gl} {Q : Int32 → Gi → Gl → Prop}  (h : f_X4_placeOf x0 x1 gi gl Q) : p_X4_placeOf x0 x1 gi gl Q := by
  unfold f_X4_placeOf at h
  show PAt mX4_placeOf NN NN κF 0 [some (.int x0), some (.int x1), none, none] [] gi gl _
  refine px_iload_n dX4_placeOf_0 rfl rfl ?_
  refine px_istore_n (ls2 := [some (.int x0), some (.int x1), some (.int x0), none]) (i := 2) rfl dX4_placeOf_1 (by decide) rfl ?_
  refine px_iconst (v := (0 : Int32)) dX4_placeOf_2 (by decide) ?_
  refine px_istore_n (ls2 := [some (.int x0), some (.int x1), some (.int x0), some (.int (0 : Int32))]) (i := 3) rfl dX4_placeOf_3 (by decide) rfl ?_
  exact PAt.forget h (lsub_at ⟨rfl, ⟨rfl, ⟨rfl, trivial⟩⟩⟩)
set_option maxRecDepth 100000 in
theorem v_X4_placeOf_4 {x1 : Int32} {x2 : Int32} {x3 : Int32} {gi : Gi} {gl : Gl} {Q : Int32 → Gi → Gl → Prop}  (h : f_X4_placeOf_4 x1 x2 x3 gi gl Q) : p_X4_placeOf_4 x1 x2 x3 gi gl Q := by
  unfold f_X4_placeOf_4 at h
  show PAt mX4_placeOf NN NN κF 4 [none, some (.int x1), some (.int x2), some (.int x3)] [] gi gl _
  refine px_iload_n dX4_placeOf_4 rfl rfl ?_
  refine px_iload_n dX4_placeOf_5 rfl rfl ?_
  refine px_icmp_ge (tgt := 27) dX4_placeOf_6 (by decide) ?_
  by_cases hc : x1 ≤ x3
  · rw [if_pos hc] at h ⊢
    refine px_iload_n dX4_placeOf_27 rfl rfl ?_
    refine px_callSN_I (As := [.int x2]) (st := []) dX4_placeOf_28 lk_X4_60.1 lk_X4_60.2 (by decide) rfl (Nat.le_of_ble_eq_true rfl) rfl rfl (Nat.le_of_ble_eq_true rfl) ⟨Nat.le_refl _, Nat.le_refl _, Nat.le_refl _⟩ ?_
    refine PAt.mono h (fun v κ gi1 gl2 hq => ?_)
    obtain ⟨rfl, r3, rfl, h⟩ := hq
    exact px_ireturn dX4_placeOf_31 rfl ⟨.int, rfl, rfl, rfl⟩ ⟨rfl, _, rfl, h⟩
  · rw [if_neg hc] at h ⊢
    refine px_iload_n dX4_placeOf_9 rfl rfl ?_
    refine px_bipush (v := (30 : Int32)) dX4_placeOf_10 (by decide) ?_
    refine px_icmp_ge (tgt := 27) dX4_placeOf_12 (by decide) ?_
    by_cases hc : (30 : Int32) ≤ x3
    · rw [if_pos hc] at h ⊢
      refine px_iload_n dX4_placeOf_27 rfl rfl ?_
      refine px_callSN_I (As := [.int x2]) (st := []) dX4_placeOf_28 lk_X4_60.1 lk_X4_60.2 (by decide) rfl (Nat.le_of_ble_eq_true rfl) rfl rfl (Nat.le_of_ble_eq_true rfl) ⟨Nat.le_refl _, Nat.le_refl _, Nat.le_refl _⟩ ?_
      refine PAt.mono h (fun v κ gi4 gl5 hq => ?_)
      obtain ⟨rfl, r6, rfl, h⟩ := hq
      exact px_ireturn dX4_placeOf_31 rfl ⟨.int, rfl, rfl, rfl⟩ ⟨rfl, _, rfl, h⟩
    · rw [if_neg hc] at h ⊢
      refine px_iload_n dX4_placeOf_15 rfl rfl ?_
      refine px_iload_n dX4_placeOf_16 rfl rfl ?_
      refine px_iconst (v := (1 : Int32)) dX4_placeOf_17 (by decide) ?_
      refine px_isub dX4_placeOf_18 ?_
      refine px_iand dX4_placeOf_19 ?_
      obtain ⟨z7, hz7⟩ : ∃ y : Int32, y = x2 &&& (x2 - (1 : Int32)) := ⟨_, rfl⟩
      have h := h z7 hz7
      refine px_namei hz7 ?_
      refine px_istore_n (ls2 := [none, some (.int x1), some (.int z7), some (.int x3)]) (i := 2) rfl dX4_placeOf_20 (by decide) rfl ?_
      refine px_iinc (v := x3 + (1 : Int32)) (ls2 := [none, some (.int x1), some (.int z7), some (.int (x3 + (1 : Int32)))]) dX4_placeOf_21 rfl rfl (by decide) rfl ?_
      refine px_goto (tgt := 4) dX4_placeOf_24 (by decide) ?_
      exact PAt.forget h (lsub_at ⟨rfl, ⟨rfl, ⟨rfl, trivial⟩⟩⟩)
