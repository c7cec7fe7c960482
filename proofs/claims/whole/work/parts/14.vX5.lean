/-! laid by program: X5 -/
def f_X5_clear (a : Nat) (gi : Gi) (gl : Gl) (Q : Gi → Gl → Prop) : Prop :=
∀ gi1 : Gi, gi1 = uI gi a (upd (gi a) 2 (0 : Int32)) →
Q gi1 gl
set_option maxRecDepth 100000 in
theorem v_X5_clear {a : Nat} {gi : Gi} {gl : Gl} {Q : Gi → Gl → Prop} (haN : a < NN) (haK : sK a = 5) (h : f_X5_clear a gi gl Q) : p_X5_clear a gi gl Q := by
  unfold f_X5_clear at h
  show PAt mX5_clear NN NN κF 0 [some (.ref a)] [] gi gl _
  refine px_aload_n dX5_clear_0 rfl rfl ?_
  refine px_iconst (v := (0 : Int32)) dX5_clear_1 (by decide) ?_
  refine pf_X5_22 rfl dX5_clear_2 haN haK ?_
  obtain ⟨gi1, hgi1⟩ : ∃ y : Gi, y = uI gi a (upd (gi a) 2 (0 : Int32)) := ⟨_, rfl⟩
  have h := h gi1 hgi1
  refine px_namegi hgi1 ?_
  exact px_return dX5_clear_5 rfl rfl ⟨rfl, rfl, h⟩
def f_X5_copyFrom (a : Nat) (p : Nat) (gi : Gi) (gl : Gl) (Q : Gi → Gl → Prop) : Prop :=
∀ gi1 : Gi, gi1 = uI gi (a + 1) (va_cpy (gi (p + 1)) (gi (a + 1)) (0 : Int32).toNatClampNeg (0 : Int32).toNatClampNeg (60 : Int32).toNatClampNeg) →
p_X4_copyFrom (a + 2) (p + 2) gi1 gl (fun (gi2 : Gi) (gl3 : Gl) =>
∀ gi4 : Gi, gi4 = uI gi2 a (upd (gi2 a) 2 (gi2 p 2)) →
Q gi4 gl3)
set_option maxRecDepth 100000 in
theorem v_X5_copyFrom {a : Nat} {p : Nat} {gi : Gi} {gl : Gl} {Q : Gi → Gl → Prop} (haN : a < NN) (haK : sK a = 5) (hpN : p < NN) (hpK : sK p = 5) (h : f_X5_copyFrom a p gi gl Q) : p_X5_copyFrom a p gi gl Q := by
  unfold f_X5_copyFrom at h
  show PAt mX5_copyFrom NN NN κF 0 [some (.ref a), some (.ref p)] [] gi gl _
  refine px_aload_n dX5_copyFrom_0 rfl rfl ?_
  refine gf_X5_9 rfl dX5_copyFrom_1 hpN hpK rfl (ly5_r0 hpN hpK) (ly5_lt1 hpN hpK) ?_
  refine px_iconst (v := (0 : Int32)) dX5_copyFrom_4 (by decide) ?_
  refine px_aload_n dX5_copyFrom_5 rfl rfl ?_
  refine gf_X5_9 rfl dX5_copyFrom_6 haN haK rfl (ly5_r0 haN haK) (ly5_lt1 haN haK) ?_
  refine px_iconst (v := (0 : Int32)) dX5_copyFrom_9 (by decide) ?_
  refine px_aload_n dX5_copyFrom_10 rfl rfl ?_
  refine gf_X5_9 rfl dX5_copyFrom_11 haN haK rfl (ly5_r0 haN haK) (ly5_lt1 haN haK) ?_
  refine px_alen (n := 60) (t0 := 0) (v := (60 : Int32)) dX5_copyFrom_14 (ly5_lt1 haN haK) (ly5_k1 haN haK) (ly5_s1 haN haK) (by decide) (fun _ => rfl) (by decide) ?_
  refine px_copyi (na := 60) (nb := 60) dX5_copyFrom_15 (ly5_lt1 hpN hpK) (ly5_lt1 haN haK) rfl (ly5_k1 hpN hpK) (ly5_k1 haN haK) (ly5_s1 hpN hpK) (ly5_s1 haN haK) w_833 w_645 w_644 w_117 (by decide) (by decide) (by decide) (by decide +kernel) (by decide +kernel) (by decide) (by decide) ?_
  obtain ⟨gi1, hgi1⟩ : ∃ y : Gi, y = uI gi (a + 1) (va_cpy (gi (p + 1)) (gi (a + 1)) (0 : Int32).toNatClampNeg (0 : Int32).toNatClampNeg (60 : Int32).toNatClampNeg) := ⟨_, rfl⟩
  have h := h gi1 hgi1
  refine px_namegi hgi1 ?_
  refine px_aload_n dX5_copyFrom_18 rfl rfl ?_
  refine gf_X5_18 rfl dX5_copyFrom_19 haN haK rfl (ly5_r1 haN haK) (ly5_lt2 haN haK) ?_
  refine px_aload_n dX5_copyFrom_22 rfl rfl ?_
  refine gf_X5_18 rfl dX5_copyFrom_23 hpN hpK rfl (ly5_r1 hpN hpK) (ly5_lt2 hpN hpK) ?_
  refine px_callV_V (As := [.ref (p + 2)]) (st := []) dX5_copyFrom_26 lk_X5_32.1 lk_X5_32.2 (b := (a + 2)) (ly5_lt2 haN haK) (ly5_k2 haN haK) (by decide) rfl (by decide) rfl (Nat.le_of_ble_eq_true rfl) rfl rfl (Nat.le_of_ble_eq_true rfl) ⟨Nat.le_refl _, Nat.le_refl _, Nat.le_refl _⟩ ?_
  refine PAt.mono h (fun v κ gi2 gl3 hq => ?_)
  obtain ⟨rfl, -, h⟩ := hq
  refine px_aload_n dX5_copyFrom_29 rfl rfl ?_
  refine px_aload_n dX5_copyFrom_30 rfl rfl ?_
  refine gf_X5_22 rfl dX5_copyFrom_31 hpN hpK ?_
  refine pf_X5_22 rfl dX5_copyFrom_34 haN haK ?_
  obtain ⟨gi4, hgi4⟩ : ∃ y : Gi, y = uI gi2 a (upd (gi2 a) 2 (gi2 p 2)) := ⟨_, rfl⟩
  have h := h gi4 hgi4
  refine px_namegi hgi4 ?_
  exact px_return dX5_copyFrom_37 rfl rfl ⟨rfl, rfl, h⟩
def f_X5_size (a : Nat) (gi : Gi) (gl : Gl) (Q : Int32 → Gi → Gl → Prop) : Prop :=
Q (gi a 2) gi gl
set_option maxRecDepth 100000 in
theorem v_X5_size {a : Nat} {gi : Gi} {gl : Gl} {Q : Int32 → Gi → Gl → Prop} (haN : a < NN) (haK : sK a = 5) (h : f_X5_size a gi gl Q) : p_X5_size a gi gl Q := by
  unfold f_X5_size at h
  show PAt mX5_size NN NN κF 0 [some (.ref a)] [] gi gl _
  refine px_aload_n dX5_size_0 rfl rfl ?_
  refine gf_X5_22 rfl dX5_size_1 haN haK ?_
  exact px_ireturn dX5_size_4 rfl ⟨.int, rfl, rfl, rfl⟩ ⟨rfl, _, rfl, h⟩
def f_X5_moments (a : Nat) (gi : Gi) (gl : Gl) (Q : Option Nat → Gi → Gl → Prop) : Prop :=
Q (some (a + 2)) gi gl
set_option maxRecDepth 100000 in
theorem v_X5_moments {a : Nat} {gi : Gi} {gl : Gl} {Q : Option Nat → Gi → Gl → Prop} (haN : a < NN) (haK : sK a = 5) (h : f_X5_moments a gi gl Q) : p_X5_moments a gi gl Q := by
  unfold f_X5_moments at h
  show PAt mX5_moments NN NN κF 0 [some (.ref a)] [] gi gl _
  refine px_aload_n dX5_moments_0 rfl rfl ?_
  refine gf_X5_18 rfl dX5_moments_1 haN haK rfl (ly5_r1 haN haK) (ly5_lt2 haN haK) ?_
  exact px_areturn dX5_moments_4 rfl (Or.inr ⟨_, rfl⟩) ⟨_, rfl⟩ ⟨rfl, Or.inr ⟨_, rfl, (ly5_lt2 haN haK), (ly5_k2 haN haK), h⟩⟩
def f_X5_has (a : Nat) (x1 : Int32) (gi : Gi) (gl : Gl) (Q : Int32 → Gi → Gl → Prop) : Prop :=
if x1 < 0 then
(Q (0 : Int32) gi gl)
else
(if (gi a 2) ≤ x1 then
(Q (0 : Int32) gi gl)
else
(if (12 : Int32) ≤ x1 then
(Q (0 : Int32) gi gl)
else
(Q (1 : Int32) gi gl)))
set_option maxRecDepth 100000 in
theorem v_X5_has {a : Nat} {x1 : Int32} {gi : Gi} {gl : Gl} {Q : Int32 → Gi → Gl → Prop} (haN : a < NN) (haK : sK a = 5) (h : f_X5_has a x1 gi gl Q) : p_X5_has a x1 gi gl Q := by
  unfold f_X5_has at h
  show PAt mX5_has NN NN κF 0 [some (.ref a), some (.int x1)] [] gi gl _
  refine px_iload_n dX5_has_0 rfl rfl ?_
  refine px_if_lt (tgt := 22) dX5_has_1 (by decide) ?_
  by_cases hc : x1 < 0
  · rw [if_pos hc] at h ⊢
    refine px_iconst (v := (0 : Int32)) dX5_has_22 (by decide) ?_
    exact px_ireturn dX5_has_23 rfl ⟨.boolean, rfl, rfl, by decide⟩ ⟨rfl, _, rfl, h⟩
  · rw [if_neg hc] at h ⊢
    refine px_iload_n dX5_has_4 rfl rfl ?_
    refine px_aload_n dX5_has_5 rfl rfl ?_
    refine gf_X5_22 rfl dX5_has_6 haN haK ?_
    refine px_icmp_ge (tgt := 22) dX5_has_9 (by decide) ?_
    by_cases hc : (gi a 2) ≤ x1
    · rw [if_pos hc] at h ⊢
      refine px_iconst (v := (0 : Int32)) dX5_has_22 (by decide) ?_
      exact px_ireturn dX5_has_23 rfl ⟨.boolean, rfl, rfl, by decide⟩ ⟨rfl, _, rfl, h⟩
    · rw [if_neg hc] at h ⊢
      refine px_iload_n dX5_has_12 rfl rfl ?_
      refine px_bipush (v := (12 : Int32)) dX5_has_13 (by decide) ?_
      refine px_icmp_ge (tgt := 22) dX5_has_15 (by decide) ?_
      by_cases hc : (12 : Int32) ≤ x1
      · rw [if_pos hc] at h ⊢
        refine px_iconst (v := (0 : Int32)) dX5_has_22 (by decide) ?_
        exact px_ireturn dX5_has_23 rfl ⟨.boolean, rfl, rfl, by decide⟩ ⟨rfl, _, rfl, h⟩
      · rw [if_neg hc] at h ⊢
        refine px_iconst (v := (1 : Int32)) dX5_has_18 (by decide) ?_
        refine px_goto (tgt := 23) dX5_has_19 (by decide) ?_
        exact px_ireturn dX5_has_23 rfl ⟨.boolean, rfl, rfl, by decide⟩ ⟨rfl, _, rfl, h⟩
def f_X5_tells (a : Nat) (x1 : Int32) (x2 : Int32) (gi : Gi) (gl : Gl) (Q : Int32 → Gi → Gl → Prop) : Prop :=
p_X5_has a x1 gi gl (fun (r3 : Int32) (gi1 : Gi) (gl2 : Gl) =>
if r3 = 0 then
(Q ((-1) : Int32) gi1 gl2)
else
(if x2 < 0 then
(Q ((-1) : Int32) gi1 gl2)
else
(if x2 < (5 : Int32) then
(vp_in ((x1 * (5 : Int32)) + x2) 60 ∧
Q (gi1 (a + 1) ((x1 * (5 : Int32)) + x2).toNatClampNeg) gi1 gl2)
else
(Q ((-1) : Int32) gi1 gl2))))
set_option maxRecDepth 100000 in
theorem v_X5_tells {a : Nat} {x1 : Int32} {x2 : Int32} {gi : Gi} {gl : Gl} {Q : Int32 → Gi → Gl → Prop} (haN : a < NN) (haK : sK a = 5) (h : f_X5_tells a x1 x2 gi gl Q) : p_X5_tells a x1 x2 gi gl Q := by
  unfold f_X5_tells at h
  show PAt mX5_tells NN NN κF 0 [some (.ref a), some (.int x1), some (.int x2)] [] gi gl _
  refine px_aload_n dX5_tells_0 rfl rfl ?_
  refine px_iload_n dX5_tells_1 rfl rfl ?_
  refine px_callV_I (As := [.int x1]) (st := []) dX5_tells_2 lk_X5_36.1 lk_X5_36.2 (b := a) haN haK (by decide) rfl (by decide) rfl (Nat.le_of_ble_eq_true rfl) rfl rfl (Nat.le_of_ble_eq_true rfl) ⟨Nat.le_refl _, Nat.le_refl _, Nat.le_refl _⟩ ?_
  refine PAt.mono h (fun v κ gi1 gl2 hq => ?_)
  obtain ⟨rfl, r3, rfl, h⟩ := hq
  refine px_if_eq (tgt := 17) dX5_tells_5 (by decide) ?_
  by_cases hc : r3 = 0
  · rw [if_pos hc] at h ⊢
    refine px_iconst (v := ((-1) : Int32)) dX5_tells_17 (by decide) ?_
    exact px_ireturn dX5_tells_18 rfl ⟨.int, rfl, rfl, rfl⟩ ⟨rfl, _, rfl, h⟩
  · rw [if_neg hc] at h ⊢
    refine px_iload_n dX5_tells_8 rfl rfl ?_
    refine px_if_lt (tgt := 17) dX5_tells_9 (by decide) ?_
    by_cases hc : x2 < 0
    · rw [if_pos hc] at h ⊢
      refine px_iconst (v := ((-1) : Int32)) dX5_tells_17 (by decide) ?_
      exact px_ireturn dX5_tells_18 rfl ⟨.int, rfl, rfl, rfl⟩ ⟨rfl, _, rfl, h⟩
    · rw [if_neg hc] at h ⊢
      refine px_iload_n dX5_tells_12 rfl rfl ?_
      refine px_iconst (v := (5 : Int32)) dX5_tells_13 (by decide) ?_
      refine px_icmp_lt (tgt := 19) dX5_tells_14 (by decide) ?_
      by_cases hc : x2 < (5 : Int32)
      · rw [if_pos hc] at h ⊢
        refine px_aload_n dX5_tells_19 rfl rfl ?_
        refine gf_X5_9 rfl dX5_tells_20 haN haK rfl (ly5_r0 haN haK) (ly5_lt1 haN haK) ?_
        refine px_iload_n dX5_tells_23 rfl rfl ?_
        refine px_iconst (v := (5 : Int32)) dX5_tells_24 (by decide) ?_
        refine px_imul dX5_tells_25 ?_
        refine px_iload_n dX5_tells_26 rfl rfl ?_
        refine px_iadd dX5_tells_27 ?_
        obtain ⟨hi, h⟩ := h
        refine px_iaload (n := 60) dX5_tells_28 (ly5_lt1 haN haK) (ly5_k1 haN haK) (ly5_s1 haN haK) hi ?_
        exact px_ireturn dX5_tells_29 rfl ⟨.int, rfl, rfl, rfl⟩ ⟨rfl, _, rfl, h⟩
      · rw [if_neg hc] at h ⊢
        refine px_iconst (v := ((-1) : Int32)) dX5_tells_17 (by decide) ?_
        exact px_ireturn dX5_tells_18 rfl ⟨.int, rfl, rfl, rfl⟩ ⟨rfl, _, rfl, h⟩
def f_X5_names (a : Nat) (x1 : Int32) (x2 : Int32) (gi : Gi) (gl : Gl) (Q : Int32 → Gi → Gl → Prop) : Prop :=
p_X5_tells a x1 (0 : Int32) gi gl (fun (r3 : Int32) (gi1 : Gi) (gl2 : Gl) =>
if r3 = 0 then
(p_X5_tells a x1 (1 : Int32) gi1 gl2 (fun (r6 : Int32) (gi4 : Gi) (gl5 : Gl) =>
if ¬ r6 = x2 then
(Q (0 : Int32) gi4 gl5)
else
(Q (1 : Int32) gi4 gl5)))
else
(if ¬ r3 = (1 : Int32) then
(Q (0 : Int32) gi1 gl2)
else
(p_X5_tells a x1 (1 : Int32) gi1 gl2 (fun (r9 : Int32) (gi7 : Gi) (gl8 : Gl) =>
if ¬ r9 = x2 then
(Q (0 : Int32) gi7 gl8)
else
(Q (1 : Int32) gi7 gl8)))))
set_option maxRecDepth 100000 in
theorem v_X5_names {a : Nat} {x1 : Int32} {x2 : Int32} {gi : Gi} {gl : Gl} {Q : Int32 → Gi → Gl → Prop} (haN : a < NN) (haK : sK a = 5) (h : f_X5_names a x1 x2 gi gl Q) : p_X5_names a x1 x2 gi gl Q := by
  unfold f_X5_names at h
  show PAt mX5_names NN NN κF 0 [some (.ref a), some (.int x1), some (.int x2), none] [] gi gl _
  refine px_aload_n dX5_names_0 rfl rfl ?_
  refine px_iload_n dX5_names_1 rfl rfl ?_
  refine px_iconst (v := (0 : Int32)) dX5_names_2 (by decide) ?_
  refine px_callV_I (As := [.int x1, .int (0 : Int32)]) (st := []) dX5_names_3 lk_X5_40.1 lk_X5_40.2 (b := a) haN haK (by decide) rfl (by decide) rfl (Nat.le_of_ble_eq_true rfl) rfl rfl (Nat.le_of_ble_eq_true rfl) ⟨Nat.le_refl _, Nat.le_refl _, Nat.le_refl _⟩ ?_
  refine PAt.mono h (fun v κ gi1 gl2 hq => ?_)
  obtain ⟨rfl, r3, rfl, h⟩ := hq
  refine px_istore_n (ls2 := [some (.ref a), some (.int x1), some (.int x2), some (.int r3)]) (i := 3) rfl dX5_names_6 (by decide) rfl ?_
  refine px_iload_n dX5_names_7 rfl rfl ?_
  refine px_if_eq (tgt := 16) dX5_names_8 (by decide) ?_
  by_cases hc : r3 = 0
  · rw [if_pos hc] at h ⊢
    refine px_aload_n dX5_names_16 rfl rfl ?_
    refine px_iload_n dX5_names_17 rfl rfl ?_
    refine px_iconst (v := (1 : Int32)) dX5_names_18 (by decide) ?_
    refine px_callV_I (As := [.int x1, .int (1 : Int32)]) (st := []) dX5_names_19 lk_X5_40.1 lk_X5_40.2 (b := a) haN haK (by decide) rfl (by decide) rfl (Nat.le_of_ble_eq_true rfl) rfl rfl (Nat.le_of_ble_eq_true rfl) ⟨Nat.le_refl _, Nat.le_refl _, Nat.le_refl _⟩ ?_
    refine PAt.mono h (fun v κ gi4 gl5 hq => ?_)
    obtain ⟨rfl, r6, rfl, h⟩ := hq
    refine px_iload_n dX5_names_22 rfl rfl ?_
    refine px_icmp_ne (tgt := 30) dX5_names_23 (by decide) ?_
    by_cases hc : ¬ r6 = x2
    · rw [if_pos hc] at h ⊢
      refine px_iconst (v := (0 : Int32)) dX5_names_30 (by decide) ?_
      exact px_ireturn dX5_names_31 rfl ⟨.boolean, rfl, rfl, by decide⟩ ⟨rfl, _, rfl, h⟩
    · rw [if_neg hc] at h ⊢
      refine px_iconst (v := (1 : Int32)) dX5_names_26 (by decide) ?_
      refine px_goto (tgt := 31) dX5_names_27 (by decide) ?_
      exact px_ireturn dX5_names_31 rfl ⟨.boolean, rfl, rfl, by decide⟩ ⟨rfl, _, rfl, h⟩
  · rw [if_neg hc] at h ⊢
    refine px_iload_n dX5_names_11 rfl rfl ?_
    refine px_iconst (v := (1 : Int32)) dX5_names_12 (by decide) ?_
    refine px_icmp_ne (tgt := 30) dX5_names_13 (by decide) ?_
    by_cases hc : ¬ r3 = (1 : Int32)
    · rw [if_pos hc] at h ⊢
      refine px_iconst (v := (0 : Int32)) dX5_names_30 (by decide) ?_
      exact px_ireturn dX5_names_31 rfl ⟨.boolean, rfl, rfl, by decide⟩ ⟨rfl, _, rfl, h⟩
    · rw [if_neg hc] at h ⊢
      refine px_aload_n dX5_names_16 rfl rfl ?_
      refine px_iload_n dX5_names_17 rfl rfl ?_
      refine px_iconst (v := (1 : Int32)) dX5_names_18 (by decide) ?_
      refine px_callV_I (As := [.int x1, .int (1 : Int32)]) (st := []) dX5_names_19 lk_X5_40.1 lk_X5_40.2 (b := a) haN haK (by decide) rfl (by decide) rfl (Nat.le_of_ble_eq_true rfl) rfl rfl (Nat.le_of_ble_eq_true rfl) ⟨Nat.le_refl _, Nat.le_refl _, Nat.le_refl _⟩ ?_
      refine PAt.mono h (fun v κ gi7 gl8 hq => ?_)
      obtain ⟨rfl, r9, rfl, h⟩ := hq
      refine px_iload_n dX5_names_22 rfl rfl ?_
      refine px_icmp_ne (tgt := 30) dX5_names_23 (by decide) ?_
      by_cases hc : ¬ r9 = x2
      · rw [if_pos hc] at h ⊢
        refine px_iconst (v := (0 : Int32)) dX5_names_30 (by decide) ?_
        exact px_ireturn dX5_names_31 rfl ⟨.boolean, rfl, rfl, by decide⟩ ⟨rfl, _, rfl, h⟩
      · rw [if_neg hc] at h ⊢
        refine px_iconst (v := (1 : Int32)) dX5_names_26 (by decide) ?_
        refine px_goto (tgt := 31) dX5_names_27 (by decide) ?_
        exact px_ireturn dX5_names_31 rfl ⟨.boolean, rfl, rfl, by decide⟩ ⟨rfl, _, rfl, h⟩
def f_X5_add (a : Nat) (x1 : Int32) (x2 : Int32) (x3 : Int32) (x4 : Int32) (x5 : Int32) (gi : Gi) (gl : Gl) (Q : Int32 → Gi → Gl → Prop) : Prop :=
if (gi a 2) < 0 then
(Q (0 : Int32) gi gl)
else
(if (gi a 2) < (12 : Int32) then
(∀ z1 : Int32, z1 = (gi a 2) * (5 : Int32) →
vp_in z1 60 ∧
∀ gi2 : Gi, gi2 = uI gi (a + 1) (upd (gi (a + 1)) z1.toNatClampNeg x1) →
vp_in (z1 + (1 : Int32)) 60 ∧
∀ gi3 : Gi, gi3 = uI gi2 (a + 1) (upd (gi2 (a + 1)) (z1 + (1 : Int32)).toNatClampNeg x2) →
vp_in (z1 + (2 : Int32)) 60 ∧
∀ gi4 : Gi, gi4 = uI gi3 (a + 1) (upd (gi3 (a + 1)) (z1 + (2 : Int32)).toNatClampNeg x3) →
vp_in (z1 + (3 : Int32)) 60 ∧
∀ gi5 : Gi, gi5 = uI gi4 (a + 1) (upd (gi4 (a + 1)) (z1 + (3 : Int32)).toNatClampNeg x4) →
vp_in (z1 + (4 : Int32)) 60 ∧
∀ gi6 : Gi, gi6 = uI gi5 (a + 1) (upd (gi5 (a + 1)) (z1 + (4 : Int32)).toNatClampNeg x5) →
∀ gi7 : Gi, gi7 = uI gi6 a (upd (gi6 a) 2 ((gi6 a 2) + (1 : Int32))) →
Q (1 : Int32) gi7 gl)
else
(Q (0 : Int32) gi gl))
set_option maxRecDepth 100000 in
theorem v_X5_add {a : Nat} {x1 : Int32} {x2 : Int32} {x3 : Int32} {x4 : Int32} {x5 : Int32} {gi : Gi} {gl : Gl} {Q : Int32 → Gi → Gl → Prop} (haN : a < NN) (haK : sK a = 5) (h : f_X5_add a x1 x2 x3 x4 x5 gi gl Q) : p_X5_add a x1 x2 x3 x4 x5 gi gl Q := by
  unfold f_X5_add at h
  show PAt mX5_add NN NN κF 0 [some (.ref a), some (.int x1), some (.int x2), some (.int x3), some (.int x4), some (.int x5), none] [] gi gl _
  refine px_aload_n dX5_add_0 rfl rfl ?_
  refine gf_X5_22 rfl dX5_add_1 haN haK ?_
  refine px_if_lt (tgt := 16) dX5_add_4 (by decide) ?_
  by_cases hc : (gi a 2) < 0
  · rw [if_pos hc] at h ⊢
    refine px_iconst (v := (0 : Int32)) dX5_add_16 (by decide) ?_
    exact px_ireturn dX5_add_17 rfl ⟨.boolean, rfl, rfl, by decide⟩ ⟨rfl, _, rfl, h⟩
  · rw [if_neg hc] at h ⊢
    refine px_aload_n dX5_add_7 rfl rfl ?_
    refine gf_X5_22 rfl dX5_add_8 haN haK ?_
    refine px_bipush (v := (12 : Int32)) dX5_add_11 (by decide) ?_
    refine px_icmp_lt (tgt := 18) dX5_add_13 (by decide) ?_
    by_cases hc : (gi a 2) < (12 : Int32)
    · rw [if_pos hc] at h ⊢
      refine px_aload_n dX5_add_18 rfl rfl ?_
      refine gf_X5_22 rfl dX5_add_19 haN haK ?_
      refine px_iconst (v := (5 : Int32)) dX5_add_22 (by decide) ?_
      refine px_imul dX5_add_23 ?_
      obtain ⟨z1, hz1⟩ : ∃ y : Int32, y = (gi a 2) * (5 : Int32) := ⟨_, rfl⟩
      have h := h z1 hz1
      refine px_namei hz1 ?_
      refine px_istore (ls2 := [some (.ref a), some (.int x1), some (.int x2), some (.int x3), some (.int x4), some (.int x5), some (.int z1)]) dX5_add_24 (by decide) rfl ?_
      refine px_aload_n dX5_add_26 rfl rfl ?_
      refine gf_X5_9 rfl dX5_add_27 haN haK rfl (ly5_r0 haN haK) (ly5_lt1 haN haK) ?_
      refine px_iload dX5_add_30 rfl ?_
      refine px_iload_n dX5_add_32 rfl rfl ?_
      obtain ⟨hi, h⟩ := h
      refine px_iastore (n := 60) dX5_add_33 (ly5_lt1 haN haK) (ly5_k1 haN haK) (ly5_s1 haN haK) hi ?_
      obtain ⟨gi2, hgi2⟩ : ∃ y : Gi, y = uI gi (a + 1) (upd (gi (a + 1)) z1.toNatClampNeg x1) := ⟨_, rfl⟩
      have h := h gi2 hgi2
      refine px_namegi hgi2 ?_
      refine px_aload_n dX5_add_34 rfl rfl ?_
      refine gf_X5_9 rfl dX5_add_35 haN haK rfl (ly5_r0 haN haK) (ly5_lt1 haN haK) ?_
      refine px_iload dX5_add_38 rfl ?_
      refine px_iconst (v := (1 : Int32)) dX5_add_40 (by decide) ?_
      refine px_iadd dX5_add_41 ?_
      refine px_iload_n dX5_add_42 rfl rfl ?_
      obtain ⟨hi, h⟩ := h
      refine px_iastore (n := 60) dX5_add_43 (ly5_lt1 haN haK) (ly5_k1 haN haK) (ly5_s1 haN haK) hi ?_
      obtain ⟨gi3, hgi3⟩ : ∃ y : Gi, y = uI gi2 (a + 1) (upd (gi2 (a + 1)) (z1 + (1 : Int32)).toNatClampNeg x2) := ⟨_, rfl⟩
      have h := h gi3 hgi3
      refine px_namegi hgi3 ?_
      refine px_aload_n dX5_add_44 rfl rfl ?_
      refine gf_X5_9 rfl dX5_add_45 haN haK rfl (ly5_r0 haN haK) (ly5_lt1 haN haK) ?_
      refine px_iload dX5_add_48 rfl ?_
      refine px_iconst (v := (2 : Int32)) dX5_add_50 (by decide) ?_
      refine px_iadd dX5_add_51 ?_
      refine px_iload_n dX5_add_52 rfl rfl ?_
      obtain ⟨hi, h⟩ := h
      refine px_iastore (n := 60) dX5_add_53 (ly5_lt1 haN haK) (ly5_k1 haN haK) (ly5_s1 haN haK) hi ?_
      obtain ⟨gi4, hgi4⟩ : ∃ y : Gi, y = uI gi3 (a + 1) (upd (gi3 (a + 1)) (z1 + (2 : Int32)).toNatClampNeg x3) := ⟨_, rfl⟩
      have h := h gi4 hgi4
      refine px_namegi hgi4 ?_
      refine px_aload_n dX5_add_54 rfl rfl ?_
      refine gf_X5_9 rfl dX5_add_55 haN haK rfl (ly5_r0 haN haK) (ly5_lt1 haN haK) ?_
      refine px_iload dX5_add_58 rfl ?_
      refine px_iconst (v := (3 : Int32)) dX5_add_60 (by decide) ?_
      refine px_iadd dX5_add_61 ?_
      refine px_iload dX5_add_62 rfl ?_
      obtain ⟨hi, h⟩ := h
      refine px_iastore (n := 60) dX5_add_64 (ly5_lt1 haN haK) (ly5_k1 haN haK) (ly5_s1 haN haK) hi ?_
      obtain ⟨gi5, hgi5⟩ : ∃ y : Gi, y = uI gi4 (a + 1) (upd (gi4 (a + 1)) (z1 + (3 : Int32)).toNatClampNeg x4) := ⟨_, rfl⟩
      have h := h gi5 hgi5
      refine px_namegi hgi5 ?_
      refine px_aload_n dX5_add_65 rfl rfl ?_
      refine gf_X5_9 rfl dX5_add_66 haN haK rfl (ly5_r0 haN haK) (ly5_lt1 haN haK) ?_
      refine px_iload dX5_add_69 rfl ?_
      refine px_iconst (v := (4 : Int32)) dX5_add_71 (by decide) ?_
      refine px_iadd dX5_add_72 ?_
      refine px_iload dX5_add_73 rfl ?_
      obtain ⟨hi, h⟩ := h
      refine px_iastore (n := 60) dX5_add_75 (ly5_lt1 haN haK) (ly5_k1 haN haK) (ly5_s1 haN haK) hi ?_
      obtain ⟨gi6, hgi6⟩ : ∃ y : Gi, y = uI gi5 (a + 1) (upd (gi5 (a + 1)) (z1 + (4 : Int32)).toNatClampNeg x5) := ⟨_, rfl⟩
      have h := h gi6 hgi6
      refine px_namegi hgi6 ?_
      refine px_aload_n dX5_add_76 rfl rfl ?_
      refine px_dup dX5_add_77 rfl ?_
      refine gf_X5_22 rfl dX5_add_78 haN haK ?_
      refine px_iconst (v := (1 : Int32)) dX5_add_81 (by decide) ?_
      refine px_iadd dX5_add_82 ?_
      refine pf_X5_22 rfl dX5_add_83 haN haK ?_
      obtain ⟨gi7, hgi7⟩ : ∃ y : Gi, y = uI gi6 a (upd (gi6 a) 2 ((gi6 a 2) + (1 : Int32))) := ⟨_, rfl⟩
      have h := h gi7 hgi7
      refine px_namegi hgi7 ?_
      refine px_iconst (v := (1 : Int32)) dX5_add_86 (by decide) ?_
      exact px_ireturn dX5_add_87 rfl ⟨.boolean, rfl, rfl, by decide⟩ ⟨rfl, _, rfl, h⟩
    · rw [if_neg hc] at h ⊢
      refine px_iconst (v := (0 : Int32)) dX5_add_16 (by decide) ?_
      exact px_ireturn dX5_add_17 rfl ⟨.boolean, rfl, rfl, by decide⟩ ⟨rfl, _, rfl, h⟩
