/-! laid by program: X0 -/
def f_X0_clear (a : Nat) (gi : Gi) (gl : Gl) (Q : Gi → Gl → Prop) : Prop :=
∀ gi1 : Gi, gi1 = uI gi a (upd (gi a) 2 (0 : Int32)) →
p_J7_fill_53178 (a + 2) (1 : Int32) gi1 gl (fun (gi2 : Gi) (gl3 : Gl) =>
Q gi2 gl3)
set_option maxRecDepth 100000 in
theorem v_X0_clear {a : Nat} {gi : Gi} {gl : Gl} {Q : Gi → Gl → Prop} (haN : a < NN) (haK : sK a = 0) (h : f_X0_clear a gi gl Q) : p_X0_clear a gi gl Q := by
  unfold f_X0_clear at h
  show PAt mX0_clear NN NN κF 0 [some (.ref a)] [] gi gl _
  refine px_aload_n dX0_clear_0 rfl rfl ?_
  refine px_iconst (v := (0 : Int32)) dX0_clear_1 (by decide) ?_
  refine pf_X0_28 rfl dX0_clear_2 haN haK ?_
  obtain ⟨gi1, hgi1⟩ : ∃ y : Gi, y = uI gi a (upd (gi a) 2 (0 : Int32)) := ⟨_, rfl⟩
  have h := h gi1 hgi1
  refine px_namegi hgi1 ?_
  refine px_aload_n dX0_clear_5 rfl rfl ?_
  refine gf_X0_17 rfl dX0_clear_6 haN haK rfl (ly0_r1 haN haK) (ly0_lt2 haN haK) ?_
  refine px_iconst (v := (1 : Int32)) dX0_clear_9 (by decide) ?_
  refine px_callS_V (As := [.ref (a + 2), .int (1 : Int32)]) (st := []) dX0_clear_10 lk_X0_22.1 lk_X0_22.2 (by decide) rfl (Nat.le_of_ble_eq_true rfl) rfl rfl (Nat.le_of_ble_eq_true rfl) ⟨Nat.le_refl _, Nat.le_refl _, Nat.le_refl _⟩ ?_
  refine PAt.mono h (fun v κ gi2 gl3 hq => ?_)
  obtain ⟨rfl, -, h⟩ := hq
  exact px_return dX0_clear_13 rfl rfl ⟨rfl, rfl, h⟩
abbrev p_X0_copyFrom_2 (a : Nat) (p : Nat) (x2 : Int32) (gi : Gi) (gl : Gl) (Q : Gi → Gl → Prop) : Prop := PAt mX0_copyFrom NN NN κF 2 [some (.ref a), some (.ref p), some (.int x2)] [] gi gl (RvQ Q)
abbrev p_X0_copyFrom_37 (a : Nat) (p : Nat) (gi : Gi) (gl : Gl) (Q : Gi → Gl → Prop) : Prop := PAt mX0_copyFrom NN NN κF 37 [some (.ref a), some (.ref p), none] [] gi gl (RvQ Q)
def f_X0_copyFrom (a : Nat) (p : Nat) (gi : Gi) (gl : Gl) (Q : Gi → Gl → Prop) : Prop :=
p_X0_copyFrom_2 a p (0 : Int32) gi gl Q
def f_X0_copyFrom_2 (a : Nat) (p : Nat) (x2 : Int32) (gi : Gi) (gl : Gl) (Q : Gi → Gl → Prop) : Prop :=
if (gi p 2) ≤ x2 then
(p_X0_copyFrom_37 a p gi gl Q)
else
(if (8 : Int32) ≤ x2 then
(p_X0_copyFrom_37 a p gi gl Q)
else
(vp_in x2 8 ∧
∀ b1 : Nat, b1 = a + 3 + 7 * x2.toNatClampNeg →
vp_in x2 8 ∧
∀ b2 : Nat, b2 = p + 3 + 7 * x2.toNatClampNeg →
p_X5_copyFrom b1 b2 gi gl (fun (gi3 : Gi) (gl4 : Gl) =>
p_X0_copyFrom_2 a p (x2 + (1 : Int32)) gi3 gl4 Q)))
def f_X0_copyFrom_37 (a : Nat) (p : Nat) (gi : Gi) (gl : Gl) (Q : Gi → Gl → Prop) : Prop :=
∀ gi1 : Gi, gi1 = uI gi (a + 2) (va_cpy (gi (p + 2)) (gi (a + 2)) (0 : Int32).toNatClampNeg (0 : Int32).toNatClampNeg (12 : Int32).toNatClampNeg) →
∀ gi2 : Gi, gi2 = uI gi1 a (upd (gi1 a) 2 (gi1 p 2)) →
Q gi2 gl
set_option maxRecDepth 100000 in
theorem v_X0_copyFrom {a : Nat} {p : Nat} {gi : Gi} {gl : Gl} {Q : Gi → Gl → Prop} (haN : a < NN) (haK : sK a = 0) (hpN : p < NN) (hpK : sK p = 0) (h : f_X0_copyFrom a p gi gl Q) : p_X0_copyFrom a p gi gl Q := by
  unfold f_X0_copyFrom at h
  show PAt mX0_copyFrom NN NN κF 0 [some (.ref a), some (.ref p), none] [] gi gl _
  refine px_iconst (v := (0 : Int32)) dX0_copyFrom_0 (by decide) ?_
  refine px_istore_n (ls2 := [some (.ref a), some (.ref p), some (.int (0 : Int32))]) (i := 2) rfl dX0_copyFrom_1 (by decide) rfl ?_
  exact PAt.forget h (lsub_at ⟨rfl, ⟨rfl, ⟨rfl, trivial⟩⟩⟩)
set_option maxRecDepth 100000 in
theorem v_X0_copyFrom_2 {a : Nat} {p : Nat} {x2 : Int32} {gi : Gi} {gl : Gl} {Q : Gi → Gl → Prop} (haN : a < NN) (haK : sK a = 0) (hpN : p < NN) (hpK : sK p = 0) (h : f_X0_copyFrom_2 a p x2 gi gl Q) : p_X0_copyFrom_2 a p x2 gi gl Q := by
  unfold f_X0_copyFrom_2 at h
  show PAt mX0_copyFrom NN NN κF 2 [some (.ref a), some (.ref p), some (.int x2)] [] gi gl _
  refine px_iload_n dX0_copyFrom_2 rfl rfl ?_
  refine px_aload_n dX0_copyFrom_3 rfl rfl ?_
  refine gf_X0_28 rfl dX0_copyFrom_4 hpN hpK ?_
  refine px_icmp_ge (tgt := 37) dX0_copyFrom_7 (by decide) ?_
  by_cases hc : (gi p 2) ≤ x2
  · rw [if_pos hc] at h ⊢
    exact PAt.forget h (lsub_at ⟨rfl, ⟨rfl, trivial⟩⟩)
  · rw [if_neg hc] at h ⊢
    refine px_iload_n dX0_copyFrom_10 rfl rfl ?_
    refine px_bipush (v := (8 : Int32)) dX0_copyFrom_11 (by decide) ?_
    refine px_icmp_ge (tgt := 37) dX0_copyFrom_13 (by decide) ?_
    by_cases hc : (8 : Int32) ≤ x2
    · rw [if_pos hc] at h ⊢
      exact PAt.forget h (lsub_at ⟨rfl, ⟨rfl, trivial⟩⟩)
    · rw [if_neg hc] at h ⊢
      refine px_aload_n dX0_copyFrom_16 rfl rfl ?_
      refine gf_X0_11 rfl dX0_copyFrom_17 haN haK rfl (ly0_r0 haN haK) (ly0_lt1 haN haK) ?_
      refine px_iload_n dX0_copyFrom_20 rfl rfl ?_
      obtain ⟨hi, h⟩ := h
      obtain ⟨b1, hb1⟩ : ∃ y : Nat, y = a + 3 + 7 * x2.toNatClampNeg := ⟨_, rfl⟩
      have h := h b1 hb1
      have hb1N : b1 < NN := by rw [hb1]; exact (lyA_l haN haK hi)
      have hb1K : sK b1 = 5 := by rw [hb1]; exact (lyA_k haN haK hi)
      refine px_aaload (n := 8) (t0 := 4) dX0_copyFrom_21 (ly0_lt1 haN haK) (ly0_k1 haN haK) (ly0_s1 haN haK) (by decide) (fun _ => rfl) hi rfl (b := b1) (by rw [hb1]; exact (lyA_r haN haK hi)) hb1N ?_
      refine px_aload_n dX0_copyFrom_22 rfl rfl ?_
      refine gf_X0_11 rfl dX0_copyFrom_23 hpN hpK rfl (ly0_r0 hpN hpK) (ly0_lt1 hpN hpK) ?_
      refine px_iload_n dX0_copyFrom_26 rfl rfl ?_
      obtain ⟨hi, h⟩ := h
      obtain ⟨b2, hb2⟩ : ∃ y : Nat, y = p + 3 + 7 * x2.toNatClampNeg := ⟨_, rfl⟩
      have h := h b2 hb2
      have hb2N : b2 < NN := by rw [hb2]; exact (lyA_l hpN hpK hi)
      have hb2K : sK b2 = 5 := by rw [hb2]; exact (lyA_k hpN hpK hi)
      refine px_aaload (n := 8) (t0 := 4) dX0_copyFrom_27 (ly0_lt1 hpN hpK) (ly0_k1 hpN hpK) (ly0_s1 hpN hpK) (by decide) (fun _ => rfl) hi rfl (b := b2) (by rw [hb2]; exact (lyA_r hpN hpK hi)) hb2N ?_
      refine px_callV_V (As := [.ref b2]) (st := []) dX0_copyFrom_28 lk_X0_32.1 lk_X0_32.2 (b := b1) hb1N hb1K (by decide) rfl (by decide) rfl (Nat.le_of_ble_eq_true rfl) rfl rfl (Nat.le_of_ble_eq_true rfl) ⟨Nat.le_refl _, Nat.le_refl _, Nat.le_refl _⟩ ?_
      refine PAt.mono h (fun v κ gi3 gl4 hq => ?_)
      obtain ⟨rfl, -, h⟩ := hq
      refine px_iinc (v := x2 + (1 : Int32)) (ls2 := [some (.ref a), some (.ref p), some (.int (x2 + (1 : Int32)))]) dX0_copyFrom_31 rfl rfl (by decide) rfl ?_
      refine px_goto (tgt := 2) dX0_copyFrom_34 (by decide) ?_
      exact PAt.forget h (lsub_at ⟨rfl, ⟨rfl, ⟨rfl, trivial⟩⟩⟩)
set_option maxRecDepth 100000 in
theorem v_X0_copyFrom_37 {a : Nat} {p : Nat} {gi : Gi} {gl : Gl} {Q : Gi → Gl → Prop} (haN : a < NN) (haK : sK a = 0) (hpN : p < NN) (hpK : sK p = 0) (h : f_X0_copyFrom_37 a p gi gl Q) : p_X0_copyFrom_37 a p gi gl Q := by
  unfold f_X0_copyFrom_37 at h
  show PAt mX0_copyFrom NN NN κF 37 [some (.ref a), some (.ref p), none] [] gi gl _
  refine px_aload_n dX0_copyFrom_37 rfl rfl ?_
  refine gf_X0_17 rfl dX0_copyFrom_38 hpN hpK rfl (ly0_r1 hpN hpK) (ly0_lt2 hpN hpK) ?_
  refine px_iconst (v := (0 : Int32)) dX0_copyFrom_41 (by decide) ?_
  refine px_aload_n dX0_copyFrom_42 rfl rfl ?_
  refine gf_X0_17 rfl dX0_copyFrom_43 haN haK rfl (ly0_r1 haN haK) (ly0_lt2 haN haK) ?_
  refine px_iconst (v := (0 : Int32)) dX0_copyFrom_46 (by decide) ?_
  refine px_aload_n dX0_copyFrom_47 rfl rfl ?_
  refine gf_X0_17 rfl dX0_copyFrom_48 haN haK rfl (ly0_r1 haN haK) (ly0_lt2 haN haK) ?_
  refine px_alen (n := 12) (t0 := 0) (v := (12 : Int32)) dX0_copyFrom_51 (ly0_lt2 haN haK) (ly0_k2 haN haK) (ly0_s2 haN haK) (by decide) (fun _ => rfl) (by decide) ?_
  refine px_copyi (na := 12) (nb := 12) dX0_copyFrom_52 (ly0_lt2 hpN hpK) (ly0_lt2 haN haK) rfl (ly0_k2 hpN hpK) (ly0_k2 haN haK) (ly0_s2 hpN hpK) (ly0_s2 haN haK) w_1162 w_645 w_644 w_117 (by decide) (by decide) (by decide) (by decide +kernel) (by decide +kernel) (by decide) (by decide) ?_
  obtain ⟨gi1, hgi1⟩ : ∃ y : Gi, y = uI gi (a + 2) (va_cpy (gi (p + 2)) (gi (a + 2)) (0 : Int32).toNatClampNeg (0 : Int32).toNatClampNeg (12 : Int32).toNatClampNeg) := ⟨_, rfl⟩
  have h := h gi1 hgi1
  refine px_namegi hgi1 ?_
  refine px_aload_n dX0_copyFrom_55 rfl rfl ?_
  refine px_aload_n dX0_copyFrom_56 rfl rfl ?_
  refine gf_X0_28 rfl dX0_copyFrom_57 hpN hpK ?_
  refine pf_X0_28 rfl dX0_copyFrom_60 haN haK ?_
  obtain ⟨gi2, hgi2⟩ : ∃ y : Gi, y = uI gi1 a (upd (gi1 a) 2 (gi1 p 2)) := ⟨_, rfl⟩
  have h := h gi2 hgi2
  refine px_namegi hgi2 ?_
  exact px_return dX0_copyFrom_63 rfl rfl ⟨rfl, rfl, h⟩
def f_X0_size (a : Nat) (gi : Gi) (gl : Gl) (Q : Int32 → Gi → Gl → Prop) : Prop :=
Q (gi a 2) gi gl
set_option maxRecDepth 100000 in
theorem v_X0_size {a : Nat} {gi : Gi} {gl : Gl} {Q : Int32 → Gi → Gl → Prop} (haN : a < NN) (haK : sK a = 0) (h : f_X0_size a gi gl Q) : p_X0_size a gi gl Q := by
  unfold f_X0_size at h
  show PAt mX0_size NN NN κF 0 [some (.ref a)] [] gi gl _
  refine px_aload_n dX0_size_0 rfl rfl ?_
  refine gf_X0_28 rfl dX0_size_1 haN haK ?_
  exact px_ireturn dX0_size_4 rfl ⟨.int, rfl, rfl, rfl⟩ ⟨rfl, _, rfl, h⟩
def f_X0_get (a : Nat) (x1 : Int32) (gi : Gi) (gl : Gl) (Q : Option Nat → Gi → Gl → Prop) : Prop :=
if x1 < 0 then
(Q none gi gl)
else
(if (gi a 2) ≤ x1 then
(Q none gi gl)
else
(if x1 < (8 : Int32) then
(vp_in x1 8 ∧
∀ b1 : Nat, b1 = a + 3 + 7 * x1.toNatClampNeg →
Q (some b1) gi gl)
else
(Q none gi gl)))
set_option maxRecDepth 100000 in
theorem v_X0_get {a : Nat} {x1 : Int32} {gi : Gi} {gl : Gl} {Q : Option Nat → Gi → Gl → Prop} (haN : a < NN) (haK : sK a = 0) (h : f_X0_get a x1 gi gl Q) : p_X0_get a x1 gi gl Q := by
  unfold f_X0_get at h
  show PAt mX0_get NN NN κF 0 [some (.ref a), some (.int x1)] [] gi gl _
  refine px_iload_n dX0_get_0 rfl rfl ?_
  refine px_if_lt (tgt := 21) dX0_get_1 (by decide) ?_
  by_cases hc : x1 < 0
  · rw [if_pos hc] at h ⊢
    refine px_aconst_null dX0_get_21 ?_
    refine px_goto (tgt := 31) dX0_get_22 (by decide) ?_
    exact px_areturn dX0_get_31 rfl (Or.inl rfl) ⟨_, rfl⟩ ⟨rfl, Or.inl ⟨rfl, h⟩⟩
  · rw [if_neg hc] at h ⊢
    refine px_iload_n dX0_get_4 rfl rfl ?_
    refine px_aload_n dX0_get_5 rfl rfl ?_
    refine gf_X0_28 rfl dX0_get_6 haN haK ?_
    refine px_icmp_ge (tgt := 21) dX0_get_9 (by decide) ?_
    by_cases hc : (gi a 2) ≤ x1
    · rw [if_pos hc] at h ⊢
      refine px_aconst_null dX0_get_21 ?_
      refine px_goto (tgt := 31) dX0_get_22 (by decide) ?_
      exact px_areturn dX0_get_31 rfl (Or.inl rfl) ⟨_, rfl⟩ ⟨rfl, Or.inl ⟨rfl, h⟩⟩
    · rw [if_neg hc] at h ⊢
      refine px_iload_n dX0_get_12 rfl rfl ?_
      refine px_aload_n dX0_get_13 rfl rfl ?_
      refine gf_X0_11 rfl dX0_get_14 haN haK rfl (ly0_r0 haN haK) (ly0_lt1 haN haK) ?_
      refine px_alen (n := 8) (t0 := 4) (v := (8 : Int32)) dX0_get_17 (ly0_lt1 haN haK) (ly0_k1 haN haK) (ly0_s1 haN haK) (by decide) (fun _ => rfl) (by decide) ?_
      refine px_icmp_lt (tgt := 25) dX0_get_18 (by decide) ?_
      by_cases hc : x1 < (8 : Int32)
      · rw [if_pos hc] at h ⊢
        refine px_aload_n dX0_get_25 rfl rfl ?_
        refine gf_X0_11 rfl dX0_get_26 haN haK rfl (ly0_r0 haN haK) (ly0_lt1 haN haK) ?_
        refine px_iload_n dX0_get_29 rfl rfl ?_
        obtain ⟨hi, h⟩ := h
        obtain ⟨b1, hb1⟩ : ∃ y : Nat, y = a + 3 + 7 * x1.toNatClampNeg := ⟨_, rfl⟩
        have h := h b1 hb1
        have hb1N : b1 < NN := by rw [hb1]; exact (lyA_l haN haK hi)
        have hb1K : sK b1 = 5 := by rw [hb1]; exact (lyA_k haN haK hi)
        refine px_aaload (n := 8) (t0 := 4) dX0_get_30 (ly0_lt1 haN haK) (ly0_k1 haN haK) (ly0_s1 haN haK) (by decide) (fun _ => rfl) hi rfl (b := b1) (by rw [hb1]; exact (lyA_r haN haK hi)) hb1N ?_
        exact px_areturn dX0_get_31 rfl (Or.inr ⟨_, rfl⟩) ⟨_, rfl⟩ ⟨rfl, Or.inr ⟨_, rfl, hb1N, hb1K, h⟩⟩
      · rw [if_neg hc] at h ⊢
        refine px_aconst_null dX0_get_21 ?_
        refine px_goto (tgt := 31) dX0_get_22 (by decide) ?_
        exact px_areturn dX0_get_31 rfl (Or.inl rfl) ⟨_, rfl⟩ ⟨rfl, Or.inl ⟨rfl, h⟩⟩
def f_X0_add (a : Nat) (p : Nat) (gi : Gi) (gl : Gl) (Q : Int32 → Gi → Gl → Prop) : Prop :=
if (gi a 2) < 0 then
(Q ((-1) : Int32) gi gl)
else
(if (gi a 2) < (8 : Int32) then
(vp_in (gi a 2) 8 ∧
∀ b1 : Nat, b1 = a + 3 + 7 * (gi a 2).toNatClampNeg →
p_X5_copyFrom b1 p gi gl (fun (gi2 : Gi) (gl3 : Gl) =>
∀ gi4 : Gi, gi4 = uI gi2 a (upd (gi2 a) 2 ((gi2 a 2) + (1 : Int32))) →
Q ((gi4 a 2) - (1 : Int32)) gi4 gl3))
else
(Q ((-1) : Int32) gi gl))
set_option maxRecDepth 100000 in
theorem v_X0_add {a : Nat} {p : Nat} {gi : Gi} {gl : Gl} {Q : Int32 → Gi → Gl → Prop} (haN : a < NN) (haK : sK a = 0) (hpN : p < NN) (hpK : sK p = 5) (h : f_X0_add a p gi gl Q) : p_X0_add a p gi gl Q := by
  unfold f_X0_add at h
  show PAt mX0_add NN NN κF 0 [some (.ref a), some (.ref p)] [] gi gl _
  refine px_aload_n dX0_add_0 rfl rfl ?_
  refine gf_X0_28 rfl dX0_add_1 haN haK ?_
  refine px_if_lt (tgt := 19) dX0_add_4 (by decide) ?_
  by_cases hc : (gi a 2) < 0
  · rw [if_pos hc] at h ⊢
    refine px_iconst (v := ((-1) : Int32)) dX0_add_19 (by decide) ?_
    exact px_ireturn dX0_add_20 rfl ⟨.int, rfl, rfl, rfl⟩ ⟨rfl, _, rfl, h⟩
  · rw [if_neg hc] at h ⊢
    refine px_aload_n dX0_add_7 rfl rfl ?_
    refine gf_X0_28 rfl dX0_add_8 haN haK ?_
    refine px_aload_n dX0_add_11 rfl rfl ?_
    refine gf_X0_11 rfl dX0_add_12 haN haK rfl (ly0_r0 haN haK) (ly0_lt1 haN haK) ?_
    refine px_alen (n := 8) (t0 := 4) (v := (8 : Int32)) dX0_add_15 (ly0_lt1 haN haK) (ly0_k1 haN haK) (ly0_s1 haN haK) (by decide) (fun _ => rfl) (by decide) ?_
    refine px_icmp_lt (tgt := 21) dX0_add_16 (by decide) ?_
    by_cases hc : (gi a 2) < (8 : Int32)
    · rw [if_pos hc] at h ⊢
      refine px_aload_n dX0_add_21 rfl rfl ?_
      refine gf_X0_11 rfl dX0_add_22 haN haK rfl (ly0_r0 haN haK) (ly0_lt1 haN haK) ?_
      refine px_aload_n dX0_add_25 rfl rfl ?_
      refine gf_X0_28 rfl dX0_add_26 haN haK ?_
      obtain ⟨hi, h⟩ := h
      obtain ⟨b1, hb1⟩ : ∃ y : Nat, y = a + 3 + 7 * (gi a 2).toNatClampNeg := ⟨_, rfl⟩
      have h := h b1 hb1
      have hb1N : b1 < NN := by rw [hb1]; exact (lyA_l haN haK hi)
      have hb1K : sK b1 = 5 := by rw [hb1]; exact (lyA_k haN haK hi)
      refine px_aaload (n := 8) (t0 := 4) dX0_add_29 (ly0_lt1 haN haK) (ly0_k1 haN haK) (ly0_s1 haN haK) (by decide) (fun _ => rfl) hi rfl (b := b1) (by rw [hb1]; exact (lyA_r haN haK hi)) hb1N ?_
      refine px_aload_n dX0_add_30 rfl rfl ?_
      refine px_callV_V (As := [.ref p]) (st := []) dX0_add_31 lk_X0_32.1 lk_X0_32.2 (b := b1) hb1N hb1K (by decide) rfl (by decide) rfl (Nat.le_of_ble_eq_true rfl) rfl rfl (Nat.le_of_ble_eq_true rfl) ⟨Nat.le_refl _, Nat.le_refl _, Nat.le_refl _⟩ ?_
      refine PAt.mono h (fun v κ gi2 gl3 hq => ?_)
      obtain ⟨rfl, -, h⟩ := hq
      refine px_aload_n dX0_add_34 rfl rfl ?_
      refine px_dup dX0_add_35 rfl ?_
      refine gf_X0_28 rfl dX0_add_36 haN haK ?_
      refine px_iconst (v := (1 : Int32)) dX0_add_39 (by decide) ?_
      refine px_iadd dX0_add_40 ?_
      refine pf_X0_28 rfl dX0_add_41 haN haK ?_
      obtain ⟨gi4, hgi4⟩ : ∃ y : Gi, y = uI gi2 a (upd (gi2 a) 2 ((gi2 a 2) + (1 : Int32))) := ⟨_, rfl⟩
      have h := h gi4 hgi4
      refine px_namegi hgi4 ?_
      refine px_aload_n dX0_add_44 rfl rfl ?_
      refine gf_X0_28 rfl dX0_add_45 haN haK ?_
      refine px_iconst (v := (1 : Int32)) dX0_add_48 (by decide) ?_
      refine px_isub dX0_add_49 ?_
      exact px_ireturn dX0_add_50 rfl ⟨.int, rfl, rfl, rfl⟩ ⟨rfl, _, rfl, h⟩
    · rw [if_neg hc] at h ⊢
      refine px_iconst (v := ((-1) : Int32)) dX0_add_19 (by decide) ?_
      exact px_ireturn dX0_add_20 rfl ⟨.int, rfl, rfl, rfl⟩ ⟨rfl, _, rfl, h⟩
abbrev p_X0_signCount_4 (a : Nat) (x1 : Int32) (x2 : Int32) (gi : Gi) (gl : Gl) (Q : Int32 → Gi → Gl → Prop) : Prop := PAt mX0_signCount NN NN κF 4 [some (.ref a), some (.int x1), some (.int x2)] [] gi gl (RiQ Q)
def f_X0_signCount (a : Nat) (gi : Gi) (gl : Gl) (Q : Int32 → Gi → Gl → Prop) : Prop :=
p_X0_signCount_4 a (0 : Int32) (0 : Int32) gi gl Q
def f_X0_signCount_4 (a : Nat) (x1 : Int32) (x2 : Int32) (gi : Gi) (gl : Gl) (Q : Int32 → Gi → Gl → Prop) : Prop :=
if (gi a 2) ≤ x2 then
(Q x1 gi gl)
else
(if (8 : Int32) ≤ x2 then
(Q x1 gi gl)
else
(vp_in x2 8 ∧
∀ b1 : Nat, b1 = a + 3 + 7 * x2.toNatClampNeg →
p_X5_size b1 gi gl (fun (r4 : Int32) (gi2 : Gi) (gl3 : Gl) =>
∀ z5 : Int32, z5 = x1 + r4 →
p_X0_signCount_4 a z5 (x2 + (1 : Int32)) gi2 gl3 Q)))
set_option maxRecDepth 100000 in
theorem v_X0_signCount {a : Nat} {gi : Gi} {gl : Gl} {Q : Int32 → Gi → Gl → Prop} (haN : a < NN) (haK : sK a = 0) (h : f_X0_signCount a gi gl Q) : p_X0_signCount a gi gl Q := by
  unfold f_X0_signCount at h
  show PAt mX0_signCount NN NN κF 0 [some (.ref a), none, none] [] gi gl _
  refine px_iconst (v := (0 : Int32)) dX0_signCount_0 (by decide) ?_
  refine px_istore_n (ls2 := [some (.ref a), some (.int (0 : Int32)), none]) (i := 1) rfl dX0_signCount_1 (by decide) rfl ?_
  refine px_iconst (v := (0 : Int32)) dX0_signCount_2 (by decide) ?_
  refine px_istore_n (ls2 := [some (.ref a), some (.int (0 : Int32)), some (.int (0 : Int32))]) (i := 2) rfl dX0_signCount_3 (by decide) rfl ?_
  exact PAt.forget h (lsub_at ⟨rfl, ⟨rfl, ⟨rfl, trivial⟩⟩⟩)
set_option maxRecDepth 100000 in
theorem v_X0_signCount_4 {a : Nat} {x1 : Int32} {x2 : Int32} {gi : Gi} {gl : Gl} {Q : Int32 → Gi → Gl → Prop} (haN : a < NN) (haK : sK a = 0) (h : f_X0_signCount_4 a x1 x2 gi gl Q) : p_X0_signCount_4 a x1 x2 gi gl Q := by
  unfold f_X0_signCount_4 at h
  show PAt mX0_signCount NN NN κF 4 [some (.ref a), some (.int x1), some (.int x2)] [] gi gl _
  refine px_iload_n dX0_signCount_4 rfl rfl ?_
  refine px_aload_n dX0_signCount_5 rfl rfl ?_
  refine gf_X0_28 rfl dX0_signCount_6 haN haK ?_
  refine px_icmp_ge (tgt := 39) dX0_signCount_9 (by decide) ?_
  by_cases hc : (gi a 2) ≤ x2
  · rw [if_pos hc] at h ⊢
    refine px_iload_n dX0_signCount_39 rfl rfl ?_
    exact px_ireturn dX0_signCount_40 rfl ⟨.int, rfl, rfl, rfl⟩ ⟨rfl, _, rfl, h⟩
  · rw [if_neg hc] at h ⊢
    refine px_iload_n dX0_signCount_12 rfl rfl ?_
    refine px_aload_n dX0_signCount_13 rfl rfl ?_
    refine gf_X0_11 rfl dX0_signCount_14 haN haK rfl (ly0_r0 haN haK) (ly0_lt1 haN haK) ?_
    refine px_alen (n := 8) (t0 := 4) (v := (8 : Int32)) dX0_signCount_17 (ly0_lt1 haN haK) (ly0_k1 haN haK) (ly0_s1 haN haK) (by decide) (fun _ => rfl) (by decide) ?_
    refine px_icmp_ge (tgt := 39) dX0_signCount_18 (by decide) ?_
    by_cases hc : (8 : Int32) ≤ x2
    · rw [if_pos hc] at h ⊢
      refine px_iload_n dX0_signCount_39 rfl rfl ?_
      exact px_ireturn dX0_signCount_40 rfl ⟨.int, rfl, rfl, rfl⟩ ⟨rfl, _, rfl, h⟩
    · rw [if_neg hc] at h ⊢
      refine px_iload_n dX0_signCount_21 rfl rfl ?_
      refine px_aload_n dX0_signCount_22 rfl rfl ?_
      refine gf_X0_11 rfl dX0_signCount_23 haN haK rfl (ly0_r0 haN haK) (ly0_lt1 haN haK) ?_
      refine px_iload_n dX0_signCount_26 rfl rfl ?_
      obtain ⟨hi, h⟩ := h
      obtain ⟨b1, hb1⟩ : ∃ y : Nat, y = a + 3 + 7 * x2.toNatClampNeg := ⟨_, rfl⟩
      have h := h b1 hb1
      have hb1N : b1 < NN := by rw [hb1]; exact (lyA_l haN haK hi)
      have hb1K : sK b1 = 5 := by rw [hb1]; exact (lyA_k haN haK hi)
      refine px_aaload (n := 8) (t0 := 4) dX0_signCount_27 (ly0_lt1 haN haK) (ly0_k1 haN haK) (ly0_s1 haN haK) (by decide) (fun _ => rfl) hi rfl (b := b1) (by rw [hb1]; exact (lyA_r haN haK hi)) hb1N ?_
      refine px_callV_I (As := []) (st := [.int x1]) dX0_signCount_28 lk_X0_42.1 lk_X0_42.2 (b := b1) hb1N hb1K (by decide) rfl (by decide) rfl (Nat.le_of_ble_eq_true rfl) rfl rfl (Nat.le_of_ble_eq_true rfl) ⟨Nat.le_refl _, Nat.le_refl _, Nat.le_refl _⟩ ?_
      refine PAt.mono h (fun v κ gi2 gl3 hq => ?_)
      obtain ⟨rfl, r4, rfl, h⟩ := hq
      refine px_iadd dX0_signCount_31 ?_
      obtain ⟨z5, hz5⟩ : ∃ y : Int32, y = x1 + r4 := ⟨_, rfl⟩
      have h := h z5 hz5
      refine px_namei hz5 ?_
      refine px_istore_n (ls2 := [some (.ref a), some (.int z5), some (.int x2)]) (i := 1) rfl dX0_signCount_32 (by decide) rfl ?_
      refine px_iinc (v := x2 + (1 : Int32)) (ls2 := [some (.ref a), some (.int z5), some (.int (x2 + (1 : Int32)))]) dX0_signCount_33 rfl rfl (by decide) rfl ?_
      refine px_goto (tgt := 4) dX0_signCount_36 (by decide) ?_
      exact PAt.forget h (lsub_at ⟨rfl, ⟨rfl, ⟨rfl, trivial⟩⟩⟩)
def f_X0_setWeight (a : Nat) (x1 : Int32) (x2 : Int32) (gi : Gi) (gl : Gl) (Q : Int32 → Gi → Gl → Prop) : Prop :=
if x1 < 0 then
(Q (0 : Int32) gi gl)
else
(if x1 < (12 : Int32) then
(vp_in x1 12 ∧
∀ gi1 : Gi, gi1 = uI gi (a + 2) (upd (gi (a + 2)) x1.toNatClampNeg x2) →
Q (1 : Int32) gi1 gl)
else
(Q (0 : Int32) gi gl))
set_option maxRecDepth 100000 in
theorem v_X0_setWeight {a : Nat} {x1 : Int32} {x2 : Int32} {gi : Gi} {gl : Gl} {Q : Int32 → Gi → Gl → Prop} (haN : a < NN) (haK : sK a = 0) (h : f_X0_setWeight a x1 x2 gi gl Q) : p_X0_setWeight a x1 x2 gi gl Q := by
  unfold f_X0_setWeight at h
  show PAt mX0_setWeight NN NN κF 0 [some (.ref a), some (.int x1), some (.int x2)] [] gi gl _
  refine px_iload_n dX0_setWeight_0 rfl rfl ?_
  refine px_if_lt (tgt := 13) dX0_setWeight_1 (by decide) ?_
  by_cases hc : x1 < 0
  · rw [if_pos hc] at h ⊢
    refine px_iconst (v := (0 : Int32)) dX0_setWeight_13 (by decide) ?_
    exact px_ireturn dX0_setWeight_14 rfl ⟨.boolean, rfl, rfl, by decide⟩ ⟨rfl, _, rfl, h⟩
  · rw [if_neg hc] at h ⊢
    refine px_iload_n dX0_setWeight_4 rfl rfl ?_
    refine px_aload_n dX0_setWeight_5 rfl rfl ?_
    refine gf_X0_17 rfl dX0_setWeight_6 haN haK rfl (ly0_r1 haN haK) (ly0_lt2 haN haK) ?_
    refine px_alen (n := 12) (t0 := 0) (v := (12 : Int32)) dX0_setWeight_9 (ly0_lt2 haN haK) (ly0_k2 haN haK) (ly0_s2 haN haK) (by decide) (fun _ => rfl) (by decide) ?_
    refine px_icmp_lt (tgt := 15) dX0_setWeight_10 (by decide) ?_
    by_cases hc : x1 < (12 : Int32)
    · rw [if_pos hc] at h ⊢
      refine px_aload_n dX0_setWeight_15 rfl rfl ?_
      refine gf_X0_17 rfl dX0_setWeight_16 haN haK rfl (ly0_r1 haN haK) (ly0_lt2 haN haK) ?_
      refine px_iload_n dX0_setWeight_19 rfl rfl ?_
      refine px_iload_n dX0_setWeight_20 rfl rfl ?_
      obtain ⟨hi, h⟩ := h
      refine px_iastore (n := 12) dX0_setWeight_21 (ly0_lt2 haN haK) (ly0_k2 haN haK) (ly0_s2 haN haK) hi ?_
      obtain ⟨gi1, hgi1⟩ : ∃ y : Gi, y = uI gi (a + 2) (upd (gi (a + 2)) x1.toNatClampNeg x2) := ⟨_, rfl⟩
      have h := h gi1 hgi1
      refine px_namegi hgi1 ?_
      refine px_iconst (v := (1 : Int32)) dX0_setWeight_22 (by decide) ?_
      exact px_ireturn dX0_setWeight_23 rfl ⟨.boolean, rfl, rfl, by decide⟩ ⟨rfl, _, rfl, h⟩
    · rw [if_neg hc] at h ⊢
      refine px_iconst (v := (0 : Int32)) dX0_setWeight_13 (by decide) ?_
      exact px_ireturn dX0_setWeight_14 rfl ⟨.boolean, rfl, rfl, by decide⟩ ⟨rfl, _, rfl, h⟩
def f_X0_weightOf (a : Nat) (x1 : Int32) (gi : Gi) (gl : Gl) (Q : Int32 → Gi → Gl → Prop) : Prop :=
if x1 < 0 then
(Q ((-1) : Int32) gi gl)
else
(if x1 < (12 : Int32) then
(vp_in x1 12 ∧
Q (gi (a + 2) x1.toNatClampNeg) gi gl)
else
(Q ((-1) : Int32) gi gl))
set_option maxRecDepth 100000 in
theorem v_X0_weightOf {a : Nat} {x1 : Int32} {gi : Gi} {gl : Gl} {Q : Int32 → Gi → Gl → Prop} (haN : a < NN) (haK : sK a = 0) (h : f_X0_weightOf a x1 gi gl Q) : p_X0_weightOf a x1 gi gl Q := by
  unfold f_X0_weightOf at h
  show PAt mX0_weightOf NN NN κF 0 [some (.ref a), some (.int x1)] [] gi gl _
  refine px_iload_n dX0_weightOf_0 rfl rfl ?_
  refine px_if_lt (tgt := 13) dX0_weightOf_1 (by decide) ?_
  by_cases hc : x1 < 0
  · rw [if_pos hc] at h ⊢
    refine px_iconst (v := ((-1) : Int32)) dX0_weightOf_13 (by decide) ?_
    refine px_goto (tgt := 23) dX0_weightOf_14 (by decide) ?_
    exact px_ireturn dX0_weightOf_23 rfl ⟨.int, rfl, rfl, rfl⟩ ⟨rfl, _, rfl, h⟩
  · rw [if_neg hc] at h ⊢
    refine px_iload_n dX0_weightOf_4 rfl rfl ?_
    refine px_aload_n dX0_weightOf_5 rfl rfl ?_
    refine gf_X0_17 rfl dX0_weightOf_6 haN haK rfl (ly0_r1 haN haK) (ly0_lt2 haN haK) ?_
    refine px_alen (n := 12) (t0 := 0) (v := (12 : Int32)) dX0_weightOf_9 (ly0_lt2 haN haK) (ly0_k2 haN haK) (ly0_s2 haN haK) (by decide) (fun _ => rfl) (by decide) ?_
    refine px_icmp_lt (tgt := 17) dX0_weightOf_10 (by decide) ?_
    by_cases hc : x1 < (12 : Int32)
    · rw [if_pos hc] at h ⊢
      refine px_aload_n dX0_weightOf_17 rfl rfl ?_
      refine gf_X0_17 rfl dX0_weightOf_18 haN haK rfl (ly0_r1 haN haK) (ly0_lt2 haN haK) ?_
      refine px_iload_n dX0_weightOf_21 rfl rfl ?_
      obtain ⟨hi, h⟩ := h
      refine px_iaload (n := 12) dX0_weightOf_22 (ly0_lt2 haN haK) (ly0_k2 haN haK) (ly0_s2 haN haK) hi ?_
      exact px_ireturn dX0_weightOf_23 rfl ⟨.int, rfl, rfl, rfl⟩ ⟨rfl, _, rfl, h⟩
    · rw [if_neg hc] at h ⊢
      refine px_iconst (v := ((-1) : Int32)) dX0_weightOf_13 (by decide) ?_
      refine px_goto (tgt := 23) dX0_weightOf_14 (by decide) ?_
      exact px_ireturn dX0_weightOf_23 rfl ⟨.int, rfl, rfl, rfl⟩ ⟨rfl, _, rfl, h⟩
abbrev p_X0_commonCount_4 (a : Nat) (x1 : Int32) (x2 : Int32) (x3 : Int32) (gi : Gi) (gl : Gl) (Q : Int32 → Gi → Gl → Prop) : Prop := PAt mX0_commonCount NN NN κF 4 [some (.ref a), some (.int x1), some (.int x2), some (.int x3), none, none] [] gi gl (RiQ Q)
abbrev p_X0_commonCount_16 (a : Nat) (x1 : Int32) (x2 : Int32) (x3 : Int32) (x4 : Int32) (x5 : Int32) (gi : Gi) (gl : Gl) (Q : Int32 → Gi → Gl → Prop) : Prop := PAt mX0_commonCount NN NN κF 16 [some (.ref a), some (.int x1), some (.int x2), some (.int x3), some (.int x4), some (.int x5)] [] gi gl (RiQ Q)
abbrev p_X0_commonCount_48 (a : Nat) (x1 : Int32) (x2 : Int32) (x3 : Int32) (x4 : Int32) (x5 : Int32) (gi : Gi) (gl : Gl) (Q : Int32 → Gi → Gl → Prop) : Prop := PAt mX0_commonCount NN NN κF 48 [some (.ref a), some (.int x1), some (.int x2), some (.int x3), some (.int x4), some (.int x5)] [] gi gl (RiQ Q)
def f_X0_commonCount (a : Nat) (x1 : Int32) (gi : Gi) (gl : Gl) (Q : Int32 → Gi → Gl → Prop) : Prop :=
p_X0_commonCount_4 a x1 (0 : Int32) (0 : Int32) gi gl Q
def f_X0_commonCount_4 (a : Nat) (x1 : Int32) (x2 : Int32) (x3 : Int32) (gi : Gi) (gl : Gl) (Q : Int32 → Gi → Gl → Prop) : Prop :=
if (12 : Int32) ≤ x3 then
(Q x2 gi gl)
else
(p_X0_commonCount_16 a x1 x2 x3 (0 : Int32) (0 : Int32) gi gl Q)
def f_X0_commonCount_16 (a : Nat) (x1 : Int32) (x2 : Int32) (x3 : Int32) (x4 : Int32) (x5 : Int32) (gi : Gi) (gl : Gl) (Q : Int32 → Gi → Gl → Prop) : Prop :=
if (24 : Int32) ≤ x5 then
(p_X0_commonCount_48 a x1 x2 x3 x4 x3 gi gl Q)
else
(p_X0_commonMinutes a x1 x3 x5 gi gl (fun (r3 : Int32) (gi1 : Gi) (gl2 : Gl) =>
p_J6_bitCount_0f7a4 r3 gi1 gl2 (fun (r6 : Int32) (gi4 : Gi) (gl5 : Gl) =>
∀ z7 : Int32, z7 = x4 + r6 →
p_X0_commonCount_16 a x1 x2 x3 z7 (x5 + (1 : Int32)) gi4 gl5 Q)))
def f_X0_commonCount_48 (a : Nat) (x1 : Int32) (x2 : Int32) (x3 : Int32) (x4 : Int32) (x5 : Int32) (gi : Gi) (gl : Gl) (Q : Int32 → Gi → Gl → Prop) : Prop :=
if (120 : Int32) ≤ x5 then
(p_X0_commonCount_4 a x1 x2 (x3 + (1 : Int32)) gi gl Q)
else
(if x4 ≤ 0 then
(p_X0_commonCount_4 a x1 x2 (x3 + (1 : Int32)) gi gl Q)
else
(p_X0_commonDays a x1 x5 gi gl (fun (r3 : Int32) (gi1 : Gi) (gl2 : Gl) =>
p_J6_bitCount_0f7a4 r3 gi1 gl2 (fun (r6 : Int32) (gi4 : Gi) (gl5 : Gl) =>
∀ z7 : Int32, z7 = x2 + (r6 * x4) →
p_X0_commonCount_48 a x1 z7 x3 x4 (x5 + (12 : Int32)) gi4 gl5 Q))))
set_option maxRecDepth 100000 in
theorem v_X0_commonCount {a : Nat} {x1 : Int32} {gi : Gi} {gl : Gl} {Q : Int32 → Gi → Gl → Prop} (haN : a < NN) (haK : sK a = 0) (h : f_X0_commonCount a x1 gi gl Q) : p_X0_commonCount a x1 gi gl Q := by
  unfold f_X0_commonCount at h
  show PAt mX0_commonCount NN NN κF 0 [some (.ref a), some (.int x1), none, none, none, none] [] gi gl _
  refine px_iconst (v := (0 : Int32)) dX0_commonCount_0 (by decide) ?_
  refine px_istore_n (ls2 := [some (.ref a), some (.int x1), some (.int (0 : Int32)), none, none, none]) (i := 2) rfl dX0_commonCount_1 (by decide) rfl ?_
  refine px_iconst (v := (0 : Int32)) dX0_commonCount_2 (by decide) ?_
  refine px_istore_n (ls2 := [some (.ref a), some (.int x1), some (.int (0 : Int32)), some (.int (0 : Int32)), none, none]) (i := 3) rfl dX0_commonCount_3 (by decide) rfl ?_
  exact PAt.forget h (lsub_at ⟨rfl, ⟨rfl, ⟨rfl, ⟨rfl, trivial⟩⟩⟩⟩)
set_option maxRecDepth 100000 in
theorem v_X0_commonCount_4 {a : Nat} {x1 : Int32} {x2 : Int32} {x3 : Int32} {gi : Gi} {gl : Gl} {Q : Int32 → Gi → Gl → Prop} (haN : a < NN) (haK : sK a = 0) (h : f_X0_commonCount_4 a x1 x2 x3 gi gl Q) : p_X0_commonCount_4 a x1 x2 x3 gi gl Q := by
  unfold f_X0_commonCount_4 at h
  show PAt mX0_commonCount NN NN κF 4 [some (.ref a), some (.int x1), some (.int x2), some (.int x3), none, none] [] gi gl _
  refine px_iload_n dX0_commonCount_4 rfl rfl ?_
  refine px_bipush (v := (12 : Int32)) dX0_commonCount_5 (by decide) ?_
  refine px_icmp_ge (tgt := 88) dX0_commonCount_7 (by decide) ?_
  by_cases hc : (12 : Int32) ≤ x3
  · rw [if_pos hc] at h ⊢
    refine px_iload_n dX0_commonCount_88 rfl rfl ?_
    exact px_ireturn dX0_commonCount_89 rfl ⟨.int, rfl, rfl, rfl⟩ ⟨rfl, _, rfl, h⟩
  · rw [if_neg hc] at h ⊢
    refine px_iconst (v := (0 : Int32)) dX0_commonCount_10 (by decide) ?_
    refine px_istore (ls2 := [some (.ref a), some (.int x1), some (.int x2), some (.int x3), some (.int (0 : Int32)), none]) dX0_commonCount_11 (by decide) rfl ?_
    refine px_iconst (v := (0 : Int32)) dX0_commonCount_13 (by decide) ?_
    refine px_istore (ls2 := [some (.ref a), some (.int x1), some (.int x2), some (.int x3), some (.int (0 : Int32)), some (.int (0 : Int32))]) dX0_commonCount_14 (by decide) rfl ?_
    exact PAt.forget h (lsub_at ⟨rfl, ⟨rfl, ⟨rfl, ⟨rfl, ⟨rfl, ⟨rfl, trivial⟩⟩⟩⟩⟩⟩)
set_option maxRecDepth 100000 in
theorem v_X0_commonCount_16 {a : Nat} {x1 : Int32} {x2 : Int32} {x3 : Int32} {x4 : Int32} {x5 : Int32} {gi : Gi} {gl : Gl} {Q : Int32 → Gi → Gl → Prop} (haN : a < NN) (haK : sK a = 0) (h : f_X0_commonCount_16 a x1 x2 x3 x4 x5 gi gl Q) : p_X0_commonCount_16 a x1 x2 x3 x4 x5 gi gl Q := by
  unfold f_X0_commonCount_16 at h
  show PAt mX0_commonCount NN NN κF 16 [some (.ref a), some (.int x1), some (.int x2), some (.int x3), some (.int x4), some (.int x5)] [] gi gl _
  refine px_iload dX0_commonCount_16 rfl ?_
  refine px_bipush (v := (24 : Int32)) dX0_commonCount_18 (by decide) ?_
  refine px_icmp_ge (tgt := 45) dX0_commonCount_20 (by decide) ?_
  by_cases hc : (24 : Int32) ≤ x5
  · rw [if_pos hc] at h ⊢
    refine px_iload_n dX0_commonCount_45 rfl rfl ?_
    refine px_istore (ls2 := [some (.ref a), some (.int x1), some (.int x2), some (.int x3), some (.int x4), some (.int x3)]) dX0_commonCount_46 (by decide) rfl ?_
    exact PAt.forget h (lsub_at ⟨rfl, ⟨rfl, ⟨rfl, ⟨rfl, ⟨rfl, ⟨rfl, trivial⟩⟩⟩⟩⟩⟩)
  · rw [if_neg hc] at h ⊢
    refine px_iload dX0_commonCount_23 rfl ?_
    refine px_aload_n dX0_commonCount_25 rfl rfl ?_
    refine px_iload_n dX0_commonCount_26 rfl rfl ?_
    refine px_iload_n dX0_commonCount_27 rfl rfl ?_
    refine px_iload dX0_commonCount_28 rfl ?_
    refine px_callV_I (As := [.int x1, .int x3, .int x5]) (st := [.int x4]) dX0_commonCount_30 lk_X0_46.1 lk_X0_46.2 (b := a) haN haK (by decide) rfl (by decide) rfl (Nat.le_of_ble_eq_true rfl) rfl rfl (Nat.le_of_ble_eq_true rfl) ⟨Nat.le_refl _, Nat.le_refl _, Nat.le_refl _⟩ ?_
    refine PAt.mono h (fun v κ gi1 gl2 hq => ?_)
    obtain ⟨rfl, r3, rfl, h⟩ := hq
    refine px_callS_I (As := [.int r3]) (st := [.int x4]) dX0_commonCount_33 lk_X0_50.1 lk_X0_50.2 (by decide) rfl (Nat.le_of_ble_eq_true rfl) rfl rfl (Nat.le_of_ble_eq_true rfl) ⟨Nat.le_refl _, Nat.le_refl _, Nat.le_refl _⟩ ?_
    refine PAt.mono h (fun v κ gi4 gl5 hq => ?_)
    obtain ⟨rfl, r6, rfl, h⟩ := hq
    refine px_iadd dX0_commonCount_36 ?_
    obtain ⟨z7, hz7⟩ : ∃ y : Int32, y = x4 + r6 := ⟨_, rfl⟩
    have h := h z7 hz7
    refine px_namei hz7 ?_
    refine px_istore (ls2 := [some (.ref a), some (.int x1), some (.int x2), some (.int x3), some (.int z7), some (.int x5)]) dX0_commonCount_37 (by decide) rfl ?_
    refine px_iinc (v := x5 + (1 : Int32)) (ls2 := [some (.ref a), some (.int x1), some (.int x2), some (.int x3), some (.int z7), some (.int (x5 + (1 : Int32)))]) dX0_commonCount_39 rfl rfl (by decide) rfl ?_
    refine px_goto (tgt := 16) dX0_commonCount_42 (by decide) ?_
    exact PAt.forget h (lsub_at ⟨rfl, ⟨rfl, ⟨rfl, ⟨rfl, ⟨rfl, ⟨rfl, trivial⟩⟩⟩⟩⟩⟩)
set_option maxRecDepth 100000 in
theorem v_X0_commonCount_48 {a : Nat} {x1 : Int32} {x2 : Int32} {x3 : Int32} {x4 : Int32} {x5 : Int32} {gi : Gi} {gl : Gl} {Q : Int32 → Gi → Gl → Prop} (haN : a < NN) (haK : sK a = 0) (h : f_X0_commonCount_48 a x1 x2 x3 x4 x5 gi gl Q) : p_X0_commonCount_48 a x1 x2 x3 x4 x5 gi gl Q := by
  unfold f_X0_commonCount_48 at h
  show PAt mX0_commonCount NN NN κF 48 [some (.ref a), some (.int x1), some (.int x2), some (.int x3), some (.int x4), some (.int x5)] [] gi gl _
  refine px_iload dX0_commonCount_48 rfl ?_
  refine px_bipush (v := (120 : Int32)) dX0_commonCount_50 (by decide) ?_
  refine px_icmp_ge (tgt := 82) dX0_commonCount_52 (by decide) ?_
  by_cases hc : (120 : Int32) ≤ x5
  · rw [if_pos hc] at h ⊢
    refine px_iinc (v := x3 + (1 : Int32)) (ls2 := [some (.ref a), some (.int x1), some (.int x2), some (.int (x3 + (1 : Int32))), some (.int x4), some (.int x5)]) dX0_commonCount_82 rfl rfl (by decide) rfl ?_
    refine px_goto (tgt := 4) dX0_commonCount_85 (by decide) ?_
    exact PAt.forget h (lsub_at ⟨rfl, ⟨rfl, ⟨rfl, ⟨rfl, trivial⟩⟩⟩⟩)
  · rw [if_neg hc] at h ⊢
    refine px_iload dX0_commonCount_55 rfl ?_
    refine px_if_le (tgt := 82) dX0_commonCount_57 (by decide) ?_
    by_cases hc : x4 ≤ 0
    · rw [if_pos hc] at h ⊢
      refine px_iinc (v := x3 + (1 : Int32)) (ls2 := [some (.ref a), some (.int x1), some (.int x2), some (.int (x3 + (1 : Int32))), some (.int x4), some (.int x5)]) dX0_commonCount_82 rfl rfl (by decide) rfl ?_
      refine px_goto (tgt := 4) dX0_commonCount_85 (by decide) ?_
      exact PAt.forget h (lsub_at ⟨rfl, ⟨rfl, ⟨rfl, ⟨rfl, trivial⟩⟩⟩⟩)
    · rw [if_neg hc] at h ⊢
      refine px_iload_n dX0_commonCount_60 rfl rfl ?_
      refine px_aload_n dX0_commonCount_61 rfl rfl ?_
      refine px_iload_n dX0_commonCount_62 rfl rfl ?_
      refine px_iload dX0_commonCount_63 rfl ?_
      refine px_callV_I (As := [.int x1, .int x5]) (st := [.int x2]) dX0_commonCount_65 lk_X0_56.1 lk_X0_56.2 (b := a) haN haK (by decide) rfl (by decide) rfl (Nat.le_of_ble_eq_true rfl) rfl rfl (Nat.le_of_ble_eq_true rfl) ⟨Nat.le_refl _, Nat.le_refl _, Nat.le_refl _⟩ ?_
      refine PAt.mono h (fun v κ gi1 gl2 hq => ?_)
      obtain ⟨rfl, r3, rfl, h⟩ := hq
      refine px_callS_I (As := [.int r3]) (st := [.int x2]) dX0_commonCount_68 lk_X0_50.1 lk_X0_50.2 (by decide) rfl (Nat.le_of_ble_eq_true rfl) rfl rfl (Nat.le_of_ble_eq_true rfl) ⟨Nat.le_refl _, Nat.le_refl _, Nat.le_refl _⟩ ?_
      refine PAt.mono h (fun v κ gi4 gl5 hq => ?_)
      obtain ⟨rfl, r6, rfl, h⟩ := hq
      refine px_iload dX0_commonCount_71 rfl ?_
      refine px_imul dX0_commonCount_73 ?_
      refine px_iadd dX0_commonCount_74 ?_
      obtain ⟨z7, hz7⟩ : ∃ y : Int32, y = x2 + (r6 * x4) := ⟨_, rfl⟩
      have h := h z7 hz7
      refine px_namei hz7 ?_
      refine px_istore_n (ls2 := [some (.ref a), some (.int x1), some (.int z7), some (.int x3), some (.int x4), some (.int x5)]) (i := 2) rfl dX0_commonCount_75 (by decide) rfl ?_
      refine px_iinc (v := x5 + (12 : Int32)) (ls2 := [some (.ref a), some (.int x1), some (.int z7), some (.int x3), some (.int x4), some (.int (x5 + (12 : Int32)))]) dX0_commonCount_76 rfl rfl (by decide) rfl ?_
      refine px_goto (tgt := 48) dX0_commonCount_79 (by decide) ?_
      exact PAt.forget h (lsub_at ⟨rfl, ⟨rfl, ⟨rfl, ⟨rfl, ⟨rfl, ⟨rfl, trivial⟩⟩⟩⟩⟩⟩)
abbrev p_X0_firstCommon_2 (a : Nat) (x1 : Int32) (x2 : Int32) (gi : Gi) (gl : Gl) (Q : Int32 → Gi → Gl → Prop) : Prop := PAt mX0_firstCommon NN NN κF 2 [some (.ref a), some (.int x1), some (.int x2), none, none] [] gi gl (RiQ Q)
abbrev p_X0_firstCommon_32 (a : Nat) (x1 : Int32) (x2 : Int32) (x3 : Int32) (s0 : Int32) (gi : Gi) (gl : Gl) (Q : Int32 → Gi → Gl → Prop) : Prop := PAt mX0_firstCommon NN NN κF 32 [some (.ref a), some (.int x1), some (.int x2), some (.int x3), none] [.int s0] gi gl (RiQ Q)
def f_X0_firstCommon (a : Nat) (x1 : Int32) (gi : Gi) (gl : Gl) (Q : Int32 → Gi → Gl → Prop) : Prop :=
p_X0_firstCommon_2 a x1 (0 : Int32) gi gl Q
def f_X0_firstCommon_2 (a : Nat) (x1 : Int32) (x2 : Int32) (gi : Gi) (gl : Gl) (Q : Int32 → Gi → Gl → Prop) : Prop :=
if (120 : Int32) ≤ x2 then
(Q ((-1) : Int32) gi gl)
else
(p_X0_commonDays a x1 x2 gi gl (fun (r3 : Int32) (gi1 : Gi) (gl2 : Gl) =>
if ¬ r3 = 0 then
(p_X0_firstCommonMinute a x1 (jr x2 (12 : Int32)) gi1 gl2 (fun (r6 : Int32) (gi4 : Gi) (gl5 : Gl) =>
p_X0_firstCommon_32 a x1 x2 r3 r6 gi4 gl5 Q))
else
(p_X0_firstCommon_32 a x1 x2 r3 ((-1) : Int32) gi1 gl2 Q)))
def f_X0_firstCommon_32 (a : Nat) (x1 : Int32) (x2 : Int32) (x3 : Int32) (s0 : Int32) (gi : Gi) (gl : Gl) (Q : Int32 → Gi → Gl → Prop) : Prop :=
if s0 = ((-1) : Int32) then
(p_X0_firstCommon_2 a x1 (x2 + (1 : Int32)) gi gl Q)
else
(p_X11_lowest x3 gi gl (fun (r3 : Int32) (gi1 : Gi) (gl2 : Gl) =>
Q ((((x2 * (30 : Int32)) + r3) * (720 : Int32)) + s0) gi1 gl2))
set_option maxRecDepth 100000 in
theorem v_X0_firstCommon {a : Nat} {x1 : Int32} {gi : Gi} {gl : Gl} {Q : Int32 → Gi → Gl → Prop} (haN : a < NN) (haK : sK a = 0) (h : f_X0_firstCommon a x1 gi gl Q) : p_X0_firstCommon a x1 gi gl Q := by
  unfold f_X0_firstCommon at h
  show PAt mX0_firstCommon NN NN κF 0 [some (.ref a), some (.int x1), none, none, none] [] gi gl _
  refine px_iconst (v := (0 : Int32)) dX0_firstCommon_0 (by decide) ?_
  refine px_istore_n (ls2 := [some (.ref a), some (.int x1), some (.int (0 : Int32)), none, none]) (i := 2) rfl dX0_firstCommon_1 (by decide) rfl ?_
  exact PAt.forget h (lsub_at ⟨rfl, ⟨rfl, ⟨rfl, trivial⟩⟩⟩)
set_option maxRecDepth 100000 in
theorem v_X0_firstCommon_2 {a : Nat} {x1 : Int32} {x2 : Int32} {gi : Gi} {gl : Gl} {Q : Int32 → Gi → Gl → Prop} (haN : a < NN) (haK : sK a = 0) (h : f_X0_firstCommon_2 a x1 x2 gi gl Q) : p_X0_firstCommon_2 a x1 x2 gi gl Q := by
  unfold f_X0_firstCommon_2 at h
  show PAt mX0_firstCommon NN NN κF 2 [some (.ref a), some (.int x1), some (.int x2), none, none] [] gi gl _
  refine px_iload_n dX0_firstCommon_2 rfl rfl ?_
  refine px_bipush (v := (120 : Int32)) dX0_firstCommon_3 (by decide) ?_
  refine px_icmp_ge (tgt := 63) dX0_firstCommon_5 (by decide) ?_
  by_cases hc : (120 : Int32) ≤ x2
  · rw [if_pos hc] at h ⊢
    refine px_iconst (v := ((-1) : Int32)) dX0_firstCommon_63 (by decide) ?_
    exact px_ireturn dX0_firstCommon_64 rfl ⟨.int, rfl, rfl, rfl⟩ ⟨rfl, _, rfl, h⟩
  · rw [if_neg hc] at h ⊢
    refine px_aload_n dX0_firstCommon_8 rfl rfl ?_
    refine px_iload_n dX0_firstCommon_9 rfl rfl ?_
    refine px_iload_n dX0_firstCommon_10 rfl rfl ?_
    refine px_callV_I (As := [.int x1, .int x2]) (st := []) dX0_firstCommon_11 lk_X0_56.1 lk_X0_56.2 (b := a) haN haK (by decide) rfl (by decide) rfl (Nat.le_of_ble_eq_true rfl) rfl rfl (Nat.le_of_ble_eq_true rfl) ⟨Nat.le_refl _, Nat.le_refl _, Nat.le_refl _⟩ ?_
    refine PAt.mono h (fun v κ gi1 gl2 hq => ?_)
    obtain ⟨rfl, r3, rfl, h⟩ := hq
    refine px_istore_n (ls2 := [some (.ref a), some (.int x1), some (.int x2), some (.int r3), none]) (i := 3) rfl dX0_firstCommon_14 (by decide) rfl ?_
    refine px_iload_n dX0_firstCommon_15 rfl rfl ?_
    refine px_if_ne (tgt := 23) dX0_firstCommon_16 (by decide) ?_
    by_cases hc : ¬ r3 = 0
    · rw [if_pos hc] at h ⊢
      refine px_aload_n dX0_firstCommon_23 rfl rfl ?_
      refine px_iload_n dX0_firstCommon_24 rfl rfl ?_
      refine px_iload_n dX0_firstCommon_25 rfl rfl ?_
      refine px_bipush (v := (12 : Int32)) dX0_firstCommon_26 (by decide) ?_
      refine px_irem dX0_firstCommon_28 (by decide) ?_
      refine px_callV_I (As := [.int x1, .int (jr x2 (12 : Int32))]) (st := []) dX0_firstCommon_29 lk_X0_60.1 lk_X0_60.2 (b := a) haN haK (by decide) rfl (by decide) rfl (Nat.le_of_ble_eq_true rfl) rfl rfl (Nat.le_of_ble_eq_true rfl) ⟨Nat.le_refl _, Nat.le_refl _, Nat.le_refl _⟩ ?_
      refine PAt.mono h (fun v κ gi4 gl5 hq => ?_)
      obtain ⟨rfl, r6, rfl, h⟩ := hq
      exact PAt.forget h (lsub_at ⟨rfl, ⟨rfl, ⟨rfl, ⟨rfl, trivial⟩⟩⟩⟩)
    · rw [if_neg hc] at h ⊢
      refine px_iconst (v := ((-1) : Int32)) dX0_firstCommon_19 (by decide) ?_
      refine px_goto (tgt := 32) dX0_firstCommon_20 (by decide) ?_
      exact PAt.forget h (lsub_at ⟨rfl, ⟨rfl, ⟨rfl, ⟨rfl, trivial⟩⟩⟩⟩)
set_option maxRecDepth 100000 in
theorem v_X0_firstCommon_32 {a : Nat} {x1 : Int32} {x2 : Int32} {x3 : Int32} {s0 : Int32} {gi : Gi} {gl : Gl} {Q : Int32 → Gi → Gl → Prop} (haN : a < NN) (haK : sK a = 0) (h : f_X0_firstCommon_32 a x1 x2 x3 s0 gi gl Q) : p_X0_firstCommon_32 a x1 x2 x3 s0 gi gl Q := by
  unfold f_X0_firstCommon_32 at h
  show PAt mX0_firstCommon NN NN κF 32 [some (.ref a), some (.int x1), some (.int x2), some (.int x3), none] [.int s0] gi gl _
  refine px_istore (ls2 := [some (.ref a), some (.int x1), some (.int x2), some (.int x3), some (.int s0)]) dX0_firstCommon_32 (by decide) rfl ?_
  refine px_iload dX0_firstCommon_34 rfl ?_
  refine px_iconst (v := ((-1) : Int32)) dX0_firstCommon_36 (by decide) ?_
  refine px_icmp_eq (tgt := 57) dX0_firstCommon_37 (by decide) ?_
  by_cases hc : s0 = ((-1) : Int32)
  · rw [if_pos hc] at h ⊢
    refine px_iinc (v := x2 + (1 : Int32)) (ls2 := [some (.ref a), some (.int x1), some (.int (x2 + (1 : Int32))), some (.int x3), some (.int s0)]) dX0_firstCommon_57 rfl rfl (by decide) rfl ?_
    refine px_goto (tgt := 2) dX0_firstCommon_60 (by decide) ?_
    exact PAt.forget h (lsub_at ⟨rfl, ⟨rfl, ⟨rfl, trivial⟩⟩⟩)
  · rw [if_neg hc] at h ⊢
    refine px_iload_n dX0_firstCommon_40 rfl rfl ?_
    refine px_bipush (v := (30 : Int32)) dX0_firstCommon_41 (by decide) ?_
    refine px_imul dX0_firstCommon_43 ?_
    refine px_iload_n dX0_firstCommon_44 rfl rfl ?_
    refine px_callSN_I (As := [.int x3]) (st := [.int (x2 * (30 : Int32))]) dX0_firstCommon_45 lk_X0_63.1 lk_X0_63.2 (by decide) rfl (Nat.le_of_ble_eq_true rfl) rfl rfl (Nat.le_of_ble_eq_true rfl) ⟨Nat.le_refl _, Nat.le_refl _, Nat.le_refl _⟩ ?_
    refine PAt.mono h (fun v κ gi1 gl2 hq => ?_)
    obtain ⟨rfl, r3, rfl, h⟩ := hq
    refine px_iadd dX0_firstCommon_48 ?_
    refine px_sipush (v := (720 : Int32)) dX0_firstCommon_49 (by decide) ?_
    refine px_imul dX0_firstCommon_52 ?_
    refine px_iload dX0_firstCommon_53 rfl ?_
    refine px_iadd dX0_firstCommon_55 ?_
    exact px_ireturn dX0_firstCommon_56 rfl ⟨.int, rfl, rfl, rfl⟩ ⟨rfl, _, rfl, h⟩
abbrev p_X0_mostMeeting_4 (a : Nat) (x1 : Int32) (x2 : Int32) (x3 : Int32) (gi : Gi) (gl : Gl) (Q : Int32 → Gi → Gl → Prop) : Prop := PAt mX0_mostMeeting NN NN κF 4 [some (.ref a), some (.int x1), some (.int x2), some (.int x3), none] [] gi gl (RiQ Q)
abbrev p_X0_mostMeeting_32 (a : Nat) (x1 : Int32) (x2 : Int32) (x3 : Int32) (s0 : Int32) (gi : Gi) (gl : Gl) (Q : Int32 → Gi → Gl → Prop) : Prop := PAt mX0_mostMeeting NN NN κF 32 [some (.ref a), some (.int x1), some (.int x2), some (.int x3), none] [.int s0] gi gl (RiQ Q)
def f_X0_mostMeeting (a : Nat) (x1 : Int32) (gi : Gi) (gl : Gl) (Q : Int32 → Gi → Gl → Prop) : Prop :=
p_X0_mostMeeting_4 a x1 (0 : Int32) (1 : Int32) gi gl Q
def f_X0_mostMeeting_4 (a : Nat) (x1 : Int32) (x2 : Int32) (x3 : Int32) (gi : Gi) (gl : Gl) (Q : Int32 → Gi → Gl → Prop) : Prop :=
if x1 < x3 then
(Q x2 gi gl)
else
(if (256 : Int32) ≤ x3 then
(Q x2 gi gl)
else
(p_J6_bitCount_0f7a4 x3 gi gl (fun (r3 : Int32) (gi1 : Gi) (gl2 : Gl) =>
p_J6_bitCount_0f7a4 x2 gi1 gl2 (fun (r6 : Int32) (gi4 : Gi) (gl5 : Gl) =>
if r3 ≤ r6 then
(p_X0_mostMeeting_32 a x1 x2 x3 (0 : Int32) gi4 gl5 Q)
else
(p_X0_mostMeeting_32 a x1 x2 x3 (1 : Int32) gi4 gl5 Q)))))
def f_X0_mostMeeting_32 (a : Nat) (x1 : Int32) (x2 : Int32) (x3 : Int32) (s0 : Int32) (gi : Gi) (gl : Gl) (Q : Int32 → Gi → Gl → Prop) : Prop :=
if ¬ (x3 &&& (x1 ^^^ ((-1) : Int32))) = 0 then
(p_X0_mostMeeting_4 a x1 x2 (x3 + (1 : Int32)) gi gl Q)
else
(if s0 = 0 then
(p_X0_mostMeeting_4 a x1 x2 (x3 + (1 : Int32)) gi gl Q)
else
(p_X0_firstCommon a x3 gi gl (fun (r3 : Int32) (gi1 : Gi) (gl2 : Gl) =>
if r3 = ((-1) : Int32) then
(p_X0_mostMeeting_4 a x1 x2 (x3 + (1 : Int32)) gi1 gl2 Q)
else
(p_X0_mostMeeting_4 a x1 x3 (x3 + (1 : Int32)) gi1 gl2 Q))))
set_option maxRecDepth 100000 in
theorem v_X0_mostMeeting {a : Nat} {x1 : Int32} {gi : Gi} {gl : Gl} {Q : Int32 → Gi → Gl → Prop} (haN : a < NN) (haK : sK a = 0) (h : f_X0_mostMeeting a x1 gi gl Q) : p_X0_mostMeeting a x1 gi gl Q := by
  unfold f_X0_mostMeeting at h
  show PAt mX0_mostMeeting NN NN κF 0 [some (.ref a), some (.int x1), none, none, none] [] gi gl _
  refine px_iconst (v := (0 : Int32)) dX0_mostMeeting_0 (by decide) ?_
  refine px_istore_n (ls2 := [some (.ref a), some (.int x1), some (.int (0 : Int32)), none, none]) (i := 2) rfl dX0_mostMeeting_1 (by decide) rfl ?_
  refine px_iconst (v := (1 : Int32)) dX0_mostMeeting_2 (by decide) ?_
  refine px_istore_n (ls2 := [some (.ref a), some (.int x1), some (.int (0 : Int32)), some (.int (1 : Int32)), none]) (i := 3) rfl dX0_mostMeeting_3 (by decide) rfl ?_
  exact PAt.forget h (lsub_at ⟨rfl, ⟨rfl, ⟨rfl, ⟨rfl, trivial⟩⟩⟩⟩)
set_option maxRecDepth 100000 in
theorem v_X0_mostMeeting_4 {a : Nat} {x1 : Int32} {x2 : Int32} {x3 : Int32} {gi : Gi} {gl : Gl} {Q : Int32 → Gi → Gl → Prop} (haN : a < NN) (haK : sK a = 0) (h : f_X0_mostMeeting_4 a x1 x2 x3 gi gl Q) : p_X0_mostMeeting_4 a x1 x2 x3 gi gl Q := by
  unfold f_X0_mostMeeting_4 at h
  show PAt mX0_mostMeeting NN NN κF 4 [some (.ref a), some (.int x1), some (.int x2), some (.int x3), none] [] gi gl _
  refine px_iload_n dX0_mostMeeting_4 rfl rfl ?_
  refine px_iload_n dX0_mostMeeting_5 rfl rfl ?_
  refine px_icmp_gt (tgt := 64) dX0_mostMeeting_6 (by decide) ?_
  by_cases hc : x1 < x3
  · rw [if_pos hc] at h ⊢
    refine px_iload_n dX0_mostMeeting_64 rfl rfl ?_
    exact px_ireturn dX0_mostMeeting_65 rfl ⟨.int, rfl, rfl, rfl⟩ ⟨rfl, _, rfl, h⟩
  · rw [if_neg hc] at h ⊢
    refine px_iload_n dX0_mostMeeting_9 rfl rfl ?_
    refine px_sipush (v := (256 : Int32)) dX0_mostMeeting_10 (by decide) ?_
    refine px_icmp_ge (tgt := 64) dX0_mostMeeting_13 (by decide) ?_
    by_cases hc : (256 : Int32) ≤ x3
    · rw [if_pos hc] at h ⊢
      refine px_iload_n dX0_mostMeeting_64 rfl rfl ?_
      exact px_ireturn dX0_mostMeeting_65 rfl ⟨.int, rfl, rfl, rfl⟩ ⟨rfl, _, rfl, h⟩
    · rw [if_neg hc] at h ⊢
      refine px_iload_n dX0_mostMeeting_16 rfl rfl ?_
      refine px_callS_I (As := [.int x3]) (st := []) dX0_mostMeeting_17 lk_X0_50.1 lk_X0_50.2 (by decide) rfl (Nat.le_of_ble_eq_true rfl) rfl rfl (Nat.le_of_ble_eq_true rfl) ⟨Nat.le_refl _, Nat.le_refl _, Nat.le_refl _⟩ ?_
      refine PAt.mono h (fun v κ gi1 gl2 hq => ?_)
      obtain ⟨rfl, r3, rfl, h⟩ := hq
      refine px_iload_n dX0_mostMeeting_20 rfl rfl ?_
      refine px_callS_I (As := [.int x2]) (st := [.int r3]) dX0_mostMeeting_21 lk_X0_50.1 lk_X0_50.2 (by decide) rfl (Nat.le_of_ble_eq_true rfl) rfl rfl (Nat.le_of_ble_eq_true rfl) ⟨Nat.le_refl _, Nat.le_refl _, Nat.le_refl _⟩ ?_
      refine PAt.mono h (fun v κ gi4 gl5 hq => ?_)
      obtain ⟨rfl, r6, rfl, h⟩ := hq
      refine px_icmp_le (tgt := 31) dX0_mostMeeting_24 (by decide) ?_
      by_cases hc : r3 ≤ r6
      · rw [if_pos hc] at h ⊢
        refine px_iconst (v := (0 : Int32)) dX0_mostMeeting_31 (by decide) ?_
        exact PAt.forget h (lsub_at ⟨rfl, ⟨rfl, ⟨rfl, ⟨rfl, trivial⟩⟩⟩⟩)
      · rw [if_neg hc] at h ⊢
        refine px_iconst (v := (1 : Int32)) dX0_mostMeeting_27 (by decide) ?_
        refine px_goto (tgt := 32) dX0_mostMeeting_28 (by decide) ?_
        exact PAt.forget h (lsub_at ⟨rfl, ⟨rfl, ⟨rfl, ⟨rfl, trivial⟩⟩⟩⟩)
set_option maxRecDepth 100000 in
theorem v_X0_mostMeeting_32 {a : Nat} {x1 : Int32} {x2 : Int32} {x3 : Int32} {s0 : Int32} {gi : Gi} {gl : Gl} {Q : Int32 → Gi → Gl → Prop} (haN : a < NN) (haK : sK a = 0) (h : f_X0_mostMeeting_32 a x1 x2 x3 s0 gi gl Q) : p_X0_mostMeeting_32 a x1 x2 x3 s0 gi gl Q := by
  unfold f_X0_mostMeeting_32 at h
  show PAt mX0_mostMeeting NN NN κF 32 [some (.ref a), some (.int x1), some (.int x2), some (.int x3), none] [.int s0] gi gl _
  refine px_istore (ls2 := [some (.ref a), some (.int x1), some (.int x2), some (.int x3), some (.int s0)]) dX0_mostMeeting_32 (by decide) rfl ?_
  refine px_iload_n dX0_mostMeeting_34 rfl rfl ?_
  refine px_iload_n dX0_mostMeeting_35 rfl rfl ?_
  refine px_iconst (v := ((-1) : Int32)) dX0_mostMeeting_36 (by decide) ?_
  refine px_ixor dX0_mostMeeting_37 ?_
  refine px_iand dX0_mostMeeting_38 ?_
  refine px_if_ne (tgt := 58) dX0_mostMeeting_39 (by decide) ?_
  by_cases hc : ¬ (x3 &&& (x1 ^^^ ((-1) : Int32))) = 0
  · rw [if_pos hc] at h ⊢
    refine px_iinc (v := x3 + (1 : Int32)) (ls2 := [some (.ref a), some (.int x1), some (.int x2), some (.int (x3 + (1 : Int32))), some (.int s0)]) dX0_mostMeeting_58 rfl rfl (by decide) rfl ?_
    refine px_goto (tgt := 4) dX0_mostMeeting_61 (by decide) ?_
    exact PAt.forget h (lsub_at ⟨rfl, ⟨rfl, ⟨rfl, ⟨rfl, trivial⟩⟩⟩⟩)
  · rw [if_neg hc] at h ⊢
    refine px_iload dX0_mostMeeting_42 rfl ?_
    refine px_if_eq (tgt := 58) dX0_mostMeeting_44 (by decide) ?_
    by_cases hc : s0 = 0
    · rw [if_pos hc] at h ⊢
      refine px_iinc (v := x3 + (1 : Int32)) (ls2 := [some (.ref a), some (.int x1), some (.int x2), some (.int (x3 + (1 : Int32))), some (.int s0)]) dX0_mostMeeting_58 rfl rfl (by decide) rfl ?_
      refine px_goto (tgt := 4) dX0_mostMeeting_61 (by decide) ?_
      exact PAt.forget h (lsub_at ⟨rfl, ⟨rfl, ⟨rfl, ⟨rfl, trivial⟩⟩⟩⟩)
    · rw [if_neg hc] at h ⊢
      refine px_aload_n dX0_mostMeeting_47 rfl rfl ?_
      refine px_iload_n dX0_mostMeeting_48 rfl rfl ?_
      refine px_callV_I (As := [.int x3]) (st := []) dX0_mostMeeting_49 lk_X0_66.1 lk_X0_66.2 (b := a) haN haK (by decide) rfl (by decide) rfl (Nat.le_of_ble_eq_true rfl) rfl rfl (Nat.le_of_ble_eq_true rfl) ⟨Nat.le_refl _, Nat.le_refl _, Nat.le_refl _⟩ ?_
      refine PAt.mono h (fun v κ gi1 gl2 hq => ?_)
      obtain ⟨rfl, r3, rfl, h⟩ := hq
      refine px_iconst (v := ((-1) : Int32)) dX0_mostMeeting_52 (by decide) ?_
      refine px_icmp_eq (tgt := 58) dX0_mostMeeting_53 (by decide) ?_
      by_cases hc : r3 = ((-1) : Int32)
      · rw [if_pos hc] at h ⊢
        refine px_iinc (v := x3 + (1 : Int32)) (ls2 := [some (.ref a), some (.int x1), some (.int x2), some (.int (x3 + (1 : Int32))), some (.int s0)]) dX0_mostMeeting_58 rfl rfl (by decide) rfl ?_
        refine px_goto (tgt := 4) dX0_mostMeeting_61 (by decide) ?_
        exact PAt.forget h (lsub_at ⟨rfl, ⟨rfl, ⟨rfl, ⟨rfl, trivial⟩⟩⟩⟩)
      · rw [if_neg hc] at h ⊢
        refine px_iload_n dX0_mostMeeting_56 rfl rfl ?_
        refine px_istore_n (ls2 := [some (.ref a), some (.int x1), some (.int x3), some (.int x3), some (.int s0)]) (i := 2) rfl dX0_mostMeeting_57 (by decide) rfl ?_
        refine px_iinc (v := x3 + (1 : Int32)) (ls2 := [some (.ref a), some (.int x1), some (.int x3), some (.int (x3 + (1 : Int32))), some (.int s0)]) dX0_mostMeeting_58 rfl rfl (by decide) rfl ?_
        refine px_goto (tgt := 4) dX0_mostMeeting_61 (by decide) ?_
        exact PAt.forget h (lsub_at ⟨rfl, ⟨rfl, ⟨rfl, ⟨rfl, trivial⟩⟩⟩⟩)
abbrev p_X0_firstCommonMinute_2 (a : Nat) (x1 : Int32) (x2 : Int32) (x3 : Int32) (gi : Gi) (gl : Gl) (Q : Int32 → Gi → Gl → Prop) : Prop := PAt mX0_firstCommonMinute NN NN κF 2 [some (.ref a), some (.int x1), some (.int x2), some (.int x3), none] [] gi gl (RiQ Q)
def f_X0_firstCommonMinute (a : Nat) (x1 : Int32) (x2 : Int32) (gi : Gi) (gl : Gl) (Q : Int32 → Gi → Gl → Prop) : Prop :=
p_X0_firstCommonMinute_2 a x1 x2 (0 : Int32) gi gl Q
def f_X0_firstCommonMinute_2 (a : Nat) (x1 : Int32) (x2 : Int32) (x3 : Int32) (gi : Gi) (gl : Gl) (Q : Int32 → Gi → Gl → Prop) : Prop :=
if (24 : Int32) ≤ x3 then
(Q ((-1) : Int32) gi gl)
else
(p_X0_commonMinutes a x1 x2 x3 gi gl (fun (r3 : Int32) (gi1 : Gi) (gl2 : Gl) =>
if r3 = 0 then
(p_X0_firstCommonMinute_2 a x1 x2 (x3 + (1 : Int32)) gi1 gl2 Q)
else
(p_X11_lowest r3 gi1 gl2 (fun (r6 : Int32) (gi4 : Gi) (gl5 : Gl) =>
Q ((x3 * (30 : Int32)) + r6) gi4 gl5))))
set_option maxRecDepth 100000 in
theorem v_X0_firstCommonMinute {a : Nat} {x1 : Int32} {x2 : Int32} {gi : Gi} {gl : Gl} {Q : Int32 → Gi → Gl → Prop} (haN : a < NN) (haK : sK a = 0) (h : f_X0_firstCommonMinute a x1 x2 gi gl Q) : p_X0_firstCommonMinute a x1 x2 gi gl Q := by
  unfold f_X0_firstCommonMinute at h
  show PAt mX0_firstCommonMinute NN NN κF 0 [some (.ref a), some (.int x1), some (.int x2), none, none] [] gi gl _
  refine px_iconst (v := (0 : Int32)) dX0_firstCommonMinute_0 (by decide) ?_
  refine px_istore_n (ls2 := [some (.ref a), some (.int x1), some (.int x2), some (.int (0 : Int32)), none]) (i := 3) rfl dX0_firstCommonMinute_1 (by decide) rfl ?_
  exact PAt.forget h (lsub_at ⟨rfl, ⟨rfl, ⟨rfl, ⟨rfl, trivial⟩⟩⟩⟩)
set_option maxRecDepth 100000 in
theorem v_X0_firstCommonMinute_2 {a : Nat} {x1 : Int32} {x2 : Int32} {x3 : Int32} {gi : Gi} {gl : Gl} {Q : Int32 → Gi → Gl → Prop} (haN : a < NN) (haK : sK a = 0) (h : f_X0_firstCommonMinute_2 a x1 x2 x3 gi gl Q) : p_X0_firstCommonMinute_2 a x1 x2 x3 gi gl Q := by
  unfold f_X0_firstCommonMinute_2 at h
  show PAt mX0_firstCommonMinute NN NN κF 2 [some (.ref a), some (.int x1), some (.int x2), some (.int x3), none] [] gi gl _
  refine px_iload_n dX0_firstCommonMinute_2 rfl rfl ?_
  refine px_bipush (v := (24 : Int32)) dX0_firstCommonMinute_3 (by decide) ?_
  refine px_icmp_ge (tgt := 39) dX0_firstCommonMinute_5 (by decide) ?_
  by_cases hc : (24 : Int32) ≤ x3
  · rw [if_pos hc] at h ⊢
    refine px_iconst (v := ((-1) : Int32)) dX0_firstCommonMinute_39 (by decide) ?_
    exact px_ireturn dX0_firstCommonMinute_40 rfl ⟨.int, rfl, rfl, rfl⟩ ⟨rfl, _, rfl, h⟩
  · rw [if_neg hc] at h ⊢
    refine px_aload_n dX0_firstCommonMinute_8 rfl rfl ?_
    refine px_iload_n dX0_firstCommonMinute_9 rfl rfl ?_
    refine px_iload_n dX0_firstCommonMinute_10 rfl rfl ?_
    refine px_iload_n dX0_firstCommonMinute_11 rfl rfl ?_
    refine px_callV_I (As := [.int x1, .int x2, .int x3]) (st := []) dX0_firstCommonMinute_12 lk_X0_46.1 lk_X0_46.2 (b := a) haN haK (by decide) rfl (by decide) rfl (Nat.le_of_ble_eq_true rfl) rfl rfl (Nat.le_of_ble_eq_true rfl) ⟨Nat.le_refl _, Nat.le_refl _, Nat.le_refl _⟩ ?_
    refine PAt.mono h (fun v κ gi1 gl2 hq => ?_)
    obtain ⟨rfl, r3, rfl, h⟩ := hq
    refine px_istore (ls2 := [some (.ref a), some (.int x1), some (.int x2), some (.int x3), some (.int r3)]) dX0_firstCommonMinute_15 (by decide) rfl ?_
    refine px_iload dX0_firstCommonMinute_17 rfl ?_
    refine px_if_eq (tgt := 33) dX0_firstCommonMinute_19 (by decide) ?_
    by_cases hc : r3 = 0
    · rw [if_pos hc] at h ⊢
      refine px_iinc (v := x3 + (1 : Int32)) (ls2 := [some (.ref a), some (.int x1), some (.int x2), some (.int (x3 + (1 : Int32))), some (.int r3)]) dX0_firstCommonMinute_33 rfl rfl (by decide) rfl ?_
      refine px_goto (tgt := 2) dX0_firstCommonMinute_36 (by decide) ?_
      exact PAt.forget h (lsub_at ⟨rfl, ⟨rfl, ⟨rfl, ⟨rfl, trivial⟩⟩⟩⟩)
    · rw [if_neg hc] at h ⊢
      refine px_iload_n dX0_firstCommonMinute_22 rfl rfl ?_
      refine px_bipush (v := (30 : Int32)) dX0_firstCommonMinute_23 (by decide) ?_
      refine px_imul dX0_firstCommonMinute_25 ?_
      refine px_iload dX0_firstCommonMinute_26 rfl ?_
      refine px_callSN_I (As := [.int r3]) (st := [.int (x3 * (30 : Int32))]) dX0_firstCommonMinute_28 lk_X0_63.1 lk_X0_63.2 (by decide) rfl (Nat.le_of_ble_eq_true rfl) rfl rfl (Nat.le_of_ble_eq_true rfl) ⟨Nat.le_refl _, Nat.le_refl _, Nat.le_refl _⟩ ?_
      refine PAt.mono h (fun v κ gi4 gl5 hq => ?_)
      obtain ⟨rfl, r6, rfl, h⟩ := hq
      refine px_iadd dX0_firstCommonMinute_31 ?_
      exact px_ireturn dX0_firstCommonMinute_32 rfl ⟨.int, rfl, rfl, rfl⟩ ⟨rfl, _, rfl, h⟩
abbrev p_X0_commonDays_6 (a : Nat) (x1 : Int32) (x2 : Int32) (x3 : Int32) (x4 : Int32) (gi : Gi) (gl : Gl) (Q : Int32 → Gi → Gl → Prop) : Prop := PAt mX0_commonDays NN NN κF 6 [some (.ref a), some (.int x1), some (.int x2), some (.int x3), some (.int x4)] [] gi gl (RiQ Q)
def f_X0_commonDays (a : Nat) (x1 : Int32) (x2 : Int32) (gi : Gi) (gl : Gl) (Q : Int32 → Gi → Gl → Prop) : Prop :=
p_X0_commonDays_6 a x1 x2 (1073741823 : Int32) (0 : Int32) gi gl Q
def f_X0_commonDays_6 (a : Nat) (x1 : Int32) (x2 : Int32) (x3 : Int32) (x4 : Int32) (gi : Gi) (gl : Gl) (Q : Int32 → Gi → Gl → Prop) : Prop :=
if (gi a 2) ≤ x4 then
(Q x3 gi gl)
else
(if (8 : Int32) ≤ x4 then
(Q x3 gi gl)
else
(if x3 = 0 then
(Q x3 gi gl)
else
(if ¬ ((ja x1 x4) &&& (1 : Int32)) = (1 : Int32) then
(p_X0_commonDays_6 a x1 x2 x3 (x4 + (1 : Int32)) gi gl Q)
else
(vp_in x4 8 ∧
∀ b1 : Nat, b1 = a + 3 + 7 * x4.toNatClampNeg →
p_X5_moments b1 gi gl (fun (o9 : Option Nat) (gi2 : Gi) (gl3 : Gl) =>
(o9 = none →
False) ∧
(∀ b4 : Nat, o9 = some b4 → b4 < NN → sK b4 = 4 →
p_X4_dayRow b4 x2 gi2 gl3 (fun (r7 : Int32) (gi5 : Gi) (gl6 : Gl) =>
∀ z8 : Int32, z8 = x3 &&& r7 →
p_X0_commonDays_6 a x1 x2 z8 (x4 + (1 : Int32)) gi5 gl6 Q)))))))
set_option maxRecDepth 100000 in
theorem v_X0_commonDays {a : Nat} {x1 : Int32} {x2 : Int32} {gi : Gi} {gl : Gl} {Q : Int32 → Gi → Gl → Prop} (haN : a < NN) (haK : sK a = 0) (h : f_X0_commonDays a x1 x2 gi gl Q) : p_X0_commonDays a x1 x2 gi gl Q := by
  unfold f_X0_commonDays at h
  show PAt mX0_commonDays NN NN κF 0 [some (.ref a), some (.int x1), some (.int x2), none, none] [] gi gl _
  refine px_ldc (v := (1073741823 : Int32)) dX0_commonDays_0 w_1131 ?_
  refine px_istore_n (ls2 := [some (.ref a), some (.int x1), some (.int x2), some (.int (1073741823 : Int32)), none]) (i := 3) rfl dX0_commonDays_2 (by decide) rfl ?_
  refine px_iconst (v := (0 : Int32)) dX0_commonDays_3 (by decide) ?_
  refine px_istore (ls2 := [some (.ref a), some (.int x1), some (.int x2), some (.int (1073741823 : Int32)), some (.int (0 : Int32))]) dX0_commonDays_4 (by decide) rfl ?_
  exact PAt.forget h (lsub_at ⟨rfl, ⟨rfl, ⟨rfl, ⟨rfl, ⟨rfl, trivial⟩⟩⟩⟩⟩)
set_option maxRecDepth 100000 in
theorem v_X0_commonDays_6 {a : Nat} {x1 : Int32} {x2 : Int32} {x3 : Int32} {x4 : Int32} {gi : Gi} {gl : Gl} {Q : Int32 → Gi → Gl → Prop} (haN : a < NN) (haK : sK a = 0) (h : f_X0_commonDays_6 a x1 x2 x3 x4 gi gl Q) : p_X0_commonDays_6 a x1 x2 x3 x4 gi gl Q := by
  unfold f_X0_commonDays_6 at h
  show PAt mX0_commonDays NN NN κF 6 [some (.ref a), some (.int x1), some (.int x2), some (.int x3), some (.int x4)] [] gi gl _
  refine px_iload dX0_commonDays_6 rfl ?_
  refine px_aload_n dX0_commonDays_8 rfl rfl ?_
  refine gf_X0_28 rfl dX0_commonDays_9 haN haK ?_
  refine px_icmp_ge (tgt := 62) dX0_commonDays_12 (by decide) ?_
  by_cases hc : (gi a 2) ≤ x4
  · rw [if_pos hc] at h ⊢
    refine px_iload_n dX0_commonDays_62 rfl rfl ?_
    exact px_ireturn dX0_commonDays_63 rfl ⟨.int, rfl, rfl, rfl⟩ ⟨rfl, _, rfl, h⟩
  · rw [if_neg hc] at h ⊢
    refine px_iload dX0_commonDays_15 rfl ?_
    refine px_aload_n dX0_commonDays_17 rfl rfl ?_
    refine gf_X0_11 rfl dX0_commonDays_18 haN haK rfl (ly0_r0 haN haK) (ly0_lt1 haN haK) ?_
    refine px_alen (n := 8) (t0 := 4) (v := (8 : Int32)) dX0_commonDays_21 (ly0_lt1 haN haK) (ly0_k1 haN haK) (ly0_s1 haN haK) (by decide) (fun _ => rfl) (by decide) ?_
    refine px_icmp_ge (tgt := 62) dX0_commonDays_22 (by decide) ?_
    by_cases hc : (8 : Int32) ≤ x4
    · rw [if_pos hc] at h ⊢
      refine px_iload_n dX0_commonDays_62 rfl rfl ?_
      exact px_ireturn dX0_commonDays_63 rfl ⟨.int, rfl, rfl, rfl⟩ ⟨rfl, _, rfl, h⟩
    · rw [if_neg hc] at h ⊢
      refine px_iload_n dX0_commonDays_25 rfl rfl ?_
      refine px_if_eq (tgt := 62) dX0_commonDays_26 (by decide) ?_
      by_cases hc : x3 = 0
      · rw [if_pos hc] at h ⊢
        refine px_iload_n dX0_commonDays_62 rfl rfl ?_
        exact px_ireturn dX0_commonDays_63 rfl ⟨.int, rfl, rfl, rfl⟩ ⟨rfl, _, rfl, h⟩
      · rw [if_neg hc] at h ⊢
        refine px_iload_n dX0_commonDays_29 rfl rfl ?_
        refine px_iload dX0_commonDays_30 rfl ?_
        refine px_ishr dX0_commonDays_32 ?_
        refine px_iconst (v := (1 : Int32)) dX0_commonDays_33 (by decide) ?_
        refine px_iand dX0_commonDays_34 ?_
        refine px_iconst (v := (1 : Int32)) dX0_commonDays_35 (by decide) ?_
        refine px_icmp_ne (tgt := 56) dX0_commonDays_36 (by decide) ?_
        by_cases hc : ¬ ((ja x1 x4) &&& (1 : Int32)) = (1 : Int32)
        · rw [if_pos hc] at h ⊢
          refine px_iinc (v := x4 + (1 : Int32)) (ls2 := [some (.ref a), some (.int x1), some (.int x2), some (.int x3), some (.int (x4 + (1 : Int32)))]) dX0_commonDays_56 rfl rfl (by decide) rfl ?_
          refine px_goto (tgt := 6) dX0_commonDays_59 (by decide) ?_
          exact PAt.forget h (lsub_at ⟨rfl, ⟨rfl, ⟨rfl, ⟨rfl, ⟨rfl, trivial⟩⟩⟩⟩⟩)
        · rw [if_neg hc] at h ⊢
          refine px_iload_n dX0_commonDays_39 rfl rfl ?_
          refine px_aload_n dX0_commonDays_40 rfl rfl ?_
          refine gf_X0_11 rfl dX0_commonDays_41 haN haK rfl (ly0_r0 haN haK) (ly0_lt1 haN haK) ?_
          refine px_iload dX0_commonDays_44 rfl ?_
          obtain ⟨hi, h⟩ := h
          obtain ⟨b1, hb1⟩ : ∃ y : Nat, y = a + 3 + 7 * x4.toNatClampNeg := ⟨_, rfl⟩
          have h := h b1 hb1
          have hb1N : b1 < NN := by rw [hb1]; exact (lyA_l haN haK hi)
          have hb1K : sK b1 = 5 := by rw [hb1]; exact (lyA_k haN haK hi)
          refine px_aaload (n := 8) (t0 := 4) dX0_commonDays_46 (ly0_lt1 haN haK) (ly0_k1 haN haK) (ly0_s1 haN haK) (by decide) (fun _ => rfl) hi rfl (b := b1) (by rw [hb1]; exact (lyA_r haN haK hi)) hb1N ?_
          refine px_callV_A (As := []) (st := [.int x3]) dX0_commonDays_47 lk_X0_70.1 lk_X0_70.2 (b := b1) hb1N hb1K (by decide) rfl (by decide) rfl (Nat.le_of_ble_eq_true rfl) ⟨_, rfl⟩ rfl (Nat.le_of_ble_eq_true rfl) ⟨Nat.le_refl _, Nat.le_refl _, Nat.le_refl _⟩ ?_
          refine PAt.mono h (fun v κ gi2 gl3 hq => ?_)
          rcases hq with ⟨rfl, ⟨rfl, hq⟩ | ⟨b4, rfl, hb4N, hb4K, hq⟩⟩
          · have h := hq.1 rfl
            refine px_iload_n dX0_commonDays_50 rfl rfl ?_
            exact h.elim
          · have h := hq.2 b4 rfl hb4N hb4K
            refine px_iload_n dX0_commonDays_50 rfl rfl ?_
            refine px_callV_I (As := [.int x2]) (st := [.int x3]) dX0_commonDays_51 lk_X0_74.1 lk_X0_74.2 (b := b4) hb4N hb4K (by decide) rfl (by decide) rfl (Nat.le_of_ble_eq_true rfl) rfl rfl (Nat.le_of_ble_eq_true rfl) ⟨Nat.le_refl _, Nat.le_refl _, Nat.le_refl _⟩ ?_
            refine PAt.mono h (fun v κ gi5 gl6 hq => ?_)
            obtain ⟨rfl, r7, rfl, h⟩ := hq
            refine px_iand dX0_commonDays_54 ?_
            obtain ⟨z8, hz8⟩ : ∃ y : Int32, y = x3 &&& r7 := ⟨_, rfl⟩
            have h := h z8 hz8
            refine px_namei hz8 ?_
            refine px_istore_n (ls2 := [some (.ref a), some (.int x1), some (.int x2), some (.int z8), some (.int x4)]) (i := 3) rfl dX0_commonDays_55 (by decide) rfl ?_
            refine px_iinc (v := x4 + (1 : Int32)) (ls2 := [some (.ref a), some (.int x1), some (.int x2), some (.int z8), some (.int (x4 + (1 : Int32)))]) dX0_commonDays_56 rfl rfl (by decide) rfl ?_
            refine px_goto (tgt := 6) dX0_commonDays_59 (by decide) ?_
            exact PAt.forget h (lsub_at ⟨rfl, ⟨rfl, ⟨rfl, ⟨rfl, ⟨rfl, trivial⟩⟩⟩⟩⟩)
abbrev p_X0_commonMinutes_7 (a : Nat) (x1 : Int32) (x2 : Int32) (x3 : Int32) (x4 : Int32) (x5 : Int32) (gi : Gi) (gl : Gl) (Q : Int32 → Gi → Gl → Prop) : Prop := PAt mX0_commonMinutes NN NN κF 7 [some (.ref a), some (.int x1), some (.int x2), some (.int x3), some (.int x4), some (.int x5)] [] gi gl (RiQ Q)
def f_X0_commonMinutes (a : Nat) (x1 : Int32) (x2 : Int32) (x3 : Int32) (gi : Gi) (gl : Gl) (Q : Int32 → Gi → Gl → Prop) : Prop :=
p_X0_commonMinutes_7 a x1 x2 x3 (1073741823 : Int32) (0 : Int32) gi gl Q
def f_X0_commonMinutes_7 (a : Nat) (x1 : Int32) (x2 : Int32) (x3 : Int32) (x4 : Int32) (x5 : Int32) (gi : Gi) (gl : Gl) (Q : Int32 → Gi → Gl → Prop) : Prop :=
if (gi a 2) ≤ x5 then
(Q x4 gi gl)
else
(if (8 : Int32) ≤ x5 then
(Q x4 gi gl)
else
(if x4 = 0 then
(Q x4 gi gl)
else
(if ¬ ((ja x1 x5) &&& (1 : Int32)) = (1 : Int32) then
(p_X0_commonMinutes_7 a x1 x2 x3 x4 (x5 + (1 : Int32)) gi gl Q)
else
(vp_in x5 8 ∧
∀ b1 : Nat, b1 = a + 3 + 7 * x5.toNatClampNeg →
p_X5_moments b1 gi gl (fun (o9 : Option Nat) (gi2 : Gi) (gl3 : Gl) =>
(o9 = none →
False) ∧
(∀ b4 : Nat, o9 = some b4 → b4 < NN → sK b4 = 4 →
p_X4_minuteRow b4 x2 x3 gi2 gl3 (fun (r7 : Int32) (gi5 : Gi) (gl6 : Gl) =>
∀ z8 : Int32, z8 = x4 &&& r7 →
p_X0_commonMinutes_7 a x1 x2 x3 z8 (x5 + (1 : Int32)) gi5 gl6 Q)))))))
set_option maxRecDepth 100000 in
theorem v_X0_commonMinutes {a : Nat} {x1 : Int32} {x2 : Int32} {x3 : Int32} {gi : Gi} {gl : Gl} {Q : Int32 → Gi → Gl → Prop} (haN : a < NN) (haK : sK a = 0) (h : f_X0_commonMinutes a x1 x2 x3 gi gl Q) : p_X0_commonMinutes a x1 x2 x3 gi gl Q := by
  unfold f_X0_commonMinutes at h
  show PAt mX0_commonMinutes NN NN κF 0 [some (.ref a), some (.int x1), some (.int x2), some (.int x3), none, none] [] gi gl _
  refine px_ldc (v := (1073741823 : Int32)) dX0_commonMinutes_0 w_1131 ?_
  refine px_istore (ls2 := [some (.ref a), some (.int x1), some (.int x2), some (.int x3), some (.int (1073741823 : Int32)), none]) dX0_commonMinutes_2 (by decide) rfl ?_
  refine px_iconst (v := (0 : Int32)) dX0_commonMinutes_4 (by decide) ?_
  refine px_istore (ls2 := [some (.ref a), some (.int x1), some (.int x2), some (.int x3), some (.int (1073741823 : Int32)), some (.int (0 : Int32))]) dX0_commonMinutes_5 (by decide) rfl ?_
  exact PAt.forget h (lsub_at ⟨rfl, ⟨rfl, ⟨rfl, ⟨rfl, ⟨rfl, ⟨rfl, trivial⟩⟩⟩⟩⟩⟩)
set_option maxRecDepth 100000 in
theorem v_X0_commonMinutes_7 {a : Nat} {x1 : Int32} {x2 : Int32} {x3 : Int32} {x4 : Int32} {x5 : Int32} {gi : Gi} {gl : Gl} {Q : Int32 → Gi → Gl → Prop} (haN : a < NN) (haK : sK a = 0) (h : f_X0_commonMinutes_7 a x1 x2 x3 x4 x5 gi gl Q) : p_X0_commonMinutes_7 a x1 x2 x3 x4 x5 gi gl Q := by
  unfold f_X0_commonMinutes_7 at h
  show PAt mX0_commonMinutes NN NN κF 7 [some (.ref a), some (.int x1), some (.int x2), some (.int x3), some (.int x4), some (.int x5)] [] gi gl _
  refine px_iload dX0_commonMinutes_7 rfl ?_
  refine px_aload_n dX0_commonMinutes_9 rfl rfl ?_
  refine gf_X0_28 rfl dX0_commonMinutes_10 haN haK ?_
  refine px_icmp_ge (tgt := 67) dX0_commonMinutes_13 (by decide) ?_
  by_cases hc : (gi a 2) ≤ x5
  · rw [if_pos hc] at h ⊢
    refine px_iload dX0_commonMinutes_67 rfl ?_
    exact px_ireturn dX0_commonMinutes_69 rfl ⟨.int, rfl, rfl, rfl⟩ ⟨rfl, _, rfl, h⟩
  · rw [if_neg hc] at h ⊢
    refine px_iload dX0_commonMinutes_16 rfl ?_
    refine px_aload_n dX0_commonMinutes_18 rfl rfl ?_
    refine gf_X0_11 rfl dX0_commonMinutes_19 haN haK rfl (ly0_r0 haN haK) (ly0_lt1 haN haK) ?_
    refine px_alen (n := 8) (t0 := 4) (v := (8 : Int32)) dX0_commonMinutes_22 (ly0_lt1 haN haK) (ly0_k1 haN haK) (ly0_s1 haN haK) (by decide) (fun _ => rfl) (by decide) ?_
    refine px_icmp_ge (tgt := 67) dX0_commonMinutes_23 (by decide) ?_
    by_cases hc : (8 : Int32) ≤ x5
    · rw [if_pos hc] at h ⊢
      refine px_iload dX0_commonMinutes_67 rfl ?_
      exact px_ireturn dX0_commonMinutes_69 rfl ⟨.int, rfl, rfl, rfl⟩ ⟨rfl, _, rfl, h⟩
    · rw [if_neg hc] at h ⊢
      refine px_iload dX0_commonMinutes_26 rfl ?_
      refine px_if_eq (tgt := 67) dX0_commonMinutes_28 (by decide) ?_
      by_cases hc : x4 = 0
      · rw [if_pos hc] at h ⊢
        refine px_iload dX0_commonMinutes_67 rfl ?_
        exact px_ireturn dX0_commonMinutes_69 rfl ⟨.int, rfl, rfl, rfl⟩ ⟨rfl, _, rfl, h⟩
      · rw [if_neg hc] at h ⊢
        refine px_iload_n dX0_commonMinutes_31 rfl rfl ?_
        refine px_iload dX0_commonMinutes_32 rfl ?_
        refine px_ishr dX0_commonMinutes_34 ?_
        refine px_iconst (v := (1 : Int32)) dX0_commonMinutes_35 (by decide) ?_
        refine px_iand dX0_commonMinutes_36 ?_
        refine px_iconst (v := (1 : Int32)) dX0_commonMinutes_37 (by decide) ?_
        refine px_icmp_ne (tgt := 61) dX0_commonMinutes_38 (by decide) ?_
        by_cases hc : ¬ ((ja x1 x5) &&& (1 : Int32)) = (1 : Int32)
        · rw [if_pos hc] at h ⊢
          refine px_iinc (v := x5 + (1 : Int32)) (ls2 := [some (.ref a), some (.int x1), some (.int x2), some (.int x3), some (.int x4), some (.int (x5 + (1 : Int32)))]) dX0_commonMinutes_61 rfl rfl (by decide) rfl ?_
          refine px_goto (tgt := 7) dX0_commonMinutes_64 (by decide) ?_
          exact PAt.forget h (lsub_at ⟨rfl, ⟨rfl, ⟨rfl, ⟨rfl, ⟨rfl, ⟨rfl, trivial⟩⟩⟩⟩⟩⟩)
        · rw [if_neg hc] at h ⊢
          refine px_iload dX0_commonMinutes_41 rfl ?_
          refine px_aload_n dX0_commonMinutes_43 rfl rfl ?_
          refine gf_X0_11 rfl dX0_commonMinutes_44 haN haK rfl (ly0_r0 haN haK) (ly0_lt1 haN haK) ?_
          refine px_iload dX0_commonMinutes_47 rfl ?_
          obtain ⟨hi, h⟩ := h
          obtain ⟨b1, hb1⟩ : ∃ y : Nat, y = a + 3 + 7 * x5.toNatClampNeg := ⟨_, rfl⟩
          have h := h b1 hb1
          have hb1N : b1 < NN := by rw [hb1]; exact (lyA_l haN haK hi)
          have hb1K : sK b1 = 5 := by rw [hb1]; exact (lyA_k haN haK hi)
          refine px_aaload (n := 8) (t0 := 4) dX0_commonMinutes_49 (ly0_lt1 haN haK) (ly0_k1 haN haK) (ly0_s1 haN haK) (by decide) (fun _ => rfl) hi rfl (b := b1) (by rw [hb1]; exact (lyA_r haN haK hi)) hb1N ?_
          refine px_callV_A (As := []) (st := [.int x4]) dX0_commonMinutes_50 lk_X0_70.1 lk_X0_70.2 (b := b1) hb1N hb1K (by decide) rfl (by decide) rfl (Nat.le_of_ble_eq_true rfl) ⟨_, rfl⟩ rfl (Nat.le_of_ble_eq_true rfl) ⟨Nat.le_refl _, Nat.le_refl _, Nat.le_refl _⟩ ?_
          refine PAt.mono h (fun v κ gi2 gl3 hq => ?_)
          rcases hq with ⟨rfl, ⟨rfl, hq⟩ | ⟨b4, rfl, hb4N, hb4K, hq⟩⟩
          · have h := hq.1 rfl
            refine px_iload_n dX0_commonMinutes_53 rfl rfl ?_
            refine px_iload_n dX0_commonMinutes_54 rfl rfl ?_
            exact h.elim
          · have h := hq.2 b4 rfl hb4N hb4K
            refine px_iload_n dX0_commonMinutes_53 rfl rfl ?_
            refine px_iload_n dX0_commonMinutes_54 rfl rfl ?_
            refine px_callV_I (As := [.int x2, .int x3]) (st := [.int x4]) dX0_commonMinutes_55 lk_X0_79.1 lk_X0_79.2 (b := b4) hb4N hb4K (by decide) rfl (by decide) rfl (Nat.le_of_ble_eq_true rfl) rfl rfl (Nat.le_of_ble_eq_true rfl) ⟨Nat.le_refl _, Nat.le_refl _, Nat.le_refl _⟩ ?_
            refine PAt.mono h (fun v κ gi5 gl6 hq => ?_)
            obtain ⟨rfl, r7, rfl, h⟩ := hq
            refine px_iand dX0_commonMinutes_58 ?_
            obtain ⟨z8, hz8⟩ : ∃ y : Int32, y = x4 &&& r7 := ⟨_, rfl⟩
            have h := h z8 hz8
            refine px_namei hz8 ?_
            refine px_istore (ls2 := [some (.ref a), some (.int x1), some (.int x2), some (.int x3), some (.int z8), some (.int x5)]) dX0_commonMinutes_59 (by decide) rfl ?_
            refine px_iinc (v := x5 + (1 : Int32)) (ls2 := [some (.ref a), some (.int x1), some (.int x2), some (.int x3), some (.int z8), some (.int (x5 + (1 : Int32)))]) dX0_commonMinutes_61 rfl rfl (by decide) rfl ?_
            refine px_goto (tgt := 7) dX0_commonMinutes_64 (by decide) ?_
            exact PAt.forget h (lsub_at ⟨rfl, ⟨rfl, ⟨rfl, ⟨rfl, ⟨rfl, ⟨rfl, trivial⟩⟩⟩⟩⟩⟩)
