/-! THE CLASS, thirty-three: the signs of a text -/
section DG2
variable {f : Nat → Nat} {n a : Nat} {gi : Gi} {gl : Gl} {Q : Gi → Gl → Prop} {Qi : Int32 → Gi → Gl → Prop} {T : Twn} {P : Pic}
/-- what reading signs owes -/
def Oz (f : Nat → Nat) (n : Nat) (r : Pic × Ps) (gi : Gi) (gl : Gl) (Qi : Int32 → Gi → Gl → Prop) : Prop :=
  (∀ b g, r.2 = .inr b → SC f n b g → cSgn r.1 g 14 → Rs gi g → Qi 1 g gl) ∧ ∀ e g, r.2 = .inl e → SC f n e g → Rs gi g → Qi 0 g gl
theorem Oz.fr {r : Pic × Ps} {g : Gi} (h : Oz f n r gi gl Qi) (R : Rs gi g) : Oz f n r g gl Qi := ⟨fun b g' h1 h2 h3 h4 => h.1 b g' h1 h2 h3 (R.tr h4), fun e g' h1 h2 h4 => h.2 e g' h1 h2 (R.tr h4)⟩
theorem rdSign_rs {k : Nat} (hk : k ≠ 12) : rdSign f n T k (.inr a) = ((rsG f n T (.inr a)).1, smS f n (rsG f n T (.inr a)).2) := by
  unfold rdSign rsG
  by_cases y : kiS f n (.inr a) < 0
  · rw [if_pos (Or.inl y), if_pos y]; rfl
  · rw [if_neg (by omega), if_neg y]
theorem sgL_er {m : Nat} {e : Nat} : sgL f n T m P (.inl e) = (P, .inl e) := by
  cases m with
  | zero => rfl
  | succ m => rfl
theorem s_readsSigns_59 {had : Nat} (m : SC f n a gi) (d : cSgn P gi 14) (hP : P.1 ≤ 12) (hh : had ≤ 12) (h1 : n ≤ a → had < P.1 → Qi 1 gi gl) (h0 : (a < n ∨ P.1 ≤ had) → Qi 0 gi gl) : p_X7_readsSigns_59 (nI had) gi gl Qi := by
  refine v_X7_readsSigns_59 ?_
  unfold f_X7_readsSigns_59
  refine m.ended ?_
  cases hd : decide (n ≤ a) with
  | false =>
    have := of_decide_eq_false hd
    exact ifT rfl (h0 (by omega))
  | true =>
    have := of_decide_eq_true hd
    refine ifF (by decide) ?_
    refine v_X5_size zl_14 zk_14 ?_
    unfold f_X5_size
    rw [d.1]
    exact c_le P.1 had rfl rfl (by omega) (by omega) (fun y => h0 (Or.inr y)) (fun y => h1 this (by omega))
theorem s_readsSigns_18 {had : Nat} : ∀ k a g (P : Pic), P.1 + k = 12 → had ≤ P.1 → (n ≤ a → had < P.1) → SC f n a g → cSgn P g 14 → cTown T g gl 2 → vTown T → Oz f n (sgL f n T (k + 1) P (.inr a)) g gl Qi → p_X7_readsSigns_18 (nI had) (nI P.1) g gl Qi := by
  intro k
  induction k with
  | zero =>
    intro a g P hk hh hn m d D vt h
    have e : sgL f n T 1 P (.inr a) = if enS n (.inr a) then (P, .inr a) else sgL f n T 0 (sgA f n T P (.inr a)) (rdSign f n T P.1 (.inr a)).2 := rfl
    rw [e] at h
    have eE : enS n (.inr a) = decide (n ≤ a) := rfl
    rw [eE] at h
    refine v_X7_readsSigns_18 ?_
    unfold f_X7_readsSigns_18
    refine ifT (by rw [show (12 : Int32) = nI 12 by rfl, nI_leI (by omega) (by omega)]; omega) ?_
    refine s_readsSigns_59 m d (by omega) (by omega) (fun q1 q2 => ?_) (fun q => ?_)
    · rw [decide_eq_true q1] at h
      exact h.1 a g rfl m d Rs.rf
    · have : ¬ n ≤ a := fun y => by have := hn y; omega
      rw [decide_eq_false this, if_neg Bool.false_ne_true] at h
      have er : rdSign f n T P.1 (.inr a) = (fun _ => 0, .inl a) := by
        unfold rdSign
        rw [if_pos (Or.inr (by omega))]; rfl
      rw [er] at h
      exact h.2 a g rfl m Rs.rf
  | succ k ih =>
    intro a g P hk hh hn m d D vt h
    have e : sgL f n T (k + 1 + 1) P (.inr a) = if enS n (.inr a) then (P, .inr a) else sgL f n T (k + 1) (sgA f n T P (.inr a)) (rdSign f n T P.1 (.inr a)).2 := rfl
    rw [e] at h
    have eE : enS n (.inr a) = decide (n ≤ a) := rfl
    rw [eE] at h
    refine v_X7_readsSigns_18 ?_
    unfold f_X7_readsSigns_18
    refine c_le 12 P.1 rfl rfl (by omega) (by omega) (fun y => by omega) (fun _ => ?_)
    refine m.ended ?_
    cases hd : decide (n ≤ a) with
    | true =>
      rw [hd] at h
      have hna := of_decide_eq_true hd
      refine ifT (by decide) ?_
      refine s_readsSigns_59 m d (by omega) (by omega) (fun _ _ => ?_) (fun q => ?_)
      · exact h.1 a g rfl m d Rs.rf
      · have := hn hna; omega
    | false =>
      rw [hd, if_neg Bool.false_ne_true] at h
      refine ifF (by decide) ?_
      have er := rdSign_rs (f := f) (n := n) (T := T) (a := a) (k := P.1) (by omega)
      have es : sgA f n T P (.inr a) = pAdd P (rdSign f n T P.1 (.inr a)).1 := rfl
      rw [es, er] at h
      have stop : ∀ e' g', SC f n e' g' → Rs g g' → smS f n (rsG f n T (.inr a)).2 = .inl e' → Qi 0 g' gl := fun e' g' m' R' e2 => by
        rw [e2, sgL_er] at h
        exact h.2 e' g' rfl m' R'
      refine s_readsSign m D vt d (by omega) ⟨fun b g1 k1 m1 d1 R1 => ?_, fun e' g1 k1 m1 R1 => ?_⟩
      · refine ifF (by decide) ?_
        refine s_X8_takesSemicolon m1 (fun w g2 f2 m2 => ?_) (fun w => ?_)
        · have es : smS f n (rsG f n T (.inr a)).2 = .inr (nx f n b) := by
            rw [k1]
            unfold smS
            rw [show smO f n (.inr b) = true from decide_eq_true w]; rfl
          rw [es] at h
          refine ifT (by decide) ?_
          have c1 : nI P.1 + 1 = nI (pAdd P (rsG f n T (.inr a)).1).1 := nI_1 P.1
          rw [c1]
          have R2 := R1.tr f2.S
          exact ih (nx f n b) g2 (pAdd P (rsG f n T (.inr a)).1) (by show P.1 + 1 + k = 12; omega) (by show had ≤ P.1 + 1; omega) (fun _ => by show had < P.1 + 1; omega) m2 (cSgn_F22 f2 d1) (cTown_congr (fun z _ _ => R2 z (by omega) (by omega) (by omega)) rfl D) vt (h.fr R2)
        · have es : smS f n (rsG f n T (.inr a)).2 = .inl b := by
            rw [k1]
            unfold smS
            rw [show smO f n (.inr b) = false from decide_eq_false w]; rfl
          exact ifF (by decide) (stop b g1 m1 R1 es)
      · refine ifT rfl ?_
        exact stop e' g1 m1 R1 (by rw [k1]; rfl)
theorem s_readsSigns {mm : Nat} (ht : tpC f mm gi) (D : cTown T gi gl 2) (vt : vTown T) (d : cSgn P gi 14) (hP : P.1 ≤ 12) (h : Oz f mm (rdSigns f mm T P) gi gl Qi) : p_X7_readsSigns (nI mm) gi gl Qi := by
  have hm := ht.1
  unfold rdSigns at h
  refine v_X7_readsSigns ?_
  unfold f_X7_readsSigns
  refine s_X8_begin hm ht (fun g f1 m1 => ?_)
  refine v_X5_size zl_14 zk_14 ?_
  unfold f_X5_size
  have d1 := cSgn_F22 f1 d
  rw [d1.1]
  obtain ⟨k, hk⟩ : ∃ k, 13 - P.1 = k + 1 := ⟨12 - P.1, by omega⟩
  rw [hk] at h
  have eE : enS mm (.inr (skp f mm 0)) = decide (mm ≤ skp f mm 0) := rfl
  rw [eE] at h
  cases hd : decide (mm ≤ skp f mm 0) with
  | true =>
    rw [hd, if_pos rfl] at h
    have er : (erS (.inr (skp f mm 0)) : Ps) = .inl (skp f mm 0) := rfl
    rw [er, sgL_er] at h
    have hna := of_decide_eq_true hd
    have k59 : p_X7_readsSigns_59 (nI P.1) g gl Qi := s_readsSigns_59 m1 d1 hP hP (fun _ q => by omega) (fun _ => h.2 _ g rfl m1 f1.S)
    refine v_X7_readsSigns_18 ?_
    unfold f_X7_readsSigns_18
    refine c_le 12 P.1 rfl rfl (by omega) (by omega) (fun y => k59) (fun _ => ?_)
    refine m1.ended ?_
    rw [hd]
    exact ifT (by decide) k59
  | false =>
    rw [hd, if_neg Bool.false_ne_true] at h
    have hna := of_decide_eq_false hd
    exact s_readsSigns_18 k (skp f mm 0) g P (by omega) (Nat.le_refl _) (fun q => absurd q hna) m1 d1 (cTown2_F22 f1 D) vt (h.fr f1.S)
end DG2
