/-! THE CLASS, twenty-four: trees, posts, clocks -/
section CX
variable {f : Nat → Nat} {n a : Nat} {gi : Gi} {gl : Gl} {Q : Gi → Gl → Prop} {Qi : Int32 → Gi → Gl → Prop} {T : Twn}
theorem nmO_m {k : Nat} (q : nmO f n T k (.inr a) = true) : tCnt T k < most k := by
  have eO : nmO f n T k (.inr a) = (decide (wd f n a ≠ []) && (decide (tCnt T k < most k) && (!decide (wd f n a ∈ resW) && !knB T (wd f n a)))) := rfl
  rw [eO] at q
  simp only [Bool.and_eq_true, decide_eq_true_eq] at q
  exact q.2.1
theorem nuO_hi {lo hi : Int} (h : nuO f n lo hi (.inr a) = true) : lo ≤ vl f n a ∧ (vl f n a : Int) ≤ hi ∧ kd f n a = 2 := by
  have e : nuO f n lo hi (.inr a) = (decide (kd f n a = 2) && (decide (lo ≤ vl f n a) && decide ((vl f n a : Int) ≤ hi))) := rfl
  rw [e] at h
  simp only [Bool.and_eq_true, decide_eq_true_eq] at h
  exact ⟨h.2.1, h.2.2, h.1⟩
theorem s_readsTree (m : SC f n a gi) (D : cTown T gi gl 8) (vt : vTown T) (h : Ow f n (rdTree f n T (.inr a)) gi gl Qi) : p_X7_readsTree gi gl Qi := by
  unfold Ow rdTree at h
  refine v_X7_readsTree ?_
  unfold f_X7_readsTree
  refine s_takesNewName m D vt (k := 1) (by omega) (fun q g1 l1 m1 M1 R1 => ?_) (fun q => ?_)
  · rw [q, if_pos rfl] at h
    have hm := nmO_m q
    have ew : wdS f n (.inr a) = wd f n a := rfl
    rw [ew] at h
    refine ifF (by decide) ?_
    have e1 : tr1 f n (.inr a) = muS f n wLeaf (.inr (nx f n a)) := rfl
    refine s_X8_takes tx_6 m1 (fun w1 g2 f2 m2 => ?_) (fun w1 => ?_)
    · rw [mu_t w1] at e1
      refine ifT (by decide) ?_
      have e2 : tr2 f n (.inr a) = muS f n wBare (nuS f n 0 359 (tr1 f n (.inr a))) := rfl
      have v0 : trV0 f n (.inr a) = nuV f n 0 359 (tr1 f n (.inr a)) := rfl
      have e3 : tr3 f n (.inr a) = if eqO f n (trV0 f n (.inr a)) (tr2 f n (.inr a)) then erS (tr2 f n (.inr a)) else tr2 f n (.inr a) := rfl
      have v1 : trV1 f n (.inr a) = nuV f n 0 359 (tr3 f n (.inr a)) := rfl
      rw [e1] at e2 v0
      refine s_X8_takeNumber (lo := 0) (hi := 359) (by omega) (by omega) m2 (fun w2 g3 f3 m3 => ?_) (fun w2 => ?_)
      · rw [(nu_t w2).1] at e2
        rw [(nu_t w2).2] at v0
        have hv := (nuO_hi w2).2.1
        generalize nx f n (nx f n (nx f n a)) = a3 at *
        generalize vl f n (nx f n (nx f n a)) = v at *
        have hne : ¬ nI v = (-1 : Int32) := fun e => by
          have := c_ne' v (by omega) (X := True) (Y := False) trivial
          rw [if_neg (not_not_intro e)] at this
          exact this
        refine ifF hne ?_
        have M3 := (M1.fr f2).fr f3
        have R3 := (R1.tr f2.R).tr (f3.R (gl := l1))
        refine s_X8_takes tx_7 m3 (fun w3 g4 f4 m4 => ?_) (fun w3 => ?_)
        · rw [mu_t w3] at e2
          refine ifF (by decide) ?_
          have M4 := M3.fr f4
          have R4 := R3.tr (f4.R (gl := l1))
          generalize nx f n a3 = a4 at *
          have bad : ∀ g8, (nuS f n 0 359 (tr3 f n (.inr a)) = .inl a4) → SC f n a4 g8 → Rd gi gl g8 l1 → Qi 0 g8 l1 := fun g8 e m8 R8 => h.2 a4 g8 l1 e m8 R8
          have eEq : eqO f n (v : Int) (.inr a4) = (decide (kd f n a4 = 2) && decide ((vl f n a4 : Int) = v)) := rfl
          rw [e2, v0, eEq] at e3
          have go : ∀ g5, g5 = g4 → (¬ (kd f n a4 = 2 ∧ vl f n a4 = v)) → p_X8_takeNumber 0 359 g4 l1 (fun r18 gi16 gl17 => p_X10_setLast 8 1 (nI v) r18 (-1) (-1) gi16 gl17 (fun gi19 gl20 => if r18 = (-1 : Int32) then Qi 0 gi19 gl20 else Qi 1 gi19 gl20)) := by
            intro g5 _ hno
            have eb : (decide (kd f n a4 = 2) && decide ((vl f n a4 : Int) = v)) = false := by
              cases hb : (decide (kd f n a4 = 2) && decide ((vl f n a4 : Int) = v)) with
              | false => rfl
              | true =>
                simp only [Bool.and_eq_true, decide_eq_true_eq] at hb
                exact absurd ⟨hb.1, by omega⟩ hno
            rw [eb, if_neg Bool.false_ne_true] at e3
            rw [e3] at h v1
            refine s_X8_takeNumber (lo := 0) (hi := 359) (by omega) (by omega) m4 (fun w5 g6 f6 m6 => ?_) (fun w5 => ?_)
            · rw [(nu_t w5).2] at v1
              rw [(nu_t w5).1, v0, v1] at h
              have hv2 := (nuO_hi w5).2.1
              rw [← iI_n v, ← iI_n (vl f n a4), m1_i]
              refine s_setEnd (k := 1) (M4.fr f6) vt (by omega) hm m6 (R4.tr (f6.R (gl := l1))) (fun g8 D8 m8 R8 => ?_)
              refine d_eq _ (-1) rfl rfl (by omega) (by omega) (fun y => by omega) (fun _ => ?_)
              exact h.1 _ g8 l1 rfl m8 D8 R8
            · rw [nu_f w5] at h
              rw [← iI_n v, m1_i]
              refine s_setEnd (k := 1) M4 vt (by omega) hm m4 R4 (fun g8 D8 m8 R8 => ?_)
              exact ifT rfl (h.2 a4 g8 l1 rfl m8 R8)
          refine s_X8_numberHere m4 (fun hk => ?_) (fun hk => ?_)
          · have hvl := vl_bd hk
            refine c_ne (vl f n a4) v rfl rfl (by omega) (by omega) (fun y => go g4 rfl (fun z => y z.2)) (fun y => ?_)
            have eb : (decide (kd f n a4 = 2) && decide ((vl f n a4 : Int) = v)) = true := by
              rw [decide_eq_true hk, decide_eq_true (by omega)]; rfl
            rw [eb, if_pos rfl] at e3
            exact bad g4 (by rw [e3]; rfl) m4 R4
          · refine ifT (fun e => hne e.symm) (go g4 rfl (fun z => hk z.1))
        · rw [mu_f w3] at e2
          have e4 : tr3 f n (.inr a) = .inl a3 := by
            rw [e3, e2]; rfl
          rw [e4] at h
          exact ifT rfl (h.2 a3 g3 l1 rfl m3 R3)
      · rw [nu_f w2] at e2
        have e4 : tr3 f n (.inr a) = .inl (nx f n (nx f n a)) := by
          rw [e3, e2]; rfl
        rw [e4] at h
        refine ifT rfl (h.2 _ g2 l1 rfl m2 (R1.tr (f2.R (gl := l1))))
    · rw [mu_f w1] at e1
      have e4 : tr3 f n (.inr a) = .inl (nx f n a) := by
        have e2 : tr2 f n (.inr a) = .inl (nx f n a) := by
          show muS f n wBare (nuS f n 0 359 (tr1 f n (.inr a))) = _
          rw [e1]; rfl
        show (if eqO f n (trV0 f n (.inr a)) (tr2 f n (.inr a)) then erS (tr2 f n (.inr a)) else tr2 f n (.inr a)) = _
        rw [e2]; rfl
      rw [e4] at h
      refine ifF (by decide) ?_
      exact h.2 _ g1 l1 rfl m1 R1
  · rw [q, if_neg Bool.false_ne_true] at h
    exact ifT rfl (h.2 a gi gl rfl m Rd.rf)
theorem s_readsPost (m : SC f n a gi) (D : cTown T gi gl 8) (vt : vTown T) (h : Ow f n (rdPost f n T (.inr a)) gi gl Qi) : p_X7_readsPost gi gl Qi := by
  unfold Ow rdPost at h
  refine v_X7_readsPost ?_
  unfold f_X7_readsPost
  refine s_takesNewName m D vt (k := 2) (by omega) (fun q g1 l1 m1 M1 R1 => ?_) (fun q => ?_)
  · rw [q, if_pos rfl] at h
    have hm := nmO_m q
    have ew : wdS f n (.inr a) = wd f n a := rfl
    have en0 : nxS f n (.inr a) = .inr (nx f n a) := rfl
    have e1 : po1 f n (.inr a) = nuS f n 0 31 (.inr (nx f n a)) := rfl
    have e2 : po2 f n (.inr a) = nuS f n 0 31 (po1 f n (.inr a)) := rfl
    rw [ew, en0] at h
    refine ifT (by decide) ?_
    have last : ∀ (x y z : Int) (b : Nat) g (st : Ps), MdT T 2 (wd f n a) g l1 → SC f n b g → Rd gi gl g l1 → (z ≠ -1 → -1000 ≤ z ∧ z ≤ 1000 ∧ ∀ g8, cTown (addK T 2 (wd f n a) (nu4 x y z (-1))) g8 l1 8 → SC f n b g8 → Rd gi gl g8 l1 → Qi 1 g8 l1) → (z = -1 → ∀ g8, SC f n b g8 → Rd gi gl g8 l1 → Qi 0 g8 l1) → p_X7_readsPost_60 (iI x) (iI y) (iI z) g l1 Qi := by
      intro x y z b g st M mm R k1 k0
      refine v_X7_readsPost_60 ?_
      unfold f_X7_readsPost_60
      rw [m1_i]
      refine s_setEnd (k := 2) M vt (by omega) hm mm R (fun g8 D8 m8 R8 => ?_)
      by_cases hz : z = -1
      · subst hz
        exact ifT rfl (k0 rfl g8 m8 R8)
      · obtain ⟨z1, z2, z3⟩ := k1 hz
        exact d_eq z (-1) rfl rfl (by omega) (by omega) (fun y => absurd y hz) (fun _ => z3 g8 D8 m8 R8)
    refine s_X8_takeNumber (lo := 0) (hi := 31) (by omega) (by omega) m1 (fun w2 g3 f3 m3 => ?_) (fun w2 => ?_)
    · rw [(nu_t w2).1] at e1
      have hv := (nuO_hi w2).2.1
      rw [(nu_t w2).2, e1] at h
      rw [e1] at e2
      refine c_ne' _ (by omega) ?_
      refine s_X8_takeNumber (lo := 0) (hi := 31) (by omega) (by omega) m3 (fun w4 g4 f4 m4 => ?_) (fun w4 => ?_)
      · rw [(nu_t w4).1] at e2
        have hv2 := (nuO_hi w4).2.1
        rw [(nu_t w4).2, e2] at h
        refine c_ne' _ (by omega) ?_
        have M4 := (M1.fr f3).fr f4
        have R4 := (R1.tr f3.R).tr (f4.R (gl := l1))
        refine s_X8_takeNumber (lo := 1) (hi := 20) (by omega) (by omega) m4 (fun w5 g5 f5 m5 => ?_) (fun w5 => ?_)
        · have hv3 := nuO_hi w5
          rw [(nu_t w5).1, (nu_t w5).2] at h
          rw [← iI_n, ← iI_n, ← iI_n]
          exact last _ _ _ _ g5 (.inl 0) (M4.fr f5) m5 (R4.tr (f5.R (gl := l1))) (fun _ => ⟨by omega, by omega, fun g8 D8 m8 R8 => h.1 _ g8 l1 rfl m8 D8 R8⟩) (fun y => by omega)
        · rw [nu_f w5] at h
          rw [← iI_n, ← iI_n, m1_i]
          exact last _ _ _ _ g4 (.inl 0) M4 m4 R4 (fun y => absurd rfl y) (fun _ g8 m8 R8 => h.2 _ g8 l1 rfl m8 R8)
      · rw [nu_f w4] at e2
        rw [e2] at h
        refine ifF (by decide) ?_
        rw [← iI_n, m1_i]
        exact last _ _ _ _ g3 (.inl 0) (M1.fr f3) m3 (R1.tr f3.R) (fun y => absurd rfl y) (fun _ g8 m8 R8 => h.2 _ g8 l1 rfl m8 R8)
    · rw [nu_f w2] at e1
      rw [e1] at e2
      rw [e2] at h
      refine ifF (by decide) ?_
      rw [m1_i]
      exact last _ _ _ _ g1 (.inl 0) M1 m1 R1 (fun y => absurd rfl y) (fun _ g8 m8 R8 => h.2 _ g8 l1 rfl m8 R8)
  · rw [q, if_neg Bool.false_ne_true] at h
    exact ifF (by decide) (h.2 a gi gl rfl m Rd.rf)
theorem s_readsClock (m : SC f n a gi) (D : cTown T gi gl 8) (vt : vTown T) (h : Ow f n (rdClock f n T (.inr a)) gi gl Qi) : p_X7_readsClock gi gl Qi := by
  unfold Ow rdClock at h
  refine v_X7_readsClock ?_
  unfold f_X7_readsClock
  refine s_takesNewName m D vt (k := 3) (by omega) (fun q g1 l1 m1 M1 R1 => ?_) (fun q => ?_)
  · rw [q, if_pos rfl] at h
    have hm := nmO_m q
    have ew : wdS f n (.inr a) = wd f n a := rfl
    rw [ew] at h
    refine ifF (by decide) ?_
    have e1 : ck1 f n (.inr a) = muS f n wSlow (.inr (nx f n a)) := rfl
    have e2 : ck2 f n (.inr a) = muS f n wFast (nuS f n 0 99 (ck1 f n (.inr a))) := rfl
    refine s_X8_takes tx_10 m1 (fun w1 g2 f2 m2 => ?_) (fun w1 => ?_)
    · rw [mu_t w1] at e1
      rw [e1] at e2 h
      refine ifT (by decide) ?_
      refine s_X8_takeNumber (lo := 0) (hi := 99) (by omega) (by omega) m2 (fun w2 g3 f3 m3 => ?_) (fun w2 => ?_)
      · rw [(nu_t w2).1] at e2
        rw [(nu_t w2).2] at h
        have hv := (nuO_hi w2).2.1
        generalize nx f n (nx f n (nx f n a)) = a3 at *
        generalize vl f n (nx f n (nx f n a)) = v at *
        have hne : ¬ nI v = (-1 : Int32) := fun e => by
          have := c_ne' v (by omega) (X := True) (Y := False) trivial
          rw [if_neg (not_not_intro e)] at this
          exact this
        refine ifF hne ?_
        have M3 := (M1.fr f2).fr f3
        have R3 := (R1.tr f2.R).tr (f3.R (gl := l1))
        refine s_X8_takes tx_11 m3 (fun w3 g4 f4 m4 => ?_) (fun w3 => ?_)
        · rw [mu_t w3] at e2
          rw [e2] at h
          refine ifT (by decide) ?_
          have M4 := M3.fr f4
          have R4 := R3.tr (f4.R (gl := l1))
          refine s_X8_takeNumber (lo := 0) (hi := 99) (by omega) (by omega) m4 (fun w5 g6 f6 m6 => ?_) (fun w5 => ?_)
          · rw [(nu_t w5).1, (nu_t w5).2] at h
            have hv2 := (nuO_hi w5).2.1
            rw [← iI_n v, ← iI_n (vl f n _), m1_i]
            refine s_setEnd (k := 3) (M4.fr f6) vt (by omega) hm m6 (R4.tr (f6.R (gl := l1))) (fun g8 D8 m8 R8 => ?_)
            refine d_eq _ (-1) rfl rfl (by omega) (by omega) (fun y => by omega) (fun _ => ?_)
            exact h.1 _ g8 l1 rfl m8 D8 R8
          · rw [nu_f w5] at h
            rw [← iI_n v, m1_i]
            refine s_setEnd (k := 3) M4 vt (by omega) hm m4 R4 (fun g8 D8 m8 R8 => ?_)
            exact ifT rfl (h.2 _ g8 l1 rfl m8 R8)
        · rw [mu_f w3] at e2
          rw [e2] at h
          exact ifF (by decide) (h.2 a3 g3 l1 rfl m3 R3)
      · rw [nu_f w2] at e2
        rw [e2] at h
        exact ifT rfl (h.2 _ g2 l1 rfl m2 (R1.tr (f2.R (gl := l1))))
    · rw [mu_f w1] at e1
      rw [e1] at e2
      rw [e2] at h
      refine ifF (by decide) ?_
      exact h.2 _ g1 l1 rfl m1 R1
  · rw [q, if_neg Bool.false_ne_true] at h
    exact ifT rfl (h.2 a gi gl rfl m Rd.rf)
end CX
