/-! THE CLASS, twenty-three: things, trees, posts, clocks, as they are read -/
theorem m1_i : (-1 : Int32) = iI (-1) := rfl
section CW
theorem c_ne' (v : Nat) (h : v < 100000) {X Y : Prop} (k : X) : if ¬ nI v = (-1 : Int32) then X else Y := ifT (by
  rw [← iI_n, m1_i]
  intro e
  have := congrArg Int32.toInt e
  rw [iI_toInt (by omega) (by omega), iI_toInt (by omega) (by omega)] at this
  omega) k
variable {f : Nat → Nat} {n a : Nat} {gi : Gi} {gl : Gl} {Q : Gi → Gl → Prop} {Qi : Int32 → Gi → Gl → Prop} {T : Twn}
theorem s_X10_setLast {k : Nat} {w : List Nat} (M : MdT T k w gi gl) (vt : vTown T) (hk : k < 4) (hm : tCnt T k < most k) {x y z v : Int} (h : ∀ g, cTown (addK T k w (nu4 x y z v)) g gl 8 → (∀ z, z ≠ 11 → g z = gi z) → Q g gl) : p_X10_setLast 8 (nI k) (iI x) (iI y) (iI z) (iI v) gi gl Q := by
  have hm12 : most k ≤ 12 := by rcases (show k = 0 ∨ k = 1 ∨ k = 2 ∨ k = 3 by omega) with rfl | rfl | rfl | rfl <;> decide
  have c9 : gi (8 + 1) k = nI (tCnt T k + 1) := by
    have := M.1 k (by omega)
    rw [if_pos rfl] at this
    exact this
  refine v_X10_setLast zl_8 zk_8 ?_
  unfold f_X10_setLast
  refine c_lt k 0 rfl rfl (by omega) (by omega) (fun y => by omega) (fun _ => ?_)
  refine c_le 4 k rfl rfl (by omega) (by omega) (fun y => by omega) (fun _ => ⟨vp_nI (by omega) (by omega), ?_⟩)
  rw [nI_cl (by omega), c9, sub1 (by omega), Nat.add_sub_cancel]
  refine v_X10_has zl_8 zk_8 ?_
  unfold f_X10_has
  refine c_lt k 0 rfl rfl (by omega) (by omega) (fun y => by omega) (fun _ => ?_)
  refine c_le 4 k rfl rfl (by omega) (by omega) (fun y => by omega) (fun _ => ?_)
  refine c_lt (tCnt T k) 0 rfl rfl (by omega) (by omega) (fun y => by omega) (fun _ => ⟨vp_nI (by omega) (by omega), ?_⟩)
  rw [nI_cl (by omega), c9]
  refine c_le (tCnt T k + 1) (tCnt T k) rfl rfl (by omega) (by omega) (fun y => by omega) (fun _ => ?_)
  refine ifT (by decide) ⟨vp_nI (by omega) (by omega), ?_⟩
  rintro z4 rfl
  rw [c9, show (12 : Int32) = nI 12 by rfl, mulN, nI_add, sub1 (by omega), show k * 12 + (tCnt T k + 1) - 1 = k * 12 + tCnt T k by omega, show (4 : Int32) = nI 4 by rfl, mulN, show (1 : Int32) = nI 1 by rfl, show (2 : Int32) = nI 2 by rfl, show (3 : Int32) = nI 3 by rfl, nI_add, nI_add, nI_add, nI_cl (by omega), nI_cl (by omega), nI_cl (by omega), nI_cl (by omega)]
  refine ⟨vp_nI (by omega) (by omega), ?_⟩
  intro g5 e5
  refine ⟨vp_nI (by omega) (by omega), ?_⟩
  intro g6 e6
  refine ⟨vp_nI (by omega) (by omega), ?_⟩
  intro g7 e7
  refine ⟨vp_nI (by omega) (by omega), ?_⟩
  intro g8 e8
  have fr : ∀ c, c ≠ 11 → g8 c = gi c := fun c hc => by rw [e8, uI_n hc, e7, uI_n hc, e6, uI_n hc, e5, uI_n hc]
  have at11 : ∀ j, g8 11 j = if j = (k * 12 + tCnt T k) * 4 + 3 then iI v else if j = (k * 12 + tCnt T k) * 4 + 2 then iI z else if j = (k * 12 + tCnt T k) * 4 + 1 then iI y else if j = (k * 12 + tCnt T k) * 4 then iI x else gi 11 j := fun j => by
    rw [e8, uI_s, updA, e7, uI_s, updA, e6, uI_s, updA, e5, uI_s, updA]
  refine h g8 ⟨fun c hc => ?_, fun c hc i hi => ⟨?_, fun j hj => ?_⟩, fun m hm => ?_⟩ fr
  · show g8 9 c = nI (if c = k then T.1 c + 1 else T.1 c)
    rw [fr 9 (by omega)]
    exact M.1 c hc
  · have hi : i < (if c = k then T.1 c + 1 else T.1 c) := hi
    show gl 10 (c * 12 + i) = lN (pk 32 (if c = k ∧ i = T.1 k then w else T.2.2.1 c i))
    by_cases q : c = k ∧ i = T.1 k
    · rw [if_pos q, q.1, q.2]; exact M.2.2.1
    · rw [if_neg q]
      exact (M.2.1 c hc i (by
        show i < T.1 c
        by_cases e : c = k
        · rw [if_pos e] at hi
          have : i ≠ T.1 k := fun w => q ⟨e, w⟩
          rw [e] at hi ⊢; omega
        · rw [if_neg e] at hi; exact hi)).1
  · have hi : i < (if c = k then T.1 c + 1 else T.1 c) := hi
    have hj4 : j < 4 := by
      have : numsOf c ≤ 4 := by rcases (show c = 0 ∨ c = 1 ∨ c = 2 ∨ c = 3 by omega) with rfl | rfl | rfl | rfl <;> decide
      omega
    show g8 11 ((c * 12 + i) * 4 + j) = iI (if c = k ∧ i = T.1 k then nu4 x y z v j else T.2.1 c i j)
    have tk : tCnt T k = T.1 k := rfl
    rw [at11]
    by_cases q : c = k ∧ i = T.1 k
    · rw [if_pos q, q.1, q.2, tk]
      unfold nu4
      rcases (show j = 0 ∨ j = 1 ∨ j = 2 ∨ j = 3 by omega) with rfl | rfl | rfl | rfl
      · rw [if_neg (by omega), if_neg (by omega), if_neg (by omega), if_pos (by omega)]; rfl
      · rw [if_neg (by omega), if_neg (by omega), if_pos (by omega)]; rfl
      · rw [if_neg (by omega), if_pos (by omega)]; rfl
      · rw [if_pos (by omega)]; rfl
    · rw [if_neg q]
      have hlt : i < T.1 c := by
        by_cases e : c = k
        · rw [if_pos e] at hi
          have : i ≠ T.1 k := fun w => q ⟨e, w⟩
          rw [e] at hi ⊢; omega
        · rw [if_neg e] at hi; exact hi
      have h12 : T.1 c ≤ 12 := cnt4 vt hc
      have hne : c * 12 + i ≠ k * 12 + T.1 k := fun e => by
        have h1 : T.1 k < 12 := by omega
        have : c = k := by omega
        subst this
        exact q ⟨rfl, by omega⟩
      rw [tk, if_neg (by omega), if_neg (by omega), if_neg (by omega), if_neg (by omega)]
      exact (M.2.1 c hc i hlt).2 j hj
  · show g8 12 m = nI (rowsOf T m).length ∧ _
    rw [fr 12 (by omega)]
    refine ⟨(M.2.2.2 m hm).1, fun r q hq => ?_⟩
    show g8 13 _ = _ ∧ g8 13 _ = _ ∧ g8 13 _ = _
    rw [fr 13 (by omega)]
    exact (M.2.2.2 m hm).2 r q hq
theorem mu_t {w : List Nat} (h : wd f n a = w) : muS f n w (.inr a) = .inr (nx f n a) := by
  unfold muS
  rw [show isW f n w (.inr a) = true from decide_eq_true h]; rfl
theorem mu_f {w : List Nat} (h : wd f n a ≠ w) : muS f n w (.inr a) = .inl a := by
  unfold muS
  rw [show isW f n w (.inr a) = false from decide_eq_false h]; rfl
theorem nu_t {lo hi : Int} (h : nuO f n lo hi (.inr a) = true) : nuS f n lo hi (.inr a) = .inr (nx f n a) ∧ nuV f n lo hi (.inr a) = (vl f n a : Int) := by
  unfold nuS
  rw [h]
  exact ⟨rfl, if_pos h⟩
theorem nu_f {lo hi : Int} (h : nuO f n lo hi (.inr a) = false) : nuS f n lo hi (.inr a) = .inl a := by
  unfold nuS
  rw [h]; rfl
theorem SC.fr {g : Gi} (m : SC f n a gi) (e : ∀ z, z = 1 ∨ z = 22 → g z = gi z) : SC f n a g := by
  obtain ⟨s1, s2⟩ := m
  refine ⟨⟨s1.1, fun j hj => by rw [e 1 (by omega)]; exact s1.2 j hj⟩, ?_⟩
  rw [e 22 (by omega)]; exact s2
/-- what reading one of a town owes -/
def Ow (f : Nat → Nat) (n : Nat) (r : Twn × Ps) (gi : Gi) (gl : Gl) (Qi : Int32 → Gi → Gl → Prop) : Prop :=
  (∀ b g l, r.2 = .inr b → SC f n b g → cTown r.1 g l 8 → Rd gi gl g l → Qi 1 g l) ∧ ∀ e g l, r.2 = .inl e → SC f n e g → Rd gi gl g l → Qi 0 g l
/-- the end of reading one: its numbers are set -/
theorem s_setEnd {k : Nat} {w : List Nat} {g0 : Gi} {l0 : Gl} (M : MdT T k w gi gl) (vt : vTown T) (hk : k < 4) (hm : tCnt T k < most k) (m : SC f n a gi) (R : Rd g0 l0 gi gl) {x y z v : Int} {K : Gi → Gl → Prop} (h : ∀ g, cTown (addK T k w (nu4 x y z v)) g gl 8 → SC f n a g → Rd g0 l0 g gl → K g gl) : p_X10_setLast 8 (nI k) (iI x) (iI y) (iI z) (iI v) gi gl K :=
  s_X10_setLast M vt hk hm (fun g hg fr => h g hg (m.fr (fun z hz => fr z (by omega))) (R.tr ⟨fun z _ q _ _ _ => fr z q, fun _ _ => rfl⟩))
theorem m1_iI : (-1 : Int32) = iI (-1) := rfl
theorem s_readsThing (m : SC f n a gi) (D : cTown T gi gl 8) (vt : vTown T) (h : Ow f n (rdThing f n T (.inr a)) gi gl Qi) : p_X7_readsThing gi gl Qi := by
  unfold Ow rdThing at h
  refine v_X7_readsThing ?_
  unfold f_X7_readsThing
  refine s_takesNewName m D vt (k := 0) (by omega) (fun q g1 l1 m1 M1 R1 => ?_) (fun q => ?_)
  · rw [q, if_pos rfl] at h
    have hm : tCnt T 0 < most 0 := by
      have eO : nmO f n T 0 (.inr a) = (decide (wd f n a ≠ []) && (decide (tCnt T 0 < most 0) && (!decide (wd f n a ∈ resW) && !knB T (wd f n a)))) := rfl
      rw [eO] at q
      simp only [Bool.and_eq_true, decide_eq_true_eq] at q
      exact q.2.1
    have ew : wdS f n (.inr a) = wd f n a := rfl
    rw [ew] at h
    refine ifF (by decide) ?_
    have e1 : th1 f n (.inr a) = muS f n wFrom (.inr (nx f n a)) := rfl
    refine s_X8_takes tx_2 m1 (fun w1 g2 f2 m2 => ?_) (fun w1 => ?_)
    · rw [mu_t w1] at e1
      refine ifT (by decide) ?_
      have e2 : th2 f n (.inr a) = nuS f n 0 3599 (th1 f n (.inr a)) := rfl
      have v0 : thV0 f n (.inr a) = nuV f n 0 3599 (th1 f n (.inr a)) := rfl
      rw [e1] at e2 v0
      refine s_X8_takeNumber (lo := 0) (hi := 3599) (by omega) (by omega) m2 (fun w2 g3 f3 m3 => ?_) (fun w2 => ?_)
      · rw [(nu_t w2).1] at e2
        rw [(nu_t w2).2] at v0
        have hv : vl f n (nx f n (nx f n a)) ≤ 3599 := by
          have e : nuO f n 0 3599 (.inr (nx f n (nx f n a))) = (decide (kd f n (nx f n (nx f n a)) = 2) && (decide ((0 : Int) ≤ vl f n (nx f n (nx f n a))) && decide ((vl f n (nx f n (nx f n a)) : Int) ≤ 3599))) := rfl
          rw [e] at w2
          simp only [Bool.and_eq_true, decide_eq_true_eq] at w2
          omega
        generalize hA3 : nx f n (nx f n (nx f n a)) = a3 at *
        generalize hV : vl f n (nx f n (nx f n a)) = v at *
        refine c_ne' v (by omega) ?_
        have e3 : th3 f n (.inr a) = giS f n (th2 f n (.inr a)) := rfl
        have v1 : thV1 f n (.inr a) = giV f n (th2 f n (.inr a)) := rfl
        rw [e2] at e3 v1
        have M3 := (M1.fr f2).fr f3
        have R3 := (R1.tr f2.R).tr (f3.R (gl := l1))
        refine s_X8_takeGive m3 (fun g4 a4 f4 k4 m4 => ?_) (fun g4 e f4 k4 m4 => ?_)
        · rw [k4] at e3
          have gb := giV_bd (f := f) (n := n) (s := .inr a3)
          refine v_X7_readsThing_50 ?_
          unfold f_X7_readsThing_50
          refine d_ne (giV f n (.inr a3)) (-1) rfl rfl (by omega) (by omega) (fun _ => ?_) (fun y => by omega)
          rw [e3, v0, v1] at h
          have M4 := M3.fr f4
          have R4 := R3.tr (f4.R (gl := l1))
          refine s_X8_takes tx_4 m4 (fun w5 g5 f5 m5 => ?_) (fun w5 => ?_)
          · have eI : isW f n wTill (.inr a4) = true := decide_eq_true w5
            rw [eI, if_pos rfl] at h
            refine ifF (by decide) ?_
            have e4 : th4 f n (.inr a) = nuS f n v 3599 (.inr (nx f n a4)) := by
              show nuS f n (thV0 f n (.inr a)) 3599 (nxS f n (th3 f n (.inr a))) = _
              rw [v0, e3]; rfl
            have v2 : thV2 f n (.inr a) = nuV f n v 3599 (.inr (nx f n a4)) := by
              show nuV f n (thV0 f n (.inr a)) 3599 (nxS f n (th3 f n (.inr a))) = _
              rw [v0, e3]; rfl
            have v3 : thV3 f n (.inr a) = giV f n (th4 f n (.inr a)) := rfl
            have M5 := M4.fr f5
            have R5 := R4.tr (f5.R (gl := l1))
            rw [← iI_n v]
            refine s_X8_takeNumber (lo := v) (hi := 3599) (by omega) (by omega) m5 (fun w6 g6 f6 m6 => ?_) (fun w6 => ?_)
            · rw [(nu_t w6).1] at e4
              rw [(nu_t w6).2] at v2
              rw [e4] at v3
              rw [v2, v3, e4] at h
              have M6 := M5.fr f6
              have R6 := R5.tr (f6.R (gl := l1))
              generalize hV2 : vl f n (nx f n a4) = v2' at *
              refine c_ne' v2' ?_ ?_
              · have e : nuO f n v 3599 (.inr (nx f n a4)) = (decide (kd f n (nx f n a4) = 2) && (decide ((v : Int) ≤ vl f n (nx f n a4)) && decide ((vl f n (nx f n a4) : Int) ≤ 3599))) := rfl
                rw [e, hV2] at w6
                simp only [Bool.and_eq_true, decide_eq_true_eq] at w6
                omega
              refine s_X8_takeGive m6 (fun g7 a7 f7 k7 m7 => ?_) (fun g7 e f7 k7 m7 => ?_)
              · have gb2 := giV_bd (f := f) (n := n) (s := .inr (nx f n (nx f n a4)))
                refine v_X7_readsThing_105 ?_
                unfold f_X7_readsThing_105
                rw [← iI_n v2']
                refine s_setEnd (k := 0) (M6.fr f7) vt (by omega) hm m7 (R6.tr (f7.R (gl := l1))) (fun g8 D8 m8 R8 => ?_)
                refine d_eq _ (-1) rfl rfl (by omega) (by omega) (fun y => by omega) (fun _ => ?_)
                exact h.1 a7 g8 l1 k7 m8 D8 R8
              · refine v_X7_readsThing_105 ?_
                unfold f_X7_readsThing_105
                rw [← iI_n v2', m1_iI]
                refine s_setEnd (k := 0) (M6.fr f7) vt (by omega) hm m7 (R6.tr (f7.R (gl := l1))) (fun g8 D8 m8 R8 => ?_)
                exact ifT rfl (h.2 e g8 l1 k7 m8 R8)
            · rw [nu_f w6] at e4
              rw [e4] at h
              refine ifF (by decide) ?_
              refine v_X7_readsThing_105 ?_
              unfold f_X7_readsThing_105
              rw [m1_iI]
              refine s_setEnd (k := 0) M5 vt (by omega) hm m5 R5 (fun g8 D8 m8 R8 => ?_)
              exact ifT rfl (h.2 _ g8 l1 rfl m8 R8)
          · have eI : isW f n wTill (.inr a4) = false := decide_eq_false w5
            rw [eI, if_neg Bool.false_ne_true] at h
            refine ifT rfl ?_
            refine v_X7_readsThing_105 ?_
            unfold f_X7_readsThing_105
            rw [← iI_n v, m1_iI, show (0 : Int32) = iI 0 by rfl]
            refine s_setEnd (k := 0) M4 vt (by omega) hm m4 R4 (fun g8 D8 m8 R8 => ?_)
            refine ifF (by decide) ?_
            exact h.1 a4 g8 l1 rfl m8 D8 R8
        · rw [k4] at e3
          rw [e3] at h
          refine v_X7_readsThing_50 ?_
          unfold f_X7_readsThing_50
          refine ifF (by decide) ?_
          exact h.2 e g4 l1 rfl m4 (R3.tr (f4.R (gl := l1)))
      · rw [nu_f w2] at e2
        have e3 : th3 f n (.inr a) = .inl (nx f n (nx f n a)) := by
          show giS f n (th2 f n (.inr a)) = _
          rw [e2]; rfl
        rw [e3] at h
        refine ifF (by decide) ?_
        refine v_X7_readsThing_50 ?_
        unfold f_X7_readsThing_50
        refine ifF (by decide) ?_
        exact h.2 _ g2 l1 rfl m2 (R1.tr (f2.R (gl := l1)))
    · rw [mu_f w1] at e1
      have e3 : th3 f n (.inr a) = .inl (nx f n a) := by
        show giS f n (nuS f n 0 3599 (th1 f n (.inr a))) = _
        rw [e1]; rfl
      rw [e3] at h
      refine ifF (by decide) ?_
      exact h.2 _ g1 l1 rfl m1 R1
  · rw [q, if_neg Bool.false_ne_true] at h
    exact ifT rfl (h.2 a gi gl rfl m Rd.rf)
end CW
