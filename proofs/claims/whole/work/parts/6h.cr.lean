/-! THE CLASS, eighteen: look, next; what the calls answer -/
theorem jmax_I {a b : Int} (ha : -2147483648 ≤ a ∧ a < 2147483648) (hb : -2147483648 ≤ b ∧ b < 2147483648) : jmax (iI a) (iI b) = iI (if a < b then b else a) := by
  show (if iI a < iI b then iI b else iI a) = _
  by_cases h : a < b
  · rw [if_pos h]; exact if_pos (by rw [lt_toInt, iI_toInt ha.1 ha.2, iI_toInt hb.1 hb.2]; exact h)
  · rw [if_neg h]; exact if_neg (by rw [lt_toInt, iI_toInt ha.1 ha.2, iI_toInt hb.1 hb.2]; exact h)
theorem jmin_I {a b : Int} (ha : -2147483648 ≤ a ∧ a < 2147483648) (hb : -2147483648 ≤ b ∧ b < 2147483648) : jmin (iI a) (iI b) = iI (if b < a then b else a) := by
  show (if iI b < iI a then iI b else iI a) = _
  by_cases h : b < a
  · rw [if_pos h]; exact if_pos (by rw [lt_toInt, iI_toInt ha.1 ha.2, iI_toInt hb.1 hb.2]; exact h)
  · rw [if_neg h]; exact if_neg (by rw [lt_toInt, iI_toInt ha.1 ha.2, iI_toInt hb.1 hb.2]; exact h)
theorem sum2c {w : Nat → Nat} {A B C : Nat → Prop} [DecidablePred A] [DecidablePred B] (n : Nat) (h : ∀ d, d < n → (C d ↔ A d ∨ B d) ∧ ¬ (A d ∧ B d)) : sumN (fun d => @ite _ (C d) (Classical.propDecidable _) (w d) 0) n = sumN (fun d => if A d then w d else 0) n + sumN (fun d => if B d then w d else 0) n := @sum2 w A B C _ _ (fun d => Classical.propDecidable _) n h
theorem lkD_iv {T : Twn} {P : Pic} {i z : Nat} (vP : ∀ k, k < P.1 → vSign T (P.2 k)) {lo1 hi1 lo2 hi2 : Int} (h : ∀ d : Nat, d < 3600 → (luC T P i z d ↔ (lo1 ≤ (d : Int) ∧ (d : Int) ≤ hi1) ∨ (lo2 ≤ (d : Int) ∧ (d : Int) ≤ hi2)) ∧ ¬ ((lo1 ≤ (d : Int) ∧ (d : Int) ≤ hi1) ∧ (lo2 ≤ (d : Int) ∧ (d : Int) ≤ hi2))) : lkD T P i z = ivD (wD T P i) lo1 hi1 + ivD (wD T P i) lo2 hi2 := by
  rw [lkD_sum vP]
  exact sum2c (A := fun d => lo1 ≤ (d : Int) ∧ (d : Int) ≤ hi1) (B := fun d => lo2 ≤ (d : Int) ∧ (d : Int) ≤ hi2) (C := fun d => luC T P i z d) 3600 h
theorem wD_le {T : Twn} {P : Pic} {i n : Nat} (hn : n ≤ 3600) : sumN (wD T P i) n ≤ 2592000 := by
  have h := sumN_le (f := wD T P i) (b := 720) (n := n) (fun d _ => by
    unfold wD
    have := pCnt_le (T := T) (P := P) (m := mth d)
    split <;> omega)
  omega
section CR
variable {σ : Sta} {c : Nat} {gi : Gi} {gl : Gl} {Q : Gi → Gl → Prop} {Qi : Int32 → Gi → Gl → Prop} {Ql : Int64 → Gi → Gl → Prop} {T : Twn} {P : Pic} {p : Nat}
theorem s_X10_outT (m : CE T gi gl) {k : Nat} (hk : k < 4) {i j : Int32} (hi : (tCnt T k : Int) ≤ i.toInt ∨ i.toInt < 0) (h : Qi (-1) gi gl) : p_X10_of 2 (nI k) i j gi gl Qi := by
  have hc := cnt4 m.2 hk
  refine v_X10_of zl_2 zk_2 ?_
  unfold f_X10_of
  refine c_lt k 0 rfl rfl (by omega) (by omega) (fun y => by omega) (fun _ => ?_)
  refine c_le 4 k rfl rfl (by omega) (by omega) (fun y => by omega) (fun _ => ?_)
  by_cases h1 : i < 0
  · exact ifT h1 h
  · refine ifF h1 ⟨vp_nI (by omega) (by omega), ?_⟩
    have := neg_of h1
    rw [nI_cl (by omega), m.1.1 k (by omega)]
    exact ifT (by rw [le_toInt, nI_tI (by omega)]; omega) h
theorem s_X3_countOf {i : Nat} (hW : ∀ n, n ≤ 3600 → gi 32 n = nI (sumN (wD T P i) n)) {lo hi : Int} (rl : -10000 ≤ lo ∧ lo ≤ 10000) (rh : -10000 ≤ hi ∧ hi ≤ 10000) (h : Qi (nI (ivD (wD T P i) lo hi)) gi gl) : p_X3_countOf (iI lo) (iI hi) gi gl Qi := by
  refine v_X3_countOf ?_
  unfold f_X3_countOf
  rw [show (0 : Int32) = iI 0 by rfl, jmax_I (by omega) (by omega), show (3599 : Int32) = iI 3599 by rfl, jmin_I (by omega) (by omega)]
  rintro z1 rfl z2 rfl
  have r1 : 0 ≤ (if lo < 0 then 0 else lo) ∧ (if lo < 0 then 0 else lo) ≤ 10000 := by split <;> omega
  have r2 : -10000 ≤ (if 3599 < hi then 3599 else hi) ∧ (if 3599 < hi then 3599 else hi) ≤ 3599 := by split <;> omega
  have e2 : (if 3599 < hi then 3599 else hi) = if hi < 3599 then hi else (3599 : Int) := by split <;> split <;> omega
  refine d_le _ _ rfl rfl (by omega) (by omega) (fun q => ?_) (fun q => ?_)
  · obtain ⟨a, ha⟩ := nat_of r1.1
    obtain ⟨b, hb⟩ := nat_of (show 0 ≤ (if 3599 < hi then 3599 else hi) + 1 by omega)
    have hb2 : (b : Int) = if hi < 3599 then hi + 1 else 3600 := by rw [← hb]; split <;> split <;> omega
    have key := ivD_eq (w := wD T P i) ha.symm hb2 (by omega)
    have wb := wD_le (T := T) (P := P) (i := i) (n := b) (by omega)
    rw [show (1 : Int32) = iI 1 by rfl, iI_add, hb, ha, iI_n, iI_n, nI_cl (by omega), nI_cl (by omega), hW b (by omega), hW a (by omega), pk_sub (by omega)]
    refine ⟨vp_nI (by omega) (by omega), vp_nI (by omega) (by omega), ?_⟩
    rw [show sumN (wD T P i) b - sumN (wD T P i) a = ivD (wD T P i) lo hi by omega]
    exact h
  · rw [ivD_0 (by rw [← e2]; omega)] at h
    exact h
theorem s_countFrom_42 (vt : vTown T) (vP : ∀ k, k < P.1 → vSign T (P.2 k)) {i z : Nat} (hi : i < tCnt T 0) (hz : z < 3600) {st lc : Bool} (hst : fSt P i P.1 = st) (hlc : fLa P i P.1 = lc) (h3 : gi 31 3 = b2i st) (h4 : gi 31 4 = b2i lc) (hW : ∀ n, n ≤ 3600 → gi 32 n = nI (sumN (wD T P i) n)) {lo1 hi1 : Int} (hlh : (st = true ∧ lo1 = 1 ∧ hi1 = 0) ∨ (st = false ∧ lo1 = 0 ∧ hi1 = (z : Int) - 1))
    (h : Qi (nI (lkD T P i z)) gi gl) : p_X3_countFrom_42 (nI z) (iI (tNum T 0 i 2)) (iI (tNum T 0 i 3)) (nI (ivD (wD T P i) lo1 hi1)) gi gl Qi := by
  obtain ⟨r1, -, -, -, r5, r6, r7⟩ := vt.2.2.2.1 i hi
  have lu : ∀ d : Nat, luC T P i z d ↔ (st = true → (z : Int) ≤ d ∧ (tNum T 0 i 2 < 0 ∨ (d : Int) ≤ tNum T 0 i 2 + tNum T 0 i 3)) ∧ (lc = true → (d : Int) < z ∨ (0 ≤ tNum T 0 i 2 ∧ tNum T 0 i 2 - tNum T 0 i 3 < d)) := fun d => by
    unfold luC; rw [hst, hlc]
  generalize tNum T 0 i 2 = la at *
  generalize tNum T 0 i 3 = gv at *
  have rla : -1 ≤ la ∧ la ≤ 3599 := by omega
  have e0 : ivD (wD T P i) 1 0 = 0 := ivD_0 (by omega)
  have fin : ∀ start stop : Int, -10000 ≤ start ∧ start ≤ 10000 → -10000 ≤ stop ∧ stop ≤ 10000 → lkD T P i z = ivD (wD T P i) lo1 hi1 + ivD (wD T P i) start stop → p_X3_countOf (iI start) (iI stop) gi gl (fun r3 gi1 gl2 => Qi (nI (ivD (wD T P i) lo1 hi1) + r3) gi1 gl2) := fun start stop h1 h2 e => by
    refine s_X3_countOf hW h1 h2 ?_
    rw [nI_add, ← e]; exact h
  have f80 : ∀ start : Int, -10000 ≤ start ∧ start ≤ 10000 → (st = false ∨ la = -1 → lkD T P i z = ivD (wD T P i) lo1 hi1 + ivD (wD T P i) start 3599) → (st = true → la ≠ -1 → lkD T P i z = ivD (wD T P i) lo1 hi1 + ivD (wD T P i) start (la + gv)) → p_X3_countFrom_80 (iI la) (iI gv) (nI (ivD (wD T P i) lo1 hi1)) (iI start) gi gl Qi := fun start hs k1 k2 => by
    refine v_X3_countFrom_80 ?_
    unfold f_X3_countFrom_80
    rw [h3]
    refine c_b (fun q => fin start 3599 hs (by omega) (k1 (Or.inl q))) (fun q => ?_)
    refine d_eq la (-1) rfl rfl (by omega) (by omega) (fun q2 => fin start 3599 hs (by omega) (k1 (Or.inr q2))) (fun q2 => ?_)
    rintro z7 rfl
    rw [iI_add]
    exact fin start (la + gv) hs (by omega) (k2 q q2)
  refine v_X3_countFrom_42 ?_
  unfold f_X3_countFrom_42
  rw [h4]
  refine c_b (fun q => ?_) (fun q => ?_)
  · refine ifT (by rw [q]; rfl) ?_
    rw [← iI_n z]
    refine f80 z (by omega) (fun w => lkD_iv vP (fun d hd => ?_)) (fun w w2 => lkD_iv vP (fun d hd => ?_))
    · rw [lu d, q]
      rcases hlh with ⟨rfl, rfl, rfl⟩ | ⟨rfl, rfl, rfl⟩
      · have w : la = -1 := by simpa using w
        simp <;> omega
      · simp <;> omega
    · rw [lu d, q]
      rcases hlh with ⟨rfl, rfl, rfl⟩ | ⟨rfl, rfl, rfl⟩
      · simp <;> omega
      · cases w
  · refine d_ne la (-1) rfl rfl (by omega) (by omega) (fun n1 => ?_) (fun n1 => ?_)
    · refine ifF (by rw [q]; decide) ?_
      rw [iI_sub, show (1 : Int32) = iI 1 by rfl, iI_add, ← iI_n z, jmax_I (by omega) (by omega)]
      have hm : ((if (z : Int) < la - gv + 1 then la - gv + 1 else (z : Int)) = la - gv + 1 ∧ (z : Int) < la - gv + 1) ∨ ((if (z : Int) < la - gv + 1 then la - gv + 1 else (z : Int)) = z ∧ la - gv + 1 ≤ (z : Int)) := by split <;> omega
      generalize (if (z : Int) < la - gv + 1 then la - gv + 1 else (z : Int)) = start at *
      refine f80 start (by omega) (fun w => lkD_iv vP (fun d hd => ?_)) (fun w w2 => lkD_iv vP (fun d hd => ?_))
      · rw [lu d, q]
        rcases hlh with ⟨rfl, rfl, rfl⟩ | ⟨rfl, rfl, rfl⟩
        · rcases w with w | w
          · cases w
          · exact absurd w n1
        · simp <;> omega
      · rw [lu d, q]
        rcases hlh with ⟨rfl, rfl, rfl⟩ | ⟨rfl, rfl, rfl⟩
        · simp <;> omega
        · cases w
    · have : lkD T P i z = ivD (wD T P i) lo1 hi1 := by
        rw [lkD_iv vP (lo1 := lo1) (hi1 := hi1) (lo2 := 1) (hi2 := 0) (fun d hd => ?_), e0, Nat.add_zero]
        rw [lu d, q]
        rcases hlh with ⟨rfl, rfl, rfl⟩ | ⟨rfl, rfl, rfl⟩
        · simp <;> omega
        · simp <;> omega
      rw [← this]; exact h
theorem s_X3_countFrom (m : CE T gi gl) (vP : ∀ k, k < P.1 → vSign T (P.2 k)) {i z : Nat} (hi : i < tCnt T 0) (hz : z < 3600) (h3 : gi 31 3 = b2i (fSt P i P.1)) (h4 : gi 31 4 = b2i (fLa P i P.1)) (hW : ∀ n, n ≤ 3600 → gi 32 n = nI (sumN (wD T P i) n))
    (h : Qi (nI (lkD T P i z)) gi gl) : p_X3_countFrom (nI i) (nI z) gi gl Qi := by
  refine v_X3_countFrom ?_
  unfold f_X3_countFrom
  refine s_X10_of m (k := 0) (j := 2) (by omega) hi (by decide) ?_
  refine s_X10_of m (k := 0) (j := 3) (by omega) hi (by decide) ?_
  rw [h3]
  refine c_b (fun q => ?_) (fun q => ?_)
  · rw [show nI z - 1 = iI ((z : Int) - 1) by rw [← iI_n, show (1 : Int32) = iI 1 by rfl, iI_sub]]
    refine s_X3_countOf (lo := 0) hW (by omega) (by omega) ?_
    exact s_countFrom_42 m.2 vP hi hz rfl rfl h3 h4 hW (Or.inr ⟨q, rfl, rfl⟩) h
  · have e0 : ivD (wD T P i) 1 0 = 0 := ivD_0 (by omega)
    have := s_countFrom_42 (lo1 := 1) (hi1 := 0) m.2 vP hi hz rfl rfl h3 h4 hW (Or.inl ⟨q, rfl, rfl⟩) h
    rw [e0] at this
    exact this
theorem s_X3_finds (m : CE T gi gl) (hs : CS T P gi p) (hm : cMom T P gi (p + 2)) (hp : 35 < p) {y : Int} (ry : -2147483648 ≤ y ∧ y < 2147483648) (h0 : (y < 0 ∨ (tCnt T 0 : Int) ≤ y ∨ tNum T 0 y.toNat 1 = 0) → Qi 0 gi gl)
    (h1 : ∀ i : Nat, y = i → i < tCnt T 0 → tNum T 0 i 1 ≠ 0 → ∀ g l, Lk gi g → (∀ z, z ≠ 31 → l z = gl z) → l 31 5 = iL (lkS T P i : Nat) → g 31 6 = nI (lkN T i) → Qi 1 g l) : p_X3_finds p (iI y) gi gl Qi := by
  have hN := hs.2.2.2.1
  have hK := hs.2.2.2.2.1
  have c0 := cnt4 m.2 (k := 0) (by omega)
  refine v_X3_finds hN hK ?_
  unfold f_X3_finds
  by_cases hy : y < 0 ∨ (tCnt T 0 : Int) ≤ y
  · have out : (tCnt T 0 : Int) ≤ (iI y).toInt ∨ (iI y).toInt < 0 := by rw [iI_toInt ry.1 ry.2]; omega
    refine s_X10_outT m (k := 0) (by omega) out ?_
    refine s_X10_outT m (k := 0) (by omega) out ?_
    refine v_X10_has zl_2 zk_2 ?_
    unfold f_X10_has
    refine ifF (by decide) (ifF (by decide) ?_)
    refine d_lt y 0 rfl rfl ry (by omega) (fun w => ifT rfl (h0 (by omega))) (fun w => ⟨vp_nI (n := 0) (by omega) (by omega), ?_⟩)
    rw [show (0 : Int32).toNatClampNeg = 0 by rfl, m.1.1 0 (by omega)]
    exact d_le (tCnt T 0 : Int) y (iI_n _).symm rfl (by omega) ry (fun _ => ifT rfl (h0 (by omega))) (fun w => by omega)
  · obtain ⟨i, ei⟩ := nat_of (show 0 ≤ y by omega)
    subst ei
    rw [Int.toNat_natCast] at h0
    have hi : i < tCnt T 0 := by omega
    obtain ⟨r1, r2, r3, r4, r5, r6, r7⟩ := m.2.2.2.2.1 i hi
    have lb := lk_bd m.2 hi
    rw [iI_n]
    refine s_X10_of m (k := 0) (j := 0) (by omega) hi (by decide) ?_
    refine s_X10_of m (k := 0) (j := 1) (by omega) hi (by decide) ?_
    refine v_X10_has zl_2 zk_2 ?_
    unfold f_X10_has
    refine ifF (by decide) (ifF (by decide) ?_)
    refine c_lt i 0 rfl rfl (by omega) (by omega) (fun w => by omega) (fun _ => ⟨vp_nI (n := 0) (by omega) (by omega), ?_⟩)
    rw [show (0 : Int32).toNatClampNeg = 0 by rfl, m.1.1 0 (by omega)]
    refine c_le (tCnt T 0) i rfl rfl (by omega) (by omega) (fun w => by omega) (fun _ => ?_)
    refine ifF (by decide) ?_
    refine d_lt 0 (tNum T 0 i 1) rfl rfl (by omega) (by omega) (fun hg => ?_) (fun hg => h0 (Or.inr (Or.inr (by omega))))
    refine s_X10_of m (k := 0) (j := 2) (by omega) hi (by decide) ?_
    have go : ∀ s0 : Int, -10000 ≤ s0 ∧ s0 ≤ 10000 → (if s0 < tNum T 0 i 0 + tNum T 0 i 1 then s0 else tNum T 0 i 0 + tNum T 0 i 1) = lkL T i → p_X3_finds_72 p (nI i) (iI (tNum T 0 i 0)) (iI (tNum T 0 i 1)) (iI s0) (iI (tNum T 0 i 0) + iI (tNum T 0 i 1)) gi gl Qi := by
      intro s0 hs0 eL
      refine v_X3_finds_72 hN hK ?_
      unfold f_X3_finds_72
      rw [iI_add, jmin_I (by omega) (by omega), eL, iI_sub, show (0 : Int32) = iI 0 by rfl, jmax_I (by omega) (by omega)]
      rintro z1 rfl
      refine s_X3_countAhead m hs hm hp (by omega) (fun g w f3 f4 f32 => ?_)
      intro l4 e4 g5 e5
      have eF : (if tNum T 0 i 0 - tNum T 0 i 1 < 0 then 0 else tNum T 0 i 0 - tNum T 0 i 1) = lkF T i := by
        unfold lkF; split <;> split <;> omega
      rw [eF]
      rintro z6 rfl
      obtain ⟨F, hF⟩ := nat_of lb.1
      have hN2 : (lkN T i : Int) = lkL T i + 1 - lkF T i := by unfold lkN; omega
      have lp : ∀ k, k ≤ lkN T i → ∀ g l, Lk gi g → (∀ z, z ≠ 31 → l z = gl z) → g 31 3 = b2i (fSt P i P.1) → g 31 4 = b2i (fLa P i P.1) → (∀ n, n ≤ 3600 → g 32 n = nI (sumN (wD T P i) n)) → l 31 5 = iL (sumN (fun k => lkD T P i (F + k)) k : Nat) → g 31 6 = nI k → p_X3_finds_103 p (nI i) (iI (lkL T i)) (nI (F + k)) g l Qi := by
        refine dn ?_ ?_
        · intro g l w wl f3 f4 f32 f5 f6
          refine v_X3_finds_103 hN hK ?_
          unfold f_X3_finds_103
          refine d_lt (lkL T i) ((F + lkN T i : Nat) : Int) rfl (iI_n _).symm (by omega) (by omega) (fun _ => ?_) (fun y => by omega)
          refine h1 i rfl hi (by omega) g l w wl ?_ f6
          unfold lkS
          rw [hF, Int.toNat_natCast]
          exact f5
        · intro k hk ih g l w wl f3 f4 f32 f5 f6
          refine v_X3_finds_103 hN hK ?_
          unfold f_X3_finds_103
          refine d_lt (lkL T i) ((F + k : Nat) : Int) rfl (iI_n _).symm (by omega) (by omega) (fun y => by omega) (fun _ => ?_)
          refine s_X3_countFrom (w.E (wl 4 (by omega)) m) (fun k hk => hs.vs hk) hi (by omega) f3 f4 f32 ?_
          intro l4 e4 g5 e5
          have lD := lkD_le (T := T) (P := P) (i := i) (d := F + k)
          rw [f5, ← iI_n, iI_toL (by omega) (by omega), iL_add] at e4
          rw [f6, nI_1] at e5
          rw [nI_1, show F + k + 1 = F + (k + 1) by omega]
          refine ih g5 l4 (fun z a b => by rw [e5, uI_n a]; exact w z a b) (fun z a => by rw [e4, uL_n a]; exact wl z a) (by rw [e5, uI_s, upd_n (by omega)]; exact f3) (by rw [e5, uI_s, upd_n (by omega)]; exact f4) (fun n hn => by rw [e5, uI_n (by omega)]; exact f32 n hn) ?_ (by rw [e5, uI_s, upd_s])
          rw [e4, uL_s, updLA, if_pos rfl, sumN_s, Int.natCast_add]
      have := lp 0 (by omega) g5 l4 (fun z a b => by rw [e5, uI_n a]; exact w z a b) (fun z a => by rw [e4, uL_n a]) (by rw [e5, uI_s, upd_n (by omega)]; exact f3) (by rw [e5, uI_s, upd_n (by omega)]; exact f4) (fun n hn => by rw [e5, uI_n (by omega)]; exact f32 n hn) (by rw [e4, uL_s, updLA, if_pos rfl]; rfl) (by rw [e5, uI_s, upd_s]; rfl)
      rw [hF, iI_n]
      exact this
    refine d_ne (tNum T 0 i 2) (-1) rfl rfl (by omega) (by omega) (fun n1 => ?_) (fun n1 => ?_)
    · refine go (tNum T 0 i 2) (by omega) ?_
      unfold lkL lkL0
      rw [if_neg (show ¬ tNum T 0 i 2 < 0 by omega)]
      split <;> split <;> split <;> omega
    · refine go 3599 (by omega) ?_
      unfold lkL lkL0
      rw [if_pos (show tNum T 0 i 2 < 0 by omega)]
      split <;> split <;> omega
theorem Lk.scr {g : Gi} {l : Gl} (h : Lk gi g) (hl : ∀ z, z ≠ 31 → l z = gl z) : Scr gi gl g l := ⟨fun z hz => h z (by omega) (by omega), h 27 (by omega) (by omega), by rw [h 25 (by omega) (by omega)], fun z hz => hl z (by omega)⟩
theorem c_look (V : vSta σ) (m : CI σ c gi gl) {x y w : Int32} (k : KC σ (c + 1) gi gl (Ql (aLook (sTown σ) (sShown σ) x y w))) : p_X11_look x y w gi gl Ql := by
  have h := k.s V m Scr.rf
  refine v_X11_look ?_
  unfold f_X11_look
  refine c_get V m (fun hp => ?_) (fun j hj hp hxj => ?_)
  · unfold aLook at h
    rw [if_neg (by rw [hp]; simp)] at h; exact h
  · obtain ⟨hs, hm⟩ := m.P V hj
    have hE := m.E V
    refine d_lt w.toInt 0 (iI_of w) rfl (iI_rng w) (by omega) (fun q => by unfold aLook at h; rw [if_neg (by omega)] at h; exact h) (fun w1 => ?_)
    refine d_lt 1 w.toInt rfl (iI_of w) (by omega) (iI_rng w) (fun q => by unfold aLook at h; rw [if_neg (by omega)] at h; exact h) (fun w2 => ?_)
    have ey := iI_of y
    rw [ey]
    refine s_X3_finds hE hs hm (by omega) (iI_rng y) (fun hno => ?_) (fun i hi hic hg g l lw ll l5 g6 => ?_)
    · refine ifF (by decide) ?_
      unfold aLook at h
      rw [if_neg (by rintro ⟨-, q1, q2, -, -, q3⟩; rcases hno with z | z | z <;> omega)] at h
      exact h
    · have h := k.s V m (lw.scr ll)
      have lb := lk_bd hE.2 hic
      unfold aLook at h
      rw [hi, Int.toNat_natCast, if_pos ⟨hp, by omega, by omega, by omega, by omega, hg⟩, hxj] at h
      refine ifT (by decide) ?_
      refine d_ne w.toInt 0 (iI_of w) rfl (iI_rng w) (by omega) (fun q => ?_) (fun q => ?_)
      · rw [if_neg q] at h
        refine v_X3_dayCount ?_
        unfold f_X3_dayCount
        rw [g6]
        show Ql (nI (lkN (sTown σ) i)).toInt64 g l
        rw [← iI_n, iI_toL (by omega) (by omega)]; exact h
      · rw [if_pos q] at h
        refine v_X3_together ?_
        unfold f_X3_together
        rw [l5]; exact h
theorem s_X3_isNamed (vt : vTown T) (hs : CS T P gi p) {i : Nat} (hi : i < 100) (h : Qi (b2i (nmB P i)) gi gl) : p_X3_isNamed p (nI i) gi gl Qi := by
  have hN := hs.2.2.2.1
  have hK := hs.2.2.2.2.1
  have hc := hs.2.1
  have eB : nmB P i = !allK (fun k => !nmK P i k) P.1 := rfl
  rw [eB] at h
  refine v_X3_isNamed hN hK ?_
  unfold f_X3_isNamed
  refine dn (P := fun k => allK (fun k => !nmK P i k) k = true → p_X3_isNamed_2 p (nI i) (nI k) gi gl Qi) (N := P.1) ?_ ?_ 0 (Nat.zero_le _) rfl
  · intro hA
    refine v_X3_isNamed_2 hN hK ?_
    unfold f_X3_isNamed_2
    refine s_X5_size hs (ifT (by rw [nI_leI (by omega) (by omega)]; omega) ?_)
    rw [hA] at h; exact h
  · intro k hk ih hA
    rw [allK_s, hA, Bool.true_and] at ih
    refine v_X3_isNamed_2 hN hK ?_
    unfold f_X3_isNamed_2
    refine s_X5_size hs ?_
    refine c_le P.1 k rfl rfl (by omega) (by omega) (fun y => by omega) (fun _ => ?_)
    refine s_X5_names vt hs hk hi ?_
    refine c_b (fun q => ?_) (fun q => ?_)
    · rw [nI_1]; exact ih (by rw [q]; rfl)
    · have hF : allK (fun k => !nmK P i k) (k + 1) = false := by rw [allK_s, q]; simp
      rw [allK_f hF _ (by omega)] at h
      exact h
theorem c_next (V : vSta σ) (m : CI σ c gi gl) {x : Int32} (k : KC σ (c + 1) gi gl (Qi (aNext (sTown σ) (sShown σ) x))) : p_X11_next x gi gl Qi := by
  have h0 := k.s V m Scr.rf
  refine v_X11_next ?_
  unfold f_X11_next
  refine c_get V m (fun hp => ?_) (fun j hj hp hxj => ?_)
  · unfold aNext at h0
    rw [if_neg (by rw [hp]; simp)] at h0; exact h0
  · obtain ⟨hs, hm⟩ := m.P V hj
    have hE := m.E V
    have h : ∀ g l, Lk gi g → (∀ z, z ≠ 31 → l z = gl z) → Qi (iI (nxB (sTown σ) ((sShown σ).2.1 j) (tCnt (sTown σ) 0)).1) g l := fun g l w wl => by
      have := k.s V m (w.scr wl)
      unfold aNext at this
      rw [if_pos hp, hxj] at this
      exact this
    clear h0
    generalize (sShown σ).2.1 j = P at *
    generalize sTown σ = T at *
    have hN := hs.2.2.2.1
    have hK := hs.2.2.2.2.1
    have c0 := cnt4 hE.2 (k := 0) (by omega)
    refine v_X3_leastOf hN hK ?_
    unfold f_X3_leastOf
    refine dn (P := fun t => ∀ g l, Lk gi g → (∀ z, z ≠ 31 → l z = gl z) → p_X3_leastOf_10 (36 + 7 * j) (iI (nxB T P t).1) (iL ((nxB T P t).2.1 : Nat)) (iL ((nxB T P t).2.2 : Nat)) (nI t) g l (fun r6 gi4 gl5 => Qi r6 gi4 gl5)) (N := tCnt T 0) ?_ ?_ 0 (by omega) gi gl (fun _ _ _ => rfl) (fun _ _ => rfl)
    · intro g l w wl
      have mE := w.E (wl 4 (by omega)) hE
      refine v_X3_leastOf_10 hN hK ?_
      unfold f_X3_leastOf_10
      refine v_X10_countOf zl_2 zk_2 ?_
      unfold f_X10_countOf
      refine ifF (by decide) (ifT (by decide) ⟨vp_nI (n := 0) (by omega) (by omega), ?_⟩)
      rw [show (0 : Int32).toNatClampNeg = 0 by rfl, mE.1.1 0 (by omega)]
      exact ifT (by rw [nI_leI (by omega) (by omega)]; omega) (h g l w wl)
    · intro t ht ih g l w wl
      have mE := w.E (wl 4 (by omega)) hE
      have hs' := w.S (by omega) hs
      have hm' := w.M (by omega) hm
      obtain ⟨b1, b2, b3, b4⟩ := nxB_bd (P := P) hE.2 t (by omega)
      have l1 := lkS_le (P := P) hE.2 ht
      have l2 := (lk_bd hE.2 ht).2.2.2.2
      rw [nxB_s] at ih
      refine v_X3_leastOf_10 hN hK ?_
      unfold f_X3_leastOf_10
      refine v_X10_countOf zl_2 zk_2 ?_
      unfold f_X10_countOf
      refine ifF (by decide) (ifT (by decide) ⟨vp_nI (n := 0) (by omega) (by omega), ?_⟩)
      rw [show (0 : Int32).toNatClampNeg = 0 by rfl, mE.1.1 0 (by omega)]
      refine c_le (tCnt T 0) t rfl rfl (by omega) (by omega) (fun y => by omega) (fun _ => ?_)
      refine s_X3_isNamed hE.2 hs' (by omega) ?_
      refine c_b (fun q => ?_) (fun q => ?_)
      · rw [if_neg (by rintro ⟨-, z, -⟩; rw [q] at z; cases z)] at ih
        rw [nI_1]; exact ih g l w wl
      · rw [← iI_n t]
        refine s_X3_finds mE hs' hm' (by omega) (by omega) (fun hno => ?_) (fun i hi hic hg g2 l2' lw ll e5 e6 => ?_)
        · rw [Int.toNat_natCast] at hno
          rw [if_neg (by rintro ⟨z, -⟩; omega)] at ih
          refine ifF (by decide) ?_
          rw [iI_n, nI_1]; exact ih g l w wl
        · have hi : t = i := by omega
          subst hi
          have ih := ih g2 l2' (fun z a b => (lw z a b).trans (w z a b)) (fun z a => (ll z a).trans (wl z a))
          refine ifT (by decide) ?_
          rw [e5, e6, iI_n, nI_1, ← iI_n (lkN T t), iI_toL (by omega) (by omega)]
          refine d_eq (nxB T P t).1 (-1) rfl rfl (by omega) (by omega) (fun z => ?_) (fun z => ?_)
          · rintro z10 rfl z11 rfl
            rw [if_pos ⟨hg, q, Or.inl (by omega)⟩] at ih
            rw [← iI_n t]
            exact ih
          · have p1 : (nxB T P t).2.1 * lkN T t ≤ 515808000 * 199 := Nat.mul_le_mul b3 l2
            have p2 : lkS T P t * (nxB T P t).2.2 ≤ 515808000 * 199 := Nat.mul_le_mul l1 b4
            rw [iL_mul, iL_mul, ← Int.natCast_mul, ← Int.natCast_mul]
            by_cases hle : iL (((nxB T P t).2.1 * lkN T t : Nat) : Int) ≤ iL ((lkS T P t * (nxB T P t).2.2 : Nat) : Int)
            · refine ifT hle ?_
              rw [iL_le (by omega) (by omega)] at hle
              rw [if_neg (by rintro ⟨-, -, y⟩; omega)] at ih
              exact ih
            · refine ifF hle ?_
              rw [iL_le (by omega) (by omega)] at hle
              rintro z12 rfl z13 rfl
              rw [if_pos ⟨hg, q, Or.inr (by omega)⟩] at ih
              rw [← iI_n t]
              exact ih
end CR
