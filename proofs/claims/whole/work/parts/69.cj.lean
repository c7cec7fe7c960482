/-! THE CLASS, ten: shadow, likely, stood -/
section CJ
variable {σ : Sta} {c : Nat} {gi : Gi} {gl : Gl} {Qi : Int32 → Gi → Gl → Prop} {Ql : Int64 → Gi → Gl → Prop} {T : Twn} {P : Pic} {p : Nat}
theorem s_X9_goesTo_out (m : CE T gi gl) {z : Int} (rz : -2147483648 ≤ z ∧ z < 2147483648) (hz : z < 0 ∨ (tCnt T 2 : Int) ≤ z) (h : Qi 0 gi gl) : p_X9_goesTo (iI z) gi gl Qi := by
  have hc := cnt4 m.2 (k := 2) (by omega)
  refine v_X9_goesTo ?_
  unfold f_X9_goesTo
  refine v_X10_has zl_2 zk_2 ?_
  unfold f_X10_has
  refine ifF (by decide) (ifF (by decide) ?_)
  refine d_lt z 0 rfl rfl rz (by omega) (fun y => ifF (by decide) h) (fun y => ⟨vp_nI (n := 2) (by omega) (by omega), ?_⟩)
  rw [show (2 : Int32).toNatClampNeg = 2 by rfl, m.1.1 2 (by omega)]
  exact d_le (tCnt T 2 : Int) z (iI_n _).symm rfl (by omega) rz (fun _ => ifF (by decide) h) (fun y => by omega)
theorem s_X9_shines_out (m : CE T gi gl) {mo t : Int} (rm : -2147483648 ≤ mo ∧ mo < 2147483648) (rt : -2147483648 ≤ t ∧ t < 2147483648) (ho : mo < 0 ∨ 12 ≤ mo ∨ t < 0 ∨ 720 ≤ t) (h : Qi 0 gi gl) : p_X9_shines (iI mo) (iI t) gi gl Qi := by
  have e65 : ∀ (x1 x2 : Int32) (n r : Nat), n ≤ r → r < 100 → p_X9_shines_65 x1 x2 (nI n) (nI r) 0 gi gl Qi := by
    intro x1 x2 n r h1 h2
    refine v_X9_shines_65 ?_
    unfold f_X9_shines_65
    exact ifT (by rw [nI_leI (by omega) (by omega)]; exact h1) h
  have e39 : ∀ (x1 x2 : Int32) (n r : Nat), n ≤ r → r < 100 → p_X9_shines_39 x1 x2 (nI n) (nI r) gi gl Qi := by
    intro x1 x2 n r h1 h2
    refine v_X9_shines_39 ?_
    unfold f_X9_shines_39
    exact ifT (by rw [nI_leI (by omega) (by omega)]; exact h1) (e65 x1 x2 n r h1 h2)
  have e12 : ∀ (x1 x2 : Int32) (n r : Nat), n ≤ r → r < 100 → p_X9_shines_12 x1 x2 (nI n) (nI r) gi gl Qi := by
    intro x1 x2 n r h1 h2
    refine v_X9_shines_12 ?_
    unfold f_X9_shines_12
    exact ifT (by rw [nI_leI (by omega) (by omega)]; exact h1) (e39 x1 x2 n r h1 h2)
  refine v_X9_shines ?_
  unfold f_X9_shines
  by_cases hm : 0 ≤ mo ∧ mo < 12
  · obtain ⟨k, hk⟩ := nat_of hm.1
    subst hk
    rw [iI_n]
    have hl := rows_len (mo := k) m.2
    refine s_X10_sunRowsIn m (by omega) ?_
    have at' : ∀ {r : Nat}, r < (rowsOf T k).length → ∃ q, (rowsOf T k)[r]? = some q := fun hr => ⟨_, List.getElem?_eq_getElem hr⟩
    rcases (show t < 0 ∨ 720 ≤ t by omega) with ht | ht
    · by_cases h0 : (rowsOf T k).length = 0
      · rw [h0]; exact e12 _ _ 0 0 (by omega) (by omega)
      · obtain ⟨q, hq⟩ := at' (r := 0) (by omega)
        have hb := row_bd m.2 hq
        refine v_X9_shines_12 ?_
        unfold f_X9_shines_12
        refine c_le (rowsOf T k).length 0 rfl rfl (by omega) (by omega) (fun y => by omega) (fun _ => ?_)
        refine s_X10_sunNumber m (r := 0) (j := 0) (by omega) hq (by omega) ?_
        rw [rowJ_0]
        refine d_le t (q.2.1 : Int) rfl rfl rt (by omega) (fun _ => ?_) (fun y => by omega)
        refine v_X9_shines_39 ?_
        unfold f_X9_shines_39
        refine c_le (rowsOf T k).length 0 rfl rfl (by omega) (by omega) (fun y => by omega) (fun _ => ?_)
        refine s_X10_sunNumber m (r := 0) (j := 0) (by omega) hq (by omega) ?_
        rw [rowJ_0]
        refine d_ne (q.2.1 : Int) t rfl rfl (by omega) rt (fun _ => ?_) (fun y => by omega)
        refine v_X9_shines_65 ?_
        unfold f_X9_shines_65
        refine c_le (rowsOf T k).length 0 rfl rfl (by omega) (by omega) (fun y => by omega) (fun _ => ?_)
        exact ifF (by decide) (ifF (by decide) h)
    · have lp : ∀ n r, r + n = (rowsOf T k).length → p_X9_shines_12 (nI k) (iI t) (nI (rowsOf T k).length) (nI r) gi gl Qi := by
        intro n
        induction n with
        | zero => intro r hr; exact e12 _ _ _ _ (by omega) (by omega)
        | succ n ih =>
          intro r hr
          obtain ⟨q, hq⟩ := at' (r := r) (by omega)
          have hb := row_bd m.2 hq
          refine v_X9_shines_12 ?_
          unfold f_X9_shines_12
          refine c_le (rowsOf T k).length r rfl rfl (by omega) (by omega) (fun y => by omega) (fun _ => ?_)
          refine s_X10_sunNumber m (j := 0) (by omega) hq (by omega) ?_
          rw [rowJ_0]
          refine d_le t (q.2.1 : Int) rfl rfl rt (by omega) (fun y => by omega) (fun _ => ?_)
          rw [nI_1]
          exact ih (r + 1) (by omega)
      exact lp (rowsOf T k).length 0 (by omega)
  · refine v_X10_sunRowsIn zl_2 zk_2 ?_
    unfold f_X10_sunRowsIn
    refine d_lt mo 0 rfl rfl rm (by omega) (fun _ => e12 _ _ 0 0 (by omega) (by omega)) (fun _ => ?_)
    exact d_lt mo 12 rfl rfl rm (by omega) (fun y => by omega) (fun _ => e12 _ _ 0 0 (by omega) (by omega))
theorem s_shadow_60 (vt : vTown T) {x : Nat} (hx : x < tCnt T 2) {mo : Nat} {t : Int} {w : Int32} {q : Int × Int × Int} (hl : lit T mo t = some q) (hw : (decide (0 ≤ w.toInt) && decide (w.toInt ≤ 3)) = true) {U : Int} (hU : shUp T x w.toInt q = U) (su : SunAt gi q) (h : Qi (iI (shQ T x w.toInt q)) gi gl) : p_X11_shadow_60 w (iI U) gi gl Qi := by
  obtain ⟨b1, b2, b3, b4⟩ := sh_bd (w := w.toInt) vt hx hl
  refine v_X11_shadow_60 ?_
  unfold f_X11_shadow_60
  refine s_X9_lower su ?_
  unfold shQ at h
  rw [hU] at b3 b4 h
  generalize shLow q = L at *
  rw [iI_toL (by omega) (by omega), iI_toL (by omega) (by omega)]
  refine s_X11_divisorOf (by omega) (by omega) ?_
  have hg := Nat.gcd_le_right U.natAbs (show 0 < L.natAbs by omega)
  have hg0 := Nat.gcd_pos_of_pos_right U.natAbs (show 0 < L.natAbs by omega)
  generalize Nat.gcd U.natAbs L.natAbs = g at *
  rintro z7 rfl
  rw [iL_toI (by omega) (by omega)]
  have hne : ¬ iI (g : Int) = 0 := by
    rw [iI_n]
    intro e
    have := congrArg Int32.toNatClampNeg e
    rw [nI_cl (by omega)] at this
    have : g = 0 := this
    omega
  refine d_lt 0 (g : Int) rfl rfl (by omega) (by omega) (fun _ => ?_) (fun y => by omega)
  by_cases hj : ¬ jr w 2 = 0
  · rw [if_pos hj]
    rw [if_pos ((jr2_w hw).1 hj)] at h
    exact ⟨hne, by rw [iI_div (by omega) (by omega)]; exact h⟩
  · rw [if_neg hj]
    rw [if_neg (fun k => hj ((jr2_w hw).2 k))] at h
    exact ⟨hne, by rw [iI_div (by omega) (by omega)]; exact h⟩
theorem c_shadow (V : vSta σ) (m : CI σ c gi gl) {x y t w : Int32} (k : KC σ (c + 1) gi gl (Qi (aShadow (sTown σ) x y t w))) : p_X11_shadow x y t w gi gl Qi := by
  have hE := m.E V
  have hc := cnt4 hE.2 (k := 2) (by omega)
  have bad : ∀ g, Cn gi g → (x.toInt < 0 ∨ (tCnt (sTown σ) 2 : Int) ≤ x.toInt ∨ y.toInt < 0 ∨ 11 < y.toInt ∨ t.toInt < 0 ∨ 719 < t.toInt ∨ w.toInt < 0 ∨ 3 < w.toInt) → Qi (-1000000) g gl := fun g hg hb => by
    have := k.s V m hg.scr
    unfold aShadow at this
    rw [if_neg (by simp; omega)] at this
    exact this
  refine v_X11_shadow ?_
  unfold f_X11_shadow
  refine d_lt w.toInt 0 (iI_of w) rfl (iI_rng w) (by omega) (fun z => bad gi Cn.rf (by omega)) (fun w1 => ?_)
  refine d_lt 3 w.toInt rfl (iI_of w) (by omega) (iI_rng w) (fun z => bad gi Cn.rf (by omega)) (fun w2 => ?_)
  by_cases hx : x.toInt < 0 ∨ (tCnt (sTown σ) 2 : Int) ≤ x.toInt
  · rw [iI_of x]
    exact s_X9_goesTo_out hE (iI_rng x) hx (ifT rfl (bad gi Cn.rf (by omega)))
  · have ex := int_of (x := x) (by omega) rfl
    have hX : x.toInt.toNat < tCnt (sTown σ) 2 := by omega
    rw [ex]
    refine s_X9_goesTo hE hX (fun g1 hg1 p1 p2 p3 => ifF (by decide) ?_)
    by_cases hyt : y.toInt < 0 ∨ 12 ≤ y.toInt ∨ t.toInt < 0 ∨ 720 ≤ t.toInt
    · rw [iI_of y, iI_of t]
      exact s_X9_shines_out (hg1.E hE) (iI_rng y) (iI_rng t) hyt (ifF (by decide) (bad g1 hg1 (by omega)))
    · have ey := int_of (x := y) (by omega) rfl
      have et := int_of (x := t) (by omega) rfl
      have eA : ∀ g, Cn gi g → Qi (match lit (sTown σ) y.toInt.toNat t.toInt.toNat with
          | none => -1000000
          | some q => iI (shQ (sTown σ) x.toInt.toNat w.toInt q)) g gl := fun g hg => by
        have := k.s V m hg.scr
        unfold aShadow at this
        rw [if_pos (by simp; omega)] at this
        exact this
      have hY : y.toInt.toNat < 12 := by omega
      have hT : t.toInt.toNat < 720 := by omega
      have hw : (decide (0 ≤ w.toInt) && decide (w.toInt ≤ 3)) = true := by simp; omega
      rw [ey, et]
      generalize y.toInt.toNat = b at *
      generalize t.toInt.toNat = d at *
      generalize x.toInt.toNat = a at *
      refine s_X9_shines (hg1.E hE) hY hT (fun hl => ifF (by decide) ?_) (fun q hl g2 hg2 su => ifT (by decide) ?_)
      · have := eA g1 hg1
        rw [hl] at this
        exact this
      · have fin := eA g2 (hg1.tr hg2.1)
        rw [hl] at fin
        have pa : PostAt (sTown σ) a g2 := ⟨by rw [hg2.2 1 (by omega)]; exact p1, by rw [hg2.2 2 (by omega)]; exact p2, by rw [hg2.2 3 (by omega)]; exact p3⟩
        refine d_le 2 w.toInt rfl (iI_of w) (by omega) (iI_rng w) (fun h2 => ?_) (fun h2 => ?_)
        · refine s_X9_upperY pa su ?_
          exact s_shadow_60 hE.2 hX hl hw (by unfold shUp; rw [if_pos h2]) su fin
        · refine s_X9_upperX pa su ?_
          exact s_shadow_60 hE.2 hX hl hw (by unfold shUp; rw [if_neg (by omega)]) su fin
/-! likely -/
theorem best_row {v : Nat → Nat} {b K : Nat} {f : Nat → Bool} (hv : ∀ i, i < 30 → v (b + i) = if f i then K else 0) : ∀ n, n ≤ 30 → bestN v (b + n) = if (bestN v b).1 < K ∧ 0 ≤ lowN f n then (K, (b : Int) + lowN f n) else bestN v b
  | 0, _ => by
    have e : lowN f 0 = -1 := rfl
    rw [e, if_neg (by omega)]; rfl
  | n + 1, hn => by
    have ih := best_row hv n (by omega)
    have e1 : bestN v (b + n + 1) = if (bestN v (b + n)).1 < v (b + n) then (v (b + n), ((b + n : Nat) : Int)) else bestN v (b + n) := rfl
    have e2 : lowN f (n + 1) = if 0 ≤ lowN f n then lowN f n else if f n then (n : Int) else -1 := rfl
    rw [show b + (n + 1) = b + n + 1 by omega, e1, e2, hv n (by omega)]
    by_cases hB : (bestN v b).1 < K
    · by_cases hL : 0 ≤ lowN f n
      · rw [if_pos ⟨hB, hL⟩] at ih
        rw [ih, if_pos hL, if_neg (show ¬ (K, (b : Int) + lowN f n).1 < (if f n = true then K else 0) by split <;> simp), if_pos ⟨hB, hL⟩]
      · rw [if_neg (by omega)] at ih
        rw [ih, if_neg hL]
        cases hf : f n with
        | true =>
          simp only [if_true]
          rw [if_pos hB, if_pos ⟨hB, by omega⟩]
          simp
        | false =>
          simp only [Bool.false_eq_true, if_false]
          rw [if_neg (by omega), if_neg (by omega)]
    · rw [if_neg (fun q => hB q.1)] at ih
      rw [ih, if_neg (show ¬ (bestN v b).1 < (if f n = true then K else 0) by split <;> omega), if_neg (fun q => hB q.1)]
theorem best_0 {v : Nat → Nat} : ∀ n, (bestN v n).1 = 0 → sumN v n = 0
  | 0, _ => rfl
  | n + 1, h => by
    have e1 : bestN v (n + 1) = if (bestN v n).1 < v n then (v n, (n : Int)) else bestN v n := rfl
    rw [e1] at h
    by_cases q : (bestN v n).1 < v n
    · rw [if_pos q] at h
      have : v n = 0 := h
      omega
    · rw [if_neg q] at h
      rw [sumN_s, best_0 n h]; omega
theorem c_likely (V : vSta σ) (m : CI σ c gi gl) {x w : Int32} (k : KC σ (c + 1) gi gl (Ql (aLikely (sTown σ) (sShown σ) x w))) : p_X11_likely x w gi gl Ql := by
  have h := k.s V m Scr.rf
  have hW : ∀ m, m < 12 → (sShown σ).2.2 m ≤ 99 := V.2.2.2.1.2.2
  unfold aLikely at h
  refine v_X11_likely ?_
  unfold f_X11_likely
  refine c_get V m (fun hp => ?_) (fun i hi hp hxi => ?_)
  · rw [if_neg (by rw [hp]; simp)] at h; exact h
  · obtain ⟨hs, hm⟩ := m.P V hi
    obtain ⟨hN2, hK2⟩ := mom_k hs.2.2.2.1 hs.2.2.2.2.1
    have hN := hs.2.2.2.1
    have hK := hs.2.2.2.2.1
    have wt := m.A.2.2
    have ew := iI_of w
    have rw' := iI_rng w
    generalize w.toInt = w' at *
    subst ew
    refine d_lt w' 0 rfl rfl rw' (by omega) (fun q => by rw [if_neg (by omega)] at h; exact h) (fun q1 => ?_)
    refine d_le w' 2 rfl rfl rw' (by omega) (fun q2 => ?_) (fun q => by rw [if_neg (by omega)] at h; exact h)
    rw [if_pos ⟨hp, by omega, q2⟩, hxi] at h
    have hB : ∀ d, vW (sTown σ) (sShown σ) ((sShown σ).2.1 i) d ≤ 71280 := fun d => by
      unfold vW
      by_cases q : d < 3600
      · rw [if_pos q]; exact vDay_le hW q
      · rw [if_neg q]; omega
    have ev : ∀ r, r < 120 → ∀ j, j < 30 → vW (sTown σ) (sShown σ) ((sShown σ).2.1 i) (r * 30 + j) = if DR (sTown σ) ((sShown σ).2.1 i) r j then pCnt (sTown σ) ((sShown σ).2.1 i) (r % 12) * (sShown σ).2.2 (r % 12) else 0 := fun r hr j hj => by
      unfold vW
      rw [if_pos (by omega)]
      unfold vDay
      rw [mOn_row hj, mth_row hj]
      split
      · rfl
      · rw [Nat.zero_mul]
    generalize (sShown σ).2.1 i = P at *
    generalize vW (sTown σ) (sShown σ) P = v at *
    unfold aLk at h
    have hS := fun n => sumN_le (f := v) (b := 71280) (n := n) (fun i _ => hB i)
    refine dn (P := fun r => p_X11_likely_38 (36 + 7 * i) (iI w') (nI (bestN v (r * 30)).1) (iI (bestN v (r * 30)).2) (nI (sumN v (r * 30))) (nI r) gi gl Ql) (N := 120) ?_ ?_ 0 (by omega)
    · obtain ⟨b1, b2, b3, b4, b5⟩ := bestN_bd hB (120 * 30)
      have b6 := best_0 (v := v) (120 * 30)
      have hS := hS (120 * 30)
      rw [show (3600 : Nat) = 120 * 30 by rfl] at h
      generalize bestN v (120 * 30) = B at *
      generalize sumN v (120 * 30) = S at *
      refine v_X11_likely_38 hN hK ?_
      unfold f_X11_likely_38
      refine ifT (by decide) ?_
      rw [← iI_n, ← iI_n, iI_toL (by omega) (by omega), iI_toL (by omega) (by omega)]
      refine s_X11_divisorOf (by omega) (by omega) ?_
      rw [Int.natAbs_natCast, Int.natAbs_natCast]
      refine d_le (S : Int) 0 rfl rfl (by omega) (by omega) (fun z => ?_) (fun z => ?_)
      · rw [if_pos (by omega)] at h; exact h
      · have hne0 : B.1 ≠ 0 := fun e => by have := b6 e; omega
        rw [if_neg (by omega)] at h
        have hg0 := Nat.gcd_pos_of_pos_left S (show 0 < B.1 by omega)
        have hg := Nat.gcd_le_left S (show 0 < B.1 by omega)
        generalize Nat.gcd B.1 S = g at *
        have hne : ¬ iL (g : Int) = 0 := by rw [show (0 : Int64) = iL 0 by rfl, iL_eq (by omega) (by omega)]; omega
        refine ifT (by rw [show (0 : Int64) = iL 0 by rfl, iL_lt (by omega) (by omega)]; omega) ?_
        refine d_ne w' 0 rfl rfl rw' (by omega) (fun w0 => ?_) (fun w0 => ?_)
        · rw [if_neg w0] at h
          refine d_ne w' 1 rfl rfl rw' (by omega) (fun w1 => ⟨hne, ?_⟩) (fun w1 => ⟨hne, ?_⟩)
          · rw [if_neg w1] at h
            rw [iL_div (by omega) (by omega)]; exact h
          · rw [if_pos w1] at h
            rw [iL_div (by omega) (by omega)]; exact h
        · rw [if_pos w0] at h
          rw [iI_toL (by omega) (by omega)]; exact h
    · intro r hr ih
      have ev := ev r hr
      have br := best_row ev 30 (by omega)
      have bs : sumN v ((r + 1) * 30) = sumN v (r * 30) + pCnt (sTown σ) P (r % 12) * (sShown σ).2.2 (r % 12) * cntN (DR (sTown σ) P r) 30 := by
        rw [blk, Nat.mul_comm (_ * _), ← sumN_if]
        congr 1
        exact sumN_congr ev
      rw [show (r + 1) * 30 = r * 30 + 30 by omega] at ih bs
      rw [br, bs] at ih
      have b30 := bN30 (f := DR (sTown σ) P r)
      have hS1 := hS (r * 30 + 30)
      rw [bs] at hS1
      obtain ⟨b1, b2, b3, b4, b5⟩ := bestN_bd hB (r * 30)
      have hc := pCnt_le (T := sTown σ) (P := P) (m := r % 12)
      have hw := hW (r % 12) (by omega)
      have hcw := Nat.mul_le_mul hc hw
      refine v_X11_likely_38 hN hK ?_
      unfold f_X11_likely_38
      refine c_le 120 r rfl rfl (by omega) (by omega) (fun y => by omega) (fun _ => ?_)
      refine c_mom hN hK ?_
      refine v_X4_dayRow hN2 hK2 ?_
      unfold f_X4_dayRow
      refine c_lt r 0 rfl rfl (by omega) (by omega) (fun y => by omega) (fun _ => ?_)
      refine c_lt r 120 rfl rfl (by omega) (by omega) (fun _ => ⟨vp_nI hr (by omega), ?_⟩) (fun y => by omega)
      rw [nI_cl (by omega), cm1 hm hr, jr12 (by omega)]
      refine c_mom hN hK ?_
      refine s_X4_minutesIn hN2 hK2 hm (by omega) ?_
      refine v_X0_weightOf zl_33 zk_33 ?_
      unfold f_X0_weightOf
      refine c_lt (r % 12) 0 rfl rfl (by omega) (by omega) (fun y => by omega) (fun _ => ?_)
      refine c_lt (r % 12) 12 rfl rfl (by omega) (by omega) (fun _ => ⟨vp_nI (by omega) (by omega), ?_⟩) (fun y => by omega)
      rw [nI_cl (by omega), wt _ (by omega)]
      rintro z19 rfl
      refine s_bitCount (by omega) ?_
      rw [pc_bN (by omega)]
      rintro z23 rfl
      rw [mulN, mulN, nI_add, nI_1]
      generalize pCnt (sTown σ) P (r % 12) * (sShown σ).2.2 (r % 12) = K at *
      generalize hB2 : bestN v (r * 30) = B at *
      refine c_eq (bN (DR (sTown σ) P r) 30) 0 rfl rfl (by omega) (by omega) (fun z => ?_) (fun z => ?_)
      · have z := bN_0.1 z
        rw [if_neg (by
          rintro ⟨-, q⟩
          rcases lowN_spec (f := DR (sTown σ) P r) 30 with ⟨e, -⟩ | ⟨e, he, hl, hf, -⟩
          · omega
          · rw [z e hl] at hf; cases hf)] at ih
        exact ih
      · refine c_le K B.1 rfl rfl (by omega) (by omega) (fun y => ?_) (fun y => ?_)
        · rw [if_neg (by omega)] at ih; exact ih
        · have hex : ∃ e, e < 30 ∧ DR (sTown σ) P r e = true := by
            apply Classical.byContradiction
            intro q
            apply z
            refine bN_0.2 (fun e he => ?_)
            cases hd : DR (sTown σ) P r e with
            | false => rfl
            | true => exact absurd ⟨e, he, hd⟩ q
          refine s_X11_lowest hex (fun e he hl hf => ?_)
          rw [he, if_pos ⟨by omega, by omega⟩] at ih
          rintro z27 rfl
          rw [show (30 : Int32) = nI 30 by rfl, mulN, nI_add, ← iI_n (r * 30 + e), Int.natCast_add]
          exact ih
/-! stood -/
theorem sq_0 {a b : Int} : a * a + b * b = 0 ↔ a = 0 ∧ b = 0 := by
  have p : ∀ a : Int, a ≠ 0 → 0 < a * a := fun a ha => by
    rcases Int.lt_or_gt_of_ne ha with q | q
    · exact Int.mul_pos_of_neg_of_neg q q
    · exact Int.mul_pos q q
  constructor
  · intro h
    by_cases ha : a = 0
    · subst ha
      by_cases hb : b = 0
      · exact ⟨rfl, hb⟩
      · have := p b hb; omega
    · have := p a ha
      by_cases hb : b = 0
      · subst hb; omega
      · have := p b hb; omega
  · rintro ⟨rfl, rfl⟩; rfl
def seeB (T : Twn) (s : Nat → Int) (over : Bool) (x y : Int) : Bool := !ownB T s x y && soB T s over x y
theorem s_X1_sees (m : CE T gi gl) (hs : CS T P gi p) {j : Nat} (hj : j < P.1) (h8 : 8 ≤ P.2 j 0) {x y : Nat} (hx : x < 32) (hy : y < 32) {over : Bool} (h : Qi (b2i (seeB T (P.2 j) over x y)) gi gl) : p_X1_sees p (nI j) (b2i over) (nI x) (nI y) gi gl Qi := by
  obtain ⟨h89, h0, h1, h2, h3⟩ := vSign_two (hs.vs hj) h8
  obtain ⟨a, ea⟩ := nat_of h0
  obtain ⟨b, eb⟩ := nat_of h2
  obtain ⟨a1, a2, a3, a4, -⟩ := m.2.2.2.2.2.2.1 a (by omega)
  obtain ⟨b1, b2, b3, b4, -⟩ := m.2.2.2.2.2.2.1 b (by omega)
  refine v_X1_sees hs.2.2.2.1 hs.2.2.2.2.1 ?_
  unfold f_X1_sees
  refine s_X5_tells hs (w := 1) hj (by omega) ?_
  refine s_X5_tells hs (w := 2) hj (by omega) ?_
  rw [ea, eb, iI_n, iI_n]
  refine s_X10_of m (k := 2) (i := a) (j := 0) (by omega) (by omega) (by decide) ?_
  rintro z10 rfl
  refine s_X10_of m (k := 2) (i := a) (j := 1) (by omega) (by omega) (by decide) ?_
  rintro z14 rfl
  refine s_X10_of m (k := 2) (i := b) (j := 0) (by omega) (by omega) (by decide) ?_
  rintro z18 rfl
  refine s_X10_of m (k := 2) (i := b) (j := 1) (by omega) (by omega) (by decide) ?_
  rintro z22 rfl
  rw [← iI_n x, ← iI_n y, iI_sub, iI_sub, iI_sub, iI_sub, iI_mul, iI_mul, iI_mul, iI_mul, iI_add, iI_add]
  unfold seeB soB ownB at h
  rw [ea, eb] at h
  simp only [Int.toNat_natCast] at h
  rw [show decide (tNum T 2 a 0 = (x : Int)) = decide (tNum T 2 a 0 - x = 0) from decide_eq_decide.2 (by omega), show decide (tNum T 2 a 1 = (y : Int)) = decide (tNum T 2 a 1 - y = 0) from decide_eq_decide.2 (by omega), show decide (tNum T 2 b 0 = (x : Int)) = decide (tNum T 2 b 0 - x = 0) from decide_eq_decide.2 (by omega), show decide (tNum T 2 b 1 = (y : Int)) = decide (tNum T 2 b 1 - y = 0) from decide_eq_decide.2 (by omega)] at h
  have g1 : -31 ≤ tNum T 2 a 0 - x ∧ tNum T 2 a 0 - x ≤ 31 := by omega
  have g2 : -31 ≤ tNum T 2 a 1 - y ∧ tNum T 2 a 1 - y ≤ 31 := by omega
  have g3 : -31 ≤ tNum T 2 b 0 - x ∧ tNum T 2 b 0 - x ≤ 31 := by omega
  have g4 : -31 ≤ tNum T 2 b 1 - y ∧ tNum T 2 b 1 - y ≤ 31 := by omega
  generalize tNum T 2 a 0 - x = ax at *
  generalize tNum T 2 a 1 - y = ay at *
  generalize tNum T 2 b 0 - x = bx at *
  generalize tNum T 2 b 1 - y = b' at *
  have m1 := mul_bd (a := ax) (b := b') (A := 31) (B := 31) (by omega) (by omega) (by omega) (by omega)
  have m2 := mul_bd (a := ay) (b := bx) (A := 31) (B := 31) (by omega) (by omega) (by omega) (by omega)
  have m3 := mul_bd (a := ax) (b := ax) (A := 31) (B := 31) (by omega) (by omega) (by omega) (by omega)
  have m4 := mul_bd (a := ay) (b := ay) (A := 31) (B := 31) (by omega) (by omega) (by omega) (by omega)
  have m5 := mul_bd (a := bx) (b := bx) (A := 31) (B := 31) (by omega) (by omega) (by omega) (by omega)
  have m6 := mul_bd (a := b') (b := b') (A := 31) (B := 31) (by omega) (by omega) (by omega) (by omega)
  have m7 := mul_bd (a := ax) (b := bx) (A := 31) (B := 31) (by omega) (by omega) (by omega) (by omega)
  have m8 := mul_bd (a := ay) (b := b') (A := 31) (B := 31) (by omega) (by omega) (by omega) (by omega)
  rintro z23 rfl z24 rfl
  have o1 := sq_0 (a := ax) (b := ay)
  have o2 := sq_0 (a := bx) (b := b')
  refine d_eq (ax * ax + ay * ay) 0 rfl rfl (by omega) (by omega) (fun q => ?_) (fun n1 => ?_)
  · obtain ⟨q1, q2⟩ := o1.1 q
    rw [decide_eq_true q1, decide_eq_true q2] at h
    simp at h
    exact h
  · refine d_ne (bx * bx + b' * b') 0 rfl rfl (by omega) (by omega) (fun n2 => ?_) (fun q => ?_)
    · have ho : ((decide (ax = 0) && decide (ay = 0)) || (decide (bx = 0) && decide (b' = 0))) = false := by
        have w1 : ¬ (ax = 0 ∧ ay = 0) := fun q => n1 (o1.2 q)
        have w2 : ¬ (bx = 0 ∧ b' = 0) := fun q => n2 (o2.2 q)
        simp; omega
      rw [ho] at h
      simp only [Bool.not_false, Bool.true_and] at h
      rintro z25 rfl
      refine s_X5_tells hs (w := 0) hj (by omega) ?_
      simp only [iI_mul, iI_sub, iI_add]
      unfold soV at h
      refine d_ne (P.2 j 0) 9 rfl rfl (by omega) (by omega) (fun h9 => ?_) (fun h9 => ?_)
      · rw [if_neg h9] at h
        refine d_ne (ax * b' - ay * bx) 0 rfl rfl (by omega) (by omega) (fun q => by rw [decide_eq_false q, Bool.false_and, Bool.false_and] at h; exact h) (fun q => ?_)
        refine d_le (ax * bx + ay * b') 0 rfl rfl (by omega) (by omega) (fun q2 => by rw [decide_eq_false (show ¬ 0 < ax * bx + ay * b' by omega), Bool.and_false, Bool.false_and] at h; exact h) (fun q2 => ?_)
        refine d_le (bx * bx + b' * b') (ax * ax + ay * ay) rfl rfl (by omega) (by omega) (fun q3 => by rw [decide_eq_false (show ¬ ax * ax + ay * ay < bx * bx + b' * b' by omega), Bool.and_false] at h; exact h) (fun q3 => ?_)
        rw [decide_eq_true q, decide_eq_true (show 0 < ax * bx + ay * b' by omega), decide_eq_true (show ax * ax + ay * ay < bx * bx + b' * b' by omega)] at h
        exact h
      · rw [if_pos h9] at h
        refine c_b (fun o => ?_) (fun o => ?_)
        · rw [o] at h
          simp only [Bool.false_eq_true, if_false] at h
          refine d_le 0 (ax * b' - ay * bx) rfl rfl (by omega) (by omega) (fun q => ?_) (fun q => ?_)
          · rw [decide_eq_false (by omega)] at h; exact h
          · rw [decide_eq_true (by omega)] at h; exact h
        · rw [o] at h
          simp only [if_true] at h
          refine d_le (ax * b' - ay * bx) 0 rfl rfl (by omega) (by omega) (fun q => ?_) (fun q => ?_)
          · rw [decide_eq_false (by omega)] at h; exact h
          · rw [decide_eq_true (by omega)] at h; exact h
    · obtain ⟨q1, q2⟩ := o2.1 q
      rw [decide_eq_true q1, decide_eq_true q2] at h
      simp at h
      exact h
theorem s_X1_seesAll (m : CE T gi gl) (hs : CS T P gi p) {c : Nat} (hc : c < 1024) {over : Bool} (h : Qi (b2i (stB T P over c)) gi gl) : p_X1_seesAll p (b2i over) (nI (c % 32)) (nI (c / 32)) gi gl Qi := by
  refine v_X1_seesAll hs.2.2.2.1 hs.2.2.2.2.1 ?_
  unfold f_X1_seesAll
  unfold stB at h
  generalize hf : (fun k => decide (P.2 k 0 < 8) || (!ownB T (P.2 k) (c % 32 : Nat) (c / 32 : Nat) && soB T (P.2 k) over (c % 32 : Nat) (c / 32 : Nat))) = f at *
  have hfk : ∀ k, f k = (decide (P.2 k 0 < 8) || seeB T (P.2 k) over (c % 32 : Nat) (c / 32 : Nat)) := fun k => by rw [← hf]; rfl
  have hP := hs.2.1
  have lp : ∀ n j, j + n = P.1 → allK f j = true → p_X1_seesAll_3 p (b2i over) (nI (c % 32)) (nI (c / 32)) (nI j) gi gl Qi := by
    intro n
    induction n with
    | zero =>
      intro j hj hA
      refine v_X1_seesAll_3 hs.2.2.2.1 hs.2.2.2.2.1 ?_
      unfold f_X1_seesAll_3
      refine s_X5_size hs (ifT (by rw [nI_leI (by omega) (by omega)]; omega) ?_)
      rw [show P.1 = j by omega, hA] at h
      exact h
    | succ n ih =>
      intro j hj hA
      have r0 := vSign_r0 (hs.vs (show j < P.1 by omega))
      have ih := ih (j + 1) (by omega)
      rw [allK_s, hA, Bool.true_and, hfk] at ih
      have see : 8 ≤ P.2 j 0 → p_X1_sees p (nI j) (b2i over) (nI (c % 32)) (nI (c / 32)) gi gl (fun r9 gi7 gl8 => if ¬ r9 = 0 then p_X1_seesAll_3 p (b2i over) (nI (c % 32)) (nI (c / 32)) (nI j + 1) gi7 gl8 Qi else Qi 0 gi7 gl8) := fun h8 => by
        refine s_X1_sees m hs (by omega) h8 (by omega) (by omega) ?_
        refine c_nb (fun q => ?_) (fun q => ?_)
        · rw [nI_1]; exact ih (by rw [q]; simp)
        · have hF : allK f (j + 1) = false := by
            rw [allK_s, hA, Bool.true_and, hfk, q]; simp; omega
          rw [allK_f hF _ (by omega)] at h
          exact h
      refine v_X1_seesAll_3 hs.2.2.2.1 hs.2.2.2.2.1 ?_
      unfold f_X1_seesAll_3
      refine s_X5_size hs ?_
      refine c_le P.1 j rfl rfl (by omega) (by omega) (fun q => by omega) (fun _ => ?_)
      refine s_X5_tells hs (w := 0) (by omega) (by omega) ?_
      refine d_eq (P.2 j 0) 8 rfl rfl (by omega) (by omega) (fun q => see (by omega)) (fun q => ?_)
      refine d_ne (P.2 j 0) 9 rfl rfl (by omega) (by omega) (fun q2 => ?_) (fun q2 => see (by omega))
      rw [nI_1]
      exact ih (by rw [decide_eq_true (show P.2 j 0 < 8 by omega)]; rfl)
  exact lp P.1 0 (by omega) rfl
theorem c_stood (V : vSta σ) (m : CI σ c gi gl) {x y : Int32} {over : Bool} (k : KC σ (c + 1) gi gl (Qi (aStood (sTown σ) (sShown σ) x over y))) : p_X11_stood x (b2i over) y gi gl Qi := by
  have h := k.s V m Scr.rf
  unfold aStood at h
  refine v_X11_stood ?_
  unfold f_X11_stood
  refine c_get V m (fun hp => ?_) (fun i hi hp hxi => ?_)
  · rw [if_neg (by rw [hp]; simp)] at h; exact h
  · obtain ⟨hs, hm⟩ := m.P V hi
    have hE := m.E V
    rw [if_pos hp, hxi] at h
    have ey := iI_of y
    have ry := iI_rng y
    generalize y.toInt = z at *
    subst ey
    generalize (sShown σ).2.1 i = P at *
    generalize sTown σ = T at *
    refine d_le (-1) z rfl rfl (by omega) ry (fun h1 => ?_) (fun h1 => ?_)
    · have le := fun n => cntN_le (f := stB T P over) (n := n)
      have lp : ∀ n d, d + n = 1024 → (z = -1 ∨ (cntN (stB T P over) d : Int) ≤ z) → p_X11_stood_28 (36 + 7 * i) (b2i over) (iI z) (nI (cntN (stB T P over) d)) (nI d) gi gl Qi := by
        intro n
        induction n with
        | zero =>
          intro d hd hc
          have : d = 1024 := by omega
          subst this
          refine v_X11_stood_28 hs.2.2.2.1 hs.2.2.2.2.1 ?_
          unfold f_X11_stood_28
          refine ifT (by decide) ?_
          refine d_ne z (-1) rfl rfl (by omega) (by omega) (fun h2 => ?_) (fun h2 => ?_)
          · rw [if_neg h2, if_neg (by omega)] at h; exact h
          · rw [if_pos h2] at h; exact h
        | succ n ih =>
          intro d hd hc
          have hs2 := cntN_s (stB T P over) d
          have hle := le d
          refine v_X11_stood_28 hs.2.2.2.1 hs.2.2.2.2.1 ?_
          unfold f_X11_stood_28
          refine c_le 1024 d rfl rfl (by omega) (by omega) (fun q => by omega) (fun _ => ?_)
          rw [show jr (nI d) 32 = nI (d % 32) from jr_n (b := 32) (by omega) (by omega) (by omega), show nI d / 32 = nI (d / 32) from div_n (b := 32) (by omega) (by omega) (by omega), nI_1]
          refine s_X1_seesAll hE hs (by omega) ?_
          refine c_b (fun hb => ?_) (fun hb => ?_)
          · rw [if_neg (by rw [hb]; decide)] at hs2
            have := ih (d + 1) (by omega) (by omega)
            rw [hs2] at this
            exact this
          · rw [if_pos hb] at hs2
            refine d_ne (cntN (stB T P over) d) z (iI_n _).symm rfl (by omega) (by omega) (fun h2 => ?_) (fun h2 => ?_)
            · rw [nI_1, ← hs2]
              exact ih (d + 1) (by omega) (by omega)
            · have h3 := cntN_mono (f := stB T P over) (show d + 1 ≤ 1024 by omega)
              rw [if_neg (by omega), if_pos (by omega), selN_eq (d := d) (by omega) hb (by omega)] at h
              exact h
      exact lp 1024 0 (by omega) (by show _ ∨ ((0 : Nat) : Int) ≤ z; omega)
    · rw [if_neg (by omega), if_neg (by omega)] at h
      exact h
end CJ
