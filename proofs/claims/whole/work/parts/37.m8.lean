/-! THE REFERENCE, seven: shadow -/
theorem iI_div {a b : Int} (ha : -2147483648 ≤ a ∧ a < 2147483648) (hb : 0 < b ∧ b < 2147483648) : iI a / iI b = iI (a.tdiv b) := by
  rw [iI_of (iI a / iI b), Int32.toInt_div, iI_toInt ha.1 ha.2, iI_toInt (by omega) hb.2]
  have : (a.tdiv b).natAbs ≤ a.natAbs := by rw [Int.natAbs_tdiv]; exact Nat.div_le_self _ _
  by_cases h0 : 0 ≤ a
  · have := Int.tdiv_nonneg h0 (show 0 ≤ b by omega)
    rw [Int.bmod_eq_of_le (by omega) (by omega)]
  · have h1 := Int.tdiv_nonneg (show 0 ≤ -a by omega) (show 0 ≤ b by omega)
    rw [Int.neg_tdiv] at h1
    rw [Int.bmod_eq_of_le (by omega) (by omega)]
def shLow (q : Int × Int × Int) : Int := 10 * q.2.2
def shUp (T : Twn) (x : Nat) (w : Int) (q : Int × Int × Int) : Int := if 2 ≤ w then tNum T 2 x 1 * shLow q + tNum T 2 x 2 * q.2.1 else tNum T 2 x 0 * shLow q + tNum T 2 x 2 * q.1
def shQ (T : Twn) (x : Nat) (w : Int) (q : Int × Int × Int) : Int :=
  (if w.tmod 2 ≠ 0 then shLow q else shUp T x w q).tdiv (Nat.gcd (shUp T x w q).natAbs (shLow q).natAbs : Nat)
def aShadow (T : Twn) (x m t w : Int32) : Int32 :=
  if (decide (0 ≤ x.toInt) && decide (x.toInt < tCnt T 2)) = true ∧ (decide (0 ≤ m.toInt) && decide (m.toInt ≤ 11)) = true ∧ (decide (0 ≤ t.toInt) && decide (t.toInt ≤ 719)) = true ∧ (decide (0 ≤ w.toInt) && decide (w.toInt ≤ 3)) = true then
    match lit T m.toInt.toNat t.toInt.toNat with
    | none => -1000000
    | some q => iI (shQ T x.toInt.toNat w.toInt q)
  else -1000000
theorem sh_bd {T : Twn} (vt : vTown T) {x : Nat} (hx : x < tCnt T 2) {m : Nat} {t w : Int} {q : Int × Int × Int} (hl : lit T m t = some q) : 10 ≤ shLow q ∧ shLow q ≤ 7190 ∧ -5000000 ≤ shUp T x w q ∧ shUp T x w q ≤ 5000000 := by
  obtain ⟨q1, q2, q3, q4, q5, q6⟩ := lit_bd vt hl
  obtain ⟨r1, r2, r3, r4, r5, r6⟩ := vt.2.2.2.2.2.1 x hx
  have b1 := mul_bd (a := tNum T 2 x 1) (b := 10 * q.2.2) (A := 31) (B := 7190) (by omega) (by omega) (by omega) (by omega)
  have b2 := mul_bd (a := tNum T 2 x 2) (b := q.2.1) (A := 20) (B := 213543) (by omega) (by omega) (by omega) (by omega)
  have b3 := mul_bd (a := tNum T 2 x 0) (b := 10 * q.2.2) (A := 31) (B := 7190) (by omega) (by omega) (by omega) (by omega)
  have b4 := mul_bd (a := tNum T 2 x 2) (b := q.1) (A := 20) (B := 213543) (by omega) (by omega) (by omega) (by omega)
  refine ⟨by unfold shLow; omega, by unfold shLow; omega, ?_, ?_⟩
  · unfold shUp shLow; split <;> omega
  · unfold shUp shLow; split <;> omega
theorem jr2_w {w : Int32} (h : (decide (0 ≤ w.toInt) && decide (w.toInt ≤ 3)) = true) : (¬ jr w 2 = 0) ↔ w.toInt.tmod 2 ≠ 0 := by
  simp at h
  have := iI_of w
  generalize w.toInt = z at *
  subst this
  have : z = 0 ∨ z = 1 ∨ z = 2 ∨ z = 3 := by omega
  rcases this with rfl | rfl | rfl | rfl <;> decide
section D8
variable {gi : Gi} {gl : Gl} {Q : Int32 → Gi → Gl → Prop}
theorem s_X12_shadow_146 {T : Twn} (vt : vTown T) {x : Nat} (hx : x < tCnt T 2) {m : Nat} {t : Int} {w : Int32} {q : Int × Int × Int} (hl : lit T m t = some q) (hw : (decide (0 ≤ w.toInt) && decide (w.toInt ≤ 3)) = true) (h : Q (iI (shQ T x w.toInt q)) gi gl) : p_X12_shadow_146 w (iL (shLow q)) (iL (shUp T x w.toInt q)) gi gl Q := by
  obtain ⟨b1, b2, b3, b4⟩ := sh_bd (w := w.toInt) vt hx hl
  refine v_X12_shadow_146 ?_
  unfold f_X12_shadow_146
  refine s_X12_divisor (by omega) (by omega) ?_
  unfold shQ at h
  generalize shLow q = L at *
  generalize shUp T x w.toInt q = U at *
  have hg := Nat.gcd_le_right U.natAbs (show 0 < L.natAbs by omega)
  have hg0 := Nat.gcd_pos_of_pos_right U.natAbs (show 0 < L.natAbs by omega)
  generalize Nat.gcd U.natAbs L.natAbs = g at *
  have hne : ¬ iL (g : Int) = 0 := by rw [show (0 : Int64) = iL 0 by rfl, iL_eq (by omega) (by omega)]; omega
  have dv : ∀ u : Int, -5000000 ≤ u → u ≤ 5000000 → (iL u / iL (g : Int)).toInt32 = iI (u.tdiv g) := by
    intro u h1 h2
    rw [iL_div (by omega) (by omega)]
    have : (u.tdiv g).natAbs ≤ u.natAbs := by rw [Int.natAbs_tdiv]; exact Nat.div_le_self _ _
    rw [iL_toI (by omega) (by omega)]
  by_cases hj : ¬ jr w 2 = 0
  · rw [if_pos hj]
    rw [if_pos ((jr2_w hw).1 hj)] at h
    exact ⟨hne, by rw [dv _ (by omega) (by omega)]; exact h⟩
  · rw [if_neg hj]
    rw [if_neg (fun k => hj ((jr2_w hw).2 k))] at h
    exact ⟨hne, by rw [dv _ (by omega) (by omega)]; exact h⟩
theorem m_shadow {σ : Sta} {x m t w : Int32} (V : vSta σ) (mi : MI σ gi gl) (h : ∀ gi', Sn gi gi' → Q (aShadow (sTown σ) x m t w) gi' gl) : p_X12_shadow x m t w gi gl Q := by
  obtain ⟨p, hE⟩ := mi.E V
  have vt := hE.2.2.2.1
  have c2 : tCnt (sTown σ) 2 ≤ 10 := vt.1 2 (by omega)
  have hp := hE.1
  have mp := hE.2.1
  have mt := hE.2.2.1
  refine v_X12_shadow ?_
  unfold f_X12_shadow
  unfold aShadow at h
  rw [mp, nI_cl (by omega), show gi 332 p = nI (tCnt (sTown σ) 2) from mt.1 2 (by omega)]
  refine ⟨vp_nI (by omega) (by omega), s_X12_within ?_⟩
  rw [show nI (tCnt (sTown σ) 2) - 1 = iI ((tCnt (sTown σ) 2 : Int) - 1) by rw [← iI_n, ← iI_1, iI_sub], iI_toInt (by omega) (by omega), show ((0 : Int32).toInt) = 0 by rfl, show decide (x.toInt ≤ (tCnt (sTown σ) 2 : Int) - 1) = decide (x.toInt < (tCnt (sTown σ) 2 : Int)) from decide_eq_decide.2 (by omega)]
  cases hx : (decide (0 ≤ x.toInt) && decide (x.toInt < (tCnt (sTown σ) 2 : Int))) with
  | false => rw [b2i_f, if_pos rfl]; rw [if_neg (by rw [hx]; simp)] at h; exact h gi Sn.rf
  | true =>
    rw [b2i_t, if_neg (by decide)]
    refine s_X12_within ?_
    rw [show ((0 : Int32).toInt) = 0 by rfl, show ((11 : Int32).toInt) = 11 by rfl]
    cases hm : (decide (0 ≤ m.toInt) && decide (m.toInt ≤ 11)) with
    | false => rw [b2i_f, if_pos rfl]; rw [if_neg (by rw [hm]; simp)] at h; exact h gi Sn.rf
    | true =>
      rw [b2i_t, if_neg (by decide)]
      refine s_X12_within ?_
      rw [show ((0 : Int32).toInt) = 0 by rfl, show ((719 : Int32).toInt) = 719 by rfl]
      cases ht : (decide (0 ≤ t.toInt) && decide (t.toInt ≤ 719)) with
      | false => rw [b2i_f, if_pos rfl]; rw [if_neg (by rw [ht]; simp)] at h; exact h gi Sn.rf
      | true =>
        rw [b2i_t, if_neg (by decide)]
        refine s_X12_within ?_
        rw [show ((0 : Int32).toInt) = 0 by rfl, show ((3 : Int32).toInt) = 3 by rfl]
        cases hw : (decide (0 ≤ w.toInt) && decide (w.toInt ≤ 3)) with
        | false => rw [b2i_f, if_pos rfl]; rw [if_neg (by rw [hw]; simp)] at h; exact h gi Sn.rf
        | true =>
          rw [b2i_t, if_neg (by decide)]
          rw [if_pos ⟨hx, hm, ht, hw⟩] at h
          have hx2 := hx
          have hm2 := hm
          have ht2 := ht
          have hw2 := hw
          simp at hx2 hm2 ht2 hw2
          have ex := int_of hx2.1 rfl
          have em := int_of hm2.1 rfl
          have et := int_of ht2.1 rfl
          generalize hxx : x.toInt.toNat = a at *
          generalize hmm : m.toInt.toNat = b at *
          generalize htt : t.toInt.toNat = c at *
          have ha : a < tCnt (sTown σ) 2 := by omega
          rw [em, et]
          refine s_X12_isLit hE (by omega) (by omega) (fun hl => ?_) (fun q hl => ?_)
          · rw [if_neg (by decide)]
            rw [hl] at h
            exact h gi Sn.rf
          · rw [if_pos (by decide)]
            rw [hl] at h
            rintro z1 rfl z2 rfl
            have t0 : gi 346 (10 * p + a) = iI (tNum (sTown σ) 2 a 0) := mt.2.2.2.2.1 0 (by omega) a ha
            have t1 : gi 347 (10 * p + a) = iI (tNum (sTown σ) 2 a 1) := mt.2.2.2.2.1 1 (by omega) a ha
            have t2 : gi 348 (10 * p + a) = iI (tNum (sTown σ) 2 a 2) := mt.2.2.2.2.1 2 (by omega) a ha
            obtain ⟨q1, q2, q3, q4, q5, q6⟩ := lit_bd vt hl
            obtain ⟨r1, r2, r3, r4, r5, r6⟩ := vt.2.2.2.2.2.1 a ha
            rw [sunG_k (k := 0) (by omega), mp, show (10 : Int32) * nI p = nI (10 * p) from pk_mul 10 _, ex, nI_add, nI_cl (by omega), sunG_o (z := 346) (by omega), sunG_o (z := 347) (by omega), sunG_o (z := 348) (by omega), t0, t1, t2, sunG_48.1, sunG_48.2.1, sunG_48.2.2, iI_toL (by omega) (by omega), iI_toL (by omega) (by omega), iI_toL (by omega) (by omega), iI_toL (by omega) (by omega), iI_toL (by omega) (by omega), iI_toL (by omega) (by omega), show (10 : Int64) = iL 10 by rfl]
            simp only [iL_mul, iL_add]
            have fin := s_X12_shadow_146 (gi := sunG gi q) (gl := gl) (Q := Q) vt ha hl hw (h _ Sn.sun)
            have hv : vp_in (nI (10 * p + a)) 20 := vp_nI (by omega) (by omega)
            by_cases hw3 : (2 : Int32) ≤ w
            · rw [if_pos hw3]
              rw [le_toInt, show ((2 : Int32).toInt) = 2 by rfl] at hw3
              unfold shUp shLow at fin
              rw [if_pos hw3] at fin
              exact ⟨hv, hv, fin⟩
            · rw [if_neg hw3]
              rw [le_toInt, show ((2 : Int32).toInt) = 2 by rfl] at hw3
              unfold shUp shLow at fin
              rw [if_neg hw3] at fin
              exact ⟨hv, hv, fin⟩
end D8
