/-! THE CLASS, four: what signs let, row by row -/
section CD
variable {T : Twn} {P : Pic} {p : Nat} {gi : Gi} {gl : Gl} {Q : Int32 → Gi → Gl → Prop}
theorem CS.vs (hs : CS T P gi p) {k : Nat} (hk : k < P.1) : vSign T (P.2 k) := hs.2.2.1 k hk
/-- the minutes of a row that a sign lets -/
def mRow (T : Twn) (s : Nat → Int) (mo r i : Nat) : Bool := sM T s mo ((r * 30 + i : Nat) : Int)
theorem s_X9_minutesLet (m : CE T gi gl) (hs : CS T P gi p) {k : Nat} (hk : k < P.1) (h4 : P.2 k 0 = 4) {mo r : Nat} (hm : mo < 12) (hr : r < 24) (h : ∀ gi', Cn gi gi' → Q (nI (bN (mRow T (P.2 k) mo r) 30)) gi' gl) : p_X9_minutesLet p (nI k) (nI mo) (nI r) gi gl Q := by
  obtain ⟨v1, v1b, v2, v2b, v3, v3b, v4, v4b⟩ : 0 ≤ P.2 k 1 ∧ P.2 k 1 < tCnt T 2 ∧ 0 ≤ P.2 k 2 ∧ P.2 k 2 ≤ 31 ∧ 0 ≤ P.2 k 3 ∧ P.2 k 3 ≤ 31 ∧ 0 ≤ P.2 k 4 ∧ P.2 k 4 ≤ 99 := by
    rcases hs.vs hk with ⟨q | q, -⟩ | ⟨q | q, -⟩ | ⟨q, z⟩ | ⟨q, -⟩ | ⟨q, -⟩ | ⟨q, -⟩ | ⟨q | q, -⟩ <;> first | omega | exact z
  obtain ⟨i, hi⟩ := nat_of v1
  have hl := rows_len (mo := mo) m.2
  have em : ∀ j, mRow T (P.2 k) mo r j = (if rowsOf T mo = [] then true else match lit T mo ((r * 30 + j : Nat) : Int) with | none => false | some q => near T (P.2 k) q) := fun j => by
    unfold mRow sM
    rw [if_neg (by omega), if_pos h4]
    by_cases z : rowsOf T mo = []
    · rw [if_pos z, if_pos z]
    · rw [if_neg z, if_neg z]; cases lit T mo ((r * 30 + j : Nat) : Int) <;> rfl
  refine v_X9_minutesLet hs.2.2.2.1 hs.2.2.2.2.1 ?_
  unfold f_X9_minutesLet
  refine s_X10_sunRowsIn m hm ?_
  refine c_ne (rowsOf T mo).length 0 rfl rfl (by omega) (by omega) (fun y => ?_) (fun y => ?_)
  · have hne : rowsOf T mo ≠ [] := fun z => y (by rw [z]; rfl)
    refine s_X5_tells hs (w := 2) hk (by omega) ?_
    refine s_X5_tells hs (w := 3) hk (by omega) ?_
    refine s_X5_tells hs (w := 4) hk (by omega) ?_
    refine s_X5_tells hs (w := 1) hk (by omega) ?_
    rw [hi, iI_n]
    refine s_X9_goesTo m (by omega) (fun g1 c1 p1 p2 p3 => ?_)
    refine ifT (by decide) ?_
    refine dn (P := fun j => ∀ g, Po g1 g → p_X9_minutesLet_60 p (nI mo) (nI r) (iI (P.2 k 2)) (iI (P.2 k 3)) (iI (P.2 k 4)) (nI (bN (mRow T (P.2 k) mo r) j)) (nI j) g gl Q) (N := 30) ?_ ?_ 0 (by omega) g1 Po.rf
    · intro g o
      refine v_X9_minutesLet_60 hs.2.2.2.1 hs.2.2.2.2.1 ?_
      unfold f_X9_minutesLet_60
      exact ifT (by decide) (h g (c1.tr o.1))
    · intro j hj ih g o
      refine v_X9_minutesLet_60 hs.2.2.2.1 hs.2.2.2.2.1 ?_
      unfold f_X9_minutesLet_60
      refine c_le 30 j rfl rfl (by omega) (by omega) (fun z => by omega) (fun _ => ?_)
      rw [show (30 : Int32) = nI 30 by rfl, mulN, nI_add, nI_1]
      have ej := em j
      rw [if_neg hne] at ej
      rw [bN_s] at ih
      refine s_X9_shines ((c1.tr o.1).E m) hm (by omega) (fun l0 => ?_) (fun q lq g' o' su => ?_)
      · rw [l0] at ej
        rw [ej] at ih
        exact ifT rfl (ih g o)
      · rw [lq] at ej
        have o2 := o.tr o'
        refine ifF (by decide) ?_
        refine s_X9_fallsTo m.2 hi (by omega) ⟨v2, v2b, v3, v3b, v4, v4b⟩ (lit_bd m.2 lq) ⟨(o2.2 1 (by omega)).trans p1, (o2.2 2 (by omega)).trans p2, (o2.2 3 (by omega)).trans p3⟩ su ?_
        have ej : mRow T (P.2 k) mo r j = near T (P.2 k) q := ej
        refine c_b (fun z => ?_) (fun z => ?_)
        · rw [ej, z] at ih
          exact ih g' o2
        · rintro z7 rfl
          rw [if_pos (by rw [ej]; exact z)] at ih
          rw [jl_1 (by omega), nx_or, or_pw bN_lt]
          exact ih g' o2
  · have he : rowsOf T mo = [] := List.length_eq_zero_iff.1 y
    have := h gi Cn.rf
    rw [show bN (mRow T (P.2 k) mo r) 30 = bN (fun _ => true) 30 from bN_congr (fun j _ => by rw [em j, if_pos he]), ← fullN] at this
    exact this
theorem s_X2_minutesLet (m : CE T gi gl) (hs : CS T P gi p) {k : Nat} (hk : k < P.1) {mo r : Nat} (hm : mo < 12) (hr : r < 24) (h : ∀ gi', Cn gi gi' → Q (nI (bN (mRow T (P.2 k) mo r) 30)) gi' gl) : p_X2_minutesLet p (nI k) (nI mo) (nI r) gi gl Q := by
  have r0 := vSign_r0 (hs.vs hk)
  refine v_X2_minutesLet hs.2.2.2.1 hs.2.2.2.2.1 ?_
  unfold f_X2_minutesLet
  refine s_X5_tells hs (w := 0) hk (by omega) ?_
  refine d_ne (P.2 k 0) 4 rfl rfl (by omega) (by omega) (fun y => ?_) (fun y => s_X9_minutesLet m hs hk y hm hr h)
  refine d_eq (P.2 k 0) 5 rfl rfl (by omega) (by omega) (fun z => ?_) (fun z => ?_)
  · obtain ⟨h0, h1, h2, h3⟩ : 0 ≤ P.2 k 1 ∧ P.2 k 1 < tCnt T 3 ∧ 0 ≤ P.2 k 2 ∧ P.2 k 2 ≤ 719 := by
      rcases hs.vs hk with ⟨q | q, -⟩ | ⟨q | q, -⟩ | ⟨q, -⟩ | ⟨q, a, b, c, d, -⟩ | ⟨q, -⟩ | ⟨q, -⟩ | ⟨q | q, -⟩ <;> first | omega | exact ⟨a, b, c, d⟩
    obtain ⟨i, hi⟩ := nat_of h0
    obtain ⟨u1, u2, u3, u4⟩ := m.2.2.2.2.2.2.2.1 i (by omega)
    refine s_X5_tells hs (w := 1) hk (by omega) ?_
    refine s_X5_tells hs (w := 2) hk (by omega) ?_
    rw [show (30 : Int32) = nI 30 by rfl, mulN, ← iI_n, iI_sub, hi, iI_n i]
    rintro z10 rfl
    refine s_X10_of m (k := 3) (i := i) (j := 1) (by omega) (by omega) (by decide) ?_
    refine s_X10_of m (k := 3) (i := i) (j := 0) (by omega) (by omega) (by decide) ?_
    rw [iI_sub, iI_add]
    refine s_X11_bitsOf (by omega) (by omega) ?_
    have := h gi Cn.rf
    rw [show bN (mRow T (P.2 k) mo r) 30 = bN (fun j => decide (P.2 k 2 - ((r * 30 : Nat) : Int) - tNum T 3 i 1 ≤ (j : Int)) && decide ((j : Int) ≤ P.2 k 2 - ((r * 30 : Nat) : Int) + tNum T 3 i 0)) 30 from bN_congr (fun j hj => by
      unfold mRow sM
      rw [if_pos z, hi, Int.toNat_natCast]
      congr 1 <;> exact decide_eq_decide.2 (by omega))] at this
    exact this
  · have := h gi Cn.rf
    rw [show bN (mRow T (P.2 k) mo r) 30 = bN (fun _ => true) 30 from bN_congr (fun j _ => by unfold mRow sM; rw [if_neg z, if_neg y]), ← fullN] at this
    exact this
/-- the days of a row that a sign lets -/
def dRow (T : Twn) (la : Int) (s : Nat → Int) (r i : Nat) : Bool := sD T la nosu s ((r * 30 + i : Nat) : Int)
theorem thing_c (m : CE T gi gl) {i : Nat} (hi : i < tCnt T 0) : 0 ≤ tNum T 0 i 0 ∧ tNum T 0 i 0 ≤ 3599 ∧ 0 ≤ tNum T 0 i 1 ∧ tNum T 0 i 1 ≤ 99 ∧ (tNum T 0 i 2 = -1 ∨ (tNum T 0 i 0 ≤ tNum T 0 i 2 ∧ tNum T 0 i 2 ≤ 3599)) ∧ 0 ≤ tNum T 0 i 3 ∧ tNum T 0 i 3 ≤ 99 := m.2.2.2.2.1 i hi
theorem s_X2_daysStood (m : CE T gi gl) {i r : Nat} {la : Int} (hi : i < tCnt T 0) (hr : r < 120) (hla : 0 ≤ la ∧ la ≤ 99) (h : Q (nI (bN (fun j => dSt T la nosu i ((r * 30 + j : Nat) : Int)) 30)) gi gl) : p_X2_daysStood (nI i) (nI r) (iI la) gi gl Q := by
  obtain ⟨r1, r2, r3, r4, r5, r6, r7⟩ := thing_c m hi
  have e30 : nI r * (30 : Int32) = iI ((r * 30 : Nat) : Int) := by rw [show (30 : Int32) = nI 30 by rfl, mulN, iI_n]
  have ev : ∀ j, dSt T la nosu i ((r * 30 + j : Nat) : Int) = (decide (tNum T 0 i 0 - tNum T 0 i 1 ≤ ((r * 30 + j : Nat) : Int)) && (decide (tNum T 0 i 2 < 0) || decide (((r * 30 + j : Nat) : Int) ≤ tNum T 0 i 2 + la + tNum T 0 i 3))) := fun j => by
    unfold dSt
    rw [Int.toNat_natCast, if_neg (by show ¬ (i : Int) = -1; omega)]
  refine v_X2_daysStood ?_
  unfold f_X2_daysStood
  refine s_X10_of m (k := 0) (i := i) (j := 2) (by omega) hi (by decide) ?_
  refine s_X10_of m (k := 0) (i := i) (j := 0) (by omega) hi (by decide) ?_
  refine s_X10_of m (k := 0) (i := i) (j := 1) (by omega) hi (by decide) ?_
  rw [iI_sub]
  rintro z10 rfl
  rw [e30, iI_sub]
  refine d_ne (tNum T 0 i 2) (-1) rfl rfl (by omega) (by omega) (fun y => ?_) (fun y => ?_)
  · refine s_X10_of m (k := 0) (i := i) (j := 3) (by omega) hi (by decide) ?_
    rw [iI_add, iI_add]
    rintro z14 rfl
    rw [iI_sub]
    refine s_X11_bitsOf (by omega) (by omega) ?_
    rw [show bN (fun j => dSt T la nosu i ((r * 30 + j : Nat) : Int)) 30 = bN (fun j => decide (tNum T 0 i 0 - tNum T 0 i 1 - ((r * 30 : Nat) : Int) ≤ (j : Int)) && decide ((j : Int) ≤ tNum T 0 i 2 + la + tNum T 0 i 3 - ((r * 30 : Nat) : Int))) 30 from bN_congr (fun j hj => by
      rw [ev, decide_eq_false (show ¬ tNum T 0 i 2 < 0 by omega), Bool.false_or]
      congr 1 <;> exact decide_eq_decide.2 (by omega))] at h
    exact h
  · rw [show (3599 : Int32) = iI 3599 by rfl, iI_sub]
    refine s_X11_bitsOf (by omega) (by omega) ?_
    rw [show bN (fun j => dSt T la nosu i ((r * 30 + j : Nat) : Int)) 30 = bN (fun j => decide (tNum T 0 i 0 - tNum T 0 i 1 - ((r * 30 : Nat) : Int) ≤ (j : Int)) && decide ((j : Int) ≤ 3599 - ((r * 30 : Nat) : Int))) 30 from bN_congr (fun j hj => by
      rw [ev, decide_eq_true (show tNum T 0 i 2 < 0 by omega), Bool.true_or]
      congr 1
      · exact decide_eq_decide.2 (by omega)
      · symm; rw [decide_eq_true_eq]; omega)] at h
    exact h
theorem s_X2_daysLacked (m : CE T gi gl) {i r : Nat} {la : Int} (hi : i < tCnt T 0) (hr : r < 120) (hla : 0 ≤ la ∧ la ≤ 99) (h : Q (nI (bN (fun j => dLa T la nosu i ((r * 30 + j : Nat) : Int)) 30)) gi gl) : p_X2_daysLacked (nI i) (nI r) (iI la) gi gl Q := by
  obtain ⟨r1, r2, r3, r4, r5, r6, r7⟩ := thing_c m hi
  have e30 : nI r * (30 : Int32) = iI ((r * 30 : Nat) : Int) := by rw [show (30 : Int32) = nI 30 by rfl, mulN, iI_n]
  have ev : ∀ j, dLa T la nosu i ((r * 30 + j : Nat) : Int) = (decide (((r * 30 + j : Nat) : Int) < tNum T 0 i 0 + tNum T 0 i 1) || (decide (0 ≤ tNum T 0 i 2) && decide (tNum T 0 i 2 + la - tNum T 0 i 3 < ((r * 30 + j : Nat) : Int)))) := fun j => by
    unfold dLa
    rw [Int.toNat_natCast, if_neg (by show ¬ (i : Int) = -1; omega)]
  have k62 : ∀ l : Int, -200 ≤ l → l ≤ 4000 → (∀ j, j < 30 → dLa T la nosu i ((r * 30 + j : Nat) : Int) = !(decide (tNum T 0 i 0 + tNum T 0 i 1 ≤ ((r * 30 + j : Nat) : Int)) && decide (((r * 30 + j : Nat) : Int) ≤ l))) → p_X2_daysLacked_62 (nI r) (iI (tNum T 0 i 0 + tNum T 0 i 1)) (iI l) gi gl Q := by
    intro l h1 h2 he
    refine v_X2_daysLacked_62 ?_
    unfold f_X2_daysLacked_62
    rw [e30, iI_sub, iI_sub]
    refine s_X11_bitsOf (by omega) (by omega) ?_
    rw [not30]
    rw [show bN (fun j => dLa T la nosu i ((r * 30 + j : Nat) : Int)) 30 = bN (fun j => !(decide (tNum T 0 i 0 + tNum T 0 i 1 - ((r * 30 : Nat) : Int) ≤ (j : Int)) && decide ((j : Int) ≤ l - ((r * 30 : Nat) : Int)))) 30 from bN_congr (fun j hj => by
      rw [he j hj]
      congr 2 <;> exact decide_eq_decide.2 (by omega))] at h
    exact h
  refine v_X2_daysLacked ?_
  unfold f_X2_daysLacked
  refine s_X10_of m (k := 0) (i := i) (j := 2) (by omega) hi (by decide) ?_
  refine s_X10_of m (k := 0) (i := i) (j := 0) (by omega) hi (by decide) ?_
  refine s_X10_of m (k := 0) (i := i) (j := 1) (by omega) hi (by decide) ?_
  rw [iI_add]
  rintro z10 rfl
  refine d_ne (tNum T 0 i 2) (-1) rfl rfl (by omega) (by omega) (fun y => ?_) (fun y => ?_)
  · refine s_X10_of m (k := 0) (i := i) (j := 3) (by omega) hi (by decide) ?_
    rw [iI_add, iI_sub]
    refine k62 _ (by omega) (by omega) (fun j hj => ?_)
    rw [ev, decide_eq_true (show 0 ≤ tNum T 0 i 2 by omega), Bool.true_and, Bool.not_and]
    congr 1
    · rw [← decide_not]; exact decide_eq_decide.2 (by omega)
    · rw [← decide_not]; exact decide_eq_decide.2 (by omega)
  · refine k62 3599 (by omega) (by omega) (fun j hj => ?_)
    rw [ev, decide_eq_false (show ¬ 0 ≤ tNum T 0 i 2 by omega), Bool.false_and, Bool.or_false, decide_eq_true (show ((r * 30 + j : Nat) : Int) ≤ 3599 by omega), Bool.and_true, ← decide_not]
    exact decide_eq_decide.2 (by omega)
theorem s_X2_daysInLeaf (m : CE T gi gl) {i r : Nat} (hi : i < tCnt T 1) (hr : r < 120) (h : Q (nI (bN (fun j => dLf T i ((r * 30 + j : Nat) : Int)) 30)) gi gl) : p_X2_daysInLeaf (nI i) (nI r) gi gl Q := by
  obtain ⟨r1, r2, r3, r4, r5⟩ := m.2.2.2.2.2.1 i hi
  have es : jr (nI r) 12 * (30 : Int32) = iI ((r % 12 * 30 : Nat) : Int) := by rw [show jr (nI r) 12 = nI (r % 12) from jr_n (b := 12) (by omega) (by omega) (by omega), show (30 : Int32) = nI 30 by rfl, mulN, iI_n]
  have ed : ∀ j, j < 30 → (((r * 30 + j : Nat) : Int) % 360) = ((r % 12 * 30 + j : Nat) : Int) := fun j hj => by omega
  refine v_X2_daysInLeaf ?_
  unfold f_X2_daysInLeaf
  rw [es]
  rintro z1 rfl
  refine s_X10_of m (k := 1) (i := i) (j := 0) (by omega) hi (by decide) ?_
  rw [iI_sub]
  rintro z5 rfl
  refine s_X10_of m (k := 1) (i := i) (j := 1) (by omega) hi (by decide) ?_
  rw [iI_sub]
  rintro z9 rfl
  refine d_le _ _ rfl rfl (by omega) (by omega) (fun y => ?_) (fun y => ?_)
  · rw [show iI (tNum T 1 i 0 - ((r % 12 * 30 : Nat) : Int)) - 1 = iI (tNum T 1 i 0 - ((r % 12 * 30 : Nat) : Int) - 1) by rw [← iI_1, iI_sub]]
    refine s_X11_bitsOf (by omega) (by omega) ?_
    rw [not30]
    rw [show bN (fun j => dLf T i ((r * 30 + j : Nat) : Int)) 30 = bN (fun j => !(decide (tNum T 1 i 1 - ((r % 12 * 30 : Nat) : Int) ≤ (j : Int)) && decide ((j : Int) ≤ tNum T 1 i 0 - ((r % 12 * 30 : Nat) : Int) - 1))) 30 from bN_congr (fun j hj => by
      unfold dLf
      rw [Int.toNat_natCast, if_neg (by omega), ed j hj, Bool.not_and, Bool.or_comm]
      congr 1
      · rw [← decide_not]; exact decide_eq_decide.2 (by omega)
      · rw [← decide_not]; exact decide_eq_decide.2 (by omega))] at h
    exact h
  · rw [← iI_1, iI_sub]
    refine s_X11_bitsOf (by omega) (by omega) ?_
    rw [show bN (fun j => dLf T i ((r * 30 + j : Nat) : Int)) 30 = bN (fun j => decide (tNum T 1 i 0 - ((r % 12 * 30 : Nat) : Int) ≤ (j : Int)) && decide ((j : Int) ≤ tNum T 1 i 1 - ((r % 12 * 30 : Nat) : Int) - 1)) 30 from bN_congr (fun j hj => by
      unfold dLf
      rw [Int.toNat_natCast, if_pos (by omega), ed j hj]
      congr 1 <;> exact decide_eq_decide.2 (by omega))] at h
    exact h
theorem s_X2_daysOfWeek {w r : Nat} (hw : w < 7) (hr : r < 120) (h : Q (nI (bN (fun j => decide ((r * 30 + j) % 7 = w)) 30)) gi gl) : p_X2_daysOfWeek (nI w) (nI r) gi gl Q := by
  refine v_X2_daysOfWeek ?_
  unfold f_X2_daysOfWeek
  refine dn (P := fun j => p_X2_daysOfWeek_4 (nI w) (nI r) (nI (bN (fun j => decide ((r * 30 + j) % 7 = w)) j)) (nI j) gi gl Q) (N := 30) ?_ ?_ 0 (by omega)
  · refine v_X2_daysOfWeek_4 ?_
    unfold f_X2_daysOfWeek_4
    exact ifT (by decide) h
  · intro j hj ih
    rw [bN_s] at ih
    refine v_X2_daysOfWeek_4 ?_
    unfold f_X2_daysOfWeek_4
    refine c_le 30 j rfl rfl (by omega) (by omega) (fun z => by omega) (fun _ => ?_)
    rw [show (30 : Int32) = nI 30 by rfl, mulN, nI_add, show jr (nI (r * 30 + j)) 7 = nI ((r * 30 + j) % 7) from jr_n (b := 7) (by omega) (by omega) (by omega), nI_1]
    refine c_ne ((r * 30 + j) % 7) w rfl rfl (by omega) (by omega) (fun y => ?_) (fun y => ?_)
    · rw [if_neg (by simp [y])] at ih; exact ih
    · rw [if_pos (by simp [y])] at ih
      rintro z1 rfl
      rw [jl_1 (by omega), nx_or, or_pw bN_lt]
      exact ih
theorem s_X2_daysLet (m : CE T gi gl) (hs : CS T P gi p) {k : Nat} (hk : k < P.1) {r : Nat} (hr : r < 120) {la : Int} (hla : 0 ≤ la ∧ la ≤ 99) (h : Q (nI (bN (dRow T la (P.2 k) r) 30)) gi gl) : p_X2_daysLet p (nI k) (nI r) (iI la) gi gl Q := by
  have vs := hs.vs hk
  have r0 := vSign_r0 vs
  have c0 := cnt4 m.2 (k := 0) (by omega)
  have c1 := cnt4 m.2 (k := 1) (by omega)
  refine v_X2_daysLet hs.2.2.2.1 hs.2.2.2.2.1 ?_
  unfold f_X2_daysLet
  refine s_X5_tells hs (w := 1) hk (by omega) ?_
  refine s_X5_tells hs (w := 0) hk (by omega) ?_
  have full : (∀ j, j < 30 → dRow T la (P.2 k) r j = true) → Q 1073741823 gi gl := fun e => by
    rw [show bN (dRow T la (P.2 k) r) 30 = bN (fun _ => true) 30 from bN_congr e, ← fullN] at h
    exact h
  rcases vs with ⟨q | q, h0, h1, -⟩ | ⟨q | q, h0, h1, -⟩ | ⟨q, h0, h1, -⟩ | ⟨q, h0, h1, -⟩ | ⟨q, h0, h1, -⟩ | ⟨q, h0, h1, -⟩ | ⟨q | q, h0, h1, -⟩ <;> rw [q]
  · refine ifT (by decide) ?_
    obtain ⟨i, hi⟩ := nat_of h0
    rw [hi, iI_n]
    refine s_X2_daysStood m (by omega) hr hla ?_
    rw [show bN (dRow T la (P.2 k) r) 30 = bN (fun j => dSt T la nosu i ((r * 30 + j : Nat) : Int)) 30 from bN_congr (fun j _ => by unfold dRow sD; rw [if_pos q, hi])] at h
    exact h
  · refine ifF (by decide) (ifT (by decide) ?_)
    obtain ⟨i, hi⟩ := nat_of h0
    rw [hi, iI_n]
    refine s_X2_daysLacked m (by omega) hr hla ?_
    rw [show bN (dRow T la (P.2 k) r) 30 = bN (fun j => dLa T la nosu i ((r * 30 + j : Nat) : Int)) 30 from bN_congr (fun j _ => by unfold dRow sD; rw [if_neg (by omega), if_pos q, hi])] at h
    exact h
  · refine ifF (by decide) (ifF (by decide) (ifT (by decide) ?_))
    obtain ⟨i, hi⟩ := nat_of h0
    rw [hi, iI_n]
    refine s_X2_daysInLeaf m (by omega) hr ?_
    rw [show bN (dRow T la (P.2 k) r) 30 = bN (fun j => dLf T i ((r * 30 + j : Nat) : Int)) 30 from bN_congr (fun j _ => by unfold dRow sD; rw [if_neg (by omega), if_neg (by omega), if_pos q, hi])] at h
    exact h
  · refine ifF (by decide) (ifF (by decide) (ifF (by decide) (ifT (by decide) ?_)))
    obtain ⟨i, hi⟩ := nat_of h0
    rw [hi, iI_n]
    refine s_X2_daysInLeaf m (by omega) hr ?_
    rw [not30]
    rw [show bN (dRow T la (P.2 k) r) 30 = bN (fun j => !dLf T i ((r * 30 + j : Nat) : Int)) 30 from bN_congr (fun j _ => by unfold dRow sD; rw [if_neg (by omega), if_neg (by omega), if_neg (by omega), if_pos q, hi])] at h
    exact h
  · refine ifF (by decide) (ifF (by decide) (ifF (by decide) (ifF (by decide) (ifT (by decide) (full (fun j _ => ?_))))))
    unfold dRow sD
    rw [if_neg (by omega), if_neg (by omega), if_neg (by omega), if_neg (by omega), if_neg (by omega), if_neg (by omega)]
  · refine ifF (by decide) (ifF (by decide) (ifF (by decide) (ifF (by decide) (ifF (by decide) (ifT (by decide) (full (fun j _ => ?_)))))))
    unfold dRow sD
    rw [if_neg (by omega), if_neg (by omega), if_neg (by omega), if_neg (by omega), if_neg (by omega), if_neg (by omega)]
  · refine ifF (by decide) (ifF (by decide) (ifF (by decide) (ifF (by decide) (ifF (by decide) (ifF (by decide) (ifT (by decide) ?_))))))
    obtain ⟨i, hi⟩ := nat_of h0
    rw [hi, iI_n]
    refine s_X2_daysOfWeek (by omega) hr ?_
    rw [show bN (dRow T la (P.2 k) r) 30 = bN (fun j => decide ((r * 30 + j) % 7 = i)) 30 from bN_congr (fun j _ => by
      unfold dRow sD
      rw [if_neg (by omega), if_neg (by omega), if_neg (by omega), if_neg (by omega), if_pos q, hi]
      exact decide_eq_decide.2 (by omega))] at h
    exact h
  · refine ifF (by decide) (ifF (by decide) (ifF (by decide) (ifF (by decide) (ifF (by decide) (ifF (by decide) (ifF (by decide) (ifT (by decide) ?_)))))))
    obtain ⟨i, hi⟩ := nat_of h0
    rw [hi, iI_n, show nI r / 12 = nI (r / 12) from div_n (b := 12) (by omega) (by omega) (by omega)]
    have ev : ∀ j, j < 30 → dRow T la (P.2 k) r j = decide (r / 12 = i) := fun j hj => by
      unfold dRow sD
      rw [if_neg (by omega), if_neg (by omega), if_neg (by omega), if_neg (by omega), if_neg (by omega), if_pos q, hi]
      exact decide_eq_decide.2 (by omega)
    refine c_ne (r / 12) i rfl rfl (by omega) (by omega) (fun y => ?_) (fun y => ?_)
    · rw [show bN (dRow T la (P.2 k) r) 30 = 0 from bN_0.2 (fun j hj => by rw [ev j hj]; simp [y])] at h
      exact h
    · exact full (fun j hj => by rw [ev j hj]; simp [y])
  · refine ifF (by decide) (ifF (by decide) (ifF (by decide) (ifF (by decide) (ifF (by decide) (ifF (by decide) (ifF (by decide) (ifF (by decide) (full (fun j _ => ?_)))))))))
    unfold dRow sD
    rw [if_neg (by omega), if_neg (by omega), if_neg (by omega), if_neg (by omega), if_neg (by omega), if_neg (by omega)]
  · refine ifF (by decide) (ifF (by decide) (ifF (by decide) (ifF (by decide) (ifF (by decide) (ifF (by decide) (ifF (by decide) (ifF (by decide) (full (fun j _ => ?_)))))))))
    unfold dRow sD
    rw [if_neg (by omega), if_neg (by omega), if_neg (by omega), if_neg (by omega), if_neg (by omega), if_neg (by omega)]
theorem jab_b {f : Nat → Bool} {i : Nat} (hi : i < 30) : ja (nI (bN f 30)) (nI i) &&& 1 = b2i (f i) := by
  have := bN30 (f := f)
  rw [jab (by omega) (by omega), bN_bit]
  simp [hi]
theorem s_X2_allows (m : CE T gi gl) (hs : CS T P gi p) {k : Nat} (hk : k < P.1) {d t : Nat} (hd : d < 3600) (ht : t < 720) (h : ∀ gi', Cn gi gi' → Q (b2i (sL T P k d t)) gi' gl) : p_X2_allows p (nI k) (nI d) (nI t) gi gl Q := by
  refine v_X2_allows hs.2.2.2.1 hs.2.2.2.2.1 ?_
  unfold f_X2_allows
  have d30 : ∀ x : Nat, x < 10000 → nI x / 30 = nI (x / 30) := fun x hx => div_n (b := 30) (by omega) (by omega) (by omega)
  have m30 : ∀ x : Nat, x < 10000 → jr (nI x) 30 = nI (x % 30) := fun x hx => jr_n (b := 30) (by omega) (by omega) (by omega)
  rw [d30 d (by omega), d30 t (by omega), m30 d (by omega), m30 t (by omega), show jr (nI (d / 30)) 12 = nI (d / 30 % 12) from jr_n (b := 12) (by omega) (by omega) (by omega)]
  refine s_X2_daysLet m hs hk (r := d / 30) (by omega) (la := 0) (by omega) ?_
  refine s_X2_minutesLet m hs hk (mo := d / 30 % 12) (r := t / 30) (by omega) (by omega) (fun g' hc => ?_)
  have em : mth d = d / 30 % 12 := by unfold mth; omega
  have eD : dRow T 0 (P.2 k) (d / 30) (d % 30) = sD T 0 nosu (P.2 k) d := by unfold dRow; rw [show d / 30 * 30 + d % 30 = d by omega]
  have eM : mRow T (P.2 k) (d / 30 % 12) (t / 30) (t % 30) = sM T (P.2 k) (mth d) t := by unfold mRow; rw [show t / 30 * 30 + t % 30 = t by omega, em]
  have h := h g' hc
  unfold sL at h
  have b1 := bN30 (f := dRow T 0 (P.2 k) (d / 30))
  have b2 := bN30 (f := mRow T (P.2 k) (d / 30 % 12) (t / 30))
  have key : (ja (nI (bN (dRow T 0 (P.2 k) (d / 30)) 30)) (nI (d % 30)) &&& ja (nI (bN (mRow T (P.2 k) (d / 30 % 12) (t / 30)) 30)) (nI (t % 30))) &&& 1 = b2i (sD T 0 nosu (P.2 k) d && sM T (P.2 k) (mth d) t) := by
    rw [ja_n (by omega) (by omega), ja_n (by omega) (by omega), nx_and, and1_n]
    rw [← eD, ← eM]
    have : (bN (dRow T 0 (P.2 k) (d / 30)) 30 / 2 ^ (d % 30) &&& bN (mRow T (P.2 k) (d / 30 % 12) (t / 30)) 30 / 2 ^ (t % 30)) % 2 = if (dRow T 0 (P.2 k) (d / 30) (d % 30) && mRow T (P.2 k) (d / 30 % 12) (t / 30) (t % 30)) = true then 1 else 0 := by
      have z := bit_n (bN (dRow T 0 (P.2 k) (d / 30)) 30 / 2 ^ (d % 30) &&& bN (mRow T (P.2 k) (d / 30 % 12) (t / 30)) 30 / 2 ^ (t % 30)) 0
      rw [Nat.pow_zero, Nat.div_one] at z
      rw [z, Nat.testBit_and, Nat.testBit_div_two_pow, Nat.testBit_div_two_pow, bN_bit, bN_bit]
      simp [show d % 30 < 30 by omega, show t % 30 < 30 by omega]
    rw [this]
    cases (dRow T 0 (P.2 k) (d / 30) (d % 30) && mRow T (P.2 k) (d / 30 % 12) (t / 30) (t % 30)) <;> rfl
  rw [key]
  cases hb : (sD T 0 nosu (P.2 k) d && sM T (P.2 k) (mth d) t) with
  | false => rw [hb] at h; exact ifT (by decide) h
  | true => rw [hb] at h; exact ifF (by decide) h
end CD
