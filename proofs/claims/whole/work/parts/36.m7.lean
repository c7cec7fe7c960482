/-! LONGS; the greatest common divisor -/
abbrev iL (z : Int) : Int64 := Int64.ofInt z
theorem iL_toInt {z : Int} (h1 : -9223372036854775808 ≤ z) (h2 : z < 9223372036854775808) : (iL z).toInt = z := by
  rw [iL, Int64.toInt_ofInt, Int.bmod_eq_of_le (by simp [Int64.size]; omega) (by simp [Int64.size]; omega)]
theorem iL_add (a b : Int) : iL a + iL b = iL (a + b) := (Int64.ofInt_add a b).symm
theorem iL_sub (a b : Int) : iL a - iL b = iL (a - b) := (Int64.ofInt_sub a b).symm
theorem iL_mul (a b : Int) : iL a * iL b = iL (a * b) := (Int64.ofInt_mul a b).symm
theorem iL_neg (a : Int) : -iL a = iL (-a) := (Int64.ofInt_neg a).symm
theorem iL_lt {a b : Int} (ha : -9223372036854775808 ≤ a ∧ a < 9223372036854775808) (hb : -9223372036854775808 ≤ b ∧ b < 9223372036854775808) : iL a < iL b ↔ a < b := by
  rw [Int64.lt_iff_toInt_lt, iL_toInt ha.1 ha.2, iL_toInt hb.1 hb.2]
theorem iL_le {a b : Int} (ha : -9223372036854775808 ≤ a ∧ a < 9223372036854775808) (hb : -9223372036854775808 ≤ b ∧ b < 9223372036854775808) : iL a ≤ iL b ↔ a ≤ b := by
  rw [Int64.le_iff_toInt_le, iL_toInt ha.1 ha.2, iL_toInt hb.1 hb.2]
theorem iL_eq {a b : Int} (ha : -9223372036854775808 ≤ a ∧ a < 9223372036854775808) (hb : -9223372036854775808 ≤ b ∧ b < 9223372036854775808) : iL a = iL b ↔ a = b := by
  constructor
  · intro h
    have := congrArg Int64.toInt h
    rwa [iL_toInt ha.1 ha.2, iL_toInt hb.1 hb.2] at this
  · rintro rfl; rfl
theorem iL_of (x : Int64) : x = iL x.toInt := (Int64.ofInt_toInt x).symm
theorem iL_div {a b : Int} (ha : -9223372036854775808 ≤ a ∧ a < 9223372036854775808) (hb : 0 < b ∧ b < 9223372036854775808) : iL a / iL b = iL (a.tdiv b) := by
  rw [iL_of (iL a / iL b), Int64.toInt_div, iL_toInt ha.1 ha.2, iL_toInt (by omega) hb.2]
  have : (a.tdiv b).natAbs ≤ a.natAbs := by rw [Int.natAbs_tdiv]; exact Nat.div_le_self _ _
  by_cases h0 : 0 ≤ a
  · have := Int.tdiv_nonneg h0 (show 0 ≤ b by omega)
    rw [Int.bmod_eq_of_le (by omega) (by omega)]
  · have h1 := Int.tdiv_nonneg (show 0 ≤ -a by omega) (show 0 ≤ b by omega)
    rw [Int.neg_tdiv] at h1
    rw [Int.bmod_eq_of_le (by omega) (by omega)]
theorem iL_n (a b : Nat) (ha : a < 9223372036854775808) (h0 : 0 < b) (hb : b < 9223372036854775808) : jrl (iL a) (iL b) = iL (a % b : Nat) := by
  have e : ((a : Int)).tdiv b = ((a / b : Nat) : Int) := by rw [Int.tdiv_eq_ediv_of_nonneg (by omega)]; rfl
  show iL a - iL a / iL b * iL b = _
  rw [iL_div (by omega) (by omega), iL_mul, iL_sub, e]
  congr 1
  have := Nat.div_add_mod a b
  have h2 : ((a / b : Nat) : Int) * (b : Int) = ((b * (a / b) : Nat) : Int) := by rw [Nat.mul_comm]; simp
  rw [h2]; omega
theorem iI_toL {z : Int} (h1 : -2147483648 ≤ z) (h2 : z < 2147483648) : (iI z).toInt64 = iL z := by
  rw [iL_of (iI z).toInt64, Int32.toInt_toInt64, iI_toInt h1 h2]
theorem iL_toI {z : Int} (h1 : -2147483648 ≤ z) (h2 : z < 2147483648) : (iL z).toInt32 = iI z := by
  rw [iI_of (iL z).toInt32, Int64.toInt_toInt32, iL_toInt (by omega) (by omega), Int.bmod_eq_of_le (by omega) (by omega)]
theorem gcd_st {a b : Nat} : Nat.gcd a b = Nat.gcd b (a % b) := by rw [Nat.gcd_comm a b, Nat.gcd_rec b a, Nat.gcd_comm]
section D7
variable {gi : Gi} {gl : Gl} {Q : Int64 → Gi → Gl → Prop}
theorem g_X12 : ∀ n a b : Nat, b ≤ n → a < 9223372036854775808 → b < 9223372036854775808 → Q (iL (Nat.gcd a b : Nat)) gi gl → p_X12_divisor_28 (iL a) (iL b) gi gl Q := by
  intro n
  induction n with
  | zero =>
    intro a b hb ha hb2 h
    have : b = 0 := by omega
    subst this
    refine v_X12_divisor_28 ?_
    unfold f_X12_divisor_28
    rw [if_pos (by decide)]
    rwa [Nat.gcd_zero_right] at h
  | succ n ih =>
    intro a b hb ha hb2 h
    refine v_X12_divisor_28 ?_
    unfold f_X12_divisor_28
    rw [show (0 : Int64) = iL 0 by rfl]
    by_cases h0 : iL (b : Int) ≤ iL 0
    · rw [if_pos h0]
      rw [iL_le (by omega) (by omega)] at h0
      have : b = 0 := by omega
      subst this
      rwa [Nat.gcd_zero_right] at h
    · rw [if_neg h0]
      rw [iL_le (by omega) (by omega)] at h0
      have hm := Nat.mod_lt a (show 0 < b by omega)
      refine ⟨by rw [iL_eq (by omega) (by omega)]; omega, ?_⟩
      rintro z1 rfl
      rw [iL_n a b ha (by omega) hb2]
      exact ih b (a % b) (by omega) hb2 (by omega) (by rwa [← gcd_st])
theorem g_X11 : ∀ n a b k : Nat, b < 2 ^ n → a < 9223372036854775808 → b < 9223372036854775808 → k + 2 * n ≤ 128 → Q (iL (Nat.gcd a b : Nat)) gi gl → p_X11_divisorOf_15 (iL a) (iL b) (nI k) gi gl Q := by
  intro n
  induction n with
  | zero =>
    intro a b k hb ha hb2 hk h
    have : b = 0 := by omega
    subst this
    rw [Nat.gcd_zero_right] at h
    refine v_X11_divisorOf_15 ?_
    unfold f_X11_divisorOf_15
    by_cases h1 : (128 : Int32) ≤ nI k
    · rw [if_pos h1]; exact h
    · rw [if_neg h1, if_pos (by decide)]; exact h
  | succ n ih =>
    intro a b k hb ha hb2 hk h
    refine v_X11_divisorOf_15 ?_
    unfold f_X11_divisorOf_15
    rw [if_neg (by rw [show (128 : Int32) = nI 128 by rfl, nI_leI (by omega) (by omega)]; omega)]
    by_cases h0 : b = 0
    · subst h0
      rw [Nat.gcd_zero_right] at h
      rw [if_pos (by decide)]; exact h
    have h0' : ¬ iL (b : Int) = (0 : Int64) := by
      rw [show (0 : Int64) = iL 0 by rfl, iL_eq (by omega) (by omega)]; omega
    rw [if_neg h0']
    refine ⟨h0', ?_⟩
    rintro z1 rfl
    rw [iL_n a b ha (by omega) hb2, nI_1]
    have hm := Nat.mod_lt a (show 0 < b by omega)
    rw [gcd_st] at h
    generalize hr : a % b = r at *
    refine v_X11_divisorOf_15 ?_
    unfold f_X11_divisorOf_15
    rw [if_neg (by rw [show (128 : Int32) = nI 128 by rfl, nI_leI (by omega) (by omega)]; omega)]
    by_cases h2 : r = 0
    · subst h2
      rw [Nat.gcd_zero_right] at h
      rw [if_pos (by decide)]; exact h
    have h2' : ¬ iL (r : Int) = (0 : Int64) := by
      rw [show (0 : Int64) = iL 0 by rfl, iL_eq (by omega) (by omega)]; omega
    rw [if_neg h2']
    refine ⟨h2', ?_⟩
    rintro z2 rfl
    rw [iL_n b r hb2 (by omega) (by omega), nI_1]
    have hm2 := Nat.mod_lt b (show 0 < r by omega)
    have hd := Nat.div_add_mod b r
    have h1d : 1 ≤ b / r := Nat.div_pos (by omega) (by omega)
    have hmul : r * 1 ≤ r * (b / r) := Nat.mul_le_mul_left r h1d
    rw [gcd_st] at h
    exact ih r (b % r) (k + 1 + 1) (by rw [Nat.pow_succ] at hb; omega) (by omega) (by omega) (by omega) h
theorem s_X12_divisor {a b : Int} (ha : -9223372036854775807 ≤ a ∧ a ≤ 9223372036854775807) (hb : -9223372036854775807 ≤ b ∧ b ≤ 9223372036854775807) (h : Q (iL (Nat.gcd a.natAbs b.natAbs : Nat)) gi gl) : p_X12_divisor (iL a) (iL b) gi gl Q := by
  refine v_X12_divisor ?_
  unfold f_X12_divisor
  have en : ∀ z : Int, 0 ≤ z → iL z = iL (z.natAbs : Int) := fun z hz => by rw [Int.natAbs_of_nonneg hz]
  have em : ∀ z : Int, ¬ 0 ≤ z → iL (-z) = iL (z.natAbs : Int) := fun z hz => by rw [show -z = (z.natAbs : Int) by omega]
  have fin : p_X12_divisor_28 (iL (a.natAbs : Int)) (iL (b.natAbs : Int)) gi gl Q := g_X12 _ a.natAbs b.natAbs (Nat.le_refl _) (by omega) (by omega) h
  rw [show (0 : Int64) = iL 0 by rfl]
  by_cases h1 : iL 0 ≤ iL a
  · rw [if_pos h1]
    rw [iL_le (by omega) (by omega)] at h1
    rw [en a h1]
    by_cases h2 : iL 0 ≤ iL b
    · rw [if_pos h2]
      rw [iL_le (by omega) (by omega)] at h2
      rw [en b h2]; exact fin
    · rw [if_neg h2]
      rw [iL_le (by omega) (by omega)] at h2
      rintro z1 rfl
      rw [iL_neg, em b h2]; exact fin
  · rw [if_neg h1]
    rw [iL_le (by omega) (by omega)] at h1
    rintro z1 rfl
    rw [iL_neg, em a h1]
    by_cases h2 : iL 0 ≤ iL b
    · rw [if_pos h2]
      rw [iL_le (by omega) (by omega)] at h2
      rw [en b h2]; exact fin
    · rw [if_neg h2]
      rw [iL_le (by omega) (by omega)] at h2
      rintro z1 rfl
      rw [iL_neg, em b h2]; exact fin
theorem jabs_L {a : Int} (ha : -9223372036854775807 ≤ a ∧ a ≤ 9223372036854775807) : jabsl (iL a) = iL (a.natAbs : Int) := by
  unfold jabsl
  rw [show (0 : Int64) = iL 0 by rfl]
  by_cases h1 : iL 0 < iL a
  · rw [if_pos h1]
    rw [iL_lt (by omega) (by omega)] at h1
    rw [Int.natAbs_of_nonneg (by omega)]
  · rw [if_neg h1]
    rw [iL_lt (by omega) (by omega)] at h1
    rw [iL_neg, show -a = (a.natAbs : Int) by omega]
theorem s_X11_divisorOf {a b : Int} (ha : -9223372036854775807 ≤ a ∧ a ≤ 9223372036854775807) (hb : -9223372036854775807 ≤ b ∧ b ≤ 9223372036854775807) (h : Q (iL (Nat.gcd a.natAbs b.natAbs : Nat)) gi gl) : p_X11_divisorOf (iL a) (iL b) gi gl Q := by
  refine v_X11_divisorOf ?_
  unfold f_X11_divisorOf
  rintro z1 rfl z2 rfl
  rw [jabs_L ha, jabs_L hb]
  exact g_X11 63 _ _ 0 (by omega) (by omega) (by omega) (by omega) h
end D7
