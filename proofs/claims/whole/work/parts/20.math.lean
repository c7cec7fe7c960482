/-! THE MATHEMATICS: numbers, bits, sums; what a town, a picture, an album are -/
def iI (z : Int) : Int32 := Int32.ofInt z
theorem iI_n (n : Nat) : iI (n : Int) = nI n := by
  unfold iI nI
  exact Int32.ofInt_eq_ofNat
theorem iI_toInt {z : Int} (h1 : -2147483648 ≤ z) (h2 : z < 2147483648) : (iI z).toInt = z := by
  unfold iI
  rw [Int32.toInt_ofInt]
  have e : Int32.size = 4294967296 := rfl
  exact Int.bmod_eq_of_le (by rw [e]; omega) (by rw [e]; omega)
theorem iI_add (a b : Int) : iI a + iI b = iI (a + b) := (Int32.ofInt_add a b).symm
theorem iI_sub (a b : Int) : iI a - iI b = iI (a - b) := (Int32.ofInt_sub a b).symm
theorem iI_mul (a b : Int) : iI a * iI b = iI (a * b) := (Int32.ofInt_mul a b).symm
theorem iI_neg (a : Int) : -iI a = iI (-a) := (Int32.ofInt_neg a).symm
theorem iI_0 : iI 0 = 0 := by decide
theorem iI_1 : iI 1 = 1 := by decide
theorem iI_lit (n : Nat) : iI (OfNat.ofNat n) = nI n := iI_n n
theorem iI_lt {a b : Int} (ha : -2147483648 ≤ a ∧ a < 2147483648) (hb : -2147483648 ≤ b ∧ b < 2147483648) : iI a < iI b ↔ a < b := by
  rw [Int32.lt_iff_toInt_lt, iI_toInt ha.1 ha.2, iI_toInt hb.1 hb.2]
theorem iI_le {a b : Int} (ha : -2147483648 ≤ a ∧ a < 2147483648) (hb : -2147483648 ≤ b ∧ b < 2147483648) : iI a ≤ iI b ↔ a ≤ b := by
  rw [Int32.le_iff_toInt_le, iI_toInt ha.1 ha.2, iI_toInt hb.1 hb.2]
theorem iI_eq {a b : Int} (ha : -2147483648 ≤ a ∧ a < 2147483648) (hb : -2147483648 ≤ b ∧ b < 2147483648) : iI a = iI b ↔ a = b := by
  rw [← Int32.toInt_inj, iI_toInt ha.1 ha.2, iI_toInt hb.1 hb.2]
theorem iI_of (x : Int32) : x = iI x.toInt := (Int32.ofInt_toInt x).symm
theorem iI_rng (x : Int32) : -2147483648 ≤ x.toInt ∧ x.toInt < 2147483648 := ⟨Int32.le_toInt x, Int32.toInt_lt x⟩
theorem nI_rng {n : Nat} (h : n < 2147483648) : -2147483648 ≤ (n : Int) ∧ (n : Int) < 2147483648 := by omega
/-- an int is one of the numbers below n, or it is outside -/
theorem ix_cases (x : Int32) (n : Nat) (hn : n < 2147483648) : (∃ j : Nat, j < n ∧ x = nI j) ∨ x.toInt < 0 ∨ (n : Int) ≤ x.toInt := by
  rcases Int.lt_or_le x.toInt 0 with h | h
  · exact Or.inr (Or.inl h)
  · rcases Int.lt_or_le x.toInt n with h2 | h2
    · refine Or.inl ⟨x.toInt.toNat, by omega, ?_⟩
      rw [← iI_n, Int.toNat_of_nonneg h]
      exact iI_of x
    · exact Or.inr (Or.inr h2)
theorem lt_toInt {x y : Int32} : x < y ↔ x.toInt < y.toInt := Int32.lt_iff_toInt_lt
theorem le_toInt {x y : Int32} : x ≤ y ↔ x.toInt ≤ y.toInt := Int32.le_iff_toInt_le
theorem nI_tI {n : Nat} (h : n < 2147483648) : (nI n).toInt = n := nI_toInt h
theorem nI_cl {n : Nat} (h : n < 2147483648) : (nI n).toNatClampNeg = n := nI_clamp h
theorem vp_nI {n N : Nat} (h : n < N) (hN : N < 2147483648) : vp_in (nI n) N := vp_in_nI h hN
theorem nI_addL (a b : Nat) : nI a + nI b = nI (a + b) := nI_add a b
theorem nI_mulL (a b : Nat) : nI a * nI b = nI (a * b) := pk_mul a b
theorem jr_n {a b : Nat} (ha : a < 2147483648) (h0 : 0 < b) (hb : b < 2147483648) : jr (nI a) (nI b) = nI (a % b) := pk_rem ha h0 hb
theorem div_n {a b : Nat} (ha : a < 2147483648) (h0 : 0 < b) (hb : b < 2147483648) : nI a / nI b = nI (a / b) := pk_div ha h0 hb
/-- sums and counts below n -/
def sumN (f : Nat → Nat) : Nat → Nat
  | 0 => 0
  | n + 1 => sumN f n + f n
def cntN (f : Nat → Bool) (n : Nat) : Nat := sumN (fun i => if f i then 1 else 0) n
def bN (f : Nat → Bool) : Nat → Nat
  | 0 => 0
  | n + 1 => bN f n + (if f n then 2 ^ n else 0)
theorem sumN_congr {f g : Nat → Nat} : ∀ {n : Nat}, (∀ i, i < n → f i = g i) → sumN f n = sumN g n
  | 0, _ => rfl
  | n + 1, h => by
    show sumN f n + f n = sumN g n + g n
    rw [sumN_congr (fun i hi => h i (by omega)), h n (by omega)]
theorem sumN_le {f : Nat → Nat} {b : Nat} : ∀ {n : Nat}, (∀ i, i < n → f i ≤ b) → sumN f n ≤ n * b
  | 0, _ => by simp [sumN]
  | n + 1, h => by
    have h1 := sumN_le (f := f) (b := b) (n := n) (fun i hi => h i (by omega))
    have h2 := h n (by omega)
    show sumN f n + f n ≤ (n + 1) * b
    rw [Nat.add_mul]; omega
theorem sumN_add {f g : Nat → Nat} : ∀ {n : Nat}, sumN (fun i => f i + g i) n = sumN f n + sumN g n
  | 0 => rfl
  | n + 1 => by
    show sumN _ n + (f n + g n) = sumN f n + f n + (sumN g n + g n)
    rw [sumN_add]; omega
theorem sumN_mul {f : Nat → Nat} {c : Nat} : ∀ {n : Nat}, sumN (fun i => f i * c) n = sumN f n * c
  | 0 => by simp [sumN]
  | n + 1 => by
    show sumN _ n + f n * c = (sumN f n + f n) * c
    rw [sumN_mul, Nat.add_mul]
/-- a sum over a times b places, a by a -/
theorem sumN_blocks {f : Nat → Nat} {b : Nat} : ∀ {a : Nat}, sumN f (a * b) = sumN (fun r => sumN (fun i => f (r * b + i)) b) a
  | 0 => by simp [sumN]
  | a + 1 => by
    have key : ∀ k, sumN f (a * b + k) = sumN f (a * b) + sumN (fun i => f (a * b + i)) k := by
      intro k
      induction k with
      | zero => rfl
      | succ k ih =>
        show sumN f (a * b + k) + f (a * b + k) = _
        rw [ih]
        show _ = sumN f (a * b) + (sumN _ k + f (a * b + k))
        omega
    show sumN f ((a + 1) * b) = sumN _ a + sumN _ b
    rw [Nat.add_mul, Nat.one_mul, key b, sumN_blocks]
theorem cntN_le {f : Nat → Bool} {n : Nat} : cntN f n ≤ n := by
  have := sumN_le (f := fun i => if f i then 1 else 0) (b := 1) (n := n) (fun i _ => by split <;> omega)
  unfold cntN; omega
theorem cntN_congr {f g : Nat → Bool} {n : Nat} (h : ∀ i, i < n → f i = g i) : cntN f n = cntN g n := sumN_congr (fun i hi => by rw [h i hi])
theorem cntN_s (f : Nat → Bool) (n : Nat) : cntN f (n + 1) = cntN f n + (if f n then 1 else 0) := rfl
theorem bN_lt {f : Nat → Bool} : ∀ {n : Nat}, bN f n < 2 ^ n
  | 0 => by simp [bN]
  | n + 1 => by
    have := bN_lt (f := f) (n := n)
    show bN f n + (if f n then 2 ^ n else 0) < 2 ^ (n + 1)
    rw [Nat.pow_succ]
    split <;> omega
theorem bN_congr {f g : Nat → Bool} : ∀ {n : Nat}, (∀ i, i < n → f i = g i) → bN f n = bN g n
  | 0, _ => rfl
  | n + 1, h => by
    show bN f n + _ = bN g n + _
    rw [bN_congr (fun i hi => h i (by omega)), h n (by omega)]
theorem bN_bit {f : Nat → Bool} : ∀ {n i : Nat}, (bN f n).testBit i = (decide (i < n) && f i)
  | 0, i => by simp [bN]
  | n + 1, i => by
    show (bN f n + (if f n then 2 ^ n else 0)).testBit i = _
    have hl := bN_lt (f := f) (n := n)
    by_cases h : f n = true
    · rw [if_pos h]
      rw [show bN f n + 2 ^ n = 2 ^ n + bN f n by omega]
      rcases Nat.lt_trichotomy i n with q | q | q
      · rw [Nat.testBit_two_pow_add_gt q, bN_bit]
        simp [q, Nat.lt_succ_of_lt q]
      · subst q
        rw [Nat.testBit_two_pow_add_eq, bN_bit]
        simp [h]
      · rw [Nat.testBit_lt_two_pow]
        · simp; omega
        · have : 2 ^ (n + 1) ≤ 2 ^ i := Nat.pow_le_pow_right (by omega) (by omega)
          rw [Nat.pow_succ] at this; omega
    · rw [if_neg h, Nat.add_zero, bN_bit]
      by_cases q : i = n
      · subst q; simp [h]
      · by_cases q2 : i < n
        · simp [q2, Nat.lt_succ_of_lt q2]
        · have : ¬ i < n + 1 := by omega
          simp [q2, this]
theorem bN_ext {f : Nat → Bool} {n x : Nat} (h1 : x < 2 ^ n) (h : ∀ i, i < n → x.testBit i = f i) : x = bN f n := by
  apply Nat.eq_of_testBit_eq
  intro i
  rw [bN_bit]
  by_cases q : i < n
  · simp [q, h i q]
  · simp [q]
    exact Nat.testBit_lt_two_pow (Nat.lt_of_lt_of_le h1 (Nat.pow_le_pow_right (by omega) (by omega)))
theorem bN_and {f g : Nat → Bool} {n : Nat} : bN f n &&& bN g n = bN (fun i => f i && g i) n := by
  apply bN_ext
  · exact Nat.lt_of_le_of_lt Nat.and_le_left bN_lt
  · intro i hi
    rw [Nat.testBit_and, bN_bit, bN_bit]
    simp [hi]
theorem bN_or {f g : Nat → Bool} {n : Nat} : bN f n ||| bN g n = bN (fun i => f i || g i) n := by
  apply bN_ext
  · exact Nat.or_lt_two_pow bN_lt bN_lt
  · intro i hi
    rw [Nat.testBit_or, bN_bit, bN_bit]
    simp [hi]
theorem bN_0 {f : Nat → Bool} : ∀ {n : Nat}, bN f n = 0 ↔ ∀ i, i < n → f i = false
  | 0 => by simp [bN]
  | n + 1 => by
    show bN f n + (if f n then 2 ^ n else 0) = 0 ↔ _
    constructor
    · intro h i hi
      have h1 : bN f n = 0 := by omega
      have h2 : (if f n then 2 ^ n else 0) = 0 := by omega
      by_cases q : i = n
      · subst q
        by_cases z : f i = true
        · rw [if_pos z] at h2
          have : 0 < 2 ^ i := Nat.pos_of_ne_zero (by simp)
          omega
        · simpa using z
      · exact bN_0.mp h1 i (by omega)
    · intro h
      rw [bN_0.mpr (fun i hi => h i (by omega)), h n (by omega)]; rfl
theorem bN_full : ∀ n : Nat, bN (fun _ => true) n = 2 ^ n - 1
  | 0 => rfl
  | n + 1 => by
    show bN _ n + 2 ^ n = _
    rw [bN_full n, Nat.pow_succ]
    have : 0 < 2 ^ n := Nat.pos_of_ne_zero (by simp)
    omega
