/-! bits of an int: Integer.bitCount, masks, shifts -/
theorem nx_and (a b : Nat) : nI a &&& nI b = nI (a &&& b) := by
  apply Int32.toBitVec.inj
  show (nI a).toBitVec &&& (nI b).toBitVec = (nI (a &&& b)).toBitVec
  have e : ∀ n, (nI n).toBitVec = BitVec.ofNat 32 n := fun n => rfl
  rw [e, e, e, BitVec.ofNat_and]
theorem nx_or (a b : Nat) : nI a ||| nI b = nI (a ||| b) := by
  apply Int32.toBitVec.inj
  show (nI a).toBitVec ||| (nI b).toBitVec = (nI (a ||| b)).toBitVec
  have e : ∀ n, (nI n).toBitVec = BitVec.ofNat 32 n := fun n => rfl
  rw [e, e, e, BitVec.ofNat_or]
theorem msk {k m M n : Nat} (hk : k ≤ 8) (hm : m < 2 ^ (8 - k)) : (n / 2 ^ k) &&& (m + 256 * M) = ((n % 256) / 2 ^ k &&& m) + 256 * ((n / 256) / 2 ^ k &&& M) := by
  have hm8 : m < 2 ^ 8 := Nat.lt_of_lt_of_le hm (Nat.pow_le_pow_right (by omega) (by omega))
  apply Nat.eq_of_testBit_eq
  intro i
  rw [show m + 256 * M = 2 ^ 8 * M + m by omega, show ((n % 256) / 2 ^ k &&& m) + 256 * ((n / 256) / 2 ^ k &&& M) = 2 ^ 8 * ((n / 256) / 2 ^ k &&& M) + ((n % 256) / 2 ^ k &&& m) by omega]
  rw [Nat.testBit_and, Nat.testBit_two_pow_mul_add _ hm8, Nat.testBit_two_pow_mul_add _ (Nat.lt_of_le_of_lt Nat.and_le_right hm8)]
  by_cases hi : i < 8
  · rw [if_pos hi, if_pos hi, Nat.testBit_and, Nat.testBit_div_two_pow, Nat.testBit_div_two_pow, show (256 : Nat) = 2 ^ 8 by rfl, Nat.testBit_mod_two_pow]
    by_cases q : i + k < 8
    · simp [q]
    · have : m.testBit i = false := Nat.testBit_lt_two_pow (Nat.lt_of_lt_of_le hm (Nat.pow_le_pow_right (by omega) (by omega)))
      simp [this]
  · rw [if_neg hi, if_neg hi, Nat.testBit_and, Nat.testBit_div_two_pow, Nat.testBit_div_two_pow, show (256 : Nat) = 2 ^ 8 by rfl, Nat.testBit_div_two_pow]
    congr 2
    omega
def q1 (b : Nat) : Nat := b - ((b / 2) &&& 0x55)
def q2 (b : Nat) : Nat := (b &&& 0x33) + ((b / 4) &&& 0x33)
theorem q_tab : ∀ b, b < 256 → ((b / 2) &&& 0x55) ≤ b ∧ q1 b < 256 ∧ q2 (q1 b) < 256 ∧ q2 (q1 b) % 16 ≤ 4 ∧ q2 (q1 b) / 16 ≤ 4 ∧ q2 (q1 b) % 16 + q2 (q1 b) / 16 = cntN (fun i => b.testBit i) 8 := by decide +kernel
theorem m55 (n : Nat) (h : n < 2 ^ 32) : (n / 2) &&& 1431655765 = ((n % 256 / 2) &&& 85) + 256 * ((n / 256 % 256 / 2) &&& 85) + 65536 * ((n / 65536 % 256 / 2) &&& 85) + 16777216 * ((n / 16777216 / 2) &&& 85) := by
  have h1 : (n / 2) &&& 1431655765 = ((n % 256 / 2) &&& 85) + 256 * ((n / 256 / 2) &&& 5592405) := by
    have q := msk (k := 1) (m := 85) (M := 5592405) (n := n) (by omega) (by decide)
    simpa using q
  have h2 : (n / 256 / 2) &&& 5592405 = ((n / 256 % 256 / 2) &&& 85) + 256 * ((n / 256 / 256 / 2) &&& 21845) := by
    have q := msk (k := 1) (m := 85) (M := 21845) (n := n / 256) (by omega) (by decide)
    simpa using q
  have h3 : (n / 256 / 256 / 2) &&& 21845 = ((n / 256 / 256 % 256 / 2) &&& 85) + 256 * ((n / 256 / 256 / 256 / 2) &&& 85) := by
    have q := msk (k := 1) (m := 85) (M := 85) (n := n / 256 / 256) (by omega) (by decide)
    simpa using q
  rw [show n / 256 / 256 = n / 65536 by omega] at h2 h3
  rw [show n / 65536 / 256 = n / 16777216 by omega] at h3
  omega
theorem m33 (n : Nat) (h : n < 2 ^ 32) : (n) &&& 858993459 = ((n % 256) &&& 51) + 256 * ((n / 256 % 256) &&& 51) + 65536 * ((n / 65536 % 256) &&& 51) + 16777216 * ((n / 16777216) &&& 51) := by
  have h1 : (n) &&& 858993459 = ((n % 256) &&& 51) + 256 * ((n / 256) &&& 3355443) := by
    have q := msk (k := 0) (m := 51) (M := 3355443) (n := n) (by omega) (by decide)
    simpa using q
  have h2 : (n / 256) &&& 3355443 = ((n / 256 % 256) &&& 51) + 256 * ((n / 256 / 256) &&& 13107) := by
    have q := msk (k := 0) (m := 51) (M := 13107) (n := n / 256) (by omega) (by decide)
    simpa using q
  have h3 : (n / 256 / 256) &&& 13107 = ((n / 256 / 256 % 256) &&& 51) + 256 * ((n / 256 / 256 / 256) &&& 51) := by
    have q := msk (k := 0) (m := 51) (M := 51) (n := n / 256 / 256) (by omega) (by decide)
    simpa using q
  rw [show n / 256 / 256 = n / 65536 by omega] at h2 h3
  rw [show n / 65536 / 256 = n / 16777216 by omega] at h3
  omega
theorem m33s (n : Nat) (h : n < 2 ^ 32) : (n / 4) &&& 858993459 = ((n % 256 / 4) &&& 51) + 256 * ((n / 256 % 256 / 4) &&& 51) + 65536 * ((n / 65536 % 256 / 4) &&& 51) + 16777216 * ((n / 16777216 / 4) &&& 51) := by
  have h1 : (n / 4) &&& 858993459 = ((n % 256 / 4) &&& 51) + 256 * ((n / 256 / 4) &&& 3355443) := by
    have q := msk (k := 2) (m := 51) (M := 3355443) (n := n) (by omega) (by decide)
    simpa using q
  have h2 : (n / 256 / 4) &&& 3355443 = ((n / 256 % 256 / 4) &&& 51) + 256 * ((n / 256 / 256 / 4) &&& 13107) := by
    have q := msk (k := 2) (m := 51) (M := 13107) (n := n / 256) (by omega) (by decide)
    simpa using q
  have h3 : (n / 256 / 256 / 4) &&& 13107 = ((n / 256 / 256 % 256 / 4) &&& 51) + 256 * ((n / 256 / 256 / 256 / 4) &&& 51) := by
    have q := msk (k := 2) (m := 51) (M := 51) (n := n / 256 / 256) (by omega) (by decide)
    simpa using q
  rw [show n / 256 / 256 = n / 65536 by omega] at h2 h3
  rw [show n / 65536 / 256 = n / 16777216 by omega] at h3
  omega
theorem m0g (n : Nat) (h : n < 2 ^ 32) : (n) &&& 252645135 = ((n % 256) &&& 15) + 256 * ((n / 256 % 256) &&& 15) + 65536 * ((n / 65536 % 256) &&& 15) + 16777216 * ((n / 16777216) &&& 15) := by
  have h1 : (n) &&& 252645135 = ((n % 256) &&& 15) + 256 * ((n / 256) &&& 986895) := by
    have q := msk (k := 0) (m := 15) (M := 986895) (n := n) (by omega) (by decide)
    simpa using q
  have h2 : (n / 256) &&& 986895 = ((n / 256 % 256) &&& 15) + 256 * ((n / 256 / 256) &&& 3855) := by
    have q := msk (k := 0) (m := 15) (M := 3855) (n := n / 256) (by omega) (by decide)
    simpa using q
  have h3 : (n / 256 / 256) &&& 3855 = ((n / 256 / 256 % 256) &&& 15) + 256 * ((n / 256 / 256 / 256) &&& 15) := by
    have q := msk (k := 0) (m := 15) (M := 15) (n := n / 256 / 256) (by omega) (by decide)
    simpa using q
  rw [show n / 256 / 256 = n / 65536 by omega] at h2 h3
  rw [show n / 65536 / 256 = n / 16777216 by omega] at h3
  omega
theorem m0f (n : Nat) (h : n < 2 ^ 32) : n &&& 252645135 = n % 16 + 256 * (n / 256 % 16) + 65536 * (n / 65536 % 16) + 16777216 * (n / 16777216 % 16) := by
  have e : ∀ z : Nat, z &&& 15 = z % 16 := fun z => Nat.and_two_pow_sub_one_eq_mod z 4
  rw [m0g n h, e, e, e, e]
  omega
/-- how many bits an int has -/
def pcN (n : Nat) : Nat := cntN (fun i => n.testBit i) 32
theorem pc_bytes (n : Nat) : pcN n = cntN (fun i => (n % 256).testBit i) 8 + cntN (fun i => (n / 256 % 256).testBit i) 8 + cntN (fun i => (n / 65536 % 256).testBit i) 8 + cntN (fun i => (n / 16777216 % 256).testBit i) 8 := by
  have h := sumN_blocks (f := fun i => if n.testBit i then 1 else 0) (a := 4) (b := 8)
  have e : ∀ r, r < 4 → sumN (fun i => if n.testBit (r * 8 + i) then 1 else 0) 8 = cntN (fun i => (n / 2 ^ (8 * r) % 256).testBit i) 8 := by
    intro r _
    refine sumN_congr (fun i hi => ?_)
    have : (n / 2 ^ (8 * r) % 256).testBit i = n.testBit (r * 8 + i) := by
      rw [show (256 : Nat) = 2 ^ 8 by rfl, Nat.testBit_mod_two_pow, Nat.testBit_div_two_pow]
      simp [hi]
      congr 1
      omega
    show (if n.testBit (r * 8 + i) then 1 else 0) = (if (n / 2 ^ (8 * r) % 256).testBit i then 1 else 0)
    rw [this]
  unfold pcN
  show sumN _ (4 * 8) = _
  rw [h]
  have e0 := e 0 (by omega)
  have e1 := e 1 (by omega)
  have e2 := e 2 (by omega)
  have e3 := e 3 (by omega)
  simp only [Nat.mul_zero, Nat.pow_zero, Nat.div_one] at e0
  show 0 + sumN (fun i => if n.testBit (0 * 8 + i) then 1 else 0) 8 + sumN (fun i => if n.testBit (1 * 8 + i) then 1 else 0) 8 + sumN (fun i => if n.testBit (2 * 8 + i) then 1 else 0) 8 + sumN (fun i => if n.testBit (3 * 8 + i) then 1 else 0) 8 = _
  rw [e0, e1, e2, e3, Nat.zero_add]
theorem ju_n {n : Nat} (h : n < 2 ^ 32) (k : Nat) (hk : ((nI k).toUInt32 &&& Int32.toUInt32 31).toBitVec % 32 = BitVec.ofNat 32 k) (hk2 : k < 32) : ju (nI n) (nI k) = nI (n / 2 ^ k) := by
  have := pk_ushrN h (nI k) k (by rw [hk]; simp; omega)
  exact this
theorem bcA (n : Nat) (h : n < 2 ^ 32) : (n / 2 &&& 1431655765) ≤ n ∧ n - (n / 2 &&& 1431655765) = q1 (n % 256) + 256 * q1 (n / 256 % 256) + 65536 * q1 (n / 65536 % 256) + 16777216 * q1 (n / 16777216) := by
  have a0 := (q_tab (n % 256) (by omega)).1
  have a1 := (q_tab (n / 256 % 256) (by omega)).1
  have a2 := (q_tab (n / 65536 % 256) (by omega)).1
  have a3 := (q_tab (n / 16777216) (by omega)).1
  rw [m55 n h]
  unfold q1
  generalize n % 256 / 2 &&& 85 = g0 at *
  generalize n / 256 % 256 / 2 &&& 85 = g1 at *
  generalize n / 65536 % 256 / 2 &&& 85 = g2 at *
  generalize n / 16777216 / 2 &&& 85 = g3 at *
  have e : n = n % 256 + 256 * (n / 256 % 256) + 65536 * (n / 65536 % 256) + 16777216 * (n / 16777216) := by omega
  generalize n % 256 = b0 at *
  generalize n / 256 % 256 = b1 at *
  generalize n / 65536 % 256 = b2 at *
  generalize n / 16777216 = b3 at *
  subst e
  omega
theorem bcB {b0 b1 b2 b3 : Nat} (h0 : b0 < 256) (h1 : b1 < 256) (h2 : b2 < 256) (h3 : b3 < 256) : ((b0 + 256 * b1 + 65536 * b2 + 16777216 * b3) &&& 858993459) + ((b0 + 256 * b1 + 65536 * b2 + 16777216 * b3) / 4 &&& 858993459) = q2 b0 + 256 * q2 b1 + 65536 * q2 b2 + 16777216 * q2 b3 := by
  generalize hm : b0 + 256 * b1 + 65536 * b2 + 16777216 * b3 = m
  have hm2 : m < 2 ^ 32 := by omega
  have c0 : m % 256 = b0 := by omega
  have c1 : m / 256 % 256 = b1 := by omega
  have c2 : m / 65536 % 256 = b2 := by omega
  have c3 : m / 16777216 = b3 := by omega
  rw [m33 m hm2, m33s m hm2, c0, c1, c2, c3]
  clear hm hm2 c0 c1 c2 c3
  unfold q2
  generalize b0 &&& 51 = g0
  generalize b1 &&& 51 = g1
  generalize b2 &&& 51 = g2
  generalize b3 &&& 51 = g3
  generalize b0 / 4 &&& 51 = k0
  generalize b1 / 4 &&& 51 = k1
  generalize b2 / 4 &&& 51 = k2
  generalize b3 / 4 &&& 51 = k3
  omega
theorem dvm {k X r w : Nat} (h : w = k * X + r) (hr : r < k) : w / k = X ∧ w % k = r := by
  subst h
  refine ⟨?_, ?_⟩
  · rw [Nat.mul_add_div (by omega), Nat.div_eq_of_lt hr, Nat.add_zero]
  · rw [Nat.mul_add_mod, Nat.mod_eq_of_lt hr]
theorem bcC {l0 l1 l2 l3 h0 h1 h2 h3 w : Nat} (a0 : l0 ≤ 4) (a1 : l1 ≤ 4) (a2 : l2 ≤ 4) (a3 : l3 ≤ 4) (b0 : h0 ≤ 4) (b1 : h1 ≤ 4) (b2 : h2 ≤ 4) (b3 : h3 ≤ 4) (hw : w = l0 + 16 * h0 + 256 * (l1 + 16 * h1) + 65536 * (l2 + 16 * h2) + 16777216 * (l3 + 16 * h3)) : (w + w / 16) &&& 252645135 = (l0 + h0) + 256 * (l1 + h1) + 65536 * (l2 + h2) + 16777216 * (l3 + h3) := by
  have d := (dvm (k := 16) (X := h0 + 16 * (l1 + 16 * (h1 + 16 * (l2 + 16 * (h2 + 16 * (l3 + 16 * h3)))))) (r := l0) (w := w) (by rw [hw]; omega) (by omega)).1
  generalize hz : w + w / 16 = z
  have e : z = 16 * (16 * (16 * (16 * (16 * (16 * (16 * h3 + (l3 + h3)) + (h2 + l3)) + (l2 + h2)) + (h1 + l2)) + (l1 + h1)) + (h0 + l1)) + (l0 + h0) := by rw [← hz, d, hw]; omega
  clear hz hw d
  have z1 := dvm (k := 16) e (by omega)
  have e2 : z = 256 * (16 * (16 * (16 * (16 * (16 * h3 + (l3 + h3)) + (h2 + l3)) + (l2 + h2)) + (h1 + l2)) + (l1 + h1)) + (16 * (h0 + l1) + (l0 + h0)) := by rw [e]; omega
  have z2 := dvm (k := 256) e2 (by omega)
  have z3 := dvm (k := 16) z2.1 (by omega)
  have e4 : z = 65536 * (16 * (16 * (16 * h3 + (l3 + h3)) + (h2 + l3)) + (l2 + h2)) + (256 * (16 * (h1 + l2) + (l1 + h1)) + (16 * (h0 + l1) + (l0 + h0))) := by rw [e]; omega
  have z4 := dvm (k := 65536) e4 (by omega)
  have z5 := dvm (k := 16) z4.1 (by omega)
  have e6 : z = 16777216 * (16 * h3 + (l3 + h3)) + (65536 * (16 * (h2 + l3) + (l2 + h2)) + (256 * (16 * (h1 + l2) + (l1 + h1)) + (16 * (h0 + l1) + (l0 + h0)))) := by rw [e]; omega
  have z6 := dvm (k := 16777216) e6 (by omega)
  have z7 := dvm (k := 16) z6.1 (by omega)
  rw [m0f z (by rw [e6]; omega), z1.2, z3.2, z5.2, z7.2]
theorem bcD {s0 s1 s2 s3 v : Nat} (a0 : s0 ≤ 8) (a1 : s1 ≤ 8) (a2 : s2 ≤ 8) (a3 : s3 ≤ 8) (hv : v = s0 + 256 * s1 + 65536 * s2 + 16777216 * s3) : (v + v / 256 + (v + v / 256) / 65536) % 64 = s0 + s1 + s2 + s3 ∧ v + v / 256 + (v + v / 256) / 65536 < 2 ^ 32 := by
  have d : v / 256 = s1 + 256 * s2 + 65536 * s3 := by omega
  generalize hz : v + v / 256 = z
  have e : z = (s0 + s1) + 256 * (s1 + s2) + 65536 * (s2 + s3 + 256 * s3) := by omega
  have f : z / 65536 = s2 + s3 + 256 * s3 := by omega
  rw [f]
  clear hz f d hv
  omega
theorem s_bitCount {n : Nat} (h : n < 2 ^ 32) {gi : Gi} {gl : Gl} {Q : Int32 → Gi → Gl → Prop} (k : Q (nI (pcN n)) gi gl) : p_J6_bitCount_0f7a4 (nI n) gi gl Q := by
  refine v_J6_bitCount_0f7a4 ?_
  unfold f_J6_bitCount_0f7a4
  intro z1 e1
  obtain ⟨d0, d1⟩ := bcA n h
  rw [show ju (nI n) 1 = nI (n / 2) from ju_n h 1 (by decide) (by omega), show (1431655765 : Int32) = nI 1431655765 by rfl, nx_and, pk_sub d0, d1] at e1
  obtain ⟨-, x0, y0, l0, h0, p0⟩ := q_tab (n % 256) (by omega)
  obtain ⟨-, x1, y1, l1, h1, p1⟩ := q_tab (n / 256 % 256) (by omega)
  obtain ⟨-, x2, y2, l2, h2, p2⟩ := q_tab (n / 65536 % 256) (by omega)
  obtain ⟨-, x3, y3, l3, h3, p3⟩ := q_tab (n / 16777216) (by omega)
  have pf := pc_bytes n
  rw [Nat.mod_eq_of_lt (show n / 16777216 < 256 by omega), ← p0, ← p1, ← p2, ← p3] at pf
  clear p0 p1 p2 p3 d0 d1
  generalize q1 (n % 256) = b0 at *
  generalize q1 (n / 256 % 256) = b1 at *
  generalize q1 (n / 65536 % 256) = b2 at *
  generalize q1 (n / 16777216) = b3 at *
  have eB := bcB x0 x1 x2 x3
  have hm2 : b0 + 256 * b1 + 65536 * b2 + 16777216 * b3 < 2 ^ 32 := by clear eB pf; omega
  intro z2 e2
  rw [e1, show ju (nI (b0 + 256 * b1 + 65536 * b2 + 16777216 * b3)) 2 = nI ((b0 + 256 * b1 + 65536 * b2 + 16777216 * b3) / 4) from ju_n hm2 2 (by decide) (by omega), show (858993459 : Int32) = nI 858993459 by rfl, nx_and, nx_and, nI_add, eB] at e2
  clear eB hm2 e1
  generalize q2 b0 = c0 at *
  generalize q2 b1 = c1 at *
  generalize q2 b2 = c2 at *
  generalize q2 b3 = c3 at *
  have hw : c0 + 256 * c1 + 65536 * c2 + 16777216 * c3 = c0 % 16 + 16 * (c0 / 16) + 256 * (c1 % 16 + 16 * (c1 / 16)) + 65536 * (c2 % 16 + 16 * (c2 / 16)) + 16777216 * (c3 % 16 + 16 * (c3 / 16)) := by clear pf; omega
  have eC := bcC l0 l1 l2 l3 h0 h1 h2 h3 hw
  have hw2 : c0 + 256 * c1 + 65536 * c2 + 16777216 * c3 < 2 ^ 32 := by clear pf eC hw; omega
  intro z3 e3
  rw [e2, show ju (nI (c0 + 256 * c1 + 65536 * c2 + 16777216 * c3)) 4 = nI ((c0 + 256 * c1 + 65536 * c2 + 16777216 * c3) / 16) from ju_n hw2 4 (by decide) (by omega), nI_add, show (252645135 : Int32) = nI 252645135 by rfl, nx_and, eC] at e3
  clear eC hw hw2 e2
  have g0 : c0 % 16 + c0 / 16 ≤ 8 := Nat.add_le_add l0 h0
  have g1 : c1 % 16 + c1 / 16 ≤ 8 := Nat.add_le_add l1 h1
  have g2 : c2 % 16 + c2 / 16 ≤ 8 := Nat.add_le_add l2 h2
  have g3 : c3 % 16 + c3 / 16 ≤ 8 := Nat.add_le_add l3 h3
  clear l0 l1 l2 l3 h0 h1 h2 h3
  generalize c0 % 16 + c0 / 16 = s0 at *
  generalize c1 % 16 + c1 / 16 = s1 at *
  generalize c2 % 16 + c2 / 16 = s2 at *
  generalize c3 % 16 + c3 / 16 = s3 at *
  generalize hv : s0 + 256 * s1 + 65536 * s2 + 16777216 * s3 = v at e3
  obtain ⟨f1, f2⟩ := bcD g0 g1 g2 g3 hv.symm
  have v1 : v < 2 ^ 32 := by omega
  have v2 : v + v / 256 < 2 ^ 32 := by omega
  intro z4 e4
  rw [e3, show ju (nI v) 8 = nI (v / 256) from ju_n v1 8 (by decide) (by omega), nI_add] at e4
  intro z5 e5
  rw [e4, show ju (nI (v + v / 256)) 16 = nI ((v + v / 256) / 65536) from ju_n v2 16 (by decide) (by omega), nI_add] at e5
  rw [e5, show (63 : Int32) = nI 63 by rfl, nx_and, show ∀ z : Nat, z &&& 63 = z % 64 from fun z => Nat.and_two_pow_sub_one_eq_mod z 6, f1, ← pf]
  exact k
/-- .. of bits by a function -/
theorem pc_bN {f : Nat → Bool} {n : Nat} (h : n ≤ 32) : pcN (bN f n) = cntN f n := by
  have key : ∀ m, cntN (fun i => (bN f n).testBit i) (n + m) = cntN f n := by
    intro m
    induction m with
    | zero =>
      refine cntN_congr (fun i hi => ?_)
      rw [bN_bit]; simp [show i < n by omega]
    | succ m ih =>
      show cntN _ (n + m) + (if (bN f n).testBit (n + m) then 1 else 0) = _
      rw [ih, bN_bit]
      simp
      intro q
      omega
  have := key (32 - n)
  rw [show n + (32 - n) = 32 by omega] at this
  exact this
