/-! THE CLASS, one: rows of bits -/
theorem fullN : (1073741823 : Int32) = nI (bN (fun _ => true) 30) := by rw [bN_full]; decide
theorem bN30 {f : Nat → Bool} : bN f 30 < 1073741824 := bN_lt (n := 30)
theorem nx_xor (a b : Nat) : nI a ^^^ nI b = nI (a ^^^ b) := by
  apply Int32.toBitVec.inj
  show (nI a).toBitVec ^^^ (nI b).toBitVec = (nI (a ^^^ b)).toBitVec
  have e : ∀ n, (nI n).toBitVec = BitVec.ofNat 32 n := fun n => rfl
  rw [e, e, e, BitVec.ofNat_xor]
theorem m1_nI : (-1 : Int32) = nI (2 ^ 32 - 1) := by decide
/-- all of a row but these -/
theorem not30 {f : Nat → Bool} : (1073741823 : Int32) &&& (nI (bN f 30) ^^^ (-1)) = nI (bN (fun i => !f i) 30) := by
  rw [fullN, m1_nI, nx_xor, nx_and]
  congr 1
  apply bN_ext
  · exact Nat.lt_of_le_of_lt Nat.and_le_left bN_lt
  · intro i hi
    rw [Nat.testBit_and, Nat.testBit_xor, bN_bit, bN_bit, Nat.testBit_two_pow_sub_one]
    simp [hi, show i < 32 by omega]
theorem and30 {f g : Nat → Bool} : nI (bN f 30) &&& nI (bN g 30) = nI (bN (fun i => f i && g i) 30) := by rw [nx_and, bN_and]
theorem lowN_spec {f : Nat → Bool} : ∀ n, (lowN f n = -1 ∧ ∀ i, i < n → f i = false) ∨ (∃ k : Nat, lowN f n = k ∧ k < n ∧ f k = true ∧ ∀ i, i < k → f i = false)
  | 0 => Or.inl ⟨rfl, fun i h => by omega⟩
  | n + 1 => by
    rcases lowN_spec (f := f) n with ⟨h1, h2⟩ | ⟨k, h1, h2, h3, h4⟩
    · rw [lowN_neg (by omega)]
      cases hf : f n with
      | true => exact Or.inr ⟨n, rfl, by omega, hf, h2⟩
      | false =>
        refine Or.inl ⟨rfl, fun i hi => ?_⟩
        by_cases e : i = n
        · subst e; exact hf
        · exact h2 i (by omega)
    · rw [lowN_s, if_pos (by omega)]
      exact Or.inr ⟨k, h1, by omega, h3, h4⟩
/-- the lowest bit taken away -/
theorem low_dec {x k : Nat} (hl : ∀ i, i < k → x.testBit i = false) (hk : x.testBit k = true) : x = 2 ^ (k + 1) * (x / 2 ^ (k + 1)) + 2 ^ k := by
  have h2 : 2 ^ k < 2 ^ (k + 1) := Nat.pow_lt_pow_right (by omega) (by omega)
  apply Nat.eq_of_testBit_eq
  intro i
  rw [Nat.testBit_two_pow_mul_add _ h2]
  by_cases c : i < k + 1
  · rw [if_pos c, Nat.testBit_two_pow]
    by_cases e : i = k
    · subst e; rw [hk]; simp
    · rw [hl i (by omega)]; simp; omega
  · rw [if_neg c, Nat.testBit_div_two_pow]; congr 1; omega
theorem low_sub {x k : Nat} (hl : ∀ i, i < k → x.testBit i = false) (hk : x.testBit k = true) (i : Nat) : (x - 1).testBit i = if i < k then true else if i = k then false else x.testBit i := by
  have e := low_dec hl hk
  have hp : 0 < 2 ^ k := pw_pos
  have e2 : x - 1 = 2 ^ (k + 1) * (x / 2 ^ (k + 1)) + (2 ^ k - 1) := by omega
  have h2 : 2 ^ k - 1 < 2 ^ (k + 1) := by rw [Nat.pow_succ]; omega
  rw [e2, Nat.testBit_two_pow_mul_add _ h2]
  by_cases c : i < k + 1
  · rw [if_pos c, Nat.testBit_two_pow_sub_one]
    by_cases c2 : i < k
    · rw [if_pos c2]; simp [c2]
    · rw [if_neg c2, if_pos (by omega)]; simp [c2]
  · rw [if_neg c, if_neg (by omega), if_neg (by omega), Nat.testBit_div_two_pow]; congr 1; omega
theorem neg_nI {x : Nat} (h0 : 0 < x) (h : x < 2 ^ 32) : -nI x = nI (2 ^ 32 - x) := by
  apply Int32.toBitVec.inj
  show -(nI x).toBitVec = (nI (2 ^ 32 - x)).toBitVec
  have e : ∀ n, (nI n).toBitVec = BitVec.ofNat 32 n := fun n => rfl
  rw [e, e]
  apply BitVec.eq_of_toNat_eq
  rw [BitVec.toNat_neg, BitVec.toNat_ofNat, BitVec.toNat_ofNat, Nat.mod_eq_of_lt h]
theorem low_and {x k : Nat} (h : x < 2 ^ 32) (hl : ∀ i, i < k → x.testBit i = false) (hk : x.testBit k = true) : x &&& (2 ^ 32 - x) = 2 ^ k := by
  have h0 : 0 < x := by
    rcases Nat.eq_zero_or_pos x with z | z
    · subst z; simp at hk
    · exact z
  have hk32 : k < 32 := by
    rcases Nat.lt_or_ge k 32 with z | z
    · exact z
    · rw [Nat.testBit_lt_two_pow (Nat.lt_of_lt_of_le h (Nat.pow_le_pow_right (by omega) z))] at hk; cases hk
  apply Nat.eq_of_testBit_eq
  intro i
  rw [Nat.testBit_and, show 2 ^ 32 - x = 2 ^ 32 - ((x - 1) + 1) by omega, Nat.testBit_two_pow_sub_succ (by omega), low_sub hl hk, Nat.testBit_two_pow]
  by_cases c : i < k
  · rw [if_pos c, hl i c]; simp; omega
  · rw [if_neg c]
    by_cases e : i = k
    · subst e; rw [if_pos rfl, hk]; simp [hk32]
    · rw [if_neg e]
      cases x.testBit i <;> simp <;> omega
section CA
variable {gi : Gi} {gl : Gl} {Q : Int32 → Gi → Gl → Prop}
theorem s_X11_lowest {f : Nat → Bool} (hf : ∃ i, i < 30 ∧ f i = true) (k : ∀ e : Nat, lowN f 30 = e → e < 30 → f e = true → Q (nI e) gi gl) : p_X11_lowest (nI (bN f 30)) gi gl Q := by
  rcases lowN_spec (f := f) 30 with ⟨-, h2⟩ | ⟨e, h1, h2, h3, h4⟩
  · obtain ⟨i, hi, hfi⟩ := hf
    rw [h2 i hi] at hfi; cases hfi
  · have hb : bN f 30 < 1073741824 := bN30
    have be : (bN f 30).testBit e = true := by rw [bN_bit]; simp [h2, h3]
    have bl : ∀ i, i < e → (bN f 30).testBit i = false := fun i hi => by rw [bN_bit, h4 i hi]; simp
    have b0 : 0 < bN f 30 := by
      rcases Nat.eq_zero_or_pos (bN f 30) with z | z
      · rw [z] at be; simp at be
      · exact z
    refine v_X11_lowest ?_
    unfold f_X11_lowest
    have hp : 0 < 2 ^ e := pw_pos
    have hp2 : 2 ^ e < 2 ^ 31 := Nat.pow_lt_pow_right (by omega) (by omega)
    rw [neg_nI b0 (by omega), nx_and, low_and (by omega) bl be, sub1 (by omega)]
    refine s_bitCount (by omega) ?_
    rw [pc_full (by omega)]
    exact k e h1 h2 h3
/-- any row -/
theorem s_X11_lowest0 {f : Nat → Bool} (k : ∀ r : Int32, (∀ e : Nat, lowN f 30 = e → r = nI e) → (r = nI 32 ∨ ∃ e : Nat, e < 30 ∧ r = nI e) → Q r gi gl) : p_X11_lowest (nI (bN f 30)) gi gl Q := by
  by_cases h : ∃ i, i < 30 ∧ f i = true
  · exact s_X11_lowest h (fun e h1 h2 _ => k (nI e) (fun e' he' => congrArg nI (by omega)) (Or.inr ⟨e, h2, rfl⟩))
  · have h0 : bN f 30 = 0 := bN_0.2 (fun i hi => by
      cases hb : f i with
      | false => rfl
      | true => exact absurd ⟨i, hi, hb⟩ h)
    refine v_X11_lowest ?_
    unfold f_X11_lowest
    rw [h0, show (nI 0 &&& -nI 0) - 1 = nI (2 ^ 32 - 1) by decide]
    refine s_bitCount (by decide) ?_
    rw [pc_full (by omega)]
    refine k _ (fun e he => ?_) (Or.inl rfl)
    rcases lowN_spec (f := f) 30 with ⟨h1, -⟩ | ⟨e2, h1, h2, h3, -⟩
    · omega
    · exact absurd ⟨e2, h2, h3⟩ h
theorem s_X4_placeOf {f : Nat → Bool} {a : Nat} (ha : a < cntN f 30) (k : Q (nI (selN f a 30)) gi gl) : p_X4_placeOf (nI (bN f 30)) (nI a) gi gl Q := by
  have hc := cntN_le (f := f) (n := 30)
  have cfind : ∀ j n, j < cntN f n → ∃ e, e < n ∧ f e = true ∧ cntN f e = j := by
    intro j n
    induction n with
    | zero => intro h; exact absurd h (Nat.not_lt_zero _)
    | succ n ih =>
      intro h
      rw [cntN_s] at h
      by_cases c : j < cntN f n
      · obtain ⟨e, h1, h2, h3⟩ := ih c
        exact ⟨e, by omega, h2, h3⟩
      · by_cases b : f n = true
        · rw [if_pos b] at h; exact ⟨n, by omega, b, by omega⟩
        · rw [if_neg b] at h; omega
  have uniq : ∀ e i, f e = true → f i = true → cntN f e = cntN f i → e = i := by
    intro e i h1 h2 h3
    rcases Nat.lt_trichotomy e i with z | z | z
    · have := cntN_mono (f := f) (show e + 1 ≤ i by omega)
      rw [cntN_s, if_pos h1] at this; omega
    · exact z
    · have := cntN_mono (f := f) (show i + 1 ≤ e by omega)
      rw [cntN_s, if_pos h2] at this; omega
  refine v_X4_placeOf ?_
  unfold f_X4_placeOf
  have lp : ∀ m j, j + m = a → p_X4_placeOf_4 (nI a) (nI (bN (fun i => f i && decide (j ≤ cntN f i)) 30)) (nI j) gi gl Q := by
    intro m
    induction m with
    | zero =>
      intro j hj
      obtain ⟨e, h1, h2, h3⟩ := cfind j 30 (by omega)
      refine v_X4_placeOf_4 ?_
      unfold f_X4_placeOf_4
      refine ifT (by rw [nI_leI (by omega) (by omega)]; omega) ?_
      refine s_X11_lowest ⟨e, h1, by rw [h2, h3]; simp⟩ (fun e2 g1 g2 g3 => ?_)
      rw [Bool.and_eq_true, decide_eq_true_eq] at g3
      have : e2 = e := by
        rcases lowN_spec (f := fun i => f i && decide (j ≤ cntN f i)) 30 with ⟨y1, y2⟩ | ⟨e3, y1, y2, y3, y4⟩
        · omega
        · have e23 : e2 = e3 := by omega
          subst e23
          rcases Nat.lt_or_ge e e2 with z | z
          · have := y4 e z
            rw [h2, h3] at this
            simp at this
          · have := cntN_mono (f := f) z
            exact uniq e2 e g3.1 h2 (by omega)
      rw [this, ← selN_eq (f := f) (k := a) (N := 30) h1 h2 (by omega)]
      exact k
    | succ m ih =>
      intro j hj
      obtain ⟨e, h1, h2, h3⟩ := cfind j 30 (by omega)
      refine v_X4_placeOf_4 ?_
      unfold f_X4_placeOf_4
      refine ifF (by rw [nI_leI (by omega) (by omega)]; omega) ?_
      refine ifF (by rw [show (30 : Int32) = nI 30 by rfl, nI_leI (by omega) (by omega)]; omega) ?_
      rintro z7 rfl
      have be : (bN (fun i => f i && decide (j ≤ cntN f i)) 30).testBit e = true := by rw [bN_bit, h2, h3]; simp [h1]
      have bl : ∀ i, i < e → (bN (fun i => f i && decide (j ≤ cntN f i)) 30).testBit i = false := fun i hi => by
        rw [bN_bit]
        cases hb : f i with
        | false => simp
        | true =>
          have := cntN_mono (f := f) (show i + 1 ≤ e by omega)
          rw [cntN_s, if_pos hb] at this
          simp; omega
      have b0 : 0 < bN (fun i => f i && decide (j ≤ cntN f i)) 30 := by
        rcases Nat.eq_zero_or_pos (bN (fun i => f i && decide (j ≤ cntN f i)) 30) with z | z
        · rw [z] at be; simp at be
        · exact z
      rw [sub1 b0, nx_and, nI_1]
      have eq : bN (fun i => f i && decide (j ≤ cntN f i)) 30 &&& (bN (fun i => f i && decide (j ≤ cntN f i)) 30 - 1) = bN (fun i => f i && decide (j + 1 ≤ cntN f i)) 30 := by
        apply bN_ext
        · exact Nat.lt_of_le_of_lt Nat.and_le_left bN_lt
        · intro i hi
          rw [Nat.testBit_and, low_sub bl be, bN_bit]
          by_cases c : i < e
          · rw [if_pos c]
            cases hb : f i with
            | false => simp
            | true =>
              have := cntN_mono (f := f) (show i + 1 ≤ e by omega)
              rw [cntN_s, if_pos hb] at this
              rw [decide_eq_false (show ¬ j ≤ cntN f i by omega), decide_eq_false (show ¬ j + 1 ≤ cntN f i by omega)]; simp
          · rw [if_neg c]
            by_cases d : i = e
            · subst d; rw [if_pos rfl, h3]; simp
            · rw [if_neg d]
              cases hb : f i with
              | false => simp
              | true =>
                have := cntN_mono (f := f) (show e + 1 ≤ i by omega)
                rw [cntN_s, if_pos h2] at this
                rw [decide_eq_true (show j ≤ cntN f i by omega), decide_eq_true (show j + 1 ≤ cntN f i by omega)]; simp [hi]
      rw [eq]
      exact ih (j + 1) (by omega)
  have := lp a 0 (by omega)
  rw [show bN (fun i => f i && decide (0 ≤ cntN f i)) 30 = bN f 30 from bN_congr (fun i _ => by simp)] at this
  exact this
theorem rng_bits {a L : Nat} (h : a + L ≤ 30) : (2 ^ L - 1) * 2 ^ a = bN (fun i => decide (a ≤ i) && decide (i < a + L)) 30 := by
  apply bN_ext
  · have h1 : (2 ^ L - 1) * 2 ^ a < 2 ^ L * 2 ^ a := Nat.mul_lt_mul_of_pos_right (by have : 0 < 2 ^ L := pw_pos; omega) pw_pos
    rw [← Nat.pow_add] at h1
    exact Nat.lt_of_lt_of_le h1 (Nat.pow_le_pow_right (by omega) (by omega))
  · intro i hi
    rw [← Nat.shiftLeft_eq, Nat.testBit_shiftLeft, Nat.testBit_two_pow_sub_one]
    by_cases c : a ≤ i
    · have e : decide (i - a < L) = decide (i < a + L) := decide_eq_decide.2 (by omega)
      simp [c, e]
    · simp [c]
theorem s_X11_bitsOf {lo hi : Int} (hlo : -100000 ≤ lo ∧ lo ≤ 100000) (hhi : -100000 ≤ hi ∧ hi ≤ 100000) (k : Q (nI (bN (fun i => decide (lo ≤ (i : Int)) && decide ((i : Int) ≤ hi)) 30)) gi gl) : p_X11_bitsOf (iI lo) (iI hi) gi gl Q := by
  have main : ∀ f l : Int, f = (if 0 ≤ lo then lo else 0) → l = (if 30 ≤ hi then 29 else hi) → p_X11_bitsOf_22 (iI f) (iI l) gi gl Q := by
    intro f l hf hl
    have f0 : 0 ≤ f ∧ f ≤ 100000 := by split at hf <;> omega
    have l0 : -100000 ≤ l ∧ l ≤ 29 := by split at hl <;> omega
    refine v_X11_bitsOf_22 ?_
    unfold f_X11_bitsOf_22
    refine d_le f l rfl rfl (by omega) (by omega) (fun y => ?_) (fun y => ?_)
    · obtain ⟨a, ha⟩ := nat_of f0.1
      have hL : iI l - iI f + 1 = nI (l - f + 1).toNat := by
        rw [iI_sub, ← iI_1, iI_add, ← iI_n, Int.toNat_of_nonneg (by omega)]
      generalize hLn : (l - f + 1).toNat = Ln at *
      have hL2 : Ln ≤ 30 := by omega
      have haL : a + Ln ≤ 30 := by omega
      have hpp : 0 < 2 ^ Ln := pw_pos
      have hp3 : 2 ^ Ln ≤ 2 ^ 30 := Nat.pow_le_pow_right (by omega) hL2
      have hb : (2 ^ Ln - 1) * 2 ^ a < 2 ^ 32 := by
        rw [rng_bits haL]; exact Nat.lt_of_lt_of_le bN_lt (Nat.pow_le_pow_right (by omega) (by omega))
      rw [hL, jl_1 (by omega), sub1 (by omega), ha, iI_n, jl_m (by omega) hb, rng_bits haL]
      rw [show bN (fun i => decide (a ≤ i) && decide (i < a + Ln)) 30 = bN (fun i => decide (lo ≤ (i : Int)) && decide ((i : Int) ≤ hi)) 30 from bN_congr (fun i hi2 => by
        congr 1
        · exact decide_eq_decide.2 (by split at hf <;> omega)
        · exact decide_eq_decide.2 (by split at hl <;> omega))]
      exact k
    · rw [show bN (fun i => decide (lo ≤ (i : Int)) && decide ((i : Int) ≤ hi)) 30 = 0 from bN_0.2 (fun i hi2 => by
        rw [Bool.and_eq_false_iff, decide_eq_false_iff_not, decide_eq_false_iff_not]
        split at hf <;> split at hl <;> omega)] at k
      exact k
  refine v_X11_bitsOf ?_
  unfold f_X11_bitsOf
  refine d_le 0 lo rfl rfl (by omega) (by omega) (fun y => ?_) (fun y => ?_)
  · refine d_le 30 hi rfl rfl (by omega) (by omega) (fun z => ?_) (fun z => ?_)
    · exact main lo 29 (by rw [if_pos y]) (by rw [if_pos z])
    · exact main lo hi (by rw [if_pos y]) (by rw [if_neg (by omega)])
  · refine d_le 30 hi rfl rfl (by omega) (by omega) (fun z => ?_) (fun z => ?_)
    · exact main 0 29 (by rw [if_neg (by omega)]) (by rw [if_pos z])
    · exact main 0 hi (by rw [if_neg (by omega)]) (by rw [if_neg (by omega)])
end CA
