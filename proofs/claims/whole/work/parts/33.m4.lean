/-! THE REFERENCE, four: what a sign lets -/
theorem qq0 {e : Bool} {P : Int32 → Prop} (k : P (b2i e)) (h : ¬ e = true) : P 0 := by
  cases e with
  | false => exact k
  | true => exact absurd rfl h
theorem qq1 {e : Bool} {P : Int32 → Prop} (k : P (b2i e)) (h : e = true) : P 1 := by
  rw [h] at k; exact k
/-- the reference looks at a town, 'la' days later, with 'su' sure -/
def ME (T : Twn) (p : Nat) (la : Int) (su : Int × Int) (gi : Gi) (gl : Gl) : Prop :=
  p < 2 ∧ gi 329 0 = nI p ∧ mTown T gi gl p ∧ vTown T ∧ gi 329 49 = iI la ∧ 0 ≤ la ∧ la ≤ 99 ∧ gi 329 50 = iI su.1 ∧ -1 ≤ su.1 ∧ su.1 < 12 ∧ (su.1 = -1 ∨ gi 329 51 = iI su.2) ∧ 0 ≤ su.2 ∧ su.2 ≤ 3599
theorem MI.E {σ : Sta} {gi : Gi} {gl : Gl} (V : vSta σ) (m : MI σ gi gl) : ∃ p, ME (sTown σ) p 0 nosu gi gl := by
  obtain ⟨p, hp, m6, m7⟩ := m.2.2.2.2.2.1
  exact ⟨p, hp, m6, m7, V.2.2.1, m.2.2.2.2.2.2.2.2.1, by omega, by omega, m.2.2.2.2.2.2.2.2.2, by decide, by decide, Or.inl rfl, by decide, by decide⟩
theorem ME.congr {T : Twn} {p : Nat} {la : Int} {su : Int × Int} {gi gi' : Gi} {gl : Gl} (m : ME T p la su gi gl) (h : ∀ b, 330 ≤ b → b ≤ 354 → gi' b = gi b) (h2 : gi' 329 0 = gi 329 0 ∧ gi' 329 49 = gi 329 49 ∧ gi' 329 50 = gi 329 50 ∧ gi' 329 51 = gi 329 51) : ME T p la su gi' gl := by
  obtain ⟨m1, m2, m3, m4, m5, m6, m7, m8, m9, m10, m11, m12⟩ := m
  exact ⟨m1, h2.1.trans m2, mTown_congr h m3, m4, h2.2.1.trans m5, m6, m7, h2.2.2.1.trans m8, m9, m10, m11.imp id (fun q => h2.2.2.2.trans q), m12⟩
theorem mulN (a b : Nat) : nI a * nI b = nI (a * b) := pk_mul a b
section D4
variable {T : Twn} {p : Nat} {la : Int} {su : Int × Int} {gi : Gi} {gl : Gl} {Q : Int32 → Gi → Gl → Prop}
theorem thing_num (m : ME T p la su gi gl) {i : Nat} (hi : i < tCnt T 0) : gi 340 (12 * p + i) = iI (tNum T 0 i 0) ∧ gi 341 (12 * p + i) = iI (tNum T 0 i 1) ∧ gi 342 (12 * p + i) = iI (tNum T 0 i 2) ∧ gi 343 (12 * p + i) = iI (tNum T 0 i 3) :=
  ⟨m.2.2.1.2.2.1 0 (by omega) i hi, m.2.2.1.2.2.1 1 (by omega) i hi, m.2.2.1.2.2.1 2 (by omega) i hi, m.2.2.1.2.2.1 3 (by omega) i hi⟩
theorem s_X12_standsOn (m : ME T p la su gi gl) {i d : Nat} (hi : i < tCnt T 0) (hd : d < 3600) (k : Q (b2i (dSt T la su i d)) gi gl) : p_X12_standsOn (nI i) (nI d) gi gl Q := by
  obtain ⟨n0, n1, n2, n3⟩ := thing_num m hi
  obtain ⟨hp, mp, mt, vt, ml, hl0, hl9, ms, hs0, hs1, mso, hs2, hs3⟩ := m
  have c0 : tCnt T 0 ≤ 12 := vt.1 0 (by omega)
  obtain ⟨r1, r2, r3, r4, r5, r6, r7⟩ := vt.2.2.2.1 i hi
  have hv : vp_in (nI (12 * p + i)) 24 := vp_nI (by omega) (by omega)
  have key : ∀ f : Int, 0 ≤ f + 100 → f ≤ 4000 → f = (if (i : Int) = su.1 then su.2 else tNum T 0 i 0 - tNum T 0 i 1) → p_X12_standsOn_38 (nI d) (nI (12 * p + i)) (iI f) gi gl Q := by
    intro f h0 h1 hf
    have ev : dSt T la su i d = true ↔ (f ≤ d ∧ (tNum T 0 i 2 < 0 ∨ (d : Int) ≤ tNum T 0 i 2 + la + tNum T 0 i 3)) := by
      simp only [dSt, Int.toNat_natCast, ← hf, Bool.and_eq_true, Bool.or_eq_true, decide_eq_true_eq]
    refine v_X12_standsOn_38 ?_
    unfold f_X12_standsOn_38
    rw [nI_cl (by omega), n2, n3, ml, iI_add, iI_add, ← iI_n d]
    by_cases a1 : iI (d : Int) < iI f
    · rw [if_pos a1]
      rw [iI_lt (by omega) (by omega)] at a1
      exact qq0 (P := fun r => Q r gi gl) k (by rw [ev]; omega)
    · rw [if_neg a1]
      rw [iI_lt (by omega) (by omega)] at a1
      refine ⟨hv, ?_⟩
      rw [show (0 : Int32) = iI 0 by rfl, show (1 : Int32) = iI 1 by rfl]
      by_cases a2 : iI (tNum T 0 i 2) < iI 0
      · rw [if_pos a2]
        rw [iI_lt (by omega) (by omega)] at a2
        exact qq1 (P := fun r => Q r gi gl) k (by rw [ev]; omega)
      · rw [if_neg a2]
        rw [iI_lt (by omega) (by omega)] at a2
        refine ⟨hv, hv, ?_⟩
        by_cases a3 : iI (tNum T 0 i 2 + la + tNum T 0 i 3) < iI (d : Int)
        · rw [if_pos a3]
          rw [iI_lt (by omega) (by omega)] at a3
          exact qq0 (P := fun r => Q r gi gl) k (by rw [ev]; omega)
        · rw [if_neg a3]
          rw [iI_lt (by omega) (by omega)] at a3
          exact qq1 (P := fun r => Q r gi gl) k (by rw [ev]; omega)
  refine v_X12_standsOn ?_
  unfold f_X12_standsOn
  rintro z1 rfl
  rw [mp, show (12 : Int32) = nI 12 by rfl, mulN, nI_add, ms, nI_cl (by omega), n0, n1, iI_sub, ← iI_n i]
  by_cases a : iI (i : Int) = iI su.1
  · rw [if_neg (not_not_intro a)]
    rw [iI_eq (by omega) (by omega)] at a
    rcases mso with q | q
    · omega
    · rw [q]; exact key su.2 (by omega) (by omega) (by rw [if_pos a])
  · rw [if_pos a]
    rw [iI_eq (by omega) (by omega)] at a
    exact ⟨hv, hv, key _ (by omega) (by omega) (by rw [if_neg a])⟩
theorem s_X12_lacksOn (m : ME T p la su gi gl) {i d : Nat} (hi : i < tCnt T 0) (hd : d < 3600) (k : Q (b2i (dLa T la su i d)) gi gl) : p_X12_lacksOn (nI i) (nI d) gi gl Q := by
  obtain ⟨n0, n1, n2, n3⟩ := thing_num m hi
  obtain ⟨hp, mp, mt, vt, ml, hl0, hl9, ms, hs0, hs1, mso, hs2, hs3⟩ := m
  have c0 : tCnt T 0 ≤ 12 := vt.1 0 (by omega)
  obtain ⟨r1, r2, r3, r4, r5, r6, r7⟩ := vt.2.2.2.1 i hi
  have hv : vp_in (nI (12 * p + i)) 24 := vp_nI (by omega) (by omega)
  have key : ∀ f : Int, 0 ≤ f + 100 → f ≤ 4000 → f = (if (i : Int) = su.1 then su.2 else tNum T 0 i 0 + tNum T 0 i 1) → p_X12_lacksOn_38 (nI d) (nI (12 * p + i)) (iI f) gi gl Q := by
    intro f h0 h1 hf
    have ev : dLa T la su i d = true ↔ ((d : Int) < f ∨ (0 ≤ tNum T 0 i 2 ∧ tNum T 0 i 2 + la - tNum T 0 i 3 < (d : Int))) := by
      simp only [dLa, Int.toNat_natCast, ← hf, Bool.and_eq_true, Bool.or_eq_true, decide_eq_true_eq]
    refine v_X12_lacksOn_38 ?_
    unfold f_X12_lacksOn_38
    rw [nI_cl (by omega), n2, n3, ml, iI_add, iI_sub, ← iI_n d]
    by_cases a1 : iI (d : Int) < iI f
    · rw [if_pos a1]
      rw [iI_lt (by omega) (by omega)] at a1
      exact qq1 (P := fun r => Q r gi gl) k (by rw [ev]; omega)
    · rw [if_neg a1]
      rw [iI_lt (by omega) (by omega)] at a1
      refine ⟨hv, ?_⟩
      rw [show (0 : Int32) = iI 0 by rfl, show (1 : Int32) = iI 1 by rfl]
      by_cases a2 : iI (tNum T 0 i 2) < iI 0
      · rw [if_pos a2]
        rw [iI_lt (by omega) (by omega)] at a2
        exact qq0 (P := fun r => Q r gi gl) k (by rw [ev]; omega)
      · rw [if_neg a2]
        rw [iI_lt (by omega) (by omega)] at a2
        refine ⟨hv, hv, ?_⟩
        by_cases a3 : iI (d : Int) ≤ iI (tNum T 0 i 2 + la - tNum T 0 i 3)
        · rw [if_pos a3]
          rw [iI_le (by omega) (by omega)] at a3
          exact qq0 (P := fun r => Q r gi gl) k (by rw [ev]; omega)
        · rw [if_neg a3]
          rw [iI_le (by omega) (by omega)] at a3
          exact qq1 (P := fun r => Q r gi gl) k (by rw [ev]; omega)
  refine v_X12_lacksOn ?_
  unfold f_X12_lacksOn
  rintro z1 rfl
  rw [mp, show (12 : Int32) = nI 12 by rfl, mulN, nI_add, ms, nI_cl (by omega), n0, n1, iI_add, ← iI_n i]
  by_cases a : iI (i : Int) = iI su.1
  · rw [if_neg (not_not_intro a)]
    rw [iI_eq (by omega) (by omega)] at a
    rcases mso with q | q
    · omega
    · rw [q]; exact key su.2 (by omega) (by omega) (by rw [if_pos a])
  · rw [if_pos a]
    rw [iI_eq (by omega) (by omega)] at a
    exact ⟨hv, hv, key _ (by omega) (by omega) (by rw [if_neg a])⟩
theorem s_X12_inLeaf (m : ME T p la su gi gl) {i d : Nat} (hi : i < tCnt T 1) (hd : d < 3600) (k : Q (b2i (dLf T i d)) gi gl) : p_X12_inLeaf (nI i) (nI d) gi gl Q := by
  obtain ⟨hp, mp, mt, vt, ml, hl0, hl9, ms, hs0, hs1, mso, hs2, hs3⟩ := m
  have n0 : gi 344 (6 * p + i) = iI (tNum T 1 i 0) := mt.2.2.2.1 0 (by omega) i hi
  have n1 : gi 345 (6 * p + i) = iI (tNum T 1 i 1) := mt.2.2.2.1 1 (by omega) i hi
  have c0 : tCnt T 1 ≤ 6 := vt.1 1 (by omega)
  obtain ⟨r1, r2, r3, r4, r5⟩ := vt.2.2.2.2.1 i hi
  have hv : vp_in (nI (6 * p + i)) 12 := vp_nI (by omega) (by omega)
  refine v_X12_inLeaf ?_
  unfold f_X12_inLeaf
  rintro z1 rfl z2 rfl
  rw [mp, show (6 : Int32) = nI 6 by rfl, mulN, nI_add, nI_cl (by omega), show jr (nI d) 360 = nI (d % 360) from jr_n (b := 360) (by omega) (by omega) (by omega), n0, n1, ← iI_n (d % 360)]
  have em : ((d : Int) % 360) = ((d % 360 : Nat) : Int) := by omega
  refine ⟨hv, hv, ?_⟩
  by_cases a1 : iI (tNum T 1 i 1) ≤ iI (tNum T 1 i 0)
  · rw [if_pos a1]
    rw [iI_le (by omega) (by omega)] at a1
    have ev : dLf T i d = true ↔ (tNum T 1 i 0 ≤ ((d % 360 : Nat) : Int) ∨ ((d % 360 : Nat) : Int) < tNum T 1 i 1) := by
      simp only [dLf, Int.toNat_natCast, em]
      rw [if_neg (by omega)]
      simp only [Bool.or_eq_true, decide_eq_true_eq]
    refine ⟨hv, ?_⟩
    by_cases a2 : iI (tNum T 1 i 0) ≤ iI ((d % 360 : Nat) : Int)
    · rw [if_pos a2]
      rw [iI_le (by omega) (by omega)] at a2
      exact qq1 (P := fun r => Q r gi gl) k (by rw [ev]; omega)
    · rw [if_neg a2]
      rw [iI_le (by omega) (by omega)] at a2
      refine ⟨hv, ?_⟩
      by_cases a3 : iI (tNum T 1 i 1) ≤ iI ((d % 360 : Nat) : Int)
      · rw [if_pos a3]
        rw [iI_le (by omega) (by omega)] at a3
        exact qq0 (P := fun r => Q r gi gl) k (by rw [ev]; omega)
      · rw [if_neg a3]
        rw [iI_le (by omega) (by omega)] at a3
        exact qq1 (P := fun r => Q r gi gl) k (by rw [ev]; omega)
  · rw [if_neg a1]
    rw [iI_le (by omega) (by omega)] at a1
    have ev : dLf T i d = true ↔ (tNum T 1 i 0 ≤ ((d % 360 : Nat) : Int) ∧ ((d % 360 : Nat) : Int) < tNum T 1 i 1) := by
      simp only [dLf, Int.toNat_natCast, em]
      rw [if_pos (by omega)]
      simp only [Bool.and_eq_true, decide_eq_true_eq]
    refine ⟨hv, ?_⟩
    by_cases a2 : iI ((d % 360 : Nat) : Int) < iI (tNum T 1 i 0)
    · rw [if_pos a2]
      rw [iI_lt (by omega) (by omega)] at a2
      exact qq0 (P := fun r => Q r gi gl) k (by rw [ev]; omega)
    · rw [if_neg a2]
      rw [iI_lt (by omega) (by omega)] at a2
      refine ⟨hv, ?_⟩
      by_cases a3 : iI (tNum T 1 i 1) ≤ iI ((d % 360 : Nat) : Int)
      · rw [if_pos a3]
        rw [iI_le (by omega) (by omega)] at a3
        exact qq0 (P := fun r => Q r gi gl) k (by rw [ev]; omega)
      · rw [if_neg a3]
        rw [iI_le (by omega) (by omega)] at a3
        exact qq1 (P := fun r => Q r gi gl) k (by rw [ev]; omega)
/-- a sign's numbers at place i -/
def mSgn (s : Nat → Int) (i : Nat) (gi : Gi) : Prop := i < 480 ∧ ∀ w, w < 5 → gi (357 + w) i = iI (s w)
theorem nat_of {z : Int} (h : 0 ≤ z) : ∃ n : Nat, z = n := ⟨z.toNat, by omega⟩
theorem b2i_01 (e : Bool) : b2i e = 0 ∨ b2i e = 1 := by cases e <;> simp [b2i]
theorem s_X12_letsDay (m : ME T p la su gi gl) {s : Nat → Int} {i d : Nat} (hs : mSgn s i gi) (vs : vSign T s) (hd : d < 3600) (k : Q (b2i (sD T la su s d)) gi gl) : p_X12_letsDay (nI i) (nI d) gi gl Q := by
  have g0 := hs.2 0 (by omega)
  have g1 := hs.2 1 (by omega)
  have hv : vp_in (nI i) 480 := vp_nI hs.1 (by omega)
  have hi9 := hs.1
  refine v_X12_letsDay ?_
  unfold f_X12_letsDay
  rw [nI_cl (by omega), show gi 357 i = iI (s 0) from g0, show gi 358 i = iI (s 1) from g1]
  refine ⟨hv, ?_⟩
  unfold sD at k
  rcases vs with ⟨q | q, h0, h1, -⟩ | ⟨q | q, h0, h1, -⟩ | ⟨q, h0, h1, -⟩ | ⟨q, h0, h1, -⟩ | ⟨q, h0, h1, -⟩ | ⟨q, h0, h1, -⟩ | ⟨q | q, h0, h1, -⟩ <;> rw [q] at k ⊢
  · rw [if_pos (by decide)]
    obtain ⟨n, hn⟩ := nat_of h0
    rw [hn] at k ⊢
    refine ⟨hv, ?_⟩
    rw [iI_n]
    refine s_X12_standsOn m (by omega) hd ⟨b2i_01 _, ?_⟩
    rw [if_pos rfl] at k; exact k
  · rw [if_neg (by decide), if_pos (by decide)]
    obtain ⟨n, hn⟩ := nat_of h0
    rw [hn] at k ⊢
    refine ⟨hv, ?_⟩
    rw [iI_n]
    refine s_X12_lacksOn m (by omega) hd ⟨b2i_01 _, ?_⟩
    rw [if_neg (by decide), if_pos rfl] at k; exact k
  · rw [if_neg (by decide), if_neg (by decide), if_pos (by decide)]
    obtain ⟨n, hn⟩ := nat_of h0
    rw [hn] at k ⊢
    refine ⟨hv, ?_⟩
    rw [iI_n]
    refine s_X12_inLeaf m (by omega) hd ⟨b2i_01 _, ?_⟩
    rw [if_neg (by decide), if_neg (by decide), if_pos rfl] at k; exact k
  · rw [if_neg (by decide), if_neg (by decide), if_neg (by decide), if_pos (by decide)]
    obtain ⟨n, hn⟩ := nat_of h0
    rw [hn] at k ⊢
    refine ⟨hv, ?_⟩
    rw [iI_n]
    refine s_X12_inLeaf m (by omega) hd ?_
    rw [if_neg (by decide), if_neg (by decide), if_neg (by decide), if_pos rfl] at k
    cases hb : dLf T n d with
    | false => rw [hb] at k; rw [b2i_f, if_neg (by decide)]; exact k
    | true => rw [hb] at k; rw [b2i_t, if_pos (by decide)]; exact k
  · rw [if_neg (by decide), if_neg (by decide), if_neg (by decide), if_neg (by decide), if_pos (by decide)]; exact k
  · rw [if_neg (by decide), if_neg (by decide), if_neg (by decide), if_neg (by decide), if_neg (by decide), if_pos (by decide)]; exact k
  · rw [if_neg (by decide), if_neg (by decide), if_neg (by decide), if_neg (by decide), if_neg (by decide), if_neg (by decide), if_pos (by decide)]
    refine ⟨hv, ?_⟩
    rw [if_neg (by decide), if_neg (by decide), if_neg (by decide), if_neg (by decide), if_pos rfl] at k
    rw [show jr (nI d) 7 = nI (d % 7) from jr_n (b := 7) (by omega) (by omega) (by omega), ← iI_n (d % 7)]
    have em : ((d : Int) % 7) = ((d % 7 : Nat) : Int) := by omega
    rw [em] at k
    by_cases a : iI ((d % 7 : Nat) : Int) = iI (s 1)
    · rw [if_neg (not_not_intro a)]
      rw [iI_eq (by omega) (by omega)] at a
      exact qq1 (P := fun r => Q r gi gl) k (by rw [decide_eq_true_eq]; exact a)
    · rw [if_pos a]
      rw [iI_eq (by omega) (by omega)] at a
      exact qq0 (P := fun r => Q r gi gl) k (by rw [decide_eq_true_eq]; exact a)
  · rw [if_neg (by decide), if_neg (by decide), if_neg (by decide), if_neg (by decide), if_neg (by decide), if_neg (by decide), if_neg (by decide), if_pos (by decide)]
    refine ⟨hv, ?_⟩
    rw [if_neg (by decide), if_neg (by decide), if_neg (by decide), if_neg (by decide), if_neg (by decide), if_pos rfl] at k
    rw [show nI d / 360 = nI (d / 360) from div_n (b := 360) (by omega) (by omega) (by omega), ← iI_n (d / 360)]
    have em : ((d : Int) / 360) = ((d / 360 : Nat) : Int) := by omega
    rw [em] at k
    by_cases a : iI ((d / 360 : Nat) : Int) = iI (s 1)
    · rw [if_neg (not_not_intro a)]
      rw [iI_eq (by omega) (by omega)] at a
      exact qq1 (P := fun r => Q r gi gl) k (by rw [decide_eq_true_eq]; exact a)
    · rw [if_pos a]
      rw [iI_eq (by omega) (by omega)] at a
      exact qq0 (P := fun r => Q r gi gl) k (by rw [decide_eq_true_eq]; exact a)
  · rw [if_neg (by decide), if_neg (by decide), if_neg (by decide), if_neg (by decide), if_neg (by decide), if_neg (by decide), if_neg (by decide), if_neg (by decide)]; exact k
  · rw [if_neg (by decide), if_neg (by decide), if_neg (by decide), if_neg (by decide), if_neg (by decide), if_neg (by decide), if_neg (by decide), if_neg (by decide)]; exact k
end D4
