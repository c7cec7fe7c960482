/-! THE REFERENCE, three: what was told, images -/
def aTold (T : Twn) (w : Int32) : Int32 :=
  if 100 ≤ w.toInt ∧ w.toInt ≤ 99 + 4 * (tCnt T 0 : Int) then iI (tNum T 0 ((w.toInt - 100) / 4).toNat ((w.toInt - 100) % 4).toNat)
  else if 200 ≤ w.toInt ∧ w.toInt ≤ 199 + 3 * (tCnt T 2 : Int) then iI (tNum T 2 ((w.toInt - 200) / 3).toNat ((w.toInt - 200) % 3).toNat)
  else if 0 ≤ w.toInt ∧ w.toInt ≤ 5 then nI (tCnt T w.toInt.toNat) else -1
theorem six_of {w : Int32} (h0 : 0 ≤ w.toInt) (h : w.toInt ≤ 5) : w = 0 ∨ w = 1 ∨ w = 2 ∨ w = 3 ∨ w = 4 ∨ w = 5 := by
  have e := int_of h0 rfl
  rcases (show w.toInt.toNat = 0 ∨ w.toInt.toNat = 1 ∨ w.toInt.toNat = 2 ∨ w.toInt.toNat = 3 ∨ w.toInt.toNat = 4 ∨ w.toInt.toNat = 5 by omega) with q | q | q | q | q | q <;> rw [q] at e <;> simp [e] <;> decide
theorem m_told {σ : Sta} {gi : Gi} {gl : Gl} {w : Int32} {Q : Int32 → Gi → Gl → Prop} (V : vSta σ) (m : MI σ gi gl) (h : Q (aTold (sTown σ) w) gi gl) : p_X12_told w gi gl Q := by
  refine v_X12_told ?_
  unfold f_X12_told
  obtain ⟨p, hp, m6, m7⟩ := m.2.2.2.2.2.1
  have vt := V.2.2.1
  generalize hT : sTown σ = T at *
  have c0 : tCnt T 0 ≤ 12 := vt.1 0 (by omega)
  have c2 : tCnt T 2 ≤ 10 := vt.1 2 (by omega)
  have hpv : vp_in (nI p) 2 := vp_nI hp (by omega)
  have cnt : ∀ k, k < 6 → gi (330 + k) p = nI (tCnt T k) := m7.1
  rw [m6, nI_cl (by omega)]
  have hcp : (nI p).toNatClampNeg = p := nI_cl (by omega)
  refine ⟨hpv, s_X12_within ?_⟩
  simp only [m6, hcp]
  rw [show gi 330 p = nI (tCnt T 0) from cnt 0 (by omega)]
  have e1 : ((99 : Int32) + 4 * nI (tCnt T 0)).toInt = 99 + 4 * (tCnt T 0 : Int) := by
    rw [show (4 : Int32) * nI (tCnt T 0) = nI (4 * tCnt T 0) from pk_mul 4 _, show (99 : Int32) + nI (4 * tCnt T 0) = nI (99 + 4 * tCnt T 0) from nI_add 99 _, nI_tI (by omega)]
    omega
  rw [e1, show ((100 : Int32).toInt) = 100 by rfl]
  unfold aTold at h
  by_cases h1 : 100 ≤ w.toInt ∧ w.toInt ≤ 99 + 4 * (tCnt T 0 : Int)
  · rw [if_pos h1] at h
    rw [show (decide (100 ≤ w.toInt) && decide (w.toInt ≤ 99 + 4 * (tCnt T 0 : Int))) = true by simp; omega, b2i_t, if_neg (by decide)]
    obtain ⟨n, hn⟩ : ∃ n : Nat, w.toInt = n + 100 := ⟨(w.toInt - 100).toNat, by omega⟩
    have hw : w = nI (n + 100) := int_of (by omega) (by omega)
    have hn2 : n < 48 := by omega
    rw [show ((w.toInt - 100) / 4).toNat = n / 4 by omega, show ((w.toInt - 100) % 4).toNat = n % 4 by omega] at h
    rintro z9 rfl z10 rfl
    have ez : (12 : Int32) * nI p + (w - 100) / 4 = nI (12 * p + n / 4) := by
      rw [hw, show (100 : Int32) = nI 100 by rfl, pk_sub (by omega), show n + 100 - 100 = n by omega, show (4 : Int32) = nI 4 by rfl, div_n (by omega) (by omega) (by omega), show (12 : Int32) * nI p = nI (12 * p) from pk_mul 12 _, nI_add]
    have er : jr w 4 = nI (n % 4) := by
      rw [hw, show (4 : Int32) = nI 4 by rfl, jr_n (by omega) (by omega) (by omega), show (n + 100) % 4 = n % 4 by omega]
    rw [ez, er, nI_cl (by omega)]
    have hv : vp_in (nI (12 * p + n / 4)) 24 := vp_nI (by omega) (by omega)
    have hm := fun j hj => m7.2.2.1 j hj (n / 4) (by omega)
    rcases (show n % 4 = 0 ∨ n % 4 = 1 ∨ n % 4 = 2 ∨ n % 4 = 3 by omega) with q | q | q | q <;> rw [q] at h ⊢
    · rw [if_neg (by decide)]; refine ⟨hv, ?_⟩; rw [hm 0 (by omega)]; exact h
    · rw [if_pos (by decide), if_neg (by decide)]; refine ⟨hv, ?_⟩; rw [hm 1 (by omega)]; exact h
    · rw [if_pos (by decide), if_pos (by decide), if_neg (by decide)]; refine ⟨hv, ?_⟩; rw [hm 2 (by omega)]; exact h
    · rw [if_pos (by decide), if_pos (by decide), if_pos (by decide)]; refine ⟨hv, ?_⟩; rw [hm 3 (by omega)]; exact h
  · rw [if_neg h1] at h
    rw [show (decide (100 ≤ w.toInt) && decide (w.toInt ≤ 99 + 4 * (tCnt T 0 : Int))) = false by simp; omega, b2i_f, if_pos rfl]
    refine ⟨hpv, s_X12_within ?_⟩
    simp only [m6, hcp]
    rw [show gi 332 p = nI (tCnt T 2) from cnt 2 (by omega)]
    have e2 : ((199 : Int32) + 3 * nI (tCnt T 2)).toInt = 199 + 3 * (tCnt T 2 : Int) := by
      rw [show (3 : Int32) * nI (tCnt T 2) = nI (3 * tCnt T 2) from pk_mul 3 _, show (199 : Int32) + nI (3 * tCnt T 2) = nI (199 + 3 * tCnt T 2) from nI_add 199 _, nI_tI (by omega)]
      omega
    rw [e2, show ((200 : Int32).toInt) = 200 by rfl]
    by_cases h2 : 200 ≤ w.toInt ∧ w.toInt ≤ 199 + 3 * (tCnt T 2 : Int)
    · rw [if_pos h2] at h
      rw [show (decide (200 ≤ w.toInt) && decide (w.toInt ≤ 199 + 3 * (tCnt T 2 : Int))) = true by simp; omega, b2i_t, if_neg (by decide)]
      obtain ⟨n, hn⟩ : ∃ n : Nat, w.toInt = n + 200 := ⟨(w.toInt - 200).toNat, by omega⟩
      have hw : w = nI (n + 200) := int_of (by omega) (by omega)
      have hn2 : n < 30 := by omega
      rw [show ((w.toInt - 200) / 3).toNat = n / 3 by omega, show ((w.toInt - 200) % 3).toNat = n % 3 by omega] at h
      rintro z7 rfl z8 rfl
      have es : w - 200 = nI n := by rw [hw, show (200 : Int32) = nI 200 by rfl, pk_sub (by omega), show n + 200 - 200 = n by omega]
      have ez : (10 : Int32) * nI p + (w - 200) / 3 = nI (10 * p + n / 3) := by
        rw [es, show (3 : Int32) = nI 3 by rfl, div_n (by omega) (by omega) (by omega), show (10 : Int32) * nI p = nI (10 * p) from pk_mul 10 _, nI_add]
      have er : jr (w - 200) 3 = nI (n % 3) := by
        rw [es, show (3 : Int32) = nI 3 by rfl, jr_n (by omega) (by omega) (by omega)]
      rw [ez, er, nI_cl (by omega)]
      have hv : vp_in (nI (10 * p + n / 3)) 20 := vp_nI (by omega) (by omega)
      have hm := fun j hj => m7.2.2.2.2.1 j hj (n / 3) (by omega)
      rcases (show n % 3 = 0 ∨ n % 3 = 1 ∨ n % 3 = 2 by omega) with q | q | q <;> rw [q] at h ⊢
      · rw [if_neg (by decide)]; refine ⟨hv, ?_⟩; rw [hm 0 (by omega)]; exact h
      · rw [if_pos (by decide), if_neg (by decide)]; refine ⟨hv, ?_⟩; rw [hm 1 (by omega)]; exact h
      · rw [if_pos (by decide), if_pos (by decide)]; refine ⟨hv, ?_⟩; rw [hm 2 (by omega)]; exact h
    · rw [if_neg h2] at h
      rw [show (decide (200 ≤ w.toInt) && decide (w.toInt ≤ 199 + 3 * (tCnt T 2 : Int))) = false by simp; omega, b2i_f, if_pos rfl]
      have g0 : ∀ k, k < 6 → w = nI k → Q (nI (tCnt T k)) gi gl := by
        intro k hk e
        have : w.toInt = k := by rw [e, nI_tI (by omega)]
        rw [if_pos (by omega), this] at h
        exact h
      by_cases q0 : w = 0
      · rw [if_pos q0]; exact ⟨hpv, by rw [cnt 0 (by omega)]; exact g0 0 (by omega) q0⟩
      rw [if_neg q0]
      by_cases q1 : w = 1
      · rw [if_pos q1]; exact ⟨hpv, by rw [cnt 1 (by omega)]; exact g0 1 (by omega) q1⟩
      rw [if_neg q1]
      by_cases q2 : w = 2
      · rw [if_pos q2]; exact ⟨hpv, g0 2 (by omega) q2⟩
      rw [if_neg q2]
      by_cases q3 : w = 3
      · rw [if_pos q3]; exact ⟨hpv, by rw [cnt 3 (by omega)]; exact g0 3 (by omega) q3⟩
      rw [if_neg q3]
      by_cases q4 : w = 4
      · rw [if_pos q4]; exact ⟨hpv, by rw [cnt 4 (by omega)]; exact g0 4 (by omega) q4⟩
      rw [if_neg q4]
      by_cases q5 : w = 5
      · rw [if_pos q5]; exact ⟨hpv, by rw [cnt 5 (by omega)]; exact g0 5 (by omega) q5⟩
      rw [if_neg q5]
      rw [if_neg] at h
      · exact h
      · intro q
        rcases six_of q.1 q.2 with z | z | z | z | z | z
        · exact q0 z
        · exact q1 z
        · exact q2 z
        · exact q3 z
        · exact q4 z
        · exact q5 z
/-! copies -/
theorem cpy_s {f : Nat → Int32} {s d n : Nat} (h : ¬ (d ≤ s + n ∧ s + n < d + n)) : upd (va_cpy f f s d n) (d + n) (va_cpy f f s d n (s + n)) = va_cpy f f s d (n + 1) := by
  funext j
  have e : va_cpy f f s d n (s + n) = f (s + n) := by unfold va_cpy; rw [if_neg h]
  rw [updA, e]
  unfold va_cpy
  by_cases q : j = d + n
  · subst q; rw [if_pos rfl, if_pos (by omega)]; congr 1; omega
  · rw [if_neg q]
    by_cases q2 : d ≤ j ∧ j < d + n
    · rw [if_pos q2, if_pos (by omega)]
    · rw [if_neg q2, if_neg (by omega)]
theorem cpy_0 {f : Nat → Int32} {s d : Nat} : va_cpy f f s d 0 = f := by
  funext j
  unfold va_cpy
  rw [if_neg (by omega)]
def cpG (gi : Gi) (a b k1 k2 w k3 : Nat) : Gi := fun z =>
  if z = 355 then upd (gi 355) b (gi 355 a) else if z = 356 then va_cpy (gi 356) (gi 356) (8 * a) (8 * b) k1
  else if 357 ≤ z ∧ z ≤ 361 then va_cpy (gi z) (gi z) (96 * a) (96 * b) (if z < 357 + w then k2 + 1 else k2) else if z = 362 then va_cpy (gi 362) (gi 362) (12 * a) (12 * b) k3 else gi z
theorem cpG1 {gi : Gi} {a b k : Nat} (hab : a ≠ b) (hk : k < 8) : uI (cpG gi a b k 0 0 0) 356 (upd (cpG gi a b k 0 0 0 356) (8 * b + k) (cpG gi a b k 0 0 0 356 (8 * a + k))) = cpG gi a b (k + 1) 0 0 0 := by
  funext z
  rw [uIA]
  by_cases q : z = 356
  · subst q
    rw [if_pos rfl]
    show upd (va_cpy _ _ _ _ k) _ (va_cpy _ _ _ _ k _) = va_cpy _ _ _ _ (k + 1)
    exact cpy_s (by omega)
  · rw [if_neg q]
    unfold cpG
    simp [q]
theorem cpG2 {gi : Gi} {a b k w : Nat} (hab : a ≠ b) (hk : k < 96) (hw : w < 5) : uI (cpG gi a b 8 k w 0) (357 + w) (upd (cpG gi a b 8 k w 0 (357 + w)) (96 * b + k) (cpG gi a b 8 k w 0 (357 + w) (96 * a + k))) = cpG gi a b 8 k (w + 1) 0 := by
  funext z
  rw [uIA]
  by_cases q : z = 357 + w
  · subst q
    rw [if_pos rfl]
    have e : ∀ w2, cpG gi a b 8 k w2 0 (357 + w) = va_cpy (gi (357 + w)) (gi (357 + w)) (96 * a) (96 * b) (if 357 + w < 357 + w2 then k + 1 else k) := by
      intro w2
      unfold cpG
      rw [if_neg (by omega), if_neg (by omega), if_pos (by omega)]
    rw [e, e, if_neg (by omega), if_pos (by omega)]
    exact cpy_s (by omega)
  · rw [if_neg q]
    unfold cpG
    by_cases q2 : 357 ≤ z ∧ z ≤ 361
    · have u1 : ¬ z = 355 := by omega
      have u2 : ¬ z = 356 := by omega
      rw [if_neg u1, if_neg u2, if_pos q2, if_neg u1, if_neg u2, if_pos q2]
      congr 1
      by_cases q3 : z < 357 + w
      · rw [if_pos q3, if_pos (by omega)]
      · rw [if_neg q3, if_neg (by omega)]
    · simp [q2]
theorem cpG2e {gi : Gi} {a b k : Nat} : cpG gi a b 8 k 5 0 = cpG gi a b 8 (k + 1) 0 0 := by
  funext z
  unfold cpG
  by_cases q2 : 357 ≤ z ∧ z ≤ 361
  · have u1 : ¬ z = 355 := by omega
    have u2 : ¬ z = 356 := by omega
    rw [if_neg u1, if_neg u2, if_pos q2, if_neg u1, if_neg u2, if_pos q2, if_pos (show z < 357 + 5 by omega), if_neg (show ¬ z < 357 + 0 by omega)]
  · simp [q2]
theorem cpG3 {gi : Gi} {a b k : Nat} (hab : a ≠ b) (hk : k < 12) : uI (cpG gi a b 8 96 0 k) 362 (upd (cpG gi a b 8 96 0 k 362) (12 * b + k) (cpG gi a b 8 96 0 k 362 (12 * a + k))) = cpG gi a b 8 96 0 (k + 1) := by
  funext z
  rw [uIA]
  by_cases q : z = 362
  · subst q
    rw [if_pos rfl]
    show upd (va_cpy _ _ _ _ k) _ (va_cpy _ _ _ _ k _) = va_cpy _ _ _ _ (k + 1)
    exact cpy_s (by omega)
  · rw [if_neg q]
    unfold cpG
    simp [q]
theorem s_X12_copies {gi : Gi} {gl : Gl} {a b : Nat} (ha : a < 5) (hb : b < 5) (hab : a ≠ b) {Q : Gi → Gl → Prop} (h : Q (cpG gi a b 8 96 0 12) gl) : p_X12_copies (nI a) (nI b) gi gl Q := by
  have ix : ∀ c k n : Nat, c * 5 < 1000 → k < 1000 → n * c + k < 10000 → nI n * nI c + nI k = nI (n * c + k) := fun c k n _ _ _ => by rw [pk_mul, nI_add]
  have l3 : ∀ n k, k + n = 12 → p_X12_copies_174 (nI a) (nI b) (nI k) (cpG gi a b 8 96 0 k) gl Q := by
    intro n
    induction n with
    | zero =>
      intro k hk
      obtain rfl : k = 12 := by omega
      refine v_X12_copies_174 ?_
      unfold f_X12_copies_174
      rw [if_pos (by decide)]; exact h
    | succ n ih =>
      intro k hk
      refine v_X12_copies_174 ?_
      unfold f_X12_copies_174
      rw [if_neg (by rw [show (12 : Int32) = nI 12 by rfl, nI_leI (by omega) (by omega)]; omega), show (12 : Int32) = nI 12 by rfl, pk_mul, pk_mul, nI_add, nI_add, nI_cl (by omega), nI_cl (by omega)]
      refine ⟨vp_nI (by omega) (by omega), vp_nI (by omega) (by omega), ?_⟩
      rintro gi1 rfl
      rw [cpG3 hab (by omega), nI_1]
      exact ih (k + 1) (by omega)
  have l2 : ∀ n k, k + n = 96 → p_X12_copies_50 (nI a) (nI b) (nI k) (cpG gi a b 8 k 0 0) gl Q := by
    intro n
    induction n with
    | zero =>
      intro k hk
      obtain rfl : k = 96 := by omega
      refine v_X12_copies_50 ?_
      unfold f_X12_copies_50
      rw [if_pos (by decide)]
      exact l3 12 0 rfl
    | succ n ih =>
      intro k hk
      refine v_X12_copies_50 ?_
      unfold f_X12_copies_50
      rw [if_neg (by rw [show (96 : Int32) = nI 96 by rfl, nI_leI (by omega) (by omega)]; omega), show (96 : Int32) = nI 96 by rfl, pk_mul, pk_mul, nI_add, nI_add, nI_cl (by omega), nI_cl (by omega)]
      have v1 : vp_in (nI (96 * a + k)) 480 := vp_nI (by omega) (by omega)
      have v2 : vp_in (nI (96 * b + k)) 480 := vp_nI (by omega) (by omega)
      refine ⟨v1, v2, ?_⟩
      rintro gi1 rfl
      rw [cpG2 (w := 0) hab (by omega) (by omega)]
      refine ⟨v1, v2, ?_⟩
      rintro gi1 rfl
      rw [cpG2 (w := 1) hab (by omega) (by omega)]
      refine ⟨v1, v2, ?_⟩
      rintro gi1 rfl
      rw [cpG2 (w := 2) hab (by omega) (by omega)]
      refine ⟨v1, v2, ?_⟩
      rintro gi1 rfl
      rw [cpG2 (w := 3) hab (by omega) (by omega)]
      refine ⟨v1, v2, ?_⟩
      rintro gi1 rfl
      rw [cpG2 (w := 4) hab (by omega) (by omega), cpG2e, nI_1]
      exact ih (k + 1) (by omega)
  have l1 : ∀ n k, k + n = 8 → p_X12_copies_14 (nI a) (nI b) (nI k) (cpG gi a b k 0 0 0) gl Q := by
    intro n
    induction n with
    | zero =>
      intro k hk
      obtain rfl : k = 8 := by omega
      refine v_X12_copies_14 ?_
      unfold f_X12_copies_14
      rw [if_pos (by decide)]
      exact l2 96 0 rfl
    | succ n ih =>
      intro k hk
      refine v_X12_copies_14 ?_
      unfold f_X12_copies_14
      rw [if_neg (by rw [show (8 : Int32) = nI 8 by rfl, nI_leI (by omega) (by omega)]; omega), show (8 : Int32) = nI 8 by rfl, pk_mul, pk_mul, nI_add, nI_add, nI_cl (by omega), nI_cl (by omega)]
      refine ⟨vp_nI (by omega) (by omega), vp_nI (by omega) (by omega), ?_⟩
      rintro gi1 rfl
      rw [cpG1 hab (by omega), nI_1]
      exact ih (k + 1) (by omega)
  refine v_X12_copies ?_
  unfold f_X12_copies
  refine ⟨vp_nI ha (by omega), vp_nI hb (by omega), ?_⟩
  rintro gi1 rfl
  rw [nI_cl (by omega), nI_cl (by omega)]
  have e : uI gi 355 (upd (gi 355) b (gi 355 a)) = cpG gi a b 0 0 0 0 := by
    funext z
    unfold cpG
    rw [uIA]
    by_cases q : z = 355
    · simp [q]
    · rw [if_neg q, if_neg q]
      by_cases q2 : z = 356
      · subst q2; rw [if_pos rfl, cpy_0]
      · rw [if_neg q2]
        by_cases q3 : 357 ≤ z ∧ z ≤ 361
        · rw [if_pos q3, if_neg (show ¬ z < 357 + 0 by omega), cpy_0]
        · rw [if_neg q3]
          by_cases q4 : z = 362
          · subst q4; rw [if_pos rfl, cpy_0]
          · rw [if_neg q4]
  rw [e]
  exact l1 8 0 rfl
theorem cpG_off {gi : Gi} {a b : Nat} {z : Nat} (h : z < 355 ∨ 362 < z) : cpG gi a b 8 96 0 12 z = gi z := by
  unfold cpG
  rw [if_neg (by omega), if_neg (by omega), if_neg (by omega), if_neg (by omega)]
/-- an album copied -/
theorem mAlb_copy {A : Alb} {gi : Gi} {a b : Nat} (hA : A.1 ≤ 8) (hP : ∀ i, i < A.1 → (A.2.1 i).1 ≤ 12) (m : mAlb A gi a) : mAlb A (cpG gi a b 8 96 0 12) b := by
  refine ⟨?_, fun i hi => ⟨?_, fun k hk w hw => ?_⟩, fun j hj => ?_⟩
  · show upd (gi 355) b (gi 355 a) b = _
    rw [upd_s]; exact m.1
  · show va_cpy (gi 356) (gi 356) (8 * a) (8 * b) 8 (8 * b + i) = _
    rw [pk_cpy_in (by omega) (by omega), show 8 * a + (8 * b + i - 8 * b) = 8 * a + i by omega]; exact (m.2.1 i hi).1
  · have hk12 := hP i hi
    have e : cpG gi a b 8 96 0 12 (357 + w) = va_cpy (gi (357 + w)) (gi (357 + w)) (96 * a) (96 * b) 96 := by
      unfold cpG
      rw [if_neg (by omega), if_neg (by omega), if_pos (by omega), if_neg (by omega)]
    rw [e, pk_cpy_in (by omega) (by omega), show 96 * a + (96 * b + 12 * i + k - 96 * b) = 96 * a + 12 * i + k by omega]; exact (m.2.1 i hi).2 k hk w hw
  · show va_cpy (gi 362) (gi 362) (12 * a) (12 * b) 12 (12 * b + j) = _
    rw [pk_cpy_in (by omega) (by omega), show 12 * a + (12 * b + j - 12 * b) = 12 * a + j by omega]; exact m.2.2 j hj
/-- another one stays -/
theorem mAlb_stay {A : Alb} {gi : Gi} {a b c : Nat} (hA : A.1 ≤ 8) (hP : ∀ i, i < A.1 → (A.2.1 i).1 ≤ 12) (hc : c ≠ b) (m : mAlb A gi c) : mAlb A (cpG gi a b 8 96 0 12) c := by
  refine ⟨?_, fun i hi => ⟨?_, fun k hk w hw => ?_⟩, fun j hj => ?_⟩
  · show upd (gi 355) b (gi 355 a) c = _
    rw [upd_n hc]; exact m.1
  · show va_cpy (gi 356) (gi 356) (8 * a) (8 * b) 8 (8 * c + i) = _
    rw [pk_cpy_out (by omega)]; exact (m.2.1 i hi).1
  · have hk12 := hP i hi
    have e : cpG gi a b 8 96 0 12 (357 + w) = va_cpy (gi (357 + w)) (gi (357 + w)) (96 * a) (96 * b) 96 := by
      unfold cpG
      rw [if_neg (by omega), if_neg (by omega), if_pos (by omega), if_neg (by omega)]
    rw [e, pk_cpy_out (by omega)]; exact (m.2.1 i hi).2 k hk w hw
  · show va_cpy (gi 362) (gi 362) (12 * a) (12 * b) 12 (12 * c + j) = _
    rw [pk_cpy_out (by omega)]; exact m.2.2 j hj
def dImage (σ : Sta) : Sta := (sN_ σ, sTape σ, sFault σ, sTowns σ, sTown σ, sShown σ, sKept σ + 1, fun i => if i = sKept σ then sShown σ else sKeep σ i)
def dBack (σ : Sta) (i : Nat) : Sta := (sN_ σ, sTape σ, sFault σ, sTowns σ, sTown σ, sKeep σ i, sKept σ, sKeep σ)
theorem vAlb.le {T : Twn} {A : Alb} (h : vAlb T A) : ∀ i, i < A.1 → (A.2.1 i).1 ≤ 12 := fun i hi => (h.2.1 i hi).2.1
theorem m_image {σ : Sta} {gi : Gi} {gl : Gl} {Q : Int32 → Gi → Gl → Prop} (V : vSta σ) (m : MI σ gi gl) (h1 : sKept σ < 4 → ∀ gi', MI (dImage σ) gi' gl → FrM gi gl gi' gl → Q (nI (sKept σ)) gi' gl) (h2 : sKept σ = 4 → Q (-1) gi gl) : p_X12_image gi gl Q := by
  refine v_X12_image ?_
  unfold f_X12_image
  obtain ⟨m1, m2, m3, m4, m5, ⟨p, hp, m6, m7⟩, m8, m9, m10, m11⟩ := m
  have hk : sKept σ ≤ 4 := V.2.2.2.2.1
  rw [m5]
  by_cases q : sKept σ = 4
  · rw [if_neg (by rw [q]; decide)]; exact h2 q
  · rw [if_pos (by rw [show (4 : Int32) = nI 4 by rfl, nI_eq (by omega) (by omega)]; exact q)]
    rintro gi1 rfl
    rw [nI_1]
    have e67 : uI gi 329 (upd (gi 329) 67 (nI (sKept σ + 1))) 329 67 = nI (sKept σ + 1) := by rw [uI_s, upd_s]
    rw [e67]
    refine s_X12_copies (a := 0) (by omega) (by omega) (by omega) ?_
    generalize hg : uI gi 329 (upd (gi 329) 67 (nI (sKept σ + 1))) = g1 at *
    have f1 : ∀ z, z ≠ 329 → g1 z = gi z := fun z hz => by rw [← hg]; exact uI_n hz
    have f2 : ∀ k, k ≠ 67 → g1 329 k = gi 329 k := fun k hk => by rw [← hg, uI_s, upd_n hk]
    have e329 : cpG g1 0 (sKept σ + 1) 8 96 0 12 329 = g1 329 := cpG_off (by omega)
    rw [e329, e67, show nI (sKept σ + 1) - 1 = nI (sKept σ) from nI_pred _]
    have V4 := V.2.2.2.1
    have V6 := V.2.2.2.2.2.1
    have c8 : mAlb (sShown σ) g1 0 := mAlb_congr (fun c _ _ => f1 c (by omega)) m8
    refine h1 (by omega) _ ⟨by rw [e329, f2 _ (by omega)]; exact m1, fun j hj => by rw [cpG_off (by omega), f1 _ (by omega)]; exact m2 j hj, by rw [e329, f2 _ (by omega)]; exact m3, by rw [e329, f2 _ (by omega)]; exact m4, by rw [e329, e67]; rfl, ⟨p, hp, by rw [e329, f2 _ (by omega)]; exact m6, mTown_congr (fun b _ _ => by rw [cpG_off (by omega), f1 _ (by omega)]) m7⟩, mAlb_stay V4.1 V4.le (by omega) c8, fun i hi => ?_, by rw [e329, f2 _ (by omega)]; exact m10, by rw [e329, f2 _ (by omega)]; exact m11⟩ (fun z hz => ⟨by rw [cpG_off (by omega), f1 _ (by omega)], rfl⟩)
    show mAlb (if i = sKept σ then sShown σ else sKeep σ i) _ _
    have hi : i < sKept σ + 1 := hi
    by_cases qi : i = sKept σ
    · rw [if_pos qi, qi]; exact mAlb_copy V4.1 V4.le c8
    · rw [if_neg qi]
      exact mAlb_stay (V6 i (by omega)).1 (V6 i (by omega)).le (by omega) (mAlb_congr (fun c _ _ => f1 c (by omega)) (m9 i (by omega)))
theorem m_back {σ : Sta} {gi : Gi} {gl : Gl} {x : Int32} {Q : Int32 → Gi → Gl → Prop} (V : vSta σ) (m : MI σ gi gl) (h1 : ∀ i, i < sKept σ → x = nI i → ∀ gi', MI (dBack σ i) gi' gl → FrM gi gl gi' gl → Q 1 gi' gl) (h2 : (x.toInt < 0 ∨ (sKept σ : Int) ≤ x.toInt) → Q 0 gi gl) : p_X12_back x gi gl Q := by
  refine v_X12_back ?_
  unfold f_X12_back
  obtain ⟨m1, m2, m3, m4, m5, ⟨p, hp, m6, m7⟩, m8, m9, m10, m11⟩ := m
  have hk : sKept σ ≤ 4 := V.2.2.2.2.1
  refine s_X12_within ?_
  have e1 : (gi 329 67 - 1).toInt = (sKept σ : Int) - 1 := by
    rw [m5, show (1 : Int32) = iI 1 by rfl, ← iI_n, iI_sub, iI_toInt (by omega) (by omega)]
  rw [e1, show ((0 : Int32).toInt) = 0 by rfl]
  rcases ix_cases x (sKept σ) (by omega) with ⟨i, hi, rfl⟩ | hx
  · have hxi : (nI i).toInt = i := nI_tI (by omega)
    rw [show (decide (0 ≤ (nI i).toInt) && decide ((nI i).toInt ≤ (sKept σ : Int) - 1)) = true by simp; omega, b2i_t, if_pos (by decide), nI_1]
    refine s_X12_copies (b := 0) (by omega) (by omega) (by omega) ?_
    have e329 : cpG gi (i + 1) 0 8 96 0 12 329 = gi 329 := cpG_off (by omega)
    have V6 := V.2.2.2.2.2.1
    exact h1 i hi rfl _ ⟨by rw [e329]; exact m1, fun j hj => by rw [cpG_off (by omega)]; exact m2 j hj, by rw [e329]; exact m3, by rw [e329]; exact m4, by rw [e329]; exact m5, ⟨p, hp, by rw [e329]; exact m6, mTown_congr (fun b _ _ => by rw [cpG_off (by omega)]) m7⟩, mAlb_copy (V6 i hi).1 (V6 i hi).le (m9 i hi), fun j hj => mAlb_stay (V6 j hj).1 (V6 j hj).le (by omega) (m9 j hj), by rw [e329]; exact m10, by rw [e329]; exact m11⟩ (fun z hz => ⟨cpG_off (by omega), rfl⟩)
  · rw [show (decide (0 ≤ x.toInt) && decide (x.toInt ≤ (sKept σ : Int) - 1)) = false by simp; omega, b2i_f, if_neg (by decide)]
    exact h2 hx
