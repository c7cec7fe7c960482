/-! THE REFERENCE, two: fault, weights, counts, signs, what was told, images -/
def FrM (gi : Gi) (gl : Gl) (gi' : Gi) (gl' : Gl) : Prop := ∀ z, z < 329 → gi' z = gi z ∧ gl' z = gl z
theorem FrM.rf {gi : Gi} {gl : Gl} : FrM gi gl gi gl := fun _ _ => ⟨rfl, rfl⟩
theorem FrM.tr {gi gi' gi'' : Gi} {gl gl' gl'' : Gl} (h : FrM gi gl gi' gl') (k : FrM gi' gl' gi'' gl'') : FrM gi gl gi'' gl'' := fun z hz => ⟨(k z hz).1.trans (h z hz).1, (k z hz).2.trans (h z hz).2⟩
/-- the number of a picture that is told -/
def isP (A : Alb) (x : Int32) : Bool := decide (0 ≤ x.toInt) && decide (x.toInt < A.1)
theorem isP_of {A : Alb} {x : Int32} (h : isP A x = true) (hA : A.1 ≤ 8) : ∃ i, i < A.1 ∧ x = nI i ∧ x.toInt.toNat = i := by
  simp [isP] at h
  refine ⟨x.toInt.toNat, by omega, ?_, rfl⟩
  rw [← iI_n, Int.toNat_of_nonneg h.1]
  exact iI_of x
theorem cl0 : (0 : Int32).toNatClampNeg = 0 := rfl
theorem s_X12_isPicture {A : Alb} {x : Int32} {gi : Gi} {gl : Gl} {Q : Int32 → Gi → Gl → Prop} (hA : A.1 ≤ 8) (hg : gi 355 0 = nI A.1) (k : Q (b2i (isP A x)) gi gl) : p_X12_isPicture x gi gl Q := by
  refine v_X12_isPicture ?_
  unfold f_X12_isPicture
  rw [cl0, hg]
  have e1 : (x < 0) ↔ x.toInt < 0 := by rw [lt_toInt]; rfl
  have e2 : (nI A.1 ≤ x) ↔ (A.1 : Int) ≤ x.toInt := by rw [le_toInt, nI_tI (by omega)]
  simp only [e1, e2]
  unfold isP at k
  by_cases h1 : x.toInt < 0
  · rw [if_pos h1]; rw [show (decide (0 ≤ x.toInt) && decide (x.toInt < (A.1 : Int))) = false by simp; omega] at k; exact k
  · rw [if_neg h1]
    by_cases h2 : (A.1 : Int) ≤ x.toInt
    · rw [if_pos h2]; rw [show (decide (0 ≤ x.toInt) && decide (x.toInt < (A.1 : Int))) = false by simp; omega] at k; exact k
    · rw [if_neg h2]; rw [show (decide (0 ≤ x.toInt) && decide (x.toInt < (A.1 : Int))) = true by simp; omega] at k; exact k
def isS (A : Alb) (x k : Int32) : Bool := isP A x && (decide (0 ≤ k.toInt) && decide (k.toInt < (A.2.1 x.toInt.toNat).1))
theorem MI.sh {σ : Sta} {gi : Gi} {gl : Gl} (m : MI σ gi gl) : mAlb (sShown σ) gi 0 := m.2.2.2.2.2.2.1
theorem MI.many {σ : Sta} {gi : Gi} {gl : Gl} (m : MI σ gi gl) {i : Nat} (hi : i < (sShown σ).1) : gi 356 i = nI ((sShown σ).2.1 i).1 := by
  have := (m.sh.2.1 i hi).1
  rwa [Nat.mul_zero, Nat.zero_add] at this
theorem MI.sgn {σ : Sta} {gi : Gi} {gl : Gl} (m : MI σ gi gl) {i : Nat} (hi : i < (sShown σ).1) {k : Nat} (hk : k < ((sShown σ).2.1 i).1) {w : Nat} (hw : w < 5) : gi (357 + w) (12 * i + k) = iI (((sShown σ).2.1 i).2 k w) := by
  have := (m.sh.2.1 i hi).2 k hk w hw
  rwa [Nat.mul_zero, Nat.zero_add] at this
theorem MI.np {σ : Sta} {gi : Gi} {gl : Gl} (m : MI σ gi gl) : gi 355 0 = nI (sShown σ).1 := m.sh.1
theorem s_X12_isSign {σ : Sta} {x y : Int32} {gi : Gi} {gl : Gl} {Q : Int32 → Gi → Gl → Prop} (V : vSta σ) (m : MI σ gi gl) (k : Q (b2i (isS (sShown σ) x y)) gi gl) : p_X12_isSign x y gi gl Q := by
  refine v_X12_isSign ?_
  unfold f_X12_isSign
  have hA := V.2.2.2.1
  refine s_X12_isPicture hA.1 m.np ?_
  unfold isS at k
  cases hp : isP (sShown σ) x with
  | false => rw [b2i_f, if_pos rfl]; rw [hp] at k; exact k
  | true =>
    rw [hp, Bool.true_and] at k
    rw [b2i_t, if_neg (by decide)]
    obtain ⟨i, hi, rfl, e⟩ := isP_of hp hA.1
    rw [e] at k
    have hA8 : (sShown σ).1 ≤ 8 := hA.1
    have hc := (hA.2.1 i hi).2.1
    have e1 : (y < 0) ↔ y.toInt < 0 := by rw [lt_toInt]; rfl
    have e2 : (nI ((sShown σ).2.1 i).1 ≤ y) ↔ (((sShown σ).2.1 i).1 : Int) ≤ y.toInt := by rw [le_toInt, nI_tI (by omega)]
    rw [nI_cl (by omega), m.many hi]
    simp only [e1, e2]
    by_cases h1 : y.toInt < 0
    · rw [if_pos h1]; rw [show (decide (0 ≤ y.toInt) && decide (y.toInt < (((sShown σ).2.1 i).1 : Int))) = false by simp; omega] at k; exact k
    · rw [if_neg h1]
      refine ⟨vp_nI (by omega) (by omega), ?_⟩
      by_cases h2 : (((sShown σ).2.1 i).1 : Int) ≤ y.toInt
      · rw [if_pos h2]; rw [show (decide (0 ≤ y.toInt) && decide (y.toInt < (((sShown σ).2.1 i).1 : Int))) = false by simp; omega] at k; exact k
      · rw [if_neg h2]; rw [show (decide (0 ≤ y.toInt) && decide (y.toInt < (((sShown σ).2.1 i).1 : Int))) = true by simp; omega] at k; exact k
theorem m_fault {σ : Sta} {gi : Gi} {gl : Gl} {Q : Int32 → Gi → Gl → Prop} (m : MI σ gi gl) (h : Q (iI (sFault σ)) gi gl) : p_X12_fault gi gl Q := by
  refine v_X12_fault ?_
  unfold f_X12_fault
  rw [m.2.2.1]; exact h
/-! weights -/
def okW (x y : Int32) : Bool := (decide (0 ≤ x.toInt) && decide (x.toInt ≤ 11)) && (decide (0 ≤ y.toInt) && decide (y.toInt ≤ 99))
def dWeight (σ : Sta) (x y : Int32) : Sta := (sN_ σ, sTape σ, sFault σ, sTowns σ, sTown σ, ((sShown σ).1, (sShown σ).2.1, fun m => if m = x.toInt.toNat then y.toInt.toNat else (sShown σ).2.2 m), sKept σ, sKeep σ)
theorem int_of {x : Int32} {n : Nat} (h : 0 ≤ x.toInt) (e : x.toInt.toNat = n) : x = nI n := by
  rw [← e, ← iI_n, Int.toNat_of_nonneg h]; exact iI_of x
theorem m_weight {σ : Sta} {gi : Gi} {gl : Gl} {x y : Int32} {Q : Int32 → Gi → Gl → Prop} (m : MI σ gi gl) (h1 : okW x y = true → ∀ gi', MI (dWeight σ x y) gi' gl → FrM gi gl gi' gl → Q 1 gi' gl) (h2 : okW x y = false → Q 0 gi gl) : p_X12_weight x y gi gl Q := by
  refine v_X12_weight ?_
  unfold f_X12_weight
  refine s_X12_within ?_
  unfold okW at h1 h2
  rw [show ((0 : Int32).toInt) = 0 by rfl, show ((11 : Int32).toInt) = 11 by rfl]
  cases hx : (decide (0 ≤ x.toInt) && decide (x.toInt ≤ 11)) with
  | false => rw [b2i_f, if_pos rfl]; exact h2 (by rw [hx]; rfl)
  | true =>
    rw [b2i_t, if_neg (by decide)]
    refine s_X12_within ?_
    rw [show ((0 : Int32).toInt) = 0 by rfl, show ((99 : Int32).toInt) = 99 by rfl]
    cases hy : (decide (0 ≤ y.toInt) && decide (y.toInt ≤ 99)) with
    | false => rw [b2i_f, if_neg (by decide)]; exact h2 (by rw [hx, hy]; rfl)
    | true =>
      rw [b2i_t, if_pos (by decide)]
      simp at hx hy
      have hxe := int_of hx.1 rfl
      have hye := int_of hy.1 rfl
      generalize hi : x.toInt.toNat = i at *
      generalize hj : y.toInt.toNat = j at *
      have hi12 : i < 12 := by omega
      refine ⟨by rw [hxe]; exact vp_nI (by omega) (by omega), ?_⟩
      rintro gi7 rfl
      refine h1 (by rw [show (decide (0 ≤ x.toInt) && decide (x.toInt ≤ 11)) = true by simp; omega, show (decide (0 ≤ y.toInt) && decide (y.toInt ≤ 99)) = true by simp; omega]; rfl) _ ?_ (fun z hz => ⟨uI_n (by omega), rfl⟩)
      obtain ⟨m1, m2, m3, m4, m5, ⟨p, hp, m6, m7⟩, m8, m9, m10, m11⟩ := m
      have f : ∀ z, z ≠ 362 → uI gi 362 (upd (gi 362) x.toNatClampNeg y) z = gi z := fun z q => uI_n q
      have ex : x.toNatClampNeg = i := by rw [hxe]; exact nI_cl (by omega)
      refine ⟨by rw [f _ (by omega)]; exact m1, fun j hj => by rw [f _ (by omega)]; exact m2 j hj, by rw [f _ (by omega)]; exact m3, by rw [f _ (by omega)]; exact m4, by rw [f _ (by omega)]; exact m5, ⟨p, hp, by rw [f _ (by omega)]; exact m6, mTown_congr (fun z q1 q2 => f z (by omega)) m7⟩, ⟨by rw [f _ (by omega)]; exact m8.1, fun i hi => ⟨by rw [f _ (by omega)]; exact (m8.2.1 i hi).1, fun k hk w hw => by rw [f _ (by omega)]; exact (m8.2.1 i hi).2 k hk w hw⟩, fun q hq => ?_⟩, fun k hk => ⟨by rw [f _ (by omega)]; exact (m9 k hk).1, fun i hi => ⟨by rw [f _ (by omega)]; exact ((m9 k hk).2.1 i hi).1, fun k2 hk2 w hw => by rw [f _ (by omega)]; exact ((m9 k hk).2.1 i hi).2 k2 hk2 w hw⟩, fun q hq => ?_⟩, by rw [f _ (by omega)]; exact m10, by rw [f _ (by omega)]; exact m11⟩
      · rw [uI_s, ex, updA]
        show _ = nI (if q = x.toInt.toNat then y.toInt.toNat else (sShown σ).2.2 q)
        rw [hi, hj]
        by_cases e : q = i
        · subst e; simp [hye]
        · rw [if_neg (by omega), if_neg e]; exact m8.2.2 q hq
      · rw [uI_s, ex, updA, if_neg (by omega)]; exact (m9 k hk).2.2 q hq
/-! counts -/
def aCount (σ : Sta) (w : Int32) : Int32 :=
  if 10 ≤ w.toInt ∧ w.toInt ≤ 21 then nI ((sShown σ).2.2 (w.toInt - 10).toNat) else if w = 0 then nI (sTowns σ) else if w = 1 then nI (sShown σ).1 else if w = 2 then nI (sN_ σ) else if w = 3 then nI (sKept σ)
  else if w = 4 then nI (sumN (fun i => ((sShown σ).2.1 i).1) (sShown σ).1) else -1
theorem s_X12_signsInAll {σ : Sta} {gi : Gi} {gl : Gl} {Q : Int32 → Gi → Gl → Prop} (V : vSta σ) (m : MI σ gi gl) (k : Q (nI (sumN (fun i => ((sShown σ).2.1 i).1) (sShown σ).1)) gi gl) : p_X12_signsInAll gi gl Q := by
  refine v_X12_signsInAll ?_
  unfold f_X12_signsInAll
  have hA := V.2.2.2.1.1
  have lp : ∀ n i, i + n = (sShown σ).1 → p_X12_signsInAll_4 (nI (sumN (fun i => ((sShown σ).2.1 i).1) i)) (nI i) gi gl Q := by
    intro n
    induction n with
    | zero =>
      intro i hi
      refine v_X12_signsInAll_4 ?_
      unfold f_X12_signsInAll_4
      rw [cl0, m.np, if_pos (by rw [nI_leI (by omega) (by omega)]; omega)]
      obtain rfl : i = (sShown σ).1 := by omega
      exact k
    | succ n ih =>
      intro i hi
      refine v_X12_signsInAll_4 ?_
      unfold f_X12_signsInAll_4
      rw [cl0, m.np, if_neg (by rw [nI_leI (by omega) (by omega)]; omega)]
      refine ⟨vp_nI (by omega) (by omega), ?_⟩
      rintro z1 rfl
      rw [nI_cl (by omega), m.many (by omega), nI_add, nI_1]
      exact ih (i + 1) (by omega)
  exact lp (sShown σ).1 0 (by omega)
theorem m_count {σ : Sta} {gi : Gi} {gl : Gl} {x : Int32} {Q : Int32 → Gi → Gl → Prop} (V : vSta σ) (m : MI σ gi gl) (h : Q (aCount σ x) gi gl) : p_X12_count x gi gl Q := by
  refine v_X12_count ?_
  unfold f_X12_count
  refine s_X12_within ?_
  rw [show ((10 : Int32).toInt) = 10 by rfl, show ((21 : Int32).toInt) = 21 by rfl]
  unfold aCount at h
  by_cases hx : 10 ≤ x.toInt ∧ x.toInt ≤ 21
  · rw [if_pos hx] at h
    rw [show (decide (10 ≤ x.toInt) && decide (x.toInt ≤ 21)) = true by simp; omega, b2i_t, if_neg (by decide)]
    have e : x - 10 = nI (x.toInt - 10).toNat := by
      rw [← iI_n, Int.toNat_of_nonneg (by omega), ← iI_sub, ← iI_of]; rfl
    rw [e]
    refine ⟨vp_nI (by omega) (by omega), ?_⟩
    have := m.sh.2.2 (x.toInt - 10).toNat (by omega)
    rw [Nat.mul_zero, Nat.zero_add] at this
    rw [nI_cl (by omega), this]
    exact h
  · rw [if_neg hx] at h
    rw [show (decide (10 ≤ x.toInt) && decide (x.toInt ≤ 21)) = false by simp; omega, b2i_f, if_pos rfl]
    by_cases h0 : x = 0
    · rw [if_pos h0] at h ⊢; rw [m.2.2.2.1]; exact h
    · rw [if_neg h0] at h ⊢
      by_cases h1 : x = 1
      · rw [if_pos h1] at h ⊢; rw [cl0, m.np]; exact h
      · rw [if_neg h1] at h ⊢
        by_cases h2 : x = 2
        · rw [if_pos h2] at h ⊢; rw [m.1]; exact h
        · rw [if_neg h2] at h ⊢
          by_cases h3 : x = 3
          · rw [if_pos h3] at h ⊢; rw [m.2.2.2.2.1]; exact h
          · rw [if_neg h3] at h ⊢
            by_cases h4 : x = 4
            · rw [if_pos h4] at h ⊢; exact s_X12_signsInAll V m h
            · rw [if_neg h4] at h ⊢; exact h
/-! a sign's numbers -/
def aSign (A : Alb) (x k w : Int32) : Int32 := if isS A x k = true ∧ 0 ≤ w.toInt ∧ w.toInt ≤ 4 then iI ((A.2.1 x.toInt.toNat).2 k.toInt.toNat w.toInt.toNat) else -1
theorem five_of {w : Int32} (h0 : 0 ≤ w.toInt) (h : w.toInt ≤ 4) : w = 0 ∨ w = 1 ∨ w = 2 ∨ w = 3 ∨ w = 4 := by
  have e := int_of h0 rfl
  rcases (show w.toInt.toNat = 0 ∨ w.toInt.toNat = 1 ∨ w.toInt.toNat = 2 ∨ w.toInt.toNat = 3 ∨ w.toInt.toNat = 4 by omega) with q | q | q | q | q <;> rw [q] at e <;> simp [e] <;> decide
theorem m_sign {σ : Sta} {gi : Gi} {gl : Gl} {x y w : Int32} {Q : Int32 → Gi → Gl → Prop} (V : vSta σ) (m : MI σ gi gl) (h : Q (aSign (sShown σ) x y w) gi gl) : p_X12_sign x y w gi gl Q := by
  refine v_X12_sign ?_
  unfold f_X12_sign
  refine s_X12_isSign V m ?_
  unfold aSign at h
  cases hs : isS (sShown σ) x y with
  | false => rw [b2i_f, if_pos rfl]; rw [if_neg (by rw [hs]; simp)] at h; exact h
  | true =>
    rw [b2i_t, if_neg (by decide)]
    refine s_X12_within ?_
    rw [show ((0 : Int32).toInt) = 0 by rfl, show ((4 : Int32).toInt) = 4 by rfl]
    by_cases hw : 0 ≤ w.toInt ∧ w.toInt ≤ 4
    · rw [show (decide (0 ≤ w.toInt) && decide (w.toInt ≤ 4)) = true by simp; omega, b2i_t, if_pos (by decide)]
      rw [if_pos ⟨hs, hw⟩] at h
      unfold isS at hs
      rw [Bool.and_eq_true] at hs
      have hA := V.2.2.2.1
      obtain ⟨i, hi, rfl, e⟩ := isP_of hs.1 hA.1
      have hs2 := hs.2
      rw [e] at hs2 h
      simp at hs2
      have hA8 : (sShown σ).1 ≤ 8 := hA.1
      have hc := (hA.2.1 i hi).2.1
      have hye := int_of hs2.1 rfl
      generalize hj : y.toInt.toNat = j at *
      have hj2 : j < ((sShown σ).2.1 i).1 := by omega
      rintro z7 rfl
      have ez : (12 : Int32) * nI i + y = nI (12 * i + j) := by
        rw [hye, show (12 : Int32) * nI i = nI (12 * i) from pk_mul 12 i, nI_add]
      rw [ez, nI_cl (by omega)]
      have hv : vp_in (nI (12 * i + j)) 480 := vp_nI (by omega) (by omega)
      rcases five_of hw.1 hw.2 with rfl | rfl | rfl | rfl | rfl
      · rw [if_neg (by decide)]; refine ⟨hv, ?_⟩; rw [m.sgn hi hj2 (w := 0) (by omega)]; exact h
      · rw [if_pos (by decide), if_neg (by decide)]; refine ⟨hv, ?_⟩; rw [m.sgn hi hj2 (w := 1) (by omega)]; exact h
      · rw [if_pos (by decide), if_pos (by decide), if_neg (by decide)]; refine ⟨hv, ?_⟩; rw [m.sgn hi hj2 (w := 2) (by omega)]; exact h
      · rw [if_pos (by decide), if_pos (by decide), if_pos (by decide), if_neg (by decide)]; refine ⟨hv, ?_⟩; rw [m.sgn hi hj2 (w := 3) (by omega)]; exact h
      · rw [if_pos (by decide), if_pos (by decide), if_pos (by decide), if_pos (by decide)]; refine ⟨hv, ?_⟩; rw [m.sgn hi hj2 (w := 4) (by omega)]; exact h
    · rw [show (decide (0 ≤ w.toInt) && decide (w.toInt ≤ 4)) = false by simp; omega, b2i_f, if_neg (by decide)]
      rw [if_neg (fun q => hw q.2)] at h; exact h
