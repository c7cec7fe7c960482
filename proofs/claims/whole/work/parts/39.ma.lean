/-! THE REFERENCE, nine: all, days -/
theorem sumN_s (f : Nat → Nat) (n : Nat) : sumN f (n + 1) = sumN f n + f n := rfl
theorem sumN_mono {f : Nat → Nat} {a b : Nat} (h : a ≤ b) : sumN f a ≤ sumN f b := by
  obtain ⟨e, rfl⟩ : ∃ e, b = a + e := ⟨b - a, by omega⟩
  induction e with
  | zero => exact Nat.le_refl _
  | succ e ih => exact Nat.le_trans (ih (by omega)) (Nat.le_add_right _ _)
theorem cntN_mono {f : Nat → Bool} {a b : Nat} (h : a ≤ b) : cntN f a ≤ cntN f b := sumN_mono h
/-- the one of them that has k before it -/
def selN (f : Nat → Bool) (k : Nat) : Nat → Nat
  | 0 => 0
  | n + 1 => if f n = true ∧ cntN f n = k then n else selN f k n
theorem selN_eq {f : Nat → Bool} {k d N : Nat} (hd : d < N) (hf : f d = true) (hk : cntN f d = k) : selN f k N = d := by
  induction N with
  | zero => omega
  | succ n ih =>
    unfold selN
    by_cases h : n = d
    · subst h; rw [if_pos ⟨hf, hk⟩]
    · have h1 := cntN_mono (f := f) (show d + 1 ≤ n by omega)
      rw [cntN_s, if_pos hf] at h1
      rw [if_neg (by rintro ⟨-, q⟩; omega)]
      exact ih (by omega)
def selS (f : Nat → Nat) (k : Nat) : Nat → Nat
  | 0 => 0
  | n + 1 => if sumN f n ≤ k ∧ k < sumN f (n + 1) then n else selS f k n
theorem selS_eq {f : Nat → Nat} {k d N : Nat} (hd : d < N) (h1 : sumN f d ≤ k) (h2 : k < sumN f (d + 1)) : selS f k N = d := by
  induction N with
  | zero => omega
  | succ n ih =>
    unfold selS
    by_cases h : n = d
    · subst h; rw [if_pos ⟨h1, h2⟩]
    · have h3 := sumN_mono (f := f) (show d + 1 ≤ n by omega)
      rw [if_neg (by rintro ⟨q, -⟩; omega)]
      exact ih (by omega)
/-- what a day has of minutes -/
def mOn (T : Twn) (la : Int) (su : Int × Int) (P : Pic) (d : Nat) : Nat := if pD T la su P d then pCnt T P (mth d) else 0
theorem pCnt_le {T : Twn} {P : Pic} {m : Nat} : pCnt T P m ≤ 720 := cntN_le
theorem mOn_le {T : Twn} {la : Int} {su : Int × Int} {P : Pic} {d : Nat} : mOn T la su P d ≤ 720 := by
  unfold mOn; split
  · exact pCnt_le
  · omega
/-- what is found lies there -/
def Fnd (T : Twn) (la : Int) (su : Int × Int) (P : Pic) (g : Gi) : Prop :=
  (∀ d, d < 3600 → g 364 d = b2i (pD T la su P d)) ∧ (∀ m t, m < 12 → t < 720 → g 365 (720 * m + t) = b2i (pM T P m t)) ∧ (∀ m, m < 12 → g 366 m = nI (pCnt T P m))
theorem Fnd.congr {T : Twn} {la : Int} {su : Int × Int} {P : Pic} {g g' : Gi} (h : Fnd T la su P g) (e : ∀ z, 364 ≤ z → z ≤ 366 → g' z = g z) : Fnd T la su P g' :=
  ⟨fun d hd => by rw [e _ (by omega) (by omega)]; exact h.1 d hd, fun m t hm ht => by rw [e _ (by omega) (by omega)]; exact h.2.1 m t hm ht, fun m hm => by rw [e _ (by omega) (by omega)]; exact h.2.2 m hm⟩
/-- the reference's scratch -/
def Sc (gi gi' : Gi) : Prop := (∀ z, z < 364 → z ≠ 329 → gi' z = gi z) ∧ ∀ k, k ≠ 46 ∧ k ≠ 47 ∧ k ≠ 48 → gi' 329 k = gi 329 k
theorem Sc.rf {gi : Gi} : Sc gi gi := ⟨fun _ _ _ => rfl, fun _ _ => rfl⟩
theorem Sc.tr {a b c : Gi} (h : Sc a b) (k : Sc b c) : Sc a c := ⟨fun z h1 h2 => (k.1 z h1 h2).trans (h.1 z h1 h2), fun j hj => (k.2 j hj).trans (h.2 j hj)⟩
theorem Sn.Sc {a b : Gi} (h : Sn a b) : Sc a b := ⟨fun z _ h2 => h.1 z h2, h.2⟩
theorem Sc.I {σ : Sta} {gi gi' : Gi} {gl : Gl} (h : Sc gi gi') (m : MI σ gi gl) : MI σ gi' gl :=
  MI_frame m (fun c _ _ => h.1 c (by omega) (by omega)) (fun k hk => h.2 k (by omega))
theorem Sc.F {gi gi' : Gi} {gl : Gl} (h : Sc gi gi') : FrM gi gl gi' gl := fun z hz => ⟨h.1 z (by omega) (by omega), rfl⟩
theorem Sc.E {T : Twn} {p : Nat} {la : Int} {su : Int × Int} {gi gi' : Gi} {gl : Gl} (h : Sc gi gi') (m : ME T p la su gi gl) : ME T p la su gi' gl :=
  m.congr (fun b _ _ => h.1 b (by omega) (by omega)) ⟨h.2 _ (by omega), h.2 _ (by omega), h.2 _ (by omega), h.2 _ (by omega)⟩
section DA
variable {T : Twn} {p : Nat} {la : Int} {su : Int × Int} {gi : Gi} {gl : Gl} {P : Pic} {x : Nat}
/-- cells above 366 too -/
theorem s_X12_finds {Q : Gi → Gl → Prop} (m : ME T p la su gi gl) (hP : mPic P x gi) (vP : ∀ k, k < P.1 → vSign T (P.2 k))
    (h : ∀ gi', Sc gi gi' → (∀ z, 366 < z → gi' z = gi z) → Fnd T la su P gi' → Q gi' gl) : p_X12_finds (nI x) gi gl Q := by
  refine v_X12_finds ?_
  unfold f_X12_finds
  refine s_X12_findDays m hP vP (fun g1 h1 h2 => ?_)
  refine s_X12_findMinutes (m.congr (fun b _ _ => h1 b (by omega)) ⟨by rw [h1 _ (by omega)], by rw [h1 _ (by omega)], by rw [h1 _ (by omega)], by rw [h1 _ (by omega)]⟩) (hP.congr (fun z _ _ => h1 z (by omega))) vP (fun g2 h3 => ?_)
  refine h g2 ⟨fun z a b => ?_, fun k hk => ?_⟩ (fun z a => ?_) ⟨fun d hd => ?_, fun m' t' a b => ?_, fun m' a => ?_⟩
  · rw [h3.1 z b (by omega) (by omega), h1 z (by omega)]
  · rw [h3.2.1 k hk, h1 329 (by omega)]
  · rw [h3.1 z (by omega) (by omega) (by omega), h1 z (by omega)]
  · rw [h3.1 364 (by omega) (by omega) (by omega)]; exact h2 d hd
  · exact h3.2.2.1 m' t' b (by omega)
  · exact h3.2.2.2 m' a
theorem s_X12_minutesOn {Q : Int32 → Gi → Gl → Prop} (hf : Fnd T la su P gi) {d : Nat} (hd : d < 3600) (h : Q (nI (mOn T la su P d)) gi gl) : p_X12_minutesOn (nI d) gi gl Q := by
  refine v_X12_minutesOn ?_
  unfold f_X12_minutesOn
  rw [nI_cl (by omega), hf.1 d hd, mth_i hd]
  refine ⟨vp_nI hd (by omega), ?_⟩
  unfold mOn at h
  cases hb : pD T la su P d with
  | false => rw [b2i_f, if_pos rfl]; rw [hb] at h; exact h
  | true =>
    rw [b2i_t, if_neg (by decide)]
    rw [hb] at h
    rw [nI_cl (by have := mth_lt hd; omega), hf.2.2 _ (mth_lt hd)]
    exact ⟨vp_nI (mth_lt hd) (by omega), h⟩
theorem s_X12_moments {Q : Int32 → Gi → Gl → Prop} (hf : Fnd T la su P gi) (h : Q (nI (sumN (mOn T la su P) 3600)) gi gl) : p_X12_moments gi gl Q := by
  have lp : ∀ n d, d + n = 3600 → p_X12_moments_4 (nI (sumN (mOn T la su P) d)) (nI d) gi gl Q := by
    intro n
    induction n with
    | zero =>
      intro d hd
      refine v_X12_moments_4 ?_
      unfold f_X12_moments_4
      rw [if_pos (by rw [show (3600 : Int32) = nI 3600 by rfl, nI_leI (by omega) (by omega)]; omega)]
      have : d = 3600 := by omega
      subst this; exact h
    | succ n ih =>
      intro d hd
      refine v_X12_moments_4 ?_
      unfold f_X12_moments_4
      rw [if_neg (by rw [show (3600 : Int32) = nI 3600 by rfl, nI_leI (by omega) (by omega)]; omega)]
      refine s_X12_minutesOn hf (by omega) ?_
      rintro z1 rfl
      rw [nI_add, nI_1]
      exact ih (d + 1) (by omega)
  refine v_X12_moments ?_
  unfold f_X12_moments
  exact lp 3600 0 (by omega)
def aAll (T : Twn) (A : Alb) (x : Int32) : Int32 := if isP A x = true then nI (sumN (mOn T 0 nosu (A.2.1 x.toInt.toNat)) 3600) else -1
theorem m_all {σ : Sta} {x : Int32} {Q : Int32 → Gi → Gl → Prop} (V : vSta σ) (m : MI σ gi gl) (h : ∀ gi', Sc gi gi' → Q (aAll (sTown σ) (sShown σ) x) gi' gl) : p_X12_all x gi gl Q := by
  have hA8 : (sShown σ).1 ≤ 8 := V.2.2.2.1.1
  refine v_X12_all ?_
  unfold f_X12_all
  refine s_X12_isPicture hA8 m.np ?_
  unfold aAll at h
  cases hp : isP (sShown σ) x with
  | false => rw [b2i_f, if_neg (by decide)]; rw [if_neg (by rw [hp]; simp)] at h; exact h gi Sc.rf
  | true =>
    rw [b2i_t, if_pos (by decide)]
    rw [if_pos hp] at h
    obtain ⟨i, hi, hxi, e⟩ := isP_of hp hA8
    rw [e] at h
    obtain ⟨p, hE⟩ := m.E V
    rw [hxi]
    refine s_X12_finds hE (m.mP V hi) (V.2.2.2.1.2.1 i hi).2.2 (fun g1 h1 _ h2 => ?_)
    exact s_X12_moments h2 (h g1 h1)
def hasD (T : Twn) (P : Pic) (d : Nat) : Bool := decide (mOn T 0 nosu P d ≠ 0)
def aDays (T : Twn) (A : Alb) (x k : Int32) : Int32 :=
  if isP A x = true then
    (if k.toInt = -1 then nI (cntN (hasD T (A.2.1 x.toInt.toNat)) 3600)
     else if 0 ≤ k.toInt ∧ k.toInt < cntN (hasD T (A.2.1 x.toInt.toNat)) 3600 then nI (selN (hasD T (A.2.1 x.toInt.toNat)) k.toInt.toNat 3600) else -1)
  else -1
theorem m_days {σ : Sta} {x k : Int32} {Q : Int32 → Gi → Gl → Prop} (V : vSta σ) (m : MI σ gi gl) (h : ∀ gi', Sc gi gi' → Q (aDays (sTown σ) (sShown σ) x k) gi' gl) : p_X12_days x k gi gl Q := by
  have hA8 : (sShown σ).1 ≤ 8 := V.2.2.2.1.1
  refine v_X12_days ?_
  unfold f_X12_days
  refine s_X12_isPicture hA8 m.np ?_
  unfold aDays at h
  cases hp : isP (sShown σ) x with
  | false => rw [b2i_f, if_pos rfl]; rw [if_neg (by rw [hp]; simp)] at h; exact h gi Sc.rf
  | true =>
    rw [b2i_t, if_neg (by decide)]
    rw [if_pos hp] at h
    have hk := iI_of k
    have hr := iI_rng k
    generalize k.toInt = z at *
    subst hk
    rw [show (-1 : Int32) = iI (-1) by rfl]
    by_cases h1 : iI (-1) ≤ iI z
    · rw [if_pos h1]
      rw [iI_le (by omega) (by omega)] at h1
      obtain ⟨i, hi, hxi, e⟩ := isP_of hp hA8
      rw [e] at h
      obtain ⟨p, hE⟩ := m.E V
      rw [hxi]
      refine s_X12_finds hE (m.mP V hi) (V.2.2.2.1.2.1 i hi).2.2 (fun g1 h1 _ hf => ?_)
      have h := h g1 h1
      generalize (sShown σ).2.1 i = P at *
      generalize sTown σ = T at *
      have le := fun n => cntN_le (f := hasD T P) (n := n)
      have lp : ∀ n d, d + n = 3600 → (z = -1 ∨ (cntN (hasD T P) d : Int) ≤ z) → p_X12_days_25 (iI z) (nI (cntN (hasD T P) d)) (nI d) g1 gl Q := by
        intro n
        induction n with
        | zero =>
          intro d hd hc
          refine v_X12_days_25 ?_
          unfold f_X12_days_25
          rw [if_pos (by rw [show (3600 : Int32) = nI 3600 by rfl, nI_leI (by omega) (by omega)]; omega)]
          have : d = 3600 := by omega
          subst this
          rw [show (-1 : Int32) = iI (-1) by rfl]
          by_cases h2 : iI z = iI (-1)
          · rw [if_neg (not_not_intro h2)]
            rw [iI_eq (by omega) (by omega)] at h2
            rw [if_pos h2] at h; exact h
          · rw [if_pos h2]
            rw [iI_eq (by omega) (by omega)] at h2
            rw [if_neg h2, if_neg (by omega)] at h; exact h
        | succ n ih =>
          intro d hd hc
          refine v_X12_days_25 ?_
          unfold f_X12_days_25
          rw [if_neg (by rw [show (3600 : Int32) = nI 3600 by rfl, nI_leI (by omega) (by omega)]; omega)]
          refine s_X12_minutesOn hf (by omega) ?_
          have hs := cntN_s (hasD T P) d
          have hle := le d
          have hz : nI (mOn T 0 nosu P d) = 0 ↔ mOn T 0 nosu P d = 0 := by
            have := mOn_le (T := T) (la := 0) (su := nosu) (P := P) (d := d)
            rw [show (0 : Int32) = nI 0 by rfl, nI_eq (by omega) (by omega)]
          by_cases hm : mOn T 0 nosu P d = 0
          · rw [if_neg (by rw [hz]; exact not_not_intro hm), nI_1]
            rw [if_neg (by unfold hasD; simp [hm])] at hs
            have := ih (d + 1) (by omega) (by omega)
            rw [hs] at this
            exact this
          · rw [if_pos (by rw [hz]; exact hm)]
            have hb : hasD T P d = true := by unfold hasD; simp [hm]
            rw [if_pos hb] at hs
            rw [← iI_n (cntN (hasD T P) d)]
            by_cases h2 : iI (cntN (hasD T P) d : Int) = iI z
            · rw [if_neg (not_not_intro h2)]
              rw [iI_eq (by omega) (by omega)] at h2
              have h3 := cntN_mono (f := hasD T P) (show d + 1 ≤ 3600 by omega)
              rw [if_neg (by omega), if_pos (by omega), selN_eq (d := d) (by omega) hb (by omega)] at h
              exact h
            · rw [if_pos h2]
              rw [iI_eq (by omega) (by omega)] at h2
              rw [iI_n, nI_1, nI_1]
              have := ih (d + 1) (by omega) (by omega)
              rw [hs] at this
              exact this
      exact lp 3600 0 (by omega) (by show _ ∨ ((0 : Nat) : Int) ≤ z; omega)
    · rw [if_neg h1]
      rw [iI_le (by omega) (by omega)] at h1
      rw [if_neg (by omega), if_neg (by omega)] at h
      exact h gi Sc.rf
end DA
