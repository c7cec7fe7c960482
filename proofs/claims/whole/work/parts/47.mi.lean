/-! THE REFERENCE, seventeen: cloud -/
/-- which pictures have a day, a minute -/
def dPk (T : Twn) (A : Alb) (n d : Nat) : Nat := bN (fun k => pD T 0 nosu (A.2.1 k) d) n
def mPk (T : Twn) (A : Alb) (n m t : Nat) : Nat := bN (fun k => pM T (A.2.1 k) m t) n
def ckD (T : Twn) (A : Alb) (s d : Nat) : Bool := decide (dPk T A A.1 d &&& s = s)
def ckM (T : Twn) (A : Alb) (s m t : Nat) : Bool := decide (mPk T A A.1 m t &&& s = s)
/-- the moments that all of a set have, a day -/
def ckC (T : Twn) (A : Alb) (s d : Nat) : Nat := if ckD T A s d then cntN (ckM T A s (mth d)) 720 else 0
/-- the first of them -/
def ckF (T : Twn) (A : Alb) (s d : Nat) : Int := if ckD T A s d then (if 0 ≤ lowN (ckM T A s (mth d)) 720 then 720 * d + lowN (ckM T A s (mth d)) 720 else -1) else -1
def ckL (T : Twn) (A : Alb) (s : Nat) : Nat → Int
  | 0 => -1
  | d + 1 => if 0 ≤ ckL T A s d then ckL T A s d else ckF T A s d
/-- a set is just what some moment has of s -/
def ckP (T : Twn) (A : Alb) (s u : Nat) : Prop := ∃ d t, d < 3600 ∧ t < 720 ∧ (dPk T A A.1 d &&& s) &&& mPk T A A.1 (mth d) t = u
noncomputable def ckB (T : Twn) (A : Alb) (s u : Nat) : Bool := @decide (ckP T A s u) (Classical.propDecidable _)
theorem ckB_iff {T : Twn} {A : Alb} {s u : Nat} : ckB T A s u = true ↔ ckP T A s u := by unfold ckB; exact @decide_eq_true_iff _ (Classical.propDecidable _)
/-- of those above n the largest with the least bits; n counts down -/
noncomputable def ckM2 (T : Twn) (A : Alb) (s : Nat) : Nat → Nat
  | 0 => 0
  | n + 1 => if ckB T A s (255 - n) = true ∧ pcN (ckM2 T A s n) ≤ pcN (255 - n) then 255 - n else ckM2 T A s n
theorem ckM2_s (T : Twn) (A : Alb) (s n : Nat) : ckM2 T A s (n + 1) = if ckB T A s (255 - n) = true ∧ pcN (ckM2 T A s n) ≤ pcN (255 - n) then 255 - n else ckM2 T A s n := rfl
theorem ckM2_le {T : Twn} {A : Alb} {s : Nat} : ∀ n, ckM2 T A s n ≤ 255
  | 0 => Nat.zero_le _
  | n + 1 => by
    have := ckM2_le (T := T) (A := A) (s := s) n
    rw [ckM2_s]; split <;> omega
noncomputable def aCloud (T : Twn) (A : Alb) (s w : Int32) : Int32 :=
  if 1 ≤ s.toInt ∧ s.toInt < (2 ^ A.1 : Nat) ∧ 0 ≤ w.toInt ∧ w.toInt ≤ 2 then
    (if w.toInt = 2 then nI (ckM2 T A s.toInt.toNat 255) else if w.toInt = 1 then iI (ckL T A s.toInt.toNat 3600) else nI (sumN (ckC T A s.toInt.toNat) 3600)) else -1
theorem dPk_lt {T : Twn} {A : Alb} {n d : Nat} : dPk T A n d < 2 ^ n := bN_lt
theorem mPk_lt {T : Twn} {A : Alb} {n m t : Nat} : mPk T A n m t < 2 ^ n := bN_lt
theorem pw8 {n : Nat} (h : n ≤ 8) : 2 ^ n ≤ 256 := Nat.le_trans (Nat.pow_le_pow_right (by omega) h) (Nat.le_refl _)
/-- so many pictures are in -/
def Cl (T : Twn) (A : Alb) (n : Nat) (g : Gi) : Prop := (∀ d, d < 3600 → g 374 d = nI (dPk T A n d)) ∧ ∀ m t, m < 12 → t < 720 → g 375 (720 * m + t) = nI (mPk T A n m t)
theorem Cl.congr {T : Twn} {A : Alb} {n : Nat} {g g' : Gi} (h : Cl T A n g) (e1 : g' 374 = g 374) (e2 : g' 375 = g 375) : Cl T A n g' := ⟨fun d hd => by rw [e1]; exact h.1 d hd, fun m t hm ht => by rw [e2]; exact h.2 m t hm ht⟩
def ckE (T : Twn) (A : Alb) (s d u : Nat) : Prop := ∃ e t, e < d ∧ t < 720 ∧ 0 < dPk T A A.1 e &&& s ∧ (dPk T A A.1 e &&& s) &&& mPk T A A.1 (mth e) t = u
section DI
variable {T : Twn} {p : Nat} {gi : Gi} {gl : Gl} {A : Alb}
theorem s_X12_findClouds {Q : Gi → Gl → Prop} (m : ME T p 0 nosu gi gl) (hA : A.1 ≤ 8) (hn : gi 355 0 = nI A.1) (hP : ∀ i, i < A.1 → mPic (A.2.1 i) i gi) (vP : ∀ i, i < A.1 → ∀ k, k < (A.2.1 i).1 → vSign T ((A.2.1 i).2 k))
    (h : ∀ g, Sc gi g → Cl T A A.1 g → Q g gl) : p_X12_findClouds gi gl Q := by
  have main : ∀ k, k ≤ A.1 → ∀ g, Sc gi g → Cl T A k g → p_X12_findClouds_46 (nI k) g gl Q := by
    refine dn ?_ ?_
    · intro g s1 s2
      refine v_X12_findClouds_46 ?_
      unfold f_X12_findClouds_46
      rw [cl0, s1.1 355 (by omega) (by omega), hn]
      exact ifT (by rw [nI_leI (by omega) (by omega)]; omega) (h g s1 s2)
    · intro k hk ih g s1 s2
      refine v_X12_findClouds_46 ?_
      unfold f_X12_findClouds_46
      rw [cl0, s1.1 355 (by omega) (by omega), hn]
      refine c_le A.1 k rfl rfl (by omega) (by omega) (fun q => by omega) (fun _ => ?_)
      refine s_X12_finds (s1.E m) ((hP k hk).sc s1) (vP k hk) (fun g1 t1 t2 t3 => ?_)
      have S1 := s1.tr t1
      have hC : Cl T A k g1 := s2.congr (t2 _ (by omega)) (t2 _ (by omega))
      refine dn (P := fun d => ∀ g, (∀ z, z ≠ 374 → g z = g1 z) → (∀ e, e < 3600 → g 374 e = nI (dPk T A (if e < d then k + 1 else k) e)) → p_X12_findClouds_63 (nI k) (nI d) g gl Q) (N := 3600) ?_ ?_ 0 (by omega) g1 (fun _ _ => rfl) (fun e he => hC.1 e he)
      · intro g e1 e2
        refine v_X12_findClouds_63 ?_
        unfold f_X12_findClouds_63
        refine ifT (by decide) ?_
        refine dn (P := fun t => ∀ g', (∀ z, z ≠ 375 → g' z = g z) → (∀ e, e < 8640 → g' 375 e = nI (mPk T A (if e < t then k + 1 else k) (e / 720) (e % 720))) → p_X12_findClouds_103 (nI k) (nI t) g' gl Q) (N := 8640) ?_ ?_ 0 (by omega) g (fun _ _ => rfl) (fun e he => ?_)
        · intro g' e3 e4
          refine v_X12_findClouds_103 ?_
          unfold f_X12_findClouds_103
          refine ifT (by decide) ?_
          rw [nI_1]
          refine ih g' (S1.tr ⟨fun z a b => by rw [e3 z (by omega), e1 z (by omega)], fun j _ => by rw [e3 _ (by omega), e1 _ (by omega)]⟩) ⟨fun d hd => ?_, fun m t hm ht => ?_⟩
          · rw [e3 _ (by omega), e2 d hd, if_pos hd]
          · rw [e4 _ (by omega), if_pos (by omega), show (720 * m + t) / 720 = m by omega, show (720 * m + t) % 720 = t by omega]
        · intro t ht ih2 g' e3 e4
          have e365 : g' 365 t = b2i (pM T (A.2.1 k) (t / 720) (t % 720)) := by
            rw [e3 _ (by omega), e1 _ (by omega), ← t3.2.1 (t / 720) (t % 720) (by omega) (by omega), Nat.div_add_mod]
          have e375 := e4 t ht
          rw [if_neg (by omega)] at e375
          refine v_X12_findClouds_103 ?_
          unfold f_X12_findClouds_103
          refine c_le 8640 t rfl rfl (by omega) (by omega) (fun q => by omega) (fun _ => ⟨vp_nI ht (by omega), vp_nI ht (by omega), ?_⟩)
          rw [nI_cl (by omega), e365, e375, nI_1]
          have fin : ∀ v, v = nI (mPk T A (k + 1) (t / 720) (t % 720)) → p_X12_findClouds_103 (nI k) (nI (t + 1)) (uI g' 375 (upd (g' 375) t v)) gl Q := by
            rintro v rfl
            refine ih2 _ (fun z hz => by rw [uI_n hz]; exact e3 z hz) (fun e he => ?_)
            rw [uI_s, updA]
            by_cases q : e = t
            · rw [if_pos q, q, if_pos (by omega)]
            · rw [if_neg q, e4 e he]
              by_cases q2 : e < t
              · rw [if_pos q2, if_pos (by omega)]
              · rw [if_neg q2, if_neg (by omega)]
          have hs := bN_s (fun k => pM T (A.2.1 k) (t / 720) (t % 720)) k
          refine c_b (fun q => ⟨vp_nI ht (by omega), ?_⟩) (fun q => ⟨vp_nI ht (by omega), ?_⟩)
          · rintro g2 rfl
            refine fin _ ?_
            rw [show (0 : Int32) = nI 0 by rfl, nx_or, Nat.or_zero]
            unfold mPk
            rw [hs, q]; rfl
          · rintro g2 rfl
            refine fin _ ?_
            rw [jl_1 (by omega), nx_or, or_pw mPk_lt]
            unfold mPk
            rw [hs, if_pos q]
        · rw [if_neg (by omega), e1 _ (by omega), ← hC.2 (e / 720) (e % 720) (by omega) (by omega), Nat.div_add_mod]
      · intro d hd ih2 g e1 e2
        have e374 := e2 d hd
        rw [if_neg (by omega)] at e374
        refine v_X12_findClouds_63 ?_
        unfold f_X12_findClouds_63
        refine c_le 3600 d rfl rfl (by omega) (by omega) (fun q => by omega) (fun _ => ⟨vp_nI hd (by omega), vp_nI hd (by omega), ?_⟩)
        rw [nI_cl (by omega), e1 364 (by omega), t3.1 d hd, e374, nI_1]
        have fin : ∀ v, v = nI (dPk T A (k + 1) d) → p_X12_findClouds_63 (nI k) (nI (d + 1)) (uI g 374 (upd (g 374) d v)) gl Q := by
          rintro v rfl
          refine ih2 _ (fun z hz => by rw [uI_n hz]; exact e1 z hz) (fun e he => ?_)
          rw [uI_s, updA]
          by_cases q : e = d
          · rw [if_pos q, q, if_pos (by omega)]
          · rw [if_neg q, e2 e he]
            by_cases q2 : e < d
            · rw [if_pos q2, if_pos (by omega)]
            · rw [if_neg q2, if_neg (by omega)]
        have hs := bN_s (fun k => pD T 0 nosu (A.2.1 k) d) k
        refine c_b (fun q => ⟨vp_nI hd (by omega), ?_⟩) (fun q => ⟨vp_nI hd (by omega), ?_⟩)
        · rintro g2 rfl
          refine fin _ ?_
          rw [show (0 : Int32) = nI 0 by rfl, nx_or, Nat.or_zero]
          unfold dPk
          rw [hs, q]; rfl
        · rintro g2 rfl
          refine fin _ ?_
          rw [jl_1 (by omega), nx_or, or_pw dPk_lt]
          unfold dPk
          rw [hs, if_pos q]
  refine v_X12_findClouds ?_
  unfold f_X12_findClouds
  refine dn (P := fun d => ∀ g, (∀ z, z ≠ 374 → g z = gi z) → (∀ e, e < d → g 374 e = 0) → p_X12_findClouds_2 (nI d) g gl Q) (N := 3600) ?_ ?_ 0 (by omega) gi (fun _ _ => rfl) (fun _ q => by omega)
  · intro g1 e1 e2
    refine v_X12_findClouds_2 ?_
    unfold f_X12_findClouds_2
    refine ifT (by decide) ?_
    refine dn (P := fun d => ∀ g, (∀ z, z ≠ 375 → g z = g1 z) → (∀ e, e < d → g 375 e = 0) → p_X12_findClouds_24 (nI d) g gl Q) (N := 8640) ?_ ?_ 0 (by omega) g1 (fun _ _ => rfl) (fun _ q => by omega)
    · intro g e3 e4
      refine v_X12_findClouds_24 ?_
      unfold f_X12_findClouds_24
      refine ifT (by decide) ?_
      exact main 0 (Nat.zero_le _) g ⟨fun z a b => by rw [e3 z (by omega), e1 z (by omega)], fun k _ => by rw [e3 _ (by omega), e1 _ (by omega)]⟩ ⟨fun d hd => by rw [e3 _ (by omega)]; exact e2 d hd, fun m t hm ht => e4 _ (by omega)⟩
    · intro d hd ih g e3 e4
      refine v_X12_findClouds_24 ?_
      unfold f_X12_findClouds_24
      refine c_le 8640 d rfl rfl (by omega) (by omega) (fun q => by omega) (fun _ => ⟨vp_nI hd (by omega), ?_⟩)
      rintro g2 rfl
      rw [nI_cl (by omega), nI_1]
      refine ih _ (fun z hz => by rw [uI_n hz]; exact e3 z hz) (fun e he => ?_)
      rw [uI_s, updA]
      by_cases q : e = d
      · rw [if_pos q]
      · rw [if_neg q]; exact e4 e (by omega)
  · intro d hd ih g e3 e4
    refine v_X12_findClouds_2 ?_
    unfold f_X12_findClouds_2
    refine c_le 3600 d rfl rfl (by omega) (by omega) (fun q => by omega) (fun _ => ⟨vp_nI hd (by omega), ?_⟩)
    rintro g2 rfl
    rw [nI_cl (by omega), nI_1]
    refine ih _ (fun z hz => by rw [uI_n hz]; exact e3 z hz) (fun e he => ?_)
    rw [uI_s, updA]
    by_cases q : e = d
    · rw [if_pos q]
    · rw [if_neg q]; exact e4 e (by omega)
theorem s_X12_mostOf {Q : Int32 → Gi → Gl → Prop} (hA : A.1 ≤ 8) (hC : Cl T A A.1 gi) {s : Nat} (hs : s < 2 ^ A.1) (h : ∀ g, (∀ z, z ≠ 376 → g z = gi z) → Q (nI (ckM2 T A s 255)) g gl) : p_X12_mostOf (nI s) gi gl Q := by
  have h8 := pw8 hA
  have fin : ∀ g, (∀ z, z ≠ 376 → g z = gi z) → (∀ u, 0 < u → u < 256 → (ckP T A s u ∧ g 376 u = 1) ∨ (¬ ckP T A s u ∧ g 376 u = 0)) → p_X12_mostOf_110 0 255 g gl Q := by
    intro g e1 e2
    refine dn (P := fun n => p_X12_mostOf_110 (nI (ckM2 T A s n)) (nI (255 - n)) g gl Q) (N := 255) ?_ ?_ 0 (by omega)
    · refine v_X12_mostOf_110 ?_
      unfold f_X12_mostOf_110
      exact ifT (by decide) (h g e1)
    · intro n hn ih
      have l := ckM2_le (T := T) (A := A) (s := s) n
      rw [ckM2_s] at ih
      refine v_X12_mostOf_110 ?_
      unfold f_X12_mostOf_110
      refine c_le (255 - n) 0 rfl rfl (by omega) (by omega) (fun q => by omega) (fun _ => ⟨vp_nI (by omega) (by omega), ?_⟩)
      have ed : nI (255 - n) + (-1) = nI (255 - (n + 1)) := by
        rw [← iI_n, show (-1 : Int32) = iI (-1) by rfl, iI_add, ← iI_n]; congr 1; omega
      rw [nI_cl (by omega), ed]
      rcases e2 (255 - n) (by omega) (by omega) with ⟨a, b⟩ | ⟨a, b⟩
      · rw [b]
        refine ifF (by decide) ?_
        refine s_X12_bitsOf (by omega) ?_
        refine s_X12_bitsOf (by omega) ?_
        have l1 := pcN_le (v := 255 - n)
        have l2 := pcN_le (v := ckM2 T A s n)
        refine c_lt (pcN (255 - n)) (pcN (ckM2 T A s n)) rfl rfl (by omega) (by omega) (fun z => ?_) (fun z => ?_)
        · rw [if_neg (by rintro ⟨-, w⟩; omega)] at ih; exact ih
        · rw [if_pos ⟨ckB_iff.2 a, z⟩] at ih; exact ih
      · rw [b]
        refine ifT rfl ?_
        rw [if_neg (by rintro ⟨w, -⟩; exact a (ckB_iff.1 w))] at ih; exact ih
  refine v_X12_mostOf ?_
  unfold f_X12_mostOf
  -- u is told of when it isn't 0
  have days : ∀ d, d ≤ 3600 → ∀ g, (∀ z, z ≠ 376 → g z = gi z) → (∀ u, u < 256 → (ckE T A s d u ∧ g 376 u = 1) ∨ (¬ ckE T A s d u ∧ g 376 u = 0)) → p_X12_mostOf_24 (nI s) (nI d) g gl Q := by
    refine dn ?_ ?_
    · intro g e1 e2
      refine v_X12_mostOf_24 ?_
      unfold f_X12_mostOf_24
      refine ifT (by decide) ?_
      refine fin g e1 (fun u hu hu2 => ?_)
      have e : ckP T A s u ↔ ckE T A s 3600 u := by
        constructor
        · rintro ⟨d, t, q1, q2, q3⟩
          refine ⟨d, t, q1, q2, ?_, q3⟩
          have : (dPk T A A.1 d &&& s) &&& mPk T A A.1 (mth d) t ≤ dPk T A A.1 d &&& s := Nat.and_le_left
          omega
        · rintro ⟨d, t, q1, q2, -, q3⟩
          exact ⟨d, t, q1, q2, q3⟩
      rw [e]
      exact e2 u hu2
    · intro d hd ih g e1 e2
      have hm := mth_lt hd
      have hds : dPk T A A.1 d &&& s < 2 ^ A.1 := Nat.lt_of_le_of_lt Nat.and_le_right hs
      refine v_X12_mostOf_24 ?_
      unfold f_X12_mostOf_24
      refine c_le 3600 d rfl rfl (by omega) (by omega) (fun q => by omega) (fun _ => ⟨vp_nI hd (by omega), ?_⟩)
      rintro z1 rfl z2 rfl z3 rfl
      rw [nI_cl (by omega), e1 _ (by omega), hC.1 d hd, nx_and, mth_i hd, show (720 : Int32) * nI (mth d) = nI (720 * mth d) from pk_mul 720 _]
      refine dn (P := fun t => ∀ g, (∀ z, z ≠ 376 → g z = gi z) → Mk g 376 256 (fun u => ckE T A s d u ∨ ∃ t', t' < t ∧ 0 < dPk T A A.1 d &&& s ∧ (dPk T A A.1 d &&& s) &&& mPk T A A.1 (mth d) t' = u) → p_X12_mostOf_58 (nI s) (nI d) (nI (dPk T A A.1 d &&& s)) (nI (mth d)) (nI (720 * mth d + t)) g gl Q) (N := 720) ?_ ?_ 0 (by omega) g e1 (Mk.cg (p := fun u => ckE T A s d u) e2 (fun u _ => ⟨Or.inl, ?_⟩))
      · intro g e1 e2
        refine v_X12_mostOf_58 ?_
        unfold f_X12_mostOf_58
        rw [show (720 : Int32) * nI (mth d) = nI (720 * mth d) from pk_mul 720 _, show nI (720 * mth d) + 720 = nI (720 * mth d + 720) from nI_add _ 720]
        generalize 720 * mth d + 720 = z
        refine ifT (Int32.le_refl _) ?_
        rw [nI_1]
        refine ih g e1 (Mk.cg (q := ckE T A s (d + 1)) e2 (fun u _ => ?_))
        constructor
        · rintro (⟨e, t, q1, q2⟩ | ⟨t, q1, q2⟩)
          · exact ⟨e, t, by omega, q2⟩
          · exact ⟨d, t, by omega, q1, q2⟩
        · rintro ⟨e, t, q1, q2, q3⟩
          by_cases z : e = d
          · subst z; exact Or.inr ⟨t, q2, q3⟩
          · exact Or.inl ⟨e, t, by omega, q2, q3⟩
      · intro t ht ih2 g e1 e2
        refine v_X12_mostOf_58 ?_
        unfold f_X12_mostOf_58
        rw [show (720 : Int32) * nI (mth d) = nI (720 * mth d) from pk_mul 720 _, show nI (720 * mth d) + 720 = nI (720 * mth d + 720) from nI_add _ 720]
        refine c_le (720 * mth d + 720) (720 * mth d + t) rfl rfl (by omega) (by omega) (fun q => by omega) (fun _ => ?_)
        refine c_le (dPk T A A.1 d &&& s) 0 rfl rfl (by omega) (by omega) (fun q => ?_) (fun q => ?_)
        · rw [nI_1]
          refine ih g e1 (Mk.cg (q := ckE T A s (d + 1)) e2 (fun u _ => ?_))
          constructor
          · rintro (⟨e, t, q1, q2⟩ | ⟨t, q1, q2, -⟩)
            · exact ⟨e, t, by omega, q2⟩
            · omega
          · rintro ⟨e, t, q1, q2, q3, q4⟩
            by_cases z : e = d
            · subst z; omega
            · exact Or.inl ⟨e, t, by omega, q2, q3, q4⟩
        · have hab : (dPk T A A.1 d &&& s) &&& mPk T A A.1 (mth d) t < 256 := Nat.lt_of_le_of_lt Nat.and_le_left (by omega)
          rw [nI_cl (by omega), e1 375 (by omega), hC.2 _ t hm ht, nx_and, nI_cl (by omega), nar1, nI_1]
          refine ⟨vp_nI (by omega) (by omega), vp_nI hab (by omega), ?_⟩
          rintro g2 rfl
          refine ih2 _ (fun z hz => by rw [uI_n hz]; exact e1 z hz) (e2.put (fun u _ => ?_))
          constructor
          · rintro (z | ⟨t', q1, q2, q3⟩)
            · exact Or.inl (Or.inl z)
            · by_cases z : t' = t
              · subst z; exact Or.inr q3.symm
              · exact Or.inl (Or.inr ⟨t', by omega, q2, q3⟩)
          · rintro ((z | ⟨t', q1, q2⟩) | z)
            · exact Or.inl z
            · exact Or.inr ⟨t', by omega, q2⟩
            · exact Or.inr ⟨t, by omega, q, z.symm⟩
      · rintro (z | ⟨t', q, -⟩)
        · exact z
        · omega
  refine dn (P := fun u => ∀ g, (∀ z, z ≠ 376 → g z = gi z) → (∀ e, e < u → g 376 e = 0) → p_X12_mostOf_2 (nI s) (nI u) g gl Q) (N := 256) ?_ ?_ 0 (by omega) gi (fun _ _ => rfl) (fun _ q => by omega)
  · intro g e1 e2
    refine v_X12_mostOf_2 ?_
    unfold f_X12_mostOf_2
    refine ifT (by decide) ?_
    exact days 0 (by omega) g e1 (fun u hu => Or.inr ⟨fun ⟨_, _, q, _⟩ => by omega, e2 u hu⟩)
  · intro u hu ih g e1 e2
    refine v_X12_mostOf_2 ?_
    unfold f_X12_mostOf_2
    refine c_le 256 u rfl rfl (by omega) (by omega) (fun q => by omega) (fun _ => ⟨vp_nI hu (by omega), ?_⟩)
    rintro g2 rfl
    rw [nI_cl (by omega), nar0, nI_1]
    refine ih _ (fun z hz => by rw [uI_n hz]; exact e1 z hz) (fun e he => ?_)
    rw [uI_s, updA]
    by_cases q : e = u
    · rw [if_pos q]
    · rw [if_neg q]; exact e2 e (by omega)
end DI
