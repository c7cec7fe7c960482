/-! THE REFERENCE, eighteen: cloud, the end -/
theorem lowN_neg {f : Nat → Bool} {t : Nat} (h : lowN f t < 0) : lowN f (t + 1) = if f t then (t : Int) else -1 := by
  rw [lowN_s, if_neg (by omega)]
theorem lowN_keep {f : Nat → Bool} {t n : Nat} (h : 0 ≤ lowN f t) (hn : t ≤ n) : lowN f n = lowN f t := by
  obtain ⟨e, rfl⟩ : ∃ e, n = t + e := ⟨n - t, by omega⟩
  clear hn
  induction e with
  | zero => rfl
  | succ e ih => rw [show t + (e + 1) = t + e + 1 by omega, lowN_s, ih, if_pos h]
theorem ckL_s (T : Twn) (A : Alb) (s d : Nat) : ckL T A s (d + 1) = if 0 ≤ ckL T A s d then ckL T A s d else ckF T A s d := rfl
theorem ckF_bd {T : Twn} {A : Alb} {s d : Nat} : -1 ≤ ckF T A s d ∧ ckF T A s d < 720 * d + 720 := by
  have := lowN_bd (f := ckM T A s (mth d)) 720
  unfold ckF; split
  · split <;> omega
  · omega
theorem ckL_bd {T : Twn} {A : Alb} {s : Nat} : ∀ n, -1 ≤ ckL T A s n ∧ ckL T A s n < 720 * n + 720
  | 0 => ⟨(by decide : (-1 : Int) ≤ -1), by show (-1 : Int) < 720 * ((0 : Nat) : Int) + 720; omega⟩
  | n + 1 => by
    have h1 := ckL_bd (T := T) (A := A) (s := s) n
    have h2 := ckF_bd (T := T) (A := A) (s := s) (d := n)
    rw [ckL_s]
    split <;> omega
theorem ckL_keep {T : Twn} {A : Alb} {s d n : Nat} (h : 0 ≤ ckL T A s d) (hn : d ≤ n) : ckL T A s n = ckL T A s d := by
  obtain ⟨e, rfl⟩ : ∃ e, n = d + e := ⟨n - d, by omega⟩
  clear hn
  induction e with
  | zero => rfl
  | succ e ih => rw [show d + (e + 1) = d + e + 1 by omega, ckL_s, ih, if_pos h]
theorem ckC_le {T : Twn} {A : Alb} {s d : Nat} : ckC T A s d ≤ 720 := by unfold ckC; split; exact cntN_le; omega
section DJ
variable {T : Twn} {p : Nat} {gi : Gi} {gl : Gl} {A : Alb}
theorem cloud_48 {Q : Int32 → Gi → Gl → Prop} (hA : A.1 ≤ 8) (hC : Cl T A A.1 gi) {s : Nat} (hs : s < 2 ^ A.1) {w : Int} (hw : w = 0 ∨ w = 1) (h : Q (if w = 1 then iI (ckL T A s 3600) else nI (sumN (ckC T A s) 3600)) gi gl) : p_X12_cloud_48 (nI s) (iI w) 0 0 gi gl Q := by
  have h8 := pw8 hA
  have days : ∀ d, d ≤ 3600 → (w = 1 → ckL T A s d < 0) → ∀ c, (w = 0 → c = nI (sumN (ckC T A s) d)) → p_X12_cloud_48 (nI s) (iI w) c (nI d) gi gl Q := by
    refine dn ?_ ?_
    · intro e1 c e2
      refine v_X12_cloud_48 ?_
      unfold f_X12_cloud_48
      refine ifT (by decide) ?_
      refine d_ne w 0 rfl rfl (by omega) (by omega) (fun q => ?_) (fun q => ?_)
      · have w1 : w = 1 := by omega
        rw [if_pos w1] at h
        have l := e1 w1
        have b := (ckL_bd (T := T) (A := A) (s := s) 3600).1
        rw [show ckL T A s 3600 = -1 by omega] at h
        exact h
      · rw [if_neg (by omega)] at h
        rw [e2 q]; exact h
    · intro d hd ih e1 c e2
      have hm := mth_lt hd
      have hds : dPk T A A.1 d &&& s < 2 ^ A.1 := Nat.lt_of_le_of_lt Nat.and_le_right hs
      have hS := sumN_s (ckC T A s) d
      have ec : ckC T A s d = if ckD T A s d then cntN (ckM T A s (mth d)) 720 else 0 := rfl
      have ef : ckF T A s d = if ckD T A s d then (if 0 ≤ lowN (ckM T A s (mth d)) 720 then 720 * d + lowN (ckM T A s (mth d)) 720 else -1) else -1 := rfl
      have edD : ckD T A s d = decide (dPk T A A.1 d &&& s = s) := rfl
      have hSb := sumN_le (f := ckC T A s) (b := 720) (n := d) (fun _ _ => ckC_le)
      rw [ckL_s] at ih
      refine v_X12_cloud_48 ?_
      unfold f_X12_cloud_48
      refine c_le 3600 d rfl rfl (by omega) (by omega) (fun q => by omega) (fun _ => ?_)
      rw [nI_cl (by omega), hC.1 d hd, nx_and, mth_i hd, nI_1]
      refine ⟨vp_nI hd (by omega), ?_⟩
      refine c_eq (dPk T A A.1 d &&& s) s rfl rfl (by omega) (by omega) (fun q => ?_) (fun q => ?_)
      · rw [edD, decide_eq_true q] at ec ef
        rw [if_pos rfl] at ec ef
        rintro z1 rfl
        refine dn (P := fun t => (w = 1 → lowN (ckM T A s (mth d)) t < 0) → ∀ c, (w = 0 → c = nI (sumN (ckC T A s) d + cntN (ckM T A s (mth d)) t)) → p_X12_cloud_86 (nI s) (iI w) c (nI d) (nI (mth d)) (nI t) gi gl Q) (N := 720) ?_ ?_ 0 (by omega) (fun _ => (by decide : (-1 : Int) < 0)) c e2
        · intro e3 c e4
          refine v_X12_cloud_86 ?_
          unfold f_X12_cloud_86
          refine ifT (by decide) ?_
          rw [nI_1]
          refine ih (fun w1 => ?_) c (fun w0 => ?_)
          · have := e1 w1
            have l3 := e3 w1
            rw [if_neg (by omega), ef, if_neg (by omega)]; decide
          · rw [hS, ec]; exact e4 w0
        · intro t ht ih2 e3 c e4
          have hct := cntN_le (f := ckM T A s (mth d)) (n := t)
          have hcs := cntN_s (ckM T A s (mth d)) t
          have emD : ckM T A s (mth d) t = decide (mPk T A A.1 (mth d) t &&& s = s) := rfl
          have hms : mPk T A A.1 (mth d) t &&& s < 2 ^ A.1 := Nat.lt_of_le_of_lt Nat.and_le_right hs
          refine v_X12_cloud_86 ?_
          unfold f_X12_cloud_86
          refine c_le 720 t rfl rfl (by omega) (by omega) (fun q => by omega) (fun _ => ?_)
          rw [show (720 : Int32) * nI (mth d) = nI (720 * mth d) from pk_mul 720 _, show (720 : Int32) * nI d = nI (720 * d) from pk_mul 720 _, nI_add, nI_add, nI_cl (by omega), hC.2 _ t hm ht, nx_and, nI_1]
          refine ⟨vp_nI (by omega) (by omega), ?_⟩
          refine c_eq (mPk T A A.1 (mth d) t &&& s) s rfl rfl (by omega) (by omega) (fun q2 => ?_) (fun q2 => ?_)
          · rw [decide_eq_true q2] at emD
            refine d_ne w 1 rfl rfl (by omega) (by omega) (fun q3 => ?_) (fun q3 => ?_)
            · refine ih2 (fun w1 => absurd w1 q3) (c + 1) (fun w0 => ?_)
              rw [e4 w0, nI_1, hcs, if_pos emD, Nat.add_assoc]
            · rw [if_pos q3] at h
              have l3 := e3 q3
              have l4 := lowN_neg l3
              rw [emD, if_pos rfl] at l4
              have l5 := lowN_keep (f := ckM T A s (mth d)) (t := t + 1) (n := 720) (by omega) (by omega)
              have l6 := ckL_s T A s d
              rw [if_neg (by have := e1 q3; omega), ef, l5, l4, if_pos (by omega)] at l6
              rw [ckL_keep (d := d + 1) (by omega) (by omega), l6, show (720 * (d : Int) + t) = ((720 * d + t : Nat) : Int) by omega, iI_n] at h
              exact h
          · rw [decide_eq_false q2] at emD
            refine ih2 (fun w1 => ?_) c (fun w0 => ?_)
            · rw [lowN_neg (e3 w1), emD, if_neg (by decide)]; decide
            · rw [e4 w0, hcs, emD]; rfl
      · rw [edD, decide_eq_false q] at ec ef
        refine ih (fun w1 => ?_) c (fun w0 => ?_)
        · rw [if_neg (by have := e1 w1; omega), ef, if_neg (by decide)]; decide
        · rw [hS, ec, e2 w0]; rfl
  exact days 0 (by omega) (fun _ => (by decide : (-1 : Int) < 0)) 0 (fun _ => rfl)
theorem m_cloud {σ : Sta} {x w : Int32} {Q : Int32 → Gi → Gl → Prop} (V : vSta σ) (m : MI σ gi gl) (h : ∀ gi', Sc gi gi' → Q (aCloud (sTown σ) (sShown σ) x w) gi' gl) : p_X12_cloud x w gi gl Q := by
  have hA8 : (sShown σ).1 ≤ 8 := V.2.2.2.1.1
  have h0 := h gi Sc.rf
  obtain ⟨p, hE⟩ := m.E V
  have hn := m.np
  have hP : ∀ i, i < (sShown σ).1 → mPic ((sShown σ).2.1 i) i gi := fun i hi => m.mP V hi
  have vP : ∀ i, i < (sShown σ).1 → ∀ k, k < ((sShown σ).2.1 i).1 → vSign (sTown σ) (((sShown σ).2.1 i).2 k) := fun i hi => (V.2.2.2.1.2.1 i hi).2.2
  generalize sShown σ = A at *
  generalize sTown σ = T at *
  have h8 := pw8 hA8
  have hpos := pw_pos (n := A.1)
  refine v_X12_cloud ?_
  unfold f_X12_cloud
  unfold aCloud at h h0
  have ex := iI_of x
  have ew := iI_of w
  have rx := iI_rng x
  rw [cl0, hn, jl_1 (by omega), ← iI_n (2 ^ A.1)]
  generalize x.toInt = x' at *
  subst ex
  refine d_lt x' 1 rfl rfl rx (by omega) (fun q => ?_) (fun q => ?_)
  · rw [if_neg (by rintro ⟨z, -⟩; omega)] at h0; exact h0
  refine d_le ((2 ^ A.1 : Nat) : Int) x' rfl rfl (by omega) rx (fun q2 => ?_) (fun q2 => ?_)
  · rw [if_neg (by rintro ⟨-, z, -⟩; omega)] at h0; exact h0
  refine s_X12_within ?_
  rw [show ((0 : Int32).toInt) = 0 by rfl, show ((2 : Int32).toInt) = 2 by rfl]
  generalize w.toInt = w' at *
  subst ew
  refine c_nb (fun hw => ?_) (fun hw => ?_)
  · simp at hw
    rw [if_pos ⟨q, q2, hw⟩] at h
    obtain ⟨s, hs⟩ := nat_of (show 0 ≤ x' by omega)
    subst hs
    rw [Int.toNat_natCast] at h
    refine s_X12_findClouds hE hA8 hn hP vP (fun g s1 s2 => ?_)
    rw [iI_n]
    refine d_ne w' 2 rfl rfl (by omega) (by omega) (fun q3 => ?_) (fun q3 => ?_)
    · have h := h g s1
      rw [if_neg q3] at h
      exact cloud_48 hA8 s2 (by omega) (by omega) h
    · refine s_X12_mostOf hA8 s2 (by omega) (fun g2 t => ?_)
      have h := h g2 (s1.tr ⟨fun z a b => t z (by omega), fun k _ => by rw [t _ (by omega)]⟩)
      rw [if_pos q3] at h
      exact h
  · rw [if_neg (by rintro ⟨-, -, z⟩; simp at hw; omega)] at h0; exact h0
end DJ
