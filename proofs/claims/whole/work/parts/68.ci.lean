/-! THE CLASS, nine: feed, weight, count, late, couples -/
def feedC (gi : Gi) (a b c d e : Int32) (n k : Nat) : Gi := uI (uI gi 1 (fun j => if n ≤ j ∧ j < n + k then fbyte a b c d e (j - n) else gi 1 j)) 0 (upd (gi 0) 13 (nI (n + k)))
theorem feedC_s {gi : Gi} {a b c d e : Int32} {n k : Nat} : uI (uI (feedC gi a b c d e n k) 1 (upd (feedC gi a b c d e n k 1) (n + k) (fbyte a b c d e k))) 0 (upd (uI (feedC gi a b c d e n k) 1 (upd (feedC gi a b c d e n k 1) (n + k) (fbyte a b c d e k)) 0) 13 (nI (n + (k + 1)))) = feedC gi a b c d e n (k + 1) := by
  funext b' j
  by_cases h1 : b' = 0
  · subst h1
    simp only [feedC, uIA, updA]
    simp
    simp only [updA]
    split <;> rfl
  · by_cases h2 : b' = 1
    · subst h2
      simp only [feedC, uIA]
      simp
      simp only [updA]
      by_cases h3 : j = n + k
      · subst h3; simp
      · rw [if_neg h3]
        by_cases h4 : n ≤ j ∧ j < n + k
        · rw [if_pos h4, if_pos (by omega)]
        · rw [if_neg h4, if_neg (by omega)]
    · simp [uI, feedC, h1, h2]
section CI9
variable {σ : Sta} {c : Nat} {gi : Gi} {gl : Gl} {Qi : Int32 → Gi → Gl → Prop} {Ql : Int64 → Gi → Gl → Prop}
theorem s_put {a b c d e x : Int32} {n q : Nat} {Q : Gi → Gl → Prop} (hn : n + 20 ≤ 1200) (hq : q < 5) (hx : ∀ i, i < 4 → pick5 a b c d e (4 * q + i) = x) (h : Q (feedC gi a b c d e n (4 * q + 4)) gl) : p_X11_putOnTape x (feedC gi a b c d e n (4 * q)) gl Q := by
  refine v_X11_putOnTape ?_
  unfold f_X11_putOnTape
  have lp : ∀ m i : Nat, i + m = 4 → p_X11_putOnTape_3 x (iI (24 - 8 * (i : Int))) (feedC gi a b c d e n (4 * q + i)) gl Q := by
    intro m
    induction m with
    | zero =>
      intro i hi
      obtain rfl : i = 4 := by omega
      refine v_X11_putOnTape_3 ?_
      unfold f_X11_putOnTape_3
      exact ifT (by decide) h
    | succ m ih =>
      intro i hi
      refine v_X11_putOnTape_3 ?_
      unfold f_X11_putOnTape_3
      refine d_lt (24 - 8 * (i : Int)) 0 rfl rfl (by omega) (by omega) (fun y => by omega) (fun _ => ?_)
      have e1 : feedC gi a b c d e n (4 * q + i) 0 13 = nI (n + (4 * q + i)) := by simp [feedC, uI, upd]
      rw [e1]
      refine c_le 1200 (n + (4 * q + i)) rfl rfl (by omega) (by omega) (fun y => by omega) (fun _ => ?_)
      rw [nI_cl (by omega)]
      refine ⟨vp_nI (by omega) (by omega), ?_⟩
      rintro gi1 rfl gi2 rfl
      have e2 : iI (24 - 8 * (i : Int)) = nI (24 - 8 * ((4 * q + i) % 4)) := by
        rw [← iI_n]
        have : (24 - 8 * (i : Int)) = ((24 - 8 * ((4 * q + i) % 4) : Nat) : Int) := by omega
        rw [this]
      have e3 : iI (24 - 8 * (i : Int)) + (-8) = iI (24 - 8 * ((i + 1 : Nat) : Int)) := by
        rw [show (-8 : Int32) = iI (-8) by rfl, iI_add]
        have : (24 - 8 * (i : Int) + -8) = 24 - 8 * ((i + 1 : Nat) : Int) := by omega
        rw [this]
      rw [e3, e2]
      have e4 : (uI (feedC gi a b c d e n (4 * q + i)) 1 (upd (feedC gi a b c d e n (4 * q + i) 1) (n + (4 * q + i)) (vp_nar .byte ((ja x (nI (24 - 8 * ((4 * q + i) % 4)))).toInt8.toInt32)))) 0 13 + 1 = nI (n + (4 * q + i + 1)) := by
        rw [uI_n (by omega), e1, nI_1]; rfl
      rw [e4]
      have e5 := feedC_s (gi := gi) (a := a) (b := b) (c := c) (d := d) (e := e) (n := n) (k := 4 * q + i)
      unfold fbyte at e5
      rw [hx i (by omega)] at e5
      rw [e5]
      exact ih (i + 1) (by omega)
  exact lp 4 0 (by omega)
theorem c_feed (V : vSta σ) (m : CI σ c gi gl) {a b d e f : Int32} (h1 : sN_ σ + 20 ≤ 1200 → ∀ gi', CI (dFeed σ a b d e f) (c + 1) gi' gl → FrC gi gl gi' gl → Qi (nI (sN_ σ + 20)) gi' gl) (h2 : ¬ sN_ σ + 20 ≤ 1200 → Qi (-1) gi gl) : p_X11_feed a b d e f gi gl Qi := by
  have hn := V.1
  refine v_X11_feed ?_
  unfold f_X11_feed
  rw [m.1]
  refine c_le (sN_ σ) 1180 rfl rfl (by omega) (by omega) (fun y => ?_) (fun y => h2 (by omega))
  have g0 : gi = feedC gi a b d e f (sN_ σ) (4 * 0) := by
    funext z j
    simp only [feedC, uIA]
    by_cases z0 : z = 0
    · subst z0
      rw [if_pos rfl, updA]
      by_cases j0 : j = 13
      · subst j0; rw [if_pos rfl]; exact m.1
      · rw [if_neg j0]
    · rw [if_neg z0]
      by_cases z1 : z = 1
      · subst z1
        rw [if_pos rfl, if_neg (by omega)]
      · rw [if_neg z1]
  have st : ∀ q x, q < 5 → (∀ i, i < 4 → pick5 a b d e f (4 * q + i) = x) → ∀ Q : Gi → Gl → Prop, Q (feedC gi a b d e f (sN_ σ) (4 * (q + 1))) gl → p_X11_putOnTape x (feedC gi a b d e f (sN_ σ) (4 * q)) gl Q := fun q x hq hx Q h => s_put (by omega) hq hx h
  have pk : ∀ i, i < 4 → (i = 0 ∨ i = 1 ∨ i = 2 ∨ i = 3) := fun i hi => by omega
  have key := h1 (by omega) (feedC gi a b d e f (sN_ σ) 20)
  have e13 : feedC gi a b d e f (sN_ σ) 20 0 13 = nI (sN_ σ + 20) := by simp [feedC, uI, upd]
  have res : Qi (feedC gi a b d e f (sN_ σ) 20 0 13) (feedC gi a b d e f (sN_ σ) 20) gl := by
    rw [e13]
    have f2 : ∀ z, 2 ≤ z → feedC gi a b d e f (sN_ σ) 20 z = gi z := fun z hz => by unfold feedC; rw [uI_n (by omega), uI_n (by omega)]
    have f0 : ∀ j, j ≠ 13 → feedC gi a b d e f (sN_ σ) 20 0 j = gi 0 j := fun j hj => by unfold feedC; rw [uI_s, upd_n hj]
    refine key ?_ (fun z hz => ⟨f2 z (by omega), rfl⟩)
    obtain ⟨m1, m2, m3, m4, m5, m6, m7, m8, m9⟩ := m
    have hk : sKept σ ≤ 4 := V.2.2.2.2.1
    obtain ⟨r, q1, q2, q3⟩ := m9
    refine ⟨e13, fun j hj => ?_, by rw [f0 _ (by omega)]; exact m3, by rw [f0 _ (by omega)]; exact m4, by rw [f0 _ (by omega)]; exact m5, cTown_congr (fun b a1 a2 => f2 b (by omega)) rfl m6, cAlb_congr V.2.2.2.1.1 (fun z a1 a2 => f2 z (by omega)) m7, fun i hi => cAlb_congr (V.2.2.2.2.2.1 i hi).1 (fun z a1 a2 => f2 z (by omega)) (m8 i hi), ⟨r, by omega, by rw [f2 _ (by omega)]; exact q2, fun s hs => by rw [f2 _ (by omega)]; exact q3 s hs⟩⟩
    have hj : j < sN_ σ + 20 := hj
    show feedC gi a b d e f (sN_ σ) 20 1 j = if sN_ σ ≤ j ∧ j < sN_ σ + 20 then fbyte a b d e f (j - sN_ σ) else sTape σ j
    unfold feedC
    rw [uI_n (by omega), uI_s]
    show (if sN_ σ ≤ j ∧ j < sN_ σ + 20 then fbyte a b d e f (j - sN_ σ) else gi 1 j) = _
    by_cases w : sN_ σ ≤ j ∧ j < sN_ σ + 20
    · rw [if_pos w, if_pos w]
    · rw [if_neg w, if_neg w]; exact m2 j (by omega)
  have full : ∀ g, g = feedC gi a b d e f (sN_ σ) (4 * 0) → p_X11_putOnTape a g gl (fun gi1 gl2 => p_X11_putOnTape b gi1 gl2 (fun gi3 gl4 => p_X11_putOnTape d gi3 gl4 (fun gi5 gl6 => p_X11_putOnTape e gi5 gl6 (fun gi7 gl8 => p_X11_putOnTape f gi7 gl8 (fun gi9 gl10 => Qi (gi9 0 13) gi9 gl10))))) := by
    rintro g rfl
    refine st 0 a (by omega) (fun i hi => by rcases pk i hi with r | r | r | r <;> subst r <;> rfl) _ ?_
    refine st 1 b (by omega) (fun i hi => by rcases pk i hi with r | r | r | r <;> subst r <;> rfl) _ ?_
    refine st 2 d (by omega) (fun i hi => by rcases pk i hi with r | r | r | r <;> subst r <;> rfl) _ ?_
    refine st 3 e (by omega) (fun i hi => by rcases pk i hi with r | r | r | r <;> subst r <;> rfl) _ ?_
    refine st 4 f (by omega) (fun i hi => by rcases pk i hi with r | r | r | r <;> subst r <;> rfl) _ ?_
    exact res
  exact full gi g0
theorem c_weight (V : vSta σ) (m : CI σ c gi gl) {x y : Int32} (h1 : okW x y = true → ∀ gi', CI (dWeight σ x y) (c + 1) gi' gl → FrC gi gl gi' gl → Qi 1 gi' gl) (h2 : okW x y = false → Qi 0 gi gl) : p_X11_weight x y gi gl Qi := by
  refine v_X11_weight ?_
  unfold f_X11_weight
  unfold okW at h1 h2
  have ex := iI_of x
  have ey := iI_of y
  have rx := iI_rng x
  have ry := iI_rng y
  generalize hxi : x.toInt = x' at *
  generalize hyi : y.toInt = y' at *
  refine d_lt y' 0 ey rfl ry (by omega) (fun z => h2 (by rw [decide_eq_false (show ¬ 0 ≤ y' by omega)]; simp)) (fun z => ?_)
  refine d_le y' 99 ey rfl ry (by omega) (fun z2 => ?_) (fun z2 => h2 (by rw [decide_eq_false (show ¬ y' ≤ 99 by omega)]; simp))
  refine v_X0_setWeight zl_33 zk_33 ?_
  unfold f_X0_setWeight
  refine d_lt x' 0 ex rfl rx (by omega) (fun z => ⟨Or.inl rfl, h2 (by rw [decide_eq_false (show ¬ 0 ≤ x' by omega)]; simp)⟩) (fun w => ?_)
  refine d_lt x' 12 ex rfl rx (by omega) (fun w2 => ?_) (fun w2 => ⟨Or.inl rfl, h2 (by rw [decide_eq_false (show ¬ x' ≤ 11 by omega)]; simp)⟩)
  obtain ⟨i, hi⟩ := nat_of w
  subst hi
  have exn : x = nI i := by rw [ex, iI_n]
  refine ⟨by rw [exn]; exact vp_nI (by omega) (by omega), ?_⟩
  rintro g rfl
  have ec : x.toNatClampNeg = i := by rw [exn, nI_cl (by omega)]
  rw [ec]
  refine ⟨Or.inr rfl, h1 (by simp; omega) _ ?_ (fun z hz => ⟨uI_n (by omega), rfl⟩)⟩
  have f : ∀ z, z ≠ 35 → uI gi (33 + 2) (upd (gi (33 + 2)) i y) z = gi z := fun z hz => uI_n hz
  obtain ⟨m1, m2, m3, m4, m5, m6, m7, m8, m9⟩ := m
  have hk : sKept σ ≤ 4 := V.2.2.2.2.1
  have h8 : (sShown σ).1 ≤ 8 := V.2.2.2.1.1
  obtain ⟨r, q1, q2, q3⟩ := m9
  refine ⟨by rw [f _ (by omega)]; exact m1, fun j hj => by rw [f _ (by omega)]; exact m2 j hj, by rw [f _ (by omega)]; exact m3, by rw [f _ (by omega)]; exact m4, by rw [f _ (by omega)]; exact m5, cTown_congr (fun b a1 a2 => f b (by omega)) rfl m6, ⟨by rw [f _ (by omega)]; exact m7.1, fun i hi => cPic_congr (fun z a1 a2 => f z (by omega)) (m7.2.1 i hi), fun q hq => ?_⟩, fun i hi => cAlb_congr (V.2.2.2.2.2.1 i hi).1 (fun z a1 a2 => f z (by omega)) (m8 i hi), ⟨r, by omega, by rw [f _ (by omega)]; exact q2, fun s hs => by rw [f _ (by omega)]; exact q3 s hs⟩⟩
  rw [uI_s, updA]
  show _ = nI (if q = x.toInt.toNat then y.toInt.toNat else (sShown σ).2.2 q)
  rw [hxi, hyi, Int.toNat_natCast]
  by_cases w : q = i
  · rw [if_pos w, if_pos w, ey, ← iI_n, Int.toNat_of_nonneg z]
  · rw [if_neg w, if_neg w]; exact m7.2.2 q hq
theorem s_X0_signCount (V : vSta σ) (m : CI σ c gi gl) (h : Qi (nI (sumN (fun i => ((sShown σ).2.1 i).1) (sShown σ).1)) gi gl) : p_X0_signCount 33 gi gl Qi := by
  have h8 : (sShown σ).1 ≤ 8 := V.2.2.2.1.1
  refine v_X0_signCount zl_33 zk_33 ?_
  unfold f_X0_signCount
  refine dn (P := fun r => p_X0_signCount_4 33 (nI (sumN (fun i => ((sShown σ).2.1 i).1) r)) (nI r) gi gl Qi) (N := (sShown σ).1) ?_ ?_ 0 (by omega)
  · refine v_X0_signCount_4 zl_33 zk_33 ?_
    unfold f_X0_signCount_4
    rw [m.A.1]
    exact ifT (by rw [nI_leI (by omega) (by omega)]; omega) h
  · intro r hr ih
    refine v_X0_signCount_4 zl_33 zk_33 ?_
    unfold f_X0_signCount_4
    rw [m.A.1]
    refine c_le _ r rfl rfl (by omega) (by omega) (fun z => by omega) (fun _ => ?_)
    refine c_le 8 r rfl rfl (by omega) (by omega) (fun z => by omega) (fun _ => ⟨vp_nI (by omega) (by omega), ?_⟩)
    rintro b1 rfl
    rw [nI_cl (by omega)]
    refine s_X5_size (m.P V hr).1 ?_
    rintro z5 rfl
    rw [nI_add, nI_1]
    exact ih
theorem c_count (V : vSta σ) (m : CI σ c gi gl) {x : Int32} (k : KC σ (c + 1) gi gl (Qi (aCount σ x))) : p_X11_count x gi gl Qi := by
  have h := k.s V m Scr.rf
  unfold aCount at h
  refine v_X11_count ?_
  unfold f_X11_count
  by_cases c0 : x = 0
  · subst c0; refine ifT rfl ?_; rw [m.2.2.2.1]; exact h
  refine ifF c0 ?_
  by_cases c1 : x = 1
  · subst c1; refine ifT rfl ?_
    refine v_X0_size zl_33 zk_33 ?_
    unfold f_X0_size
    rw [m.A.1]; exact h
  refine ifF c1 ?_
  by_cases c2 : x = 2
  · subst c2; refine ifT rfl ?_; rw [m.1]; exact h
  refine ifF c2 ?_
  by_cases c3 : x = 3
  · subst c3; refine ifT rfl ?_; rw [m.2.2.2.2.1]; exact h
  refine ifF c3 ?_
  by_cases c4 : x = 4
  · subst c4; refine ifT rfl ?_; exact s_X0_signCount V m h
  refine ifF c4 ?_
  rw [if_neg c0, if_neg c1, if_neg c2, if_neg c3, if_neg c4] at h
  have ex := iI_of x
  have rx := iI_rng x
  generalize x.toInt = x' at *
  refine d_le 10 x' rfl ex (by omega) rx (fun z => ?_) (fun z => by rw [if_neg (by omega)] at h; exact h)
  have e : x - 10 = iI (x' - 10) := by rw [ex, show (10 : Int32) = iI 10 by rfl, iI_sub]
  rw [e]
  refine v_X0_weightOf zl_33 zk_33 ?_
  unfold f_X0_weightOf
  refine d_lt (x' - 10) 0 rfl rfl (by omega) (by omega) (fun y => by omega) (fun _ => ?_)
  refine d_lt (x' - 10) 12 rfl rfl (by omega) (by omega) (fun y => ?_) (fun y => by rw [if_neg (by omega)] at h; exact h)
  rw [if_pos (by omega)] at h
  obtain ⟨i, hi⟩ := nat_of (show 0 ≤ x' - 10 by omega)
  rw [hi, Int.toNat_natCast] at h
  rw [hi, iI_n, nI_cl (by omega)]
  refine ⟨vp_nI (by omega) (by omega), ?_⟩
  rw [m.A.2.2 i (by omega)]; exact h
theorem s_X4_minutesIn {T : Twn} {P : Pic} {a : Nat} (hN : a < NN) (hK : sK a = 4) (m : cMom T P gi a) {mo : Nat} (hm : mo < 12) (h : Qi (nI (pCnt T P mo)) gi gl) : p_X4_minutesIn a (nI mo) gi gl Qi := by
  refine v_X4_minutesIn hN hK ?_
  unfold f_X4_minutesIn
  refine c_lt mo 0 rfl rfl (by omega) (by omega) (fun y => by omega) (fun _ => ?_)
  refine c_lt mo 12 rfl rfl (by omega) (by omega) (fun _ => ?_) (fun y => by omega)
  rw [nI_cl (by omega), m.2.2.1 mo hm]
  exact ⟨vp_nI (by omega) (by omega), h⟩
theorem mOn_r {T : Twn} {P : Pic} {la : Int} {r : Nat} : sumN (fun i => mOn T la nosu P (r * 30 + i)) 30 = cntN (dAll T la P r) 30 * pCnt T P (r % 12) := by
  rw [← sumN_if]
  exact sumN_congr (fun i hi => by unfold mOn dAll; rw [mth_row hi])
theorem s_X2_countLater {T : Twn} {P : Pic} {p : Nat} (m : CE T gi gl) (hs : CS T P gi p) (hm : cMom T P gi (p + 2)) {la : Int} (hla : 0 ≤ la ∧ la ≤ 99) (h : Qi (nI (sumN (mOn T la nosu P) 3600)) gi gl) : p_X2_countLater p (iI la) gi gl Qi := by
  obtain ⟨hN2, hK2⟩ := mom_k hs.2.2.2.1 hs.2.2.2.2.1
  refine v_X2_countLater hs.2.2.2.1 hs.2.2.2.2.1 ?_
  unfold f_X2_countLater
  refine dn (P := fun r => p_X2_countLater_5 p (iI la) (nI (sumN (mOn T la nosu P) (r * 30))) (nI r) gi gl Qi) (N := 120) ?_ ?_ 0 (by omega)
  · refine v_X2_countLater_5 hs.2.2.2.1 hs.2.2.2.2.1 ?_
    unfold f_X2_countLater_5
    exact ifT (by decide) h
  · intro r hr ih
    rw [blk, mOn_r] at ih
    refine v_X2_countLater_5 hs.2.2.2.1 hs.2.2.2.2.1 ?_
    unfold f_X2_countLater_5
    refine c_le 120 r rfl rfl (by omega) (by omega) (fun z => by omega) (fun _ => ?_)
    refine c_mom hs.2.2.2.1 hs.2.2.2.2.1 ?_
    rw [jr12 (by omega)]
    refine s_X4_minutesIn hN2 hK2 hm (by omega) ?_
    have hc := pCnt_le (T := T) (P := P) (m := r % 12)
    refine c_le (pCnt T P (r % 12)) 0 rfl rfl (by omega) (by omega) (fun z => ?_) (fun z => ?_)
    · rw [show pCnt T P (r % 12) = 0 by omega, Nat.mul_zero, Nat.add_zero] at ih
      rw [nI_1]; exact ih
    · refine s_X2_daysLater m hs hr hla ?_
      have b0 := bN30 (f := dAll T la P r)
      refine s_bitCount (by omega) ?_
      rw [pc_bN (by omega)]
      rintro z13 rfl
      rw [mulN, nI_add, nI_1]
      exact ih
theorem c_late (V : vSta σ) (m : CI σ c gi gl) {x y : Int32} (k : KC σ (c + 1) gi gl (Qi (aLate (sTown σ) (sShown σ) x y))) : p_X11_late x y gi gl Qi := by
  have h := k.s V m Scr.rf
  unfold aLate at h
  refine v_X11_late ?_
  unfold f_X11_late
  refine c_get V m (fun hp => ?_) (fun i hi hp hxi => ?_)
  · rw [if_neg (by rw [hp]; simp)] at h; exact h
  · obtain ⟨hs, hm⟩ := m.P V hi
    have hE := m.E V
    have ey := iI_of y
    have ry := iI_rng y
    generalize y.toInt = z at *
    subst ey
    refine d_lt z (-1) rfl rfl ry (by omega) (fun a1 => by rw [if_neg (by omega)] at h; exact h) (fun a1 => ?_)
    refine d_le z 99 rfl rfl ry (by omega) (fun a2 => ?_) (fun a2 => by rw [if_neg (by omega)] at h; exact h)
    rw [if_pos ⟨hp, by omega, a2⟩, hxi] at h
    refine d_eq z (-1) rfl rfl ry (by omega) (fun a3 => ?_) (fun a3 => ?_)
    · simp only [if_pos (show z < 0 by omega)] at h
      have lp : ∀ n j, j + n = 100 → Qi (if firstN (fun k => decide (sumN (mOn (sTown σ) k nosu ((sShown σ).2.1 i)) 3600 = 0)) n j < 100 then nI (firstN (fun k => decide (sumN (mOn (sTown σ) k nosu ((sShown σ).2.1 i)) 3600 = 0)) n j) else -1) gi gl → p_X11_late_44 (36 + 7 * i) (nI j) gi gl Qi := by
        intro n
        induction n with
        | zero =>
          intro j hj hq
          refine v_X11_late_44 hs.2.2.2.1 hs.2.2.2.2.1 ?_
          unfold f_X11_late_44
          refine c_lt 99 j rfl rfl (by omega) (by omega) (fun _ => ?_) (fun w => by omega)
          unfold firstN at hq
          rw [if_neg (by omega)] at hq
          exact hq
        | succ n ih =>
          intro j hj hq
          refine v_X11_late_44 hs.2.2.2.1 hs.2.2.2.2.1 ?_
          unfold f_X11_late_44
          refine c_lt 99 j rfl rfl (by omega) (by omega) (fun w => by omega) (fun _ => ?_)
          rw [← iI_n]
          refine s_X2_countLater hE hs hm (by omega) ?_
          rw [iI_n]
          have hle := sumMO_le (T := sTown σ) (la := (j : Int)) (su := nosu) (P := (sShown σ).2.1 i)
          unfold firstN at hq
          refine c_le (sumN (mOn (sTown σ) j nosu ((sShown σ).2.1 i)) 3600) 0 rfl rfl (by omega) (by omega) (fun q => ?_) (fun q => ?_)
          · rw [nI_1]
            simp only [decide_eq_true (show sumN (mOn (sTown σ) (j : Int) nosu ((sShown σ).2.1 i)) 3600 = 0 by omega), if_true] at hq
            exact ih (j + 1) (by omega) hq
          · simp only [decide_eq_false (show ¬ sumN (mOn (sTown σ) (j : Int) nosu ((sShown σ).2.1 i)) 3600 = 0 by omega), Bool.false_eq_true, if_false] at hq
            rw [if_pos (show j < 100 by omega)] at hq
            exact hq
      exact lp 100 0 (by omega) h
    · simp only [if_neg (show ¬ z < 0 by omega)] at h
      exact s_X2_countLater hE hs hm (by omega) h
theorem c_couples (V : vSta σ) (m : CI σ c gi gl) {x y a b w : Int32} (k : KC σ (c + 1) gi gl (Ql (aCouples (sTown σ) (sShown σ) x y a b w))) : p_X11_couples x y a b w gi gl Ql := by
  have h := k.s V m Scr.rf
  unfold aCouples at h
  refine v_X11_couples ?_
  unfold f_X11_couples
  refine c_get V m (fun hp => ?_) (fun i hi hp hxi => ?_)
  · rw [if_neg (by rw [hp]; simp)] at h
    exact c_get V m (S := fun _ => Ql (-1)) (fun _ => h) (fun _ _ _ _ => h)
  · refine c_get V m (fun hp2 => ?_) (fun j hj hp2 hyj => ?_)
    · rw [if_neg (by rw [hp2]; simp)] at h; exact h
    · obtain ⟨hs, hm⟩ := m.P V hi
      obtain ⟨hN2, hK2⟩ := mom_k hs.2.2.2.1 hs.2.2.2.2.1
      obtain ⟨hs', hm'⟩ := m.P V hj
      obtain ⟨hN2', hK2'⟩ := mom_k hs'.2.2.2.1 hs'.2.2.2.2.1
      have ea := iI_of a
      have ra := iI_rng a
      have eb := iI_of b
      have rb := iI_rng b
      have ew := iI_of w
      have rw' := iI_rng w
      generalize a.toInt = a' at *
      generalize b.toInt = b' at *
      generalize w.toInt = w' at *
      subst ea eb ew
      refine d_lt w' 0 rfl rfl rw' (by omega) (fun q => by rw [if_neg (by omega)] at h; exact h) (fun q1 => ?_)
      refine d_le w' 2 rfl rfl rw' (by omega) (fun q2 => ?_) (fun q => by rw [if_neg (by omega)] at h; exact h)
      refine d_lt a' (-719) rfl rfl ra (by omega) (fun q => by rw [if_neg (by omega)] at h; exact h) (fun q3 => ?_)
      refine d_lt 719 b' rfl rfl (by omega) rb (fun q => by rw [if_neg (by omega)] at h; exact h) (fun q4 => ?_)
      refine d_le a' b' rfl rfl ra rb (fun q5 => ?_) (fun q => by rw [if_neg (by omega)] at h; exact h)
      rw [if_pos ⟨hp, hp2, by omega, q5, by omega, by omega, q2⟩, hxi, hyj] at h
      refine v_X5_moments hs.2.2.2.1 hs.2.2.2.2.1 ?_
      unfold f_X5_moments
      refine ⟨fun y => (by cases y), fun b hb _ _ => ?_⟩
      cases hb
      refine c_mom hs'.2.2.2.1 hs'.2.2.2.2.1 ?_
      exact s_X11_couplesOf hN2 hK2 hN2' hK2' hm hm' ⟨by omega, q5, by omega⟩ ⟨by omega, q2⟩ h
end CI9
