/-! THE CLASS, eight: its own state; feed, fault, told, sign, lets, judge, all, days, runs, weight, count -/
def FrC (gi : Gi) (gl : Gl) (gi' : Gi) (gl' : Gl) : Prop := ∀ z, 329 ≤ z → gi' z = gi z ∧ gl' z = gl z
theorem FrC.rf {gi : Gi} {gl : Gl} : FrC gi gl gi gl := fun _ _ => ⟨rfl, rfl⟩
theorem cPic_congr {T : Twn} {P : Pic} {gi gi' : Gi} {p : Nat} (h : ∀ z, p ≤ z → z ≤ p + 6 → gi' z = gi z) (m : cPic T P gi p) : cPic T P gi' p := by
  obtain ⟨⟨m1, m2⟩, m3, m4, m5, m6⟩ := m
  refine ⟨⟨by rw [h _ (by omega) (by omega)]; exact m1, fun k hk w hw => by rw [h _ (by omega) (by omega)]; exact m2 k hk w hw⟩, fun r hr => by rw [h _ (by omega) (by omega)]; exact m3 r hr, fun mo hm r hr => by rw [h _ (by omega) (by omega)]; exact m4 mo hm r hr, fun mo hm => by rw [h _ (by omega) (by omega)]; exact m5 mo hm, fun mo hm => by rw [h _ (by omega) (by omega)]; exact m6 mo hm⟩
theorem cAlb_congr {T : Twn} {A : Alb} {gi gi' : Gi} {a : Nat} (hA : A.1 ≤ 8) (h : ∀ z, a ≤ z → z ≤ a + 58 → gi' z = gi z) (m : cAlb T A gi a) : cAlb T A gi' a := by
  obtain ⟨m1, m2, m3⟩ := m
  exact ⟨by rw [h _ (by omega) (by omega)]; exact m1, fun i hi => cPic_congr (fun z h1 h2 => h z (by omega) (by omega)) (m2 i hi), fun j hj => by rw [h _ (by omega) (by omega)]; exact m3 j hj⟩
/-- only scratch was written -/
def Scr (gi : Gi) (gl : Gl) (gi' : Gi) (gl' : Gl) : Prop := (∀ z, (z ≤ 7 ∨ 33 ≤ z) → gi' z = gi z) ∧ gi' 27 = gi 27 ∧ gi' 25 6 = gi 25 6 ∧ ∀ z, (z = 4 ∨ 329 ≤ z) → gl' z = gl z
theorem Scr.rf {gi : Gi} {gl : Gl} : Scr gi gl gi gl := ⟨fun _ _ => rfl, rfl, rfl, fun _ _ => rfl⟩
theorem Cn.scr {gi gi' : Gi} {gl : Gl} (h : Cn gi gi') : Scr gi gl gi' gl := ⟨fun z hz => h z (by omega), h 27 (by omega), by rw [h 25 (by omega)], fun _ _ => rfl⟩
theorem Scr.F {gi : Gi} {gl : Gl} {gi' : Gi} {gl' : Gl} (h : Scr gi gl gi' gl') : FrC gi gl gi' gl' := fun z hz => ⟨h.1 z (by omega), h.2.2.2 z (by omega)⟩
theorem cQua.up {gi : Gi} {c : Nat} (h : cQua gi c) : cQua gi (c + 1) := by
  obtain ⟨r, h1, h2⟩ := h
  exact ⟨r, by omega, h2⟩
theorem CI_of {σ : Sta} {c : Nat} {gi gi' : Gi} {gl gl' : Gl} (V : vSta σ) (m : CI σ c gi gl) (h0 : ∀ k, 12 ≤ k → k ≤ 15 → gi' 0 k = gi 0 k) (h1 : gi' 1 = gi 1) (hT : ∀ z, 3 ≤ z → z ≤ 7 → gi' z = gi z) (hA : ∀ z, 33 ≤ z → z < 329 → gi' z = gi z) (hq : cQua gi' (c + 1)) (hl : gl' 4 = gl 4) : CI σ (c + 1) gi' gl' := by
  obtain ⟨m1, m2, m3, m4, m5, m6, m7, m8, m9⟩ := m
  have hk : sKept σ ≤ 4 := V.2.2.2.2.1
  exact ⟨by rw [h0 _ (by omega) (by omega)]; exact m1, fun j hj => by rw [h1]; exact m2 j hj, by rw [h0 _ (by omega) (by omega)]; exact m3, by rw [h0 _ (by omega) (by omega)]; exact m4, by rw [h0 _ (by omega) (by omega)]; exact m5, cTown_congr (fun b a1 a2 => hT b (by omega) (by omega)) hl m6, cAlb_congr V.2.2.2.1.1 (fun z a1 a2 => hA z (by omega) (by omega)) m7, fun i hi => cAlb_congr (V.2.2.2.2.2.1 i hi).1 (fun z a1 a2 => hA z (by omega) (by omega)) (m8 i hi), hq⟩
theorem Scr.I {σ : Sta} {c : Nat} {gi gi' : Gi} {gl gl' : Gl} (h : Scr gi gl gi' gl') (V : vSta σ) (m : CI σ c gi gl) : CI σ (c + 1) gi' gl' := by
  refine CI_of V m (fun k _ _ => by rw [h.1 0 (by omega)]) (h.1 1 (by omega)) (fun z a b => h.1 z (by omega)) (fun z a b => h.1 z (by omega)) ?_ (h.2.2.2 4 (by omega))
  obtain ⟨r, h1, h2, h3⟩ := m.2.2.2.2.2.2.2.2
  exact ⟨r, by omega, by rw [h.2.2.1]; exact h2, fun s hs => by rw [h.2.1]; exact h3 s hs⟩
theorem CI.E {σ : Sta} {c : Nat} {gi : Gi} {gl : Gl} (V : vSta σ) (m : CI σ c gi gl) : CE (sTown σ) gi gl := ⟨m.2.2.2.2.2.1, V.2.2.1⟩
theorem CI.A {σ : Sta} {c : Nat} {gi : Gi} {gl : Gl} (m : CI σ c gi gl) : cAlb (sTown σ) (sShown σ) gi 33 := m.2.2.2.2.2.2.1
theorem p36 : ∀ i, i < 8 → 36 + 7 * i < NN ∧ sK (36 + 7 * i) = 5 := by
  have := (show ∀ i, i < 8 → 36 + 7 * i < 377 ∧ sK (36 + 7 * i) = 5 by decide +kernel)
  exact this
theorem CI.P {σ : Sta} {c : Nat} {gi : Gi} {gl : Gl} (V : vSta σ) (m : CI σ c gi gl) {i : Nat} (hi : i < (sShown σ).1) : CS (sTown σ) ((sShown σ).2.1 i) gi (36 + 7 * i) ∧ cMom (sTown σ) ((sShown σ).2.1 i) gi (36 + 7 * i + 2) := by
  have h8 : (sShown σ).1 ≤ 8 := V.2.2.2.1.1
  have vP := V.2.2.2.1.2.1 i hi
  have := m.A.2.1 i hi
  rw [show 33 + 3 + 7 * i = 36 + 7 * i by omega] at this
  exact ⟨⟨this.1, vP.2.1, vP.2.2, (p36 i (by omega)).1, (p36 i (by omega)).2, by omega⟩, this.2⟩
section CH
variable {σ : Sta} {c : Nat} {gi : Gi} {gl : Gl} {Qi : Int32 → Gi → Gl → Prop} {Ql : Int64 → Gi → Gl → Prop}
theorem c_get (V : vSta σ) (m : CI σ c gi gl) {x : Int32} {N : Gi → Gl → Prop} {S : Nat → Gi → Gl → Prop} (kn : isP (sShown σ) x = false → N gi gl)
    (ks : ∀ i, i < (sShown σ).1 → isP (sShown σ) x = true → x.toInt.toNat = i → S (36 + 7 * i) gi gl) : p_X0_get 33 x gi gl (fun o gi1 gl2 => (o = none → N gi1 gl2) ∧ (∀ b3 : Nat, o = some b3 → b3 < NN → sK b3 = 5 → S b3 gi1 gl2)) := by
  have h8 : (sShown σ).1 ≤ 8 := V.2.2.2.1.1
  have none' : isP (sShown σ) x = false → ((none : Option Nat) = none → N gi gl) ∧ (∀ b3 : Nat, (none : Option Nat) = some b3 → b3 < NN → sK b3 = 5 → S b3 gi gl) := fun h => ⟨fun _ => kn h, fun b hb => by cases hb⟩
  refine v_X0_get zl_33 zk_33 ?_
  unfold f_X0_get
  rw [m.A.1]
  by_cases h1 : x < 0
  · refine ifT h1 (none' ?_)
    rw [lt_toInt] at h1
    have : ((0 : Int32).toInt) = 0 := rfl
    unfold isP
    rw [decide_eq_false (by omega), Bool.false_and]
  · have h0 := neg_of h1
    refine ifF h1 ?_
    have e := int_of h0 rfl
    by_cases h2 : nI (sShown σ).1 ≤ x
    · refine ifT h2 (none' ?_)
      rw [le_toInt, nI_tI (by omega)] at h2
      unfold isP
      rw [decide_eq_false (show ¬ x.toInt < ((sShown σ).1 : Int) by omega), Bool.and_false]
    · refine ifF h2 ?_
      rw [le_toInt, nI_tI (by omega)] at h2
      have hp : isP (sShown σ) x = true := by unfold isP; simp; omega
      obtain ⟨i, hi, hx, hxi⟩ := isP_of hp h8
      refine ifT (by rw [hx, show (8 : Int32) = nI 8 by rfl, nI_ltI (by omega) (by omega)]; omega) ?_
      rw [hx, nI_cl (by omega)]
      refine ⟨vp_nI (by omega) (by omega), fun b hb => ⟨fun h => (by cases h), fun b3 h3 _ _ => ?_⟩⟩
      cases h3
      rw [hb]
      exact ks i hi hp hxi
theorem c_mom {p : Nat} (hN : p < NN) (hK : sK p = 5) {S : Nat → Gi → Gl → Prop} (k : S (p + 2) gi gl) : p_X5_moments p gi gl (fun o gi1 gl2 => (o = none → False) ∧ (∀ b : Nat, o = some b → b < NN → sK b = 4 → S b gi1 gl2)) := by
  refine v_X5_moments hN hK ?_
  unfold f_X5_moments
  refine ⟨fun y => (by cases y), fun b hb _ _ => ?_⟩
  cases hb
  exact k
/-- what a call that changes nothing owes -/
def KC (σ : Sta) (c : Nat) (gi : Gi) (gl : Gl) (Q : Gi → Gl → Prop) : Prop := ∀ gi' gl', CI σ c gi' gl' → FrC gi gl gi' gl' → Q gi' gl'
theorem KC.s {Q : Gi → Gl → Prop} (V : vSta σ) (m : CI σ c gi gl) (k : KC σ (c + 1) gi gl Q) {gi' : Gi} {gl' : Gl} (h : Scr gi gl gi' gl') : Q gi' gl' := k gi' gl' (h.I V m) h.F
theorem c_fault (V : vSta σ) (m : CI σ c gi gl) (k : KC σ (c + 1) gi gl (Qi (iI (sFault σ)))) : p_X11_fault gi gl Qi := by
  refine v_X11_fault ?_
  unfold f_X11_fault
  rw [m.2.2.1]; exact k.s V m Scr.rf
theorem s_X10_out (m : CE (sTown σ) gi gl) {k : Nat} (hk : k < 4) {i j : Int32} (hi : (tCnt (sTown σ) k : Int) ≤ i.toInt ∨ i.toInt < 0) (h : Qi (-1) gi gl) : p_X10_of 2 (nI k) i j gi gl Qi := by
  have hc := cnt4 m.2 hk
  refine v_X10_of zl_2 zk_2 ?_
  unfold f_X10_of
  refine c_lt k 0 rfl rfl (by omega) (by omega) (fun y => by omega) (fun _ => ?_)
  refine c_le 4 k rfl rfl (by omega) (by omega) (fun y => by omega) (fun _ => ?_)
  by_cases h1 : i < 0
  · exact ifT h1 h
  · refine ifF h1 ⟨vp_nI (by omega) (by omega), ?_⟩
    have := neg_of h1
    rw [nI_cl (by omega), m.1.1 k (by omega)]
    exact ifT (by rw [le_toInt, nI_tI (by omega)]; omega) h
theorem c_told (V : vSta σ) (m : CI σ c gi gl) {x : Int32} (k : KC σ (c + 1) gi gl (Qi (aTold (sTown σ) x))) : p_X11_told x gi gl Qi := by
  have hE := m.E V
  have h := k.s V m Scr.rf
  have c0 : tCnt (sTown σ) 0 ≤ 12 := hE.2.1 0 (by omega)
  have c2 : tCnt (sTown σ) 2 ≤ 10 := hE.2.1 2 (by omega)
  unfold aTold at h
  refine v_X11_told ?_
  unfold f_X11_told
  have ex := iI_of x
  have rx := iI_rng x
  generalize x.toInt = z at *
  subst ex
  refine d_lt z 200 rfl rfl rx (by omega) (fun y => ?_) (fun y => ?_)
  · refine d_lt z 100 rfl rfl rx (by omega) (fun y2 => ?_) (fun y2 => ?_)
    · rw [if_neg (by omega), if_neg (by omega)] at h
      refine v_X10_countOf zl_2 zk_2 ?_
      unfold f_X10_countOf
      refine d_lt z 0 rfl rfl rx (by omega) (fun y3 => ?_) (fun y3 => ?_)
      · rw [if_neg (by omega)] at h; exact h
      · refine d_lt z 6 rfl rfl rx (by omega) (fun y4 => ?_) (fun y4 => ?_)
        · rw [if_pos (by omega)] at h
          obtain ⟨n, hn⟩ := nat_of y3
          subst hn
          rw [iI_n, nI_cl (by omega), hE.1.1 n (by omega)]
          exact ⟨vp_nI (by omega) (by omega), h⟩
        · rw [if_neg (by omega)] at h; exact h
    · obtain ⟨n, hn⟩ : ∃ n : Nat, z = n + 100 := ⟨(z - 100).toNat, by omega⟩
      have es : iI z - 100 = nI n := by rw [show (100 : Int32) = iI 100 by rfl, iI_sub, ← iI_n]; congr 1; omega
      rw [es, show nI n / 4 = nI (n / 4) from div_n (b := 4) (by omega) (by omega) (by omega), show jr (nI n) 4 = nI (n % 4) from jr_n (b := 4) (by omega) (by omega) (by omega)]
      by_cases y3 : z ≤ 99 + 4 * (tCnt (sTown σ) 0 : Int)
      · rw [if_pos ⟨by omega, y3⟩, show ((z - 100) / 4).toNat = n / 4 by omega, show ((z - 100) % 4).toNat = n % 4 by omega] at h
        exact s_X10_of hE (k := 0) (by omega) (by omega) (by show n % 4 < 4; omega) h
      · rw [if_neg (by omega), if_neg (by omega), if_neg (by omega)] at h
        exact s_X10_out hE (k := 0) (by omega) (Or.inl (by rw [nI_tI (by omega)]; omega)) h
  · obtain ⟨n, hn⟩ : ∃ n : Nat, z = n + 200 := ⟨(z - 200).toNat, by omega⟩
    have es : iI z - 200 = nI n := by rw [show (200 : Int32) = iI 200 by rfl, iI_sub, ← iI_n]; congr 1; omega
    rw [es, show nI n / 3 = nI (n / 3) from div_n (b := 3) (by omega) (by omega) (by omega), show jr (nI n) 3 = nI (n % 3) from jr_n (b := 3) (by omega) (by omega) (by omega)]
    rw [if_neg (by omega)] at h
    by_cases y3 : z ≤ 199 + 3 * (tCnt (sTown σ) 2 : Int)
    · rw [if_pos ⟨by omega, y3⟩, show ((z - 200) / 3).toNat = n / 3 by omega, show ((z - 200) % 3).toNat = n % 3 by omega] at h
      exact s_X10_of hE (k := 2) (by omega) (by omega) (by show n % 3 < 3; omega) h
    · rw [if_neg (by omega), if_neg (by omega)] at h
      exact s_X10_out hE (k := 2) (by omega) (Or.inl (by rw [nI_tI (by omega)]; omega)) h
theorem X5_has {T : Twn} {P : Pic} {p : Nat} (hs : CS T P gi p) {k : Int32} (h : Qi (b2i (decide (0 ≤ k.toInt) && decide (k.toInt < P.1))) gi gl) : p_X5_has p k gi gl Qi := by
  have hc := hs.2.1
  refine v_X5_has hs.2.2.2.1 hs.2.2.2.2.1 ?_
  unfold f_X5_has
  rw [hs.1.1]
  have ek := iI_of k
  have rk := iI_rng k
  generalize k.toInt = z at *
  subst ek
  refine d_lt z 0 rfl rfl rk (by omega) (fun y => ?_) (fun y => ?_)
  · rw [decide_eq_false (by omega), Bool.false_and] at h; exact h
  · refine d_le (P.1 : Int) z (iI_n _).symm rfl (by omega) rk (fun y2 => ?_) (fun y2 => ?_)
    · rw [decide_eq_false (show ¬ z < (P.1 : Int) by omega), Bool.and_false] at h; exact h
    · refine d_le 12 z rfl rfl (by omega) rk (fun y3 => by omega) (fun _ => ?_)
      rw [decide_eq_true y, decide_eq_true y2] at h; exact h
theorem c_sign (V : vSta σ) (m : CI σ c gi gl) {x y w : Int32} (k : KC σ (c + 1) gi gl (Qi (aSign (sShown σ) x y w))) : p_X11_sign x y w gi gl Qi := by
  have h := k.s V m Scr.rf
  unfold aSign isS at h
  refine v_X11_sign ?_
  unfold f_X11_sign
  refine c_get V m (fun hp => ?_) (fun i hi hp hxi => ?_)
  · rw [if_neg (by rw [hp]; simp)] at h; exact h
  · rw [hp, Bool.true_and, hxi] at h
    obtain ⟨hs, hm⟩ := m.P V hi
    have hc := hs.2.1
    refine v_X5_tells hs.2.2.2.1 hs.2.2.2.2.1 ?_
    unfold f_X5_tells
    refine X5_has hs ?_
    refine c_b (fun y1 => ?_) (fun y1 => ?_)
    · rw [if_neg (by rw [y1]; simp)] at h; exact h
    · have ew := iI_of w
      have rw' := iI_rng w
      have ey := iI_of y
      rw [y1] at h
      simp at y1
      generalize w.toInt = w' at *
      generalize y.toInt = y' at *
      subst ew ey
      refine d_lt w' 0 rfl rfl rw' (by omega) (fun y2 => ?_) (fun y2 => ?_)
      · rw [if_neg (by omega)] at h; exact h
      · refine d_lt w' 5 rfl rfl rw' (by omega) (fun y3 => ?_) (fun y3 => ?_)
        · rw [if_pos (by simp; omega)] at h
          obtain ⟨j, hj⟩ := nat_of y1.1
          obtain ⟨l, hl⟩ := nat_of y2
          subst hj hl
          rw [iI_n, iI_n, show (5 : Int32) = nI 5 by rfl, mulN, nI_add, nI_cl (by omega), hs.1.2 j (by omega) l (by omega)]
          exact ⟨vp_nI (by omega) (by omega), h⟩
        · rw [if_neg (by omega)] at h; exact h
theorem s_isMoment {d t : Int32} (h : Qi (b2i (okM d t)) gi gl) : p_X11_isMoment d t gi gl Qi := by
  refine v_X11_isMoment ?_
  unfold f_X11_isMoment
  unfold okM at h
  have ed := iI_of d
  have rd := iI_rng d
  have et := iI_of t
  have rt := iI_rng t
  generalize d.toInt = d' at *
  generalize t.toInt = t' at *
  subst ed et
  refine d_lt d' 0 rfl rfl rd (by omega) (fun y => by rw [decide_eq_false (by omega)] at h; exact h) (fun y => ?_)
  refine d_lt 3599 d' rfl rfl (by omega) rd (fun y2 => by rw [decide_eq_false (show ¬ d' ≤ 3599 by omega), Bool.and_false] at h; exact h) (fun y2 => ?_)
  rw [decide_eq_true y, decide_eq_true y2] at h
  refine d_lt t' 0 rfl rfl rt (by omega) (fun y => by rw [decide_eq_false (by omega)] at h; exact h) (fun y => ?_)
  refine d_lt 719 t' rfl rfl (by omega) rt (fun y2 => by rw [decide_eq_false (show ¬ t' ≤ 719 by omega), Bool.and_false] at h; exact h) (fun y2 => ?_)
  rw [decide_eq_true y, decide_eq_true y2] at h
  exact h
theorem okM_of {d t : Int32} (h : okM d t = true) : ∃ a b : Nat, d = nI a ∧ t = nI b ∧ a < 3600 ∧ b < 720 ∧ d.toInt.toNat = a ∧ t.toInt.toNat = b := by
  unfold okM at h
  simp at h
  exact ⟨d.toInt.toNat, t.toInt.toNat, int_of h.1.1 rfl, int_of h.2.1 rfl, by omega, by omega, rfl, rfl⟩
theorem c_lets (V : vSta σ) (m : CI σ c gi gl) {x y d t : Int32} (k : KC σ (c + 1) gi gl (Qi (aLets (sTown σ) (sShown σ) x y d t))) : p_X11_lets x y d t gi gl Qi := by
  have h := k.s V m Scr.rf
  refine v_X11_lets ?_
  unfold f_X11_lets
  refine c_get V m (fun hp => ?_) (fun i hi hp hxi => ?_)
  · unfold aLets isS at h
    rw [if_neg (by rw [hp]; simp)] at h; exact h
  · obtain ⟨hs, hm⟩ := m.P V hi
    have hc := hs.2.1
    refine X5_has hs ?_
    refine c_b (fun y1 => ?_) (fun y1 => ?_)
    · unfold aLets isS at h
      rw [hxi, if_neg (by rw [y1]; simp)] at h; exact h
    · refine s_isMoment ?_
      refine c_nb (fun y2 => ?_) (fun y2 => ?_)
      · obtain ⟨a, b, ea, eb, la, lb, ta, tb⟩ := okM_of y2
        have hS : isS (sShown σ) x y = true := by unfold isS; rw [hp, hxi, y1]; rfl
        simp at y1
        have ey := int_of y1.1 rfl
        generalize hj : y.toInt.toNat = j at *
        have hj2 : j < ((sShown σ).2.1 i).1 := by omega
        have eA : aLets (sTown σ) (sShown σ) x y d t = b2i (sL (sTown σ) ((sShown σ).2.1 i) j a b) := by
          unfold aLets
          rw [if_pos ⟨hS, y2⟩, hxi, hj, ta, tb]
        rw [ey, ea, eb]
        refine s_X2_allows (m.E V) hs hj2 la lb (fun g' hg => ?_)
        have h := k.s V m hg.scr
        rw [eA] at h
        refine c_b (fun z => ?_) (fun z => ?_)
        · rw [z] at h; exact h
        · rw [z] at h; exact h
      · unfold aLets at h
        rw [if_neg (by rw [y2]; simp)] at h; exact h
theorem c_judge (V : vSta σ) (m : CI σ c gi gl) {x d t : Int32} (k : KC σ (c + 1) gi gl (Qi (aJudge (sTown σ) (sShown σ) x d t))) : p_X11_judge x d t gi gl Qi := by
  have h := k.s V m Scr.rf
  refine v_X11_judge ?_
  unfold f_X11_judge
  refine c_get V m (fun hp => ?_) (fun i hi hp hxi => ?_)
  · unfold aJudge at h
    rw [if_neg (by rw [hp]; simp)] at h; exact h
  · obtain ⟨hs, hm⟩ := m.P V hi
    have hc := hs.2.1
    refine s_isMoment ?_
    refine c_nb (fun y2 => ?_) (fun y2 => ?_)
    · obtain ⟨a, b, ea, eb, la, lb, ta, tb⟩ := okM_of y2
      have eA : aJudge (sTown σ) (sShown σ) x d t = if firstN (fun k => sL (sTown σ) ((sShown σ).2.1 i) k a b) ((sShown σ).2.1 i).1 0 < ((sShown σ).2.1 i).1 then nI (firstN (fun k => sL (sTown σ) ((sShown σ).2.1 i) k a b) ((sShown σ).2.1 i).1 0) else -1 := by
        unfold aJudge
        rw [if_pos ⟨hp, y2⟩, hxi, ta, tb]
      rw [ea, eb]
      have lp : ∀ n j g, j + n = ((sShown σ).2.1 i).1 → Cn gi g → (∀ g', Cn gi g' → Qi (if firstN (fun k => sL (sTown σ) ((sShown σ).2.1 i) k a b) n j < ((sShown σ).2.1 i).1 then nI (firstN (fun k => sL (sTown σ) ((sShown σ).2.1 i) k a b) n j) else -1) g' gl) → p_X11_judge_29 (36 + 7 * i) (nI a) (nI b) (nI j) g gl Qi := by
        intro n
        induction n with
        | zero =>
          intro j g hj hg hQ
          refine v_X11_judge_29 hs.2.2.2.1 hs.2.2.2.2.1 ?_
          unfold f_X11_judge_29
          refine s_X5_size (hg.S hs) (ifT (by rw [nI_leI (by omega) (by omega)]; omega) ?_)
          have := hQ g hg
          unfold firstN at this
          rw [if_neg (by omega)] at this
          exact this
        | succ n ih =>
          intro j g hj hg hQ
          refine v_X11_judge_29 hs.2.2.2.1 hs.2.2.2.2.1 ?_
          unfold f_X11_judge_29
          refine s_X5_size (hg.S hs) ?_
          refine c_le _ j rfl rfl (by omega) (by omega) (fun z => by omega) (fun _ => ?_)
          refine s_X2_allows (hg.E (m.E V)) (hg.S hs) (k := j) (by omega) la lb (fun g2 hg2 => ?_)
          have hg3 := hg.tr hg2
          unfold firstN at hQ
          refine c_nb (fun z => ?_) (fun z => ?_)
          · rw [nI_1]
            refine ih (j + 1) g2 (by omega) hg3 (fun g4 hg4 => ?_)
            have := hQ g4 hg4
            simp only [z, if_true] at this
            exact this
          · have := hQ g2 hg3
            simp only [z, Bool.false_eq_true, if_false] at this
            rw [if_pos (show j < ((sShown σ).2.1 i).1 by omega)] at this
            exact this
      exact lp ((sShown σ).2.1 i).1 0 gi (by omega) Cn.rf (fun g' hg => by
        have := k.s V m hg.scr
        rw [eA] at this
        exact this)
    · unfold aJudge at h
      rw [if_neg (by rw [y2]; simp)] at h; exact h
theorem c_all (V : vSta σ) (m : CI σ c gi gl) {x : Int32} (k : KC σ (c + 1) gi gl (Qi (aAll (sTown σ) (sShown σ) x))) : p_X11_all x gi gl Qi := by
  have h := k.s V m Scr.rf
  unfold aAll at h
  refine v_X11_all ?_
  unfold f_X11_all
  refine c_get V m (fun hp => ?_) (fun i hi hp hxi => ?_)
  · rw [if_neg (by rw [hp]; simp)] at h; exact h
  · rw [if_pos hp, hxi] at h
    obtain ⟨hs, hm⟩ := m.P V hi
    obtain ⟨hN2, hK2⟩ := mom_k hs.2.2.2.1 hs.2.2.2.2.1
    exact c_mom hs.2.2.2.1 hs.2.2.2.2.1 (s_X4_momentCount hN2 hK2 hm h)
theorem c_days (V : vSta σ) (m : CI σ c gi gl) {x y : Int32} (k : KC σ (c + 1) gi gl (Qi (aDays (sTown σ) (sShown σ) x y))) : p_X11_days x y gi gl Qi := by
  have h := k.s V m Scr.rf
  unfold aDays at h
  refine v_X11_days ?_
  unfold f_X11_days
  refine c_get V m (fun hp => ?_) (fun i hi hp hxi => ?_)
  · rw [if_neg (by rw [hp]; simp)] at h; exact h
  · rw [if_pos hp, hxi, hasD_day] at h
    obtain ⟨hs, hm⟩ := m.P V hi
    obtain ⟨hN2, hK2⟩ := mom_k hs.2.2.2.1 hs.2.2.2.2.1
    have ey := iI_of y
    have ry := iI_rng y
    generalize y.toInt = z at *
    subst ey
    refine d_le (-1) z rfl rfl (by omega) ry (fun a1 => ?_) (fun a1 => ?_)
    · refine d_ne z (-1) rfl rfl ry (by omega) (fun a2 => ?_) (fun a2 => ?_)
      · rw [if_neg a2] at h
        refine c_mom hs.2.2.2.1 hs.2.2.2.2.1 (s_X4_dayAt hN2 hK2 hm (by omega) ?_)
        by_cases a3 : z < cntN (pDay (sTown σ) ((sShown σ).2.1 i)) 3600
        · rw [if_pos ⟨by omega, a3⟩] at h; rw [if_pos a3]; exact h
        · rw [if_neg (by omega)] at h; rw [if_neg a3]; exact h
      · rw [if_pos a2] at h
        exact c_mom hs.2.2.2.1 hs.2.2.2.2.1 (s_X4_dayCount hN2 hK2 hm h)
    · rw [if_neg (by omega), if_neg (by omega)] at h; exact h
theorem c_runs (V : vSta σ) (m : CI σ c gi gl) {x y w : Int32} (k : KC σ (c + 1) gi gl (Qi (aRuns (sTown σ) (sShown σ) x y w))) : p_X11_runs x y w gi gl Qi := by
  have h := k.s V m Scr.rf
  unfold aRuns at h
  refine v_X11_runs ?_
  unfold f_X11_runs
  refine c_get V m (fun hp => ?_) (fun i hi hp hxi => ?_)
  · rw [if_neg (by rw [hp]; simp)] at h; exact h
  · rw [hxi] at h
    obtain ⟨hs, hm⟩ := m.P V hi
    obtain ⟨hN2, hK2⟩ := mom_k hs.2.2.2.1 hs.2.2.2.2.1
    have ey := iI_of y
    have ry := iI_rng y
    have ew := iI_of w
    have rw' := iI_rng w
    generalize y.toInt = z at *
    generalize w.toInt = w' at *
    subst ey ew
    refine d_le (-1) z rfl rfl (by omega) ry (fun a1 => ?_) (fun a1 => ?_)
    · refine d_ne z (-1) rfl rfl ry (by omega) (fun a2 => ?_) (fun a2 => ?_)
      · refine c_mom hs.2.2.2.1 hs.2.2.2.2.1 (s_X4_runAt hN2 hK2 hm (by omega) rw' ?_)
        rw [if_neg a2] at h
        unfold runA
        by_cases b : 0 ≤ w' ∧ w' ≤ 2
        · rw [if_pos ⟨hp, a1, b.1, b.2⟩, if_neg a2] at h
          by_cases a3 : z < sumN (dRun (sTown σ) ((sShown σ).2.1 i)) 3600
          · rw [if_pos a3] at h ⊢
            by_cases w0 : w' = 0
            · simp only [if_pos w0] at h ⊢; exact h
            · simp only [if_neg w0] at h ⊢
              by_cases w1 : w' = 1
              · simp only [if_neg (show ¬ w' = 2 by omega)] at h; simp only [if_pos w1]; exact h
              · simp only [if_pos (show w' = 2 by omega)] at h; simp only [if_neg w1, if_pos (show w' = 2 by omega)]; exact h
          · rw [if_neg a3] at h ⊢; exact h
        · rw [if_neg (by omega)] at h
          by_cases a3 : z < sumN (dRun (sTown σ) ((sShown σ).2.1 i)) 3600
          · rw [if_pos a3]
            simp only [if_neg (show ¬ w' = 0 by omega), if_neg (show ¬ w' = 1 by omega), if_neg (show ¬ w' = 2 by omega)]; exact h
          · rw [if_neg a3]; exact h
      · rw [if_pos a2] at h
        refine d_ne w' 0 rfl rfl rw' (by omega) (fun b => ?_) (fun b => ?_)
        · rw [if_neg (by omega)] at h; exact h
        · rw [if_pos ⟨hp, a1, by omega, by omega⟩, if_pos a2] at h
          exact c_mom hs.2.2.2.1 hs.2.2.2.2.1 (s_X4_runCount hN2 hK2 hm h)
    · rw [if_neg (by rintro ⟨-, q, -⟩; omega)] at h; exact h
end CH
