/-! THE CLASS, eleven: copies; image, back -/
theorem cp_at {f h : Nat → Int32} {n i : Nat} (hi : i < n) : va_cpy f h 0 0 n i = f i := by
  unfold va_cpy
  rw [if_pos (by omega)]
  show f (0 + (i - 0)) = f i
  rw [Nat.zero_add, Nat.sub_zero]
theorem alb_k {a : Nat} (hN : a < NN) (hK : sK a = 0) : ∀ i, i < 8 → a + 3 + 7 * i < NN ∧ sK (a + 3 + 7 * i) = 5 := by
  have := (show ∀ a, a < 377 → sK a = 0 → ∀ i, i < 8 → a + 3 + 7 * i < 377 ∧ sK (a + 3 + 7 * i) = 5 by decide +kernel)
  exact this a hN hK
theorem kept_k : ∀ k, k < 4 → 93 + 59 * k < NN ∧ sK (93 + 59 * k) = 0 := by
  have := (show ∀ k, k < 4 → 93 + 59 * k < 377 ∧ sK (93 + 59 * k) = 0 by decide +kernel)
  exact this
section CK
variable {σ : Sta} {c : Nat} {gi : Gi} {gl : Gl} {Q : Gi → Gl → Prop} {Qi : Int32 → Gi → Gl → Prop} {T : Twn} {P : Pic} {A : Alb} {a p : Nat}
theorem s_X4_copyFrom (hN : a < NN) (hK : sK a = 4) (hN2 : p < NN) (hK2 : sK p = 4) (hap : a + 4 < p + 1 ∨ p + 4 < a + 1) (m : cMom T P gi p) (h : ∀ g, (∀ z, (z < a + 1 ∨ a + 4 < z) → g z = gi z) → cMom T P g a → Q g gl) : p_X4_copyFrom a p gi gl Q := by
  refine v_X4_copyFrom hN hK hN2 hK2 ?_
  unfold f_X4_copyFrom
  intro g1 e1 g2 e2 g3 e3 g4 e4
  rw [show (0 : Int32).toNatClampNeg = 0 by rfl, show (120 : Int32).toNatClampNeg = 120 by rfl] at e1
  rw [show (0 : Int32).toNatClampNeg = 0 by rfl, show (288 : Int32).toNatClampNeg = 288 by rfl] at e2
  rw [show (0 : Int32).toNatClampNeg = 0 by rfl, show (12 : Int32).toNatClampNeg = 12 by rfl] at e3 e4
  have q1 : ∀ z, z ≠ a + 1 → g1 z = gi z := fun z hz => by rw [e1]; exact uI_n hz
  have q2 : ∀ z, z ≠ a + 2 → g2 z = g1 z := fun z hz => by rw [e2]; exact uI_n hz
  have q3 : ∀ z, z ≠ a + 3 → g3 z = g2 z := fun z hz => by rw [e3]; exact uI_n hz
  have q4 : ∀ z, z ≠ a + 4 → g4 z = g3 z := fun z hz => by rw [e4]; exact uI_n hz
  refine h g4 (fun z hz => by rw [q4 _ (by omega), q3 _ (by omega), q2 _ (by omega), q1 _ (by omega)]) ⟨fun r hr => ?_, fun mo hm r hr => ?_, fun mo hm => ?_, fun mo hm => ?_⟩
  · rw [q4 _ (by omega), q3 _ (by omega), q2 _ (by omega), e1, uI_s, cp_at hr]; exact m.1 r hr
  · rw [q4 _ (by omega), q3 _ (by omega), e2, uI_s, cp_at (by omega), q1 _ (by omega)]; exact m.2.1 mo hm r hr
  · rw [q4 _ (by omega), e3, uI_s, cp_at hm, q2 _ (by omega), q1 _ (by omega)]; exact m.2.2.1 mo hm
  · rw [e4, uI_s, cp_at hm, q3 _ (by omega), q2 _ (by omega), q1 _ (by omega)]; exact m.2.2.2 mo hm
theorem s_X5_copyFrom (hN : a < NN) (hK : sK a = 5) (hN2 : p < NN) (hK2 : sK p = 5) (hap : a + 6 < p ∨ p + 6 < a) (hP : P.1 ≤ 12) (m : cPic T P gi p) (h : ∀ g, (∀ z, (z < a ∨ a + 6 < z) → g z = gi z) → cPic T P g a → Q g gl) : p_X5_copyFrom a p gi gl Q := by
  refine v_X5_copyFrom hN hK hN2 hK2 ?_
  unfold f_X5_copyFrom
  intro g1 e1
  rw [show (0 : Int32).toNatClampNeg = 0 by rfl, show (60 : Int32).toNatClampNeg = 60 by rfl] at e1
  have q1 : ∀ z, z ≠ a + 1 → g1 z = gi z := fun z hz => by rw [e1]; exact uI_n hz
  obtain ⟨k1, k2⟩ := mom_k hN hK
  obtain ⟨k3, k4⟩ := mom_k hN2 hK2
  have m1 : cPic T P g1 p := cPic_congr (fun z h1 h2 => q1 z (by omega)) m
  refine s_X4_copyFrom k1 k2 k3 k4 (by omega) m1.2 (fun g2 q2 hm => ?_)
  intro g4 e4
  have q4 : ∀ z, z ≠ a → g4 z = g2 z := fun z hz => by rw [e4]; exact uI_n hz
  refine h g4 (fun z hz => by rw [q4 _ (by omega), q2 _ (by omega), q1 _ (by omega)]) ⟨⟨?_, fun k hk w hw => ?_⟩, ?_⟩
  · rw [e4, uI_s, upd_s, q2 _ (by omega)]; exact m1.1.1
  · rw [q4 _ (by omega), q2 _ (by omega), e1, uI_s, cp_at (by omega)]; exact m.1.2 k hk w hw
  · exact ⟨fun r hr => by rw [q4 _ (by omega)]; exact hm.1 r hr, fun mo hm2 r hr => by rw [q4 _ (by omega)]; exact hm.2.1 mo hm2 r hr, fun mo hm2 => by rw [q4 _ (by omega)]; exact hm.2.2.1 mo hm2, fun mo hm2 => by rw [q4 _ (by omega)]; exact hm.2.2.2 mo hm2⟩
theorem s_X0_copyFrom (hN : a < NN) (hK : sK a = 0) (hN2 : p < NN) (hK2 : sK p = 0) (hap : a + 58 < p ∨ p + 58 < a) (vA : A.1 ≤ 8) (vP : ∀ i, i < A.1 → (A.2.1 i).1 ≤ 12) (m : cAlb T A gi p) (h : ∀ g, (∀ z, (z < a ∨ a + 58 < z) → g z = gi z) → cAlb T A g a → Q g gl) : p_X0_copyFrom a p gi gl Q := by
  refine v_X0_copyFrom hN hK hN2 hK2 ?_
  unfold f_X0_copyFrom
  have lp : ∀ n j g, j + n = A.1 → (∀ z, (z < a + 3 ∨ a + 58 < z) → g z = gi z) → (∀ i, i < j → cPic T (A.2.1 i) g (a + 3 + 7 * i)) → p_X0_copyFrom_2 a p (nI j) g gl Q := by
    intro n
    induction n with
    | zero =>
      intro j g hj fr hc
      have mg : cAlb T A g p := cAlb_congr vA (fun z h1 h2 => fr z (by omega)) m
      refine v_X0_copyFrom_2 hN hK hN2 hK2 ?_
      unfold f_X0_copyFrom_2
      rw [mg.1]
      refine ifT (by rw [nI_leI (by omega) (by omega)]; omega) ?_
      refine v_X0_copyFrom_37 hN hK hN2 hK2 ?_
      unfold f_X0_copyFrom_37
      intro g1 e1 g2 e2
      rw [show (0 : Int32).toNatClampNeg = 0 by rfl, show (12 : Int32).toNatClampNeg = 12 by rfl] at e1
      have q1 : ∀ z, z ≠ a + 2 → g1 z = g z := fun z hz => by rw [e1]; exact uI_n hz
      have q2 : ∀ z, z ≠ a → g2 z = g1 z := fun z hz => by rw [e2]; exact uI_n hz
      refine h g2 (fun z hz => by rw [q2 _ (by omega), q1 _ (by omega), fr _ (by omega)]) ⟨?_, fun i hi => ?_, fun mo hm => ?_⟩
      · rw [e2, uI_s, upd_s, q1 _ (by omega)]; exact mg.1
      · exact cPic_congr (fun z h1 h2 => by rw [q2 _ (by omega), q1 _ (by omega)]) (hc i (by omega))
      · rw [q2 _ (by omega), e1, uI_s, cp_at hm]; exact mg.2.2 mo hm
    | succ n ih =>
      intro j g hj fr hc
      have mg : cAlb T A g p := cAlb_congr vA (fun z h1 h2 => fr z (by omega)) m
      obtain ⟨k1, k2⟩ := alb_k hN hK j (by omega)
      obtain ⟨k3, k4⟩ := alb_k hN2 hK2 j (by omega)
      refine v_X0_copyFrom_2 hN hK hN2 hK2 ?_
      unfold f_X0_copyFrom_2
      rw [mg.1]
      refine c_le A.1 j rfl rfl (by omega) (by omega) (fun y => by omega) (fun _ => ?_)
      refine c_le 8 j rfl rfl (by omega) (by omega) (fun y => by omega) (fun _ => ?_)
      rw [nI_cl (by omega)]
      refine ⟨vp_nI (by omega) (by omega), ?_⟩
      rintro b1 rfl
      refine ⟨vp_nI (by omega) (by omega), ?_⟩
      rintro b2 rfl
      refine s_X5_copyFrom k1 k2 k3 k4 (by omega) (vP j (by omega)) (mg.2.1 j (by omega)) (fun g2 f2 hp => ?_)
      rw [nI_1]
      refine ih (j + 1) g2 (by omega) (fun z hz => by rw [f2 _ (by omega), fr _ (by omega)]) (fun i hi => ?_)
      by_cases e : i = j
      · subst e; exact hp
      · exact cPic_congr (fun z h1 h2 => f2 z (by omega)) (hc i (by omega))
  exact lp A.1 0 gi (by omega) (fun _ _ => rfl) (fun i hi => by omega)
theorem cQua.fr {gi g : Gi} {c : Nat} (h : cQua gi c) (e1 : g 25 = gi 25) (e2 : g 27 = gi 27) : cQua g c := by
  obtain ⟨r, h1, h2, h3⟩ := h
  exact ⟨r, h1, by rw [e1]; exact h2, fun s hs => by rw [e2]; exact h3 s hs⟩
theorem c_image (V : vSta σ) (m : CI σ c gi gl) (h1 : sKept σ < 4 → ∀ gi', CI (dImage σ) (c + 1) gi' gl → FrC gi gl gi' gl → Qi (nI (sKept σ)) gi' gl) (h2 : sKept σ = 4 → Qi (-1) gi gl) : p_X11_image gi gl Qi := by
  have hk : sKept σ ≤ 4 := V.2.2.2.2.1
  refine v_X11_image ?_
  unfold f_X11_image
  rw [m.2.2.2.2.1]
  refine c_lt (sKept σ) 4 rfl rfl (by omega) (by omega) (fun hk4 => ?_) (fun y => h2 (by omega))
  rw [nI_cl (by omega)]
  refine ⟨vp_nI hk4 (by omega), ?_⟩
  rintro b1 rfl
  obtain ⟨k1, k2⟩ := kept_k _ hk4
  refine s_X0_copyFrom k1 k2 zl_33 zk_33 (by omega) V.2.2.2.1.1 V.2.2.2.1.le m.A (fun g f hA => ?_)
  intro g4 e4
  have q4 : ∀ z, z ≠ 0 → g4 z = g z := fun z hz => by rw [e4]; exact uI_n hz
  have e12 : g4 0 12 = nI (sKept σ + 1) := by rw [e4, uI_s, upd_s, f 0 (by omega), m.2.2.2.2.1, nI_1]
  have e0 : ∀ j, j ≠ 12 → g4 0 j = gi 0 j := fun j hj => by rw [e4, uI_s, upd_n hj, f 0 (by omega)]
  rw [e12, sub1 (by omega)]
  have fr : ∀ z, z ≠ 0 → (z < 93 + 59 * sKept σ ∨ 93 + 59 * sKept σ + 58 < z) → g4 z = gi z := fun z h1 h2 => by rw [q4 z h1, f z h2]
  refine h1 hk4 g4 ?_ (fun z hz => ⟨fr z (by omega) (by omega), rfl⟩)
  obtain ⟨m1, m2, m3, m4, m5, m6, m7, m8, m9⟩ := m
  refine ⟨by rw [e0 _ (by omega)]; exact m1, fun j hj => by rw [fr _ (by omega) (by omega)]; exact m2 j hj, by rw [e0 _ (by omega)]; exact m3, by rw [e0 _ (by omega)]; exact m4, e12, cTown_congr (fun b a1 a2 => fr b (by omega) (by omega)) rfl m6, cAlb_congr V.2.2.2.1.1 (fun z a1 a2 => fr z (by omega) (by omega)) m7, fun i hi => ?_, (m9.fr (fr _ (by omega) (by omega)) (fr _ (by omega) (by omega))).up⟩
  have hi : i < sKept σ + 1 := hi
  show cAlb (sTown σ) (if i = sKept σ then sShown σ else sKeep σ i) g4 (93 + 59 * i)
  by_cases e : i = sKept σ
  · subst e
    rw [if_pos rfl]
    exact cAlb_congr V.2.2.2.1.1 (fun z a1 a2 => q4 z (by omega)) hA
  · rw [if_neg e]
    exact cAlb_congr (V.2.2.2.2.2.1 i (by omega)).1 (fun z a1 a2 => fr z (by omega) (by omega)) (m8 i (by omega))
theorem c_back (V : vSta σ) (m : CI σ c gi gl) {x : Int32} (h1 : ∀ i, i < sKept σ → x = nI i → ∀ gi', CI (dBack σ i) (c + 1) gi' gl → FrC gi gl gi' gl → Qi 1 gi' gl) (h2 : (x.toInt < 0 ∨ (sKept σ : Int) ≤ x.toInt) → Qi 0 gi gl) : p_X11_back x gi gl Qi := by
  have hk : sKept σ ≤ 4 := V.2.2.2.2.1
  refine v_X11_back ?_
  unfold f_X11_back
  rw [m.2.2.2.2.1]
  refine d_lt x.toInt 0 (iI_of x) rfl (iI_rng x) (by omega) (fun y => h2 (Or.inl y)) (fun y1 => ?_)
  refine d_le (sKept σ : Int) x.toInt (iI_n _).symm (iI_of x) (by omega) (iI_rng x) (fun y => h2 (Or.inr y)) (fun y2 => ?_)
  have ex := int_of (x := x) (by omega) rfl
  generalize hi : x.toInt.toNat = i at *
  have hi2 : i < sKept σ := by omega
  refine ifT (by rw [ex, show (4 : Int32) = nI 4 by rfl, nI_ltI (by omega) (by omega)]; omega) ?_
  have ec : x.toNatClampNeg = i := by rw [ex, nI_cl (by omega)]
  refine ⟨by rw [ex]; exact vp_nI (by omega) (by omega), ?_⟩
  rintro b1 rfl
  rw [ec]
  obtain ⟨k1, k2⟩ := kept_k i (by omega)
  have vA := V.2.2.2.2.2.1 i hi2
  have m8 := m.2.2.2.2.2.2.2.1
  refine s_X0_copyFrom zl_33 zk_33 k1 k2 (by omega) vA.1 vA.le (m8 i hi2) (fun g f hA => ?_)
  refine h1 i hi2 ex g ?_ (fun z hz => ⟨f z (by omega), rfl⟩)
  obtain ⟨m1, m2, m3, m4, m5, m6, m7, m8, m9⟩ := m
  exact ⟨by rw [f _ (by omega)]; exact m1, fun j hj => by rw [f _ (by omega)]; exact m2 j hj, by rw [f _ (by omega)]; exact m3, by rw [f _ (by omega)]; exact m4, by rw [f _ (by omega)]; exact m5, cTown_congr (fun b a1 a2 => f b (by omega)) rfl m6, hA, fun i hi => cAlb_congr (V.2.2.2.2.2.1 i hi).1 (fun z a1 a2 => f z (by omega)) (m8 i hi), (m9.fr (f _ (by omega)) (f _ (by omega))).up⟩
end CK
