/-! THE CLASS, thirteen: quarrel, doubt -/
section CM2
variable {σ : Sta} {c : Nat} {gi : Gi} {gl : Gl} {Q : Gi → Gl → Prop} {Qi : Int32 → Gi → Gl → Prop} {T : Twn} {P : Pic} {p : Nat}
theorem s_markMoments {n c1 c2 : Nat} (hn : n ≤ 12) (h12 : c1 ≤ c2) (hc : c2 ≤ 1020) (h5 : gi 25 5 = nI c2) {A : Nat → Nat} (hA : ∀ j, j < c2 → gi 28 j = nI (A j) ∧ A j < 2 ^ n) {J : Nat → Prop} (hJ : Mk gi 26 (2 ^ n) J)
    (h : ∀ g, (∀ z, z ≠ 26 → g z = gi z) → Mk g 26 (2 ^ n) (fun s => J s ∨ ∃ j k, j < c1 ∧ c1 ≤ k ∧ k < c2 ∧ A j &&& A k = s) → Q g gl) : p_X6_markMoments (nI c1) gi gl Q := by
  have hp := pw12 hn
  refine v_X6_markMoments ?_
  unfold f_X6_markMoments
  refine dn (P := fun j => ∀ g, (∀ z, z ≠ 26 → g z = gi z) → Mk g 26 (2 ^ n) (fun s => J s ∨ ∃ j' k, j' < j ∧ c1 ≤ k ∧ k < c2 ∧ A j' &&& A k = s) → p_X6_markMoments_2 (nI c1) (nI j) g gl Q) (N := c1) ?_ ?_ 0 (Nat.zero_le _) gi (fun _ _ => rfl) (hJ.cg (fun s _ => ⟨Or.inl, fun q => by
    rcases q with q | ⟨j, k, q, -⟩
    · exact q
    · omega⟩))
  · intro g f1 f2
    refine v_X6_markMoments_2 ?_
    unfold f_X6_markMoments_2
    exact ifT (by rw [nI_leI (by omega) (by omega)]; omega) (h g f1 f2)
  · intro j hj ih g f1 f2
    refine v_X6_markMoments_2 ?_
    unfold f_X6_markMoments_2
    refine c_le c1 j rfl rfl (by omega) (by omega) (fun y => by omega) (fun _ => ?_)
    have lp : ∀ m k g, k + m = c2 → c1 ≤ k → (∀ z, z ≠ 26 → g z = gi z) → Mk g 26 (2 ^ n) (fun s => (J s ∨ ∃ j' k, j' < j ∧ c1 ≤ k ∧ k < c2 ∧ A j' &&& A k = s) ∨ ∃ k', c1 ≤ k' ∧ k' < k ∧ A j &&& A k' = s) → p_X6_markMoments_9 (nI c1) (nI j) (nI k) g gl Q := by
      intro m
      induction m with
      | zero =>
        intro k g hk hk1 f1 f2
        refine v_X6_markMoments_9 ?_
        unfold f_X6_markMoments_9
        rw [f1 25 (by omega), h5]
        refine ifT (by rw [nI_leI (by omega) (by omega)]; omega) ?_
        rw [nI_1]
        refine ih g f1 (f2.cg (fun s _ => ?_))
        constructor
        · rintro ((q | ⟨j', k', a1, a2, a3, a4⟩) | ⟨k', a1, a2, a3⟩)
          · exact Or.inl q
          · exact Or.inr ⟨j', k', by omega, a2, a3, a4⟩
          · exact Or.inr ⟨j, k', by omega, a1, by omega, a3⟩
        · rintro (q | ⟨j', k', a1, a2, a3, a4⟩)
          · exact Or.inl (Or.inl q)
          · by_cases e : j' = j
            · subst e; exact Or.inr ⟨k', a2, by omega, a4⟩
            · exact Or.inl (Or.inr ⟨j', k', by omega, a2, a3, a4⟩)
      | succ m ihm =>
        intro k g hk hk1 f1 f2
        obtain ⟨j1, j2⟩ := hA j (by omega)
        obtain ⟨k1, k2⟩ := hA k (by omega)
        have hab : A j &&& A k < 2 ^ n := Nat.lt_of_le_of_lt Nat.and_le_left j2
        refine v_X6_markMoments_9 ?_
        unfold f_X6_markMoments_9
        rw [f1 25 (by omega), h5, f1 28 (by omega)]
        refine c_le c2 k rfl rfl (by omega) (by omega) (fun y => by omega) (fun _ => ?_)
        rw [nI_cl (show j < 2147483648 by omega), nI_cl (show k < 2147483648 by omega), j1, k1, nx_and, nI_cl (by omega), nI_1]
        refine ⟨vp_nI (by omega) (by omega), vp_nI (by omega) (by omega), vp_nI (by omega) (by omega), ?_⟩
        rintro g1 rfl
        refine ihm (k + 1) _ (by omega) (by omega) (fun z hz => by rw [uI_n hz]; exact f1 z hz) (f2.put (fun s _ => ?_))
        constructor
        · rintro (q | ⟨k', a1, a2, a3⟩)
          · exact Or.inl (Or.inl q)
          · by_cases e : k' = k
            · subst e; exact Or.inr a3.symm
            · exact Or.inl (Or.inr ⟨k', a1, by omega, a3⟩)
        · rintro ((q | ⟨k', a1, a2, a3⟩) | q)
          · exact Or.inl q
          · exact Or.inr ⟨k', a1, by omega, a3⟩
          · exact Or.inr ⟨k, hk1, by omega, q.symm⟩
    refine lp (c2 - c1) c1 g (by omega) (Nat.le_refl _) f1 (f2.cg (fun s _ => ⟨Or.inl, fun q => ?_⟩))
    rcases q with q | ⟨k', a1, a2, -⟩
    · exact q
    · omega
theorem and_not {n s : Nat} (h : s < 2 ^ n) (hn : n ≤ 12) : nI (2 ^ n - 1) &&& (nI s ^^^ (-1)) = nI (2 ^ n - 1 - s) := by
  have hp := pw12 hn
  rw [m1_nI, nx_xor, nx_and]
  congr 1
  apply Nat.eq_of_testBit_eq
  intro i
  rw [Nat.testBit_and, Nat.testBit_xor, Nat.testBit_two_pow_sub_one, Nat.testBit_two_pow_sub_one, show 2 ^ n - 1 - s = 2 ^ n - (s + 1) by omega, Nat.testBit_two_pow_sub_succ h]
  by_cases q : i < n
  · simp [q, show i < 32 by omega]
  · simp [q]
theorem clr_bit {s k : Nat} (hs : s < 4096) (hk : k < 12) (hb : s.testBit k = true) : ∃ u, nI s &&& (nI (2 ^ k) ^^^ (-1)) = nI u ∧ u.testBit k = false ∧ u ||| 2 ^ k = s ∧ u ≤ s := by
  have e : ∀ i, (s &&& (2 ^ k ^^^ (2 ^ 32 - 1))).testBit i = (s.testBit i && !decide (k = i)) := fun i => by
    rw [Nat.testBit_and, Nat.testBit_xor, Nat.testBit_two_pow_sub_one, Nat.testBit_two_pow]
    by_cases q : i < 32
    · simp [q]
    · rw [Nat.testBit_lt_two_pow (Nat.lt_of_lt_of_le hs (Nat.le_trans (by decide : 4096 ≤ 2 ^ 32) (Nat.pow_le_pow_right (by omega) (by omega))))]
      rfl
  refine ⟨s &&& (2 ^ k ^^^ (2 ^ 32 - 1)), by rw [m1_nI, nx_xor, nx_and], by rw [e]; simp, ?_, Nat.and_le_left⟩
  apply Nat.eq_of_testBit_eq
  intro i
  rw [bit_or, e]
  by_cases q : k = i
  · subst q; simp [hb]
  · simp [q]
theorem s_markSmaller {n : Nat} (hn : n ≤ 12) (h7 : gi 25 7 = nI n) {J : Nat → Prop} (hJ : Mk gi 26 (2 ^ n) J) (h : ∀ g, (∀ z, z ≠ 26 → g z = gi z) → Mk g 26 (2 ^ n) (clP J n) → Q g gl) : p_X6_markSmaller gi gl Q := by
  have hp := pw12 hn
  refine v_X6_markSmaller ?_
  unfold f_X6_markSmaller
  refine dn (P := fun k => ∀ g, (∀ z, z ≠ 26 → g z = gi z) → Mk g 26 (2 ^ n) (clP J k) → p_X6_markSmaller_2 (nI k) g gl Q) (N := n) ?_ ?_ 0 (Nat.zero_le _) gi (fun _ _ => rfl) (hJ.cg (fun s _ => clP_0.symm))
  · intro g f1 f2
    refine v_X6_markSmaller_2 ?_
    unfold f_X6_markSmaller_2
    rw [f1 25 (by omega), h7]
    exact ifT (by rw [nI_leI (by omega) (by omega)]; omega) (h g f1 f2)
  · intro k hk ih g f1 f2
    refine v_X6_markSmaller_2 ?_
    unfold f_X6_markSmaller_2
    rw [f1 25 (by omega), h7]
    refine c_le n k rfl rfl (by omega) (by omega) (fun y => by omega) (fun _ => ?_)
    refine dn (P := fun s => ∀ g, (∀ z, z ≠ 26 → g z = gi z) → Mk g 26 (2 ^ n) (fun u => clP J k u ∨ (u.testBit k = false ∧ u ||| 2 ^ k < s ∧ clP J k (u ||| 2 ^ k))) → p_X6_markSmaller_12 (nI k) (nI s) g gl Q) (N := 2 ^ n) ?_ ?_ 0 (Nat.zero_le _) g f1 (f2.cg (fun u _ => ⟨Or.inl, fun q => by
      rcases q with q | ⟨-, q, -⟩
      · exact q
      · omega⟩))
    · intro g f1 f2
      refine v_X6_markSmaller_12 ?_
      unfold f_X6_markSmaller_12
      rw [f1 25 (by omega), h7, jl_1 (by omega)]
      refine ifT (by rw [nI_leI (by omega) (by omega)]; omega) ?_
      rw [nI_1]
      refine ih g f1 (f2.cg (fun u hu => ?_))
      rw [clP_s]
      constructor
      · rintro (q | ⟨q1, -, q2⟩)
        · exact Or.inl q
        · exact Or.inr ⟨q1, q2⟩
      · rintro (q | ⟨q1, q2⟩)
        · exact Or.inl q
        · exact Or.inr ⟨q1, Nat.or_lt_two_pow hu (Nat.pow_lt_pow_right (by omega) hk), q2⟩
    · intro s hs ih2 g f1 f2
      refine v_X6_markSmaller_12 ?_
      unfold f_X6_markSmaller_12
      rw [f1 25 (by omega), h7, jl_1 (by omega), jl_1 (by omega)]
      refine c_le (2 ^ n) s rfl rfl (by omega) (by omega) (fun y => by omega) (fun _ => ?_)
      rw [jab (by omega) (by omega), nI_1, nI_cl (show s < 2147483648 by omega)]
      have keep : (s.testBit k = false ∨ ¬ clP J k s) → p_X6_markSmaller_12 (nI k) (nI (s + 1)) g gl Q := fun hno => by
        refine ih2 g f1 (f2.cg (fun u hu => ?_))
        constructor
        · rintro (q | ⟨q1, q2, q3⟩)
          · exact Or.inl q
          · exact Or.inr ⟨q1, by omega, q3⟩
        · rintro (q | ⟨q1, q2, q3⟩)
          · exact Or.inl q
          · by_cases e : u ||| 2 ^ k = s
            · exfalso
              rcases hno with hno | hno
              · rw [← e, bit_or, q1] at hno
                simp at hno
              · exact hno (e ▸ q3)
            · exact Or.inr ⟨q1, by omega, q3⟩
      cases hb : s.testBit k with
      | false => exact ifT (by rw [b2i_f]; decide) (keep (Or.inl hb))
      | true =>
        refine ifF (by rw [b2i_t]; decide) ⟨vp_nI (by omega) (by omega), ?_⟩
        rcases f2 s hs with ⟨q, v⟩ | ⟨q, v⟩
        · rw [v]
          have hcl : clP J k s := by
            rcases q with q | ⟨q, -⟩
            · exact q
            · rw [hb] at q; cases q
          obtain ⟨u0, c1, c2, c3, c4⟩ := clr_bit (show s < 4096 by omega) (show k < 12 by omega) hb
          refine ifF (by decide) ?_
          rw [c1, nI_cl (by omega)]
          refine ⟨vp_nI (by omega) (by omega), ?_⟩
          rintro g1 rfl
          refine ih2 _ (fun z hz => by rw [uI_n hz]; exact f1 z hz) (f2.put (fun u hu => ?_))
          constructor
          · rintro (q | ⟨q1, q2, q3⟩)
            · exact Or.inl (Or.inl q)
            · by_cases e : u ||| 2 ^ k = s
              · right
                apply Nat.eq_of_testBit_eq
                intro i
                by_cases w : k = i
                · subst w; rw [q1, c2]
                · have h1 : (u ||| 2 ^ k).testBit i = (u0 ||| 2 ^ k).testBit i := by rw [e, c3]
                  rw [bit_or, bit_or, decide_eq_false w, Bool.or_false, Bool.or_false] at h1
                  exact h1
              · exact Or.inl (Or.inr ⟨q1, by omega, q3⟩)
          · rintro ((q | ⟨q1, q2, q3⟩) | q)
            · exact Or.inl q
            · exact Or.inr ⟨q1, by omega, q3⟩
            · subst q
              exact Or.inr ⟨c2, by rw [c3]; omega, by rw [c3]; exact hcl⟩
        · rw [v]
          exact ifT (by decide) (keep (Or.inr (fun w => q (Or.inl w))))
/-- what quarrels write -/
def Wx (gi g : Gi) : Prop := ∀ z, (z < 23 ∨ z = 24 ∨ 29 < z) → g z = gi z
theorem Wx.E {g : Gi} (h : Wx gi g) (m : CE T gi gl) : CE T g gl := ⟨cTown_congr (fun b _ _ => h b (by omega)) rfl m.1, m.2⟩
theorem Wx.S {g : Gi} (h : Wx gi g) (hp : 29 < p) (m : CS T P gi p) : CS T P g p := m.congr (h _ (by omega)) (h _ (by omega))
theorem sz_26 : sN 26 = 4096 := by decide +kernel
theorem s_X6_weigh (m : CE T gi gl) (hs : CS T P gi p) (hp : 29 < p) {r : Nat} (hr : r < 500000000) (h6 : gi 25 6 = nI r) (hsn : ∀ s, s < 4096 → ∃ z, z ≤ r ∧ gi 27 s = nI z)
    (h : ∀ g, Wx gi g → g 25 7 = nI P.1 → g 25 6 = nI (r + 24) → (∀ s, s < 4096 → ∃ z, z ≤ r + 24 ∧ g 27 s = nI z) → Mk g 26 (2 ^ P.1) (canP T P) → Q g gl) : p_X6_weigh p gi gl Q := by
  have hN := hs.2.2.2.1
  have hK := hs.2.2.2.2.1
  have hc := hs.2.1
  have hpw := pw12 hc
  refine v_X6_weigh hN hK ?_
  unfold f_X6_weigh
  refine s_X5_size hs ?_
  intro g1 e1
  have emin : jmin (nI P.1) 12 = nI P.1 := by
    show (if (12 : Int32) < nI P.1 then (12 : Int32) else nI P.1) = _
    exact if_neg (by rw [show (12 : Int32) = nI 12 by rfl, nI_ltI (by omega) (by omega)]; omega)
  rw [emin] at e1
  have f1 : ∀ z, z ≠ 25 → g1 z = gi z := fun z hz => by rw [e1]; exact uI_n hz
  refine s_fill zl_26 zk_26 sz_26 (by omega) (fun g2 f2 h26 => ?_)
  refine dn (P := fun mo => ∀ g, Wx gi g → g 25 7 = nI P.1 → g 25 6 = nI (r + 2 * mo) → (∀ s, s < 4096 → ∃ z, z ≤ r + 2 * mo ∧ g 27 s = nI z) → Mk g 26 (2 ^ P.1) (Jm T P mo) → p_X6_weigh_23 p (nI mo) g gl Q) (N := 12) ?_ ?_ 0 (by omega) g2 (fun z hz => by rw [f2 _ (by omega), f1 _ (by omega)]) (by rw [f2 _ (by omega), e1, uI_s, upd_s]) (by rw [f2 _ (by omega), e1, uI_s, upd_n (by omega)]; exact h6) (fun s hs => by rw [f2 _ (by omega), f1 _ (by omega)]; exact hsn s hs) (fun s hs => Or.inr ⟨fun ⟨d, t, _, _, q, _⟩ => by omega, h26 s (by omega)⟩)
  · intro g hw h7 h6 hsn hJ
    refine v_X6_weigh_23 hN hK ?_
    unfold f_X6_weigh_23
    refine ifT (by decide) ?_
    refine s_markSmaller hc h7 hJ (fun g3 f3 hM => ?_)
    exact h g3 (fun z hz => by rw [f3 _ (by omega)]; exact hw z hz) (by rw [f3 _ (by omega)]; exact h7) (by rw [f3 _ (by omega)]; exact h6) (fun s hs => by rw [f3 _ (by omega)]; exact hsn s hs) (hM.cg (fun s hs => clP_can hs))
  · intro mo hm ih g hw h7 h6 hsn hJ
    refine v_X6_weigh_23 hN hK ?_
    unfold f_X6_weigh_23
    refine c_le 12 mo rfl rfl (by omega) (by omega) (fun y => by omega) (fun _ => ?_)
    intro g3 e3
    have f3 : ∀ z, z ≠ 25 → g3 z = g z := fun z hz => by rw [e3]; exact uI_n hz
    have f3k : ∀ j, j ≠ 5 → g3 25 j = g 25 j := fun j hj => by rw [e3, uI_s, upd_n hj]
    have w3 : Wx gi g3 := fun z hz => by rw [f3 _ (by omega)]; exact hw z hz
    refine s_noteDays (R := r + 2 * mo) (w3.E m) (w3.S hp hs) hp hm (by omega) (by rw [f3k _ (by omega)]; exact h7) (by rw [f3k _ (by omega)]; exact h6) (by rw [e3, uI_s, upd_s]; rfl) (fun s hs => by rw [f3 _ (by omega)]; exact hsn s hs) (fun g4 c4 w4 hc4 n4 => ?_)
    have w4' : Wx gi g4 := fun z hz => by rw [w4.1 _ (by omega)]; exact w3 z hz
    rintro z6 rfl
    rw [n4.1]
    refine s_noteMinutes (w4'.E m) (w4'.S hp hs) hp hc4 hm (by omega) (by rw [w4.2.1, f3k _ (by omega)]; exact h7) n4.2.1 n4.1 (fun s hs => n4.old hs) (fun g5 c5 w5 hc5 n5 => ?_)
    have w5' : Wx gi g5 := fun z hz => by rw [w5.1 _ (by omega)]; exact w4' z hz
    have A4 : ∀ j, j < c4 → ∃ s, g5 28 j = nI s ∧ s < 2 ^ P.1 ∧ ∃ q i, q < 10 ∧ i < 30 ∧ dB T P ((mo + 12 * q) * 30 + i) = s := fun j hj => by
      obtain ⟨s, s1, s2, q, i, q1, q2, q3⟩ := n4.2.2.2.1 j (by omega) hj
      exact ⟨s, (congrFun (f := g5 28) rfl j).trans ((w5.2.2 j hj).trans s1), by rw [← q3]; exact dB_lt, q, i, q1, q2, q3⟩
    have A5 : ∀ j, c4 ≤ j → j < c5 → ∃ s, g5 28 j = nI s ∧ s < 2 ^ P.1 ∧ ∃ q i, q < 24 ∧ i < 30 ∧ mB T P mo (q * 30 + i) = s := fun j h1 h2 => by
      obtain ⟨s, s1, s2, q, i, q1, q2, q3⟩ := n5.2.2.2.1 j h1 h2
      exact ⟨s, s1, by rw [← q3]; exact mB_lt, q, i, q1, q2, q3⟩
    have cl : ∀ j s, g5 28 j = nI s → s < 2 ^ P.1 → (g5 28 j).toNatClampNeg = s := fun j s e hs => by rw [e, nI_cl (by omega)]
    have J5 : Mk g5 26 (2 ^ P.1) (Jm T P mo) := hJ.fr (by rw [w5.1 _ (by omega), w4.1 _ (by omega), f3 _ (by omega)])
    refine s_markMoments (c2 := c5) (A := fun j => (g5 28 j).toNatClampNeg) hc n5.2.2.1 (by omega) n5.1 (fun j hj => ?_) J5 (fun g6 f6 hM => ?_)
    · show g5 28 j = nI (g5 28 j).toNatClampNeg ∧ (g5 28 j).toNatClampNeg < 2 ^ P.1
      rcases Nat.lt_or_ge j c4 with y | y
      · obtain ⟨s, s1, s2, -⟩ := A4 j y
        rw [cl j s s1 s2]; exact ⟨s1, s2⟩
      · obtain ⟨s, s1, s2, -⟩ := A5 j y hj
        rw [cl j s s1 s2]; exact ⟨s1, s2⟩
    · rw [nI_1]
      refine ih g6 (fun z hz => by rw [f6 _ (by omega)]; exact w5' z hz) (by rw [f6 _ (by omega), w5.2.1, w4.2.1, f3k _ (by omega)]; exact h7) (by rw [f6 _ (by omega), n5.2.1]; rfl) (fun s hs => by rw [f6 _ (by omega)]; obtain ⟨z, z1, z2⟩ := n5.old hs; exact ⟨z, by omega, z2⟩) (hM.cg (fun s _ => ?_))
      constructor
      · rintro (⟨d, t, d1, d2, d3, d4⟩ | ⟨j, k, j1, k1, k2, e⟩)
        · exact ⟨d, t, d1, d2, by omega, d4⟩
        · obtain ⟨a, a1, a2, q, i, q1, q2, q3⟩ := A4 j j1
          obtain ⟨b, b1, b2, q', i', q1', q2', q3'⟩ := A5 k k1 k2
          have e : (g5 28 j).toNatClampNeg &&& (g5 28 k).toNatClampNeg = s := e
          rw [cl j a a1 a2, cl k b b1 b2] at e
          have em : mth ((mo + 12 * q) * 30 + i) = mo := by unfold mth; omega
          exact ⟨(mo + 12 * q) * 30 + i, q' * 30 + i', by omega, by omega, by omega, by rw [em, q3, q3']; exact e⟩
      · rintro ⟨d, t, d1, d2, d3, d4⟩
        by_cases em : mth d = mo
        · right
          obtain ⟨a1, j, j1, j2, j3⟩ := n4.2.2.2.2.1 (dB T P d) ⟨d / 360, d % 30, by omega, by omega, by
            have : (mo + 12 * (d / 360)) * 30 + d % 30 = d := by unfold mth at em; omega
            rw [this]⟩
          obtain ⟨b1, k, k1, k2, k3⟩ := n5.2.2.2.2.1 (mB T P mo t) ⟨t / 30, t % 30, by omega, by omega, by rw [show t / 30 * 30 + t % 30 = t by omega]⟩
          refine ⟨j, k, j2, k1, k2, ?_⟩
          show (g5 28 j).toNatClampNeg &&& (g5 28 k).toNatClampNeg = s
          rw [w5.2.2 j j2, j3, k3, nI_cl (by omega), nI_cl (by omega), ← d4, em]
        · exact Or.inl ⟨d, t, d1, d2, by omega, d4⟩
theorem s_smallestQuarrel (hc : P.1 ≤ 12) (h7 : gi 25 7 = nI P.1) (hM : Mk gi 26 (2 ^ P.1) (canP T P)) (h : Qi (nI (qB T P (2 ^ P.1))) gi gl) : p_X6_smallestQuarrel gi gl Qi := by
  have hN := pw12 hc
  have h0 := pw_pos (n := P.1)
  refine v_X6_smallestQuarrel ?_
  unfold f_X6_smallestQuarrel
  have lp : ∀ m s, s + m = 2 ^ P.1 → p_X6_smallestQuarrel_4 (nI (qB T P s)) (nI s) gi gl Qi := by
    intro m
    induction m with
    | zero =>
      intro s hs
      refine v_X6_smallestQuarrel_4 ?_
      unfold f_X6_smallestQuarrel_4
      rw [h7, jl_1 (by omega), show s = 2 ^ P.1 by omega]
      exact ifT (by rw [nI_leI (by omega) (by omega)]; omega) h
    | succ m ih =>
      intro s hs
      have ih := ih (s + 1) (by omega)
      have hq := qB_le (T := T) (P := P) s
      rw [qB_s] at ih
      refine v_X6_smallestQuarrel_4 ?_
      unfold f_X6_smallestQuarrel_4
      rw [h7, jl_1 (by omega)]
      refine c_le (2 ^ P.1) s rfl rfl (by omega) (by omega) (fun q => by omega) (fun _ => ?_)
      rw [nI_cl (by omega), nI_1]
      refine ⟨vp_nI (by omega) (by omega), ?_⟩
      refine hM.rdn (by omega) (fun q => ?_) (fun q => ?_)
      · rw [if_neg (by rintro ⟨z, -⟩; exact (canB_f.1 z) q)] at ih; exact ih
      · have qf := canB_f.2 q
        refine c_eq (qB T P s) 0 rfl rfl (by omega) (by omega) (fun q0 => ?_) (fun q0 => ?_)
        · rw [if_pos ⟨qf, Or.inl q0⟩] at ih; exact ih
        · refine s_bitCount (by omega) ?_
          refine s_bitCount (by omega) ?_
          have l1 := pcN_le (v := s)
          have l2 := pcN_le (v := qB T P s)
          refine c_le (pcN (qB T P s)) (pcN s) rfl rfl (by omega) (by omega) (fun z => ?_) (fun z => ?_)
          · rw [if_neg (by rintro ⟨-, w | w⟩ <;> omega)] at ih; exact ih
          · rw [if_pos ⟨qf, Or.inr z⟩] at ih; exact ih
  have e1 : qB T P 1 = 0 := by
    rw [qB_s, if_neg (by rintro ⟨z, -⟩; rw [canB_iff.2 can_0] at z; cases z)]; rfl
  have := lp (2 ^ P.1 - 1) 1 (by omega)
  rw [e1] at this
  exact this
theorem s_smallestDoubt (hc : P.1 ≤ 12) (h7 : gi 25 7 = nI P.1) (hM : Mk gi 26 (2 ^ P.1) (canP T P)) (h : Qi (nI (dbB T P (2 ^ P.1))) gi gl) : p_X6_smallestDoubt gi gl Qi := by
  have hN := pw12 hc
  have h0 := pw_pos (n := P.1)
  refine v_X6_smallestDoubt ?_
  unfold f_X6_smallestDoubt
  rw [h7, jl_1 (by omega), sub1 (by omega)]
  rintro z1 rfl
  refine dn (P := fun s => p_X6_smallestDoubt_13 (nI (2 ^ P.1 - 1)) (nI (dbB T P s)) (nI s) gi gl Qi) (N := 2 ^ P.1) ?_ ?_ 0 (Nat.zero_le _)
  · refine v_X6_smallestDoubt_13 ?_
    unfold f_X6_smallestDoubt_13
    exact ifT (by rw [nI_ltI (by omega) (by omega)]; omega) h
  · intro s hs ih
    have hd := (dbB_bst (T := T) hc s (by omega)).1.1
    rw [dbB_s] at ih
    refine v_X6_smallestDoubt_13 ?_
    unfold f_X6_smallestDoubt_13
    refine c_lt (2 ^ P.1 - 1) s rfl rfl (by omega) (by omega) (fun q => by omega) (fun _ => ?_)
    rw [and_not hs hc, nI_cl (by omega), nI_1]
    refine ⟨vp_nI (by omega) (by omega), ?_⟩
    rcases hM (2 ^ P.1 - 1 - s) (by omega) with ⟨q, v⟩ | ⟨q, v⟩
    · have e : vB T P s = true := canB_iff.2 q
      refine ifF (by rw [v]; decide) ?_
      refine s_bitCount (by omega) ?_
      refine s_bitCount (by omega) ?_
      have l1 := pcN_le (v := s)
      have l2 := pcN_le (v := dbB T P s)
      refine c_le (pcN (dbB T P s)) (pcN s) rfl rfl (by omega) (by omega) (fun z => ?_) (fun z => ?_)
      · rw [if_neg (by rintro ⟨-, w⟩; omega)] at ih; exact ih
      · rw [if_pos ⟨e, z⟩] at ih; exact ih
    · have e : vB T P s = false := canB_f.2 q
      refine ifT (by rw [v]; decide) ?_
      rw [if_neg (by rw [e]; simp)] at ih; exact ih
theorem s_rivals (hc : P.1 ≤ 12) (h7 : gi 25 7 = nI P.1) (hM : Mk gi 26 (2 ^ P.1) (canP T P)) (h : Qi (nI (rvB T P)) gi gl) : p_X6_rivals gi gl Qi := by
  have hN := pw12 hc
  have h0 := pw_pos (n := P.1)
  have hd := (dbB_bst (T := T) hc _ (Nat.le_refl (2 ^ P.1))).1.1
  refine v_X6_rivals ?_
  unfold f_X6_rivals
  rw [h7, jl_1 (by omega), sub1 (by omega)]
  rintro z1 rfl
  refine s_smallestDoubt hc h7 hM ?_
  refine s_bitCount (by omega) ?_
  unfold rvB at h
  refine dn (P := fun s => p_X6_rivals_22 (nI (2 ^ P.1 - 1)) (nI (pcN (dbB T P (2 ^ P.1)))) (nI (cntN (fun s => vB T P s && decide (pcN s = pcN (dbB T P (2 ^ P.1)))) s)) (nI s) gi gl Qi) (N := 2 ^ P.1) ?_ ?_ 0 (Nat.zero_le _)
  · refine v_X6_rivals_22 ?_
    unfold f_X6_rivals_22
    exact ifT (by rw [nI_ltI (by omega) (by omega)]; omega) h
  · intro s hs ih
    rw [cntN_s] at ih
    refine v_X6_rivals_22 ?_
    unfold f_X6_rivals_22
    refine c_lt (2 ^ P.1 - 1) s rfl rfl (by omega) (by omega) (fun q => by omega) (fun _ => ?_)
    rw [and_not hs hc, nI_cl (by omega), nI_1, nI_1]
    refine ⟨vp_nI (by omega) (by omega), ?_⟩
    rcases hM (2 ^ P.1 - 1 - s) (by omega) with ⟨q, v⟩ | ⟨q, v⟩
    · have e : vB T P s = true := canB_iff.2 q
      refine ifF (by rw [v]; decide) ?_
      refine s_bitCount (by omega) ?_
      have l1 := pcN_le (v := s)
      have l2 := pcN_le (v := dbB T P (2 ^ P.1))
      refine c_ne (pcN s) (pcN (dbB T P (2 ^ P.1))) rfl rfl (by omega) (by omega) (fun z => ?_) (fun z => ?_)
      · simp only [e, Bool.true_and, decide_eq_true_eq, z, if_false] at ih
        exact ih
      · simp only [e, Bool.true_and, decide_eq_true_eq, z, if_true] at ih
        exact ih
    · have e : vB T P s = false := canB_f.2 q
      refine ifT (by rw [v]; decide) ?_
      simp only [e, Bool.false_and, Bool.false_eq_true, if_false] at ih
      exact ih
theorem CI_w (V : vSta σ) (m : CI σ c gi gl) {g : Gi} {r : Nat} (hw : Wx gi g) (hr : r ≤ 24 * c) (h6 : g 25 6 = nI (r + 24)) (hsn : ∀ s, s < 4096 → ∃ z, z ≤ r + 24 ∧ g 27 s = nI z) : CI σ (c + 1) g gl :=
  CI_of V m (fun k _ _ => by rw [hw 0 (by omega)]) (hw 1 (by omega)) (fun z a b => hw z (by omega)) (fun z a b => hw z (by omega)) ⟨r + 24, by omega, h6, hsn⟩ rfl
theorem c_quarrel (V : vSta σ) (m : CI σ c gi gl) (hcc : c ≤ 10000) {x : Int32} (k : KC σ (c + 1) gi gl (Qi (aQuarrel (sTown σ) (sShown σ) x))) : p_X11_quarrel x gi gl Qi := by
  refine v_X11_quarrel ?_
  unfold f_X11_quarrel
  refine c_get V m (fun hp => ?_) (fun i hi hp hxi => ?_)
  · have h := k.s V m Scr.rf
    unfold aQuarrel at h
    rw [if_neg (by rw [hp]; simp)] at h; exact h
  · obtain ⟨hs, hm⟩ := m.P V hi
    obtain ⟨r, r1, r2, r3⟩ := m.2.2.2.2.2.2.2.2
    refine s_X6_weigh (m.E V) hs (by omega) (by omega) r2 r3 (fun g hw h7 h6 hsn hM => ?_)
    have h := k g gl (CI_w V m hw r1 h6 hsn) (fun z hz => ⟨hw z (by omega), rfl⟩)
    unfold aQuarrel at h
    rw [if_pos hp, hxi] at h
    exact s_smallestQuarrel hs.2.1 h7 hM h
theorem c_doubt (V : vSta σ) (m : CI σ c gi gl) (hcc : c ≤ 10000) {x w : Int32} (k : KC σ (c + 1) gi gl (Qi (aDoubt (sTown σ) (sShown σ) x w))) : p_X11_doubt x w gi gl Qi := by
  have h0 := k.s V m Scr.rf
  refine v_X11_doubt ?_
  unfold f_X11_doubt
  refine c_get V m (fun hp => ?_) (fun i hi hp hxi => ?_)
  · unfold aDoubt at h0
    rw [if_neg (by rw [hp]; simp)] at h0; exact h0
  · obtain ⟨hs, hm⟩ := m.P V hi
    obtain ⟨r, r1, r2, r3⟩ := m.2.2.2.2.2.2.2.2
    refine d_lt w.toInt 0 (iI_of w) rfl (iI_rng w) (by omega) (fun q => by unfold aDoubt at h0; rw [if_neg (by omega)] at h0; exact h0) (fun q1 => ?_)
    refine d_le w.toInt 1 (iI_of w) rfl (iI_rng w) (by omega) (fun q2 => ?_) (fun q => by unfold aDoubt at h0; rw [if_neg (by omega)] at h0; exact h0)
    refine s_X6_weigh (m.E V) hs (by omega) (by omega) r2 r3 (fun g hw h7 h6 hsn hM => ?_)
    have h := k g gl (CI_w V m hw r1 h6 hsn) (fun z hz => ⟨hw z (by omega), rfl⟩)
    unfold aDoubt at h
    rw [if_pos ⟨hp, by omega, q2⟩, hxi] at h
    refine d_ne w.toInt 0 (iI_of w) rfl (iI_rng w) (by omega) (fun q => ?_) (fun q => ?_)
    · simp only [if_neg q] at h
      exact s_rivals hs.2.1 h7 hM h
    · simp only [if_pos q] at h
      exact s_smallestDoubt hs.2.1 h7 hM h
end CM2
