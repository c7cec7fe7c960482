/-! THE CLASS, fifteen: most pictures; cloud -/
theorem sub_iff {x u : Nat} : x &&& u = u ↔ ∀ i, u.testBit i = true → x.testBit i = true := by
  constructor
  · intro h i hi
    have h1 : (x &&& u).testBit i = u.testBit i := by rw [h]
    rw [Nat.testBit_and, hi, Bool.and_true] at h1
    exact h1
  · intro h
    apply Nat.eq_of_testBit_eq
    intro i
    rw [Nat.testBit_and]
    cases hb : u.testBit i with
    | false => simp
    | true => rw [h i hb]; rfl
theorem pc_sub {u v : Nat} (hv : v < 2 ^ 32) (h : v &&& u = u) : u = v ∨ pcN u < pcN v := by
  have h := sub_iff.1 h
  by_cases e : u = v
  · exact Or.inl e
  · refine Or.inr ?_
    have : ∃ i, i < 32 ∧ v.testBit i = true ∧ u.testBit i = false := by
      apply Classical.byContradiction
      intro q
      apply e
      apply Nat.eq_of_testBit_eq
      intro i
      cases hb : u.testBit i with
      | true => exact (h i hb).symm
      | false =>
        cases hc : v.testBit i with
        | false => rfl
        | true =>
          exfalso
          rcases Nat.lt_or_ge i 32 with w | w
          · exact q ⟨i, w, hc, hb⟩
          · rw [Nat.testBit_lt_two_pow (Nat.lt_of_lt_of_le hv (Nat.pow_le_pow_right (by omega) w))] at hc; cases hc
    unfold pcN
    exact cntN_lt 32 (fun i _ hi => h i hi) this
theorem pc_pos {u : Nat} (h0 : 1 ≤ u) (h : u < 2 ^ 32) : 1 ≤ pcN u := by
  rcases pc_sub (u := 0) h (by rw [Nat.and_zero]) with q | q
  · omega
  · omega
theorem pc_0 : pcN 0 = 0 := by decide
/-- b is the first of the fullest -/
def bm (W : Nat → Prop) (b : Nat) : Prop := (b = 0 ∧ ∀ u, ¬ W u) ∨ (W b ∧ ∀ u, W u → pcN u < pcN b ∨ (pcN u = pcN b ∧ b ≤ u))
theorem bm_eq {W G : Nat → Prop} {b c : Nat} (h1 : ∀ u, W u → G u) (h2 : ∀ u, G u → ∃ v, W v ∧ (u = v ∨ pcN u < pcN v)) (hb : bm G b) (hc : bm W c) : b = c := by
  rcases hb with ⟨b1, b2⟩ | ⟨b1, b2⟩
  · rcases hc with ⟨c1, -⟩ | ⟨c1, -⟩
    · omega
    · exact absurd (h1 c c1) (b2 c)
  · obtain ⟨v, v1, v2⟩ := h2 b b1
    rcases hc with ⟨c1, c2⟩ | ⟨c1, c2⟩
    · exact absurd v1 (c2 v)
    · rcases v2 with v2 | v2
      · subst v2
        have e1 := c2 b v1
        have e2 := b2 c (h1 c c1)
        omega
      · have := b2 v (h1 v v1)
        omega
/-- some moment all of a set have -/
def meP (T : Twn) (A : Alb) (u : Nat) : Prop := ∃ d t, d < 3600 ∧ t < 720 ∧ ckD T A u d = true ∧ ckM T A u (mth d) t = true
theorem ckF_0 {T : Twn} {A : Alb} {s d : Nat} : 0 ≤ ckF T A s d ↔ ckD T A s d = true ∧ ∃ t, t < 720 ∧ ckM T A s (mth d) t = true := by
  unfold ckF
  constructor
  · intro h
    split at h
    · rename_i h1
      split at h
      · rename_i h2
        exact ⟨h1, lowN_ex h2⟩
      · omega
    · omega
  · rintro ⟨h1, t, h2, h3⟩
    rw [if_pos h1]
    rcases lowN_spec (f := ckM T A s (mth d)) 720 with ⟨-, w⟩ | ⟨e, w1, -⟩
    · rw [w t h2] at h3; cases h3
    · rw [w1, if_pos (by omega)]; omega
theorem ckL_0 {T : Twn} {A : Alb} {s : Nat} : ∀ n, 0 ≤ ckL T A s n ↔ ∃ d, d < n ∧ 0 ≤ ckF T A s d
  | 0 => ⟨fun h => absurd h (by show ¬ (0 : Int) ≤ -1; omega), fun ⟨d, h, _⟩ => by omega⟩
  | n + 1 => by
    rw [ckL_s]
    have ih := ckL_0 (T := T) (A := A) (s := s) n
    by_cases h : 0 ≤ ckL T A s n
    · rw [if_pos h]
      obtain ⟨d, h1, h2⟩ := ih.1 h
      exact ⟨fun _ => ⟨d, by omega, h2⟩, fun _ => h⟩
    · rw [if_neg h]
      constructor
      · exact fun q => ⟨n, by omega, q⟩
      · rintro ⟨d, h1, h2⟩
        by_cases e : d = n
        · subst e; exact h2
        · exact absurd (ih.2 ⟨d, by omega, h2⟩) h
theorem me_iff {T : Twn} {A : Alb} {u : Nat} : 0 ≤ ckL T A u 3600 ↔ meP T A u := by
  rw [ckL_0]
  constructor
  · rintro ⟨d, h1, h2⟩
    obtain ⟨h3, t, h4, h5⟩ := ckF_0.1 h2
    exact ⟨d, t, h1, h4, h3, h5⟩
  · rintro ⟨d, t, h1, h2, h3, h4⟩
    exact ⟨d, h1, ckF_0.2 ⟨h3, t, h2, h4⟩⟩
theorem ckM2_bm {T : Twn} {A : Alb} {s : Nat} : ∀ n, n ≤ 255 → bm (fun u => 255 < u + n ∧ u ≤ 255 ∧ ckP T A s u) (ckM2 T A s n)
  | 0, _ => Or.inl ⟨rfl, fun u ⟨h1, h2, _⟩ => by omega⟩
  | n + 1, hn => by
    have ih := ckM2_bm (T := T) (A := A) (s := s) n (by omega)
    rw [ckM2_s]
    by_cases q : ckB T A s (255 - n) = true ∧ pcN (ckM2 T A s n) ≤ pcN (255 - n)
    · rw [if_pos q]
      refine Or.inr ⟨⟨by omega, by omega, ckB_iff.1 q.1⟩, fun u ⟨h1, h2, h3⟩ => ?_⟩
      by_cases e : u = 255 - n
      · exact Or.inr ⟨by rw [e], by omega⟩
      · rcases ih with ⟨-, i2⟩ | ⟨i1, i2⟩
        · exact absurd ⟨by omega, h2, h3⟩ (i2 u)
        · have := i2 u ⟨by omega, h2, h3⟩
          omega
    · rw [if_neg q]
      have old : ∀ u, (255 < u + (n + 1) ∧ u ≤ 255 ∧ ckP T A s u) → (255 < u + n ∧ u ≤ 255 ∧ ckP T A s u) ∨ (u = 255 - n ∧ ckB T A s (255 - n) = true) := fun u ⟨h1, h2, h3⟩ => by
        by_cases e : u = 255 - n
        · exact Or.inr ⟨e, by rw [← e]; exact ckB_iff.2 h3⟩
        · exact Or.inl ⟨by omega, h2, h3⟩
      rcases ih with ⟨i1, i2⟩ | ⟨i1, i2⟩
      · refine Or.inl ⟨i1, fun u hu => ?_⟩
        rcases old u hu with h | ⟨-, h⟩
        · exact i2 u h
        · exact q ⟨h, by rw [i1, pc_0]; omega⟩
      · refine Or.inr ⟨⟨by omega, i1.2⟩, fun u hu => ?_⟩
        rcases old u hu with h | ⟨e, h⟩
        · exact i2 u h
        · rw [e]
          left
          rcases Nat.lt_or_ge (pcN (255 - n)) (pcN (ckM2 T A s n)) with w | w
          · exact w
          · exact absurd ⟨h, w⟩ q
theorem and_not0 {k s : Nat} (hk : k < 256) : (k &&& (s ^^^ (2 ^ 32 - 1)) = 0) ↔ s &&& k = k := by
  rw [sub_iff]
  constructor
  · intro h i hi
    have h1 : (k &&& (s ^^^ (2 ^ 32 - 1))).testBit i = false := by rw [h]; simp
    have hi32 : i < 32 := by
      rcases Nat.lt_or_ge i 32 with w | w
      · exact w
      · rw [Nat.testBit_lt_two_pow (Nat.lt_of_lt_of_le hk (Nat.le_trans (by decide : 256 ≤ 2 ^ 32) (Nat.pow_le_pow_right (by omega) w)))] at hi; cases hi
    rw [Nat.testBit_and, hi, Nat.testBit_xor, Nat.testBit_two_pow_sub_one, decide_eq_true hi32] at h1
    simpa using h1
  · intro h
    apply Nat.eq_of_testBit_eq
    intro i
    rw [Nat.testBit_and, Nat.testBit_xor, Nat.testBit_two_pow_sub_one, Nat.zero_testBit]
    cases hb : k.testBit i with
    | false => rfl
    | true =>
      have hi32 : i < 32 := by
        rcases Nat.lt_or_ge i 32 with w | w
        · exact w
        · rw [Nat.testBit_lt_two_pow (Nat.lt_of_lt_of_le hk (Nat.le_trans (by decide : 256 ≤ 2 ^ 32) (Nat.pow_le_pow_right (by omega) w)))] at hb; cases hb
      rw [h i hb, decide_eq_true hi32]; rfl
section CO
variable {σ : Sta} {c : Nat} {gi : Gi} {gl : Gl} {Qi : Int32 → Gi → Gl → Prop}
theorem s_X0_mostMeeting (V : vSta σ) (m : CI σ c gi gl) {s : Nat} (hs : s < 2 ^ (sShown σ).1) (h : Qi (nI (ckM2 (sTown σ) (sShown σ) s 255)) gi gl) : p_X0_mostMeeting 33 (nI s) gi gl Qi := by
  have hp := pw8 (V.2.2.2.1.1)
  refine v_X0_mostMeeting zl_33 zk_33 ?_
  unfold f_X0_mostMeeting
  have fin : ∀ b, bm (fun u => 1 ≤ u ∧ u < s + 1 ∧ s &&& u = u ∧ meP (sTown σ) (sShown σ) u) b → Qi (nI b) gi gl := fun b hb => by
    have e : b = ckM2 (sTown σ) (sShown σ) s 255 := by
      refine bm_eq ?_ ?_ hb (ckM2_bm 255 (Nat.le_refl _))
      · rintro u ⟨h1, h2, d, t, d1, d2, d3⟩
        have hsub : ∀ i, u.testBit i = true → s.testBit i = true ∧ (dPk (sTown σ) (sShown σ) (sShown σ).1 d).testBit i = true ∧ (mPk (sTown σ) (sShown σ) (sShown σ).1 (mth d) t).testBit i = true := fun i hi => by
          rw [← d3, Nat.testBit_and, Nat.testBit_and] at hi
          simp at hi
          exact ⟨hi.1.2, hi.1.1, hi.2⟩
        have e1 := sub_iff.2 (fun i hi => (hsub i hi).1)
        refine ⟨by omega, ?_, e1, d, t, d1, d2, ?_, ?_⟩
        · have : u ≤ s := by rw [← e1]; exact Nat.and_le_left
          omega
        · unfold ckD
          exact decide_eq_true (sub_iff.2 (fun i hi => (hsub i hi).2.1))
        · unfold ckM
          exact decide_eq_true (sub_iff.2 (fun i hi => (hsub i hi).2.2))
      · rintro u ⟨h1, h2, h3, d, t, d1, d2, d3, d4⟩
        unfold ckD at d3
        unfold ckM at d4
        have d3 := sub_iff.1 (of_decide_eq_true d3)
        have d4 := sub_iff.1 (of_decide_eq_true d4)
        have h3 := sub_iff.1 h3
        have hle : (dPk (sTown σ) (sShown σ) (sShown σ).1 d &&& s) &&& mPk (sTown σ) (sShown σ) (sShown σ).1 (mth d) t ≤ s := Nat.le_trans Nat.and_le_left Nat.and_le_right
        have hsub : ((dPk (sTown σ) (sShown σ) (sShown σ).1 d &&& s) &&& mPk (sTown σ) (sShown σ) (sShown σ).1 (mth d) t) &&& u = u := sub_iff.2 (fun i hi => by
          rw [Nat.testBit_and, Nat.testBit_and, d3 i hi, h3 i hi, d4 i hi]; rfl)
        have hge : u ≤ (dPk (sTown σ) (sShown σ) (sShown σ).1 d &&& s) &&& mPk (sTown σ) (sShown σ) (sShown σ).1 (mth d) t := Nat.le_trans (Nat.le_of_eq hsub.symm) Nat.and_le_left
        exact ⟨_, ⟨by omega, by omega, d, t, d1, d2, rfl⟩, pc_sub (by omega) hsub⟩
    rw [e]; exact h
  have lp : ∀ n k b, k + n = s + 1 → 1 ≤ k → b ≤ s → bm (fun u => 1 ≤ u ∧ u < k ∧ s &&& u = u ∧ meP (sTown σ) (sShown σ) u) b → p_X0_mostMeeting_4 33 (nI s) (nI b) (nI k) gi gl Qi := by
    intro n
    induction n with
    | zero =>
      intro k b hk hk1 hbs hb
      have ek : k = s + 1 := by omega
      subst ek
      refine v_X0_mostMeeting_4 zl_33 zk_33 ?_
      unfold f_X0_mostMeeting_4
      exact ifT (by rw [nI_ltI (by omega) (by omega)]; omega) (fin b hb)
    | succ n ih =>
      intro k b hk hk1 hbs hb
      have l1 := pcN_le (v := k)
      have l2 := pcN_le (v := b)
      have keep : (¬ (s &&& k = k) ∨ pcN k ≤ pcN b ∨ ¬ meP (sTown σ) (sShown σ) k) → p_X0_mostMeeting_4 33 (nI s) (nI b) (nI (k + 1)) gi gl Qi := fun hno => by
        refine ih (k + 1) b (by omega) (by omega) hbs ?_
        rcases hb with ⟨b1, b2⟩ | ⟨b1, b2⟩
        · refine Or.inl ⟨b1, fun u ⟨u1, u2, u3, u4⟩ => ?_⟩
          by_cases e : u = k
          · subst e
            rcases hno with w | w | w
            · exact w u3
            · rw [b1, pc_0] at w
              have := pc_pos (u := u) u1 (by omega)
              omega
            · exact w u4
          · exact b2 u ⟨u1, by omega, u3, u4⟩
        · refine Or.inr ⟨⟨b1.1, by omega, b1.2.2⟩, fun u ⟨u1, u2, u3, u4⟩ => ?_⟩
          by_cases e : u = k
          · subst e
            rcases hno with w | w | w
            · exact absurd u3 w
            · omega
            · exact absurd u4 w
          · exact b2 u ⟨u1, by omega, u3, u4⟩
      have rest : ∀ e : Bool, e = decide (pcN b < pcN k) → p_X0_mostMeeting_32 33 (nI s) (nI b) (nI k) (b2i e) gi gl Qi := fun e he => by
        refine v_X0_mostMeeting_32 zl_33 zk_33 ?_
        unfold f_X0_mostMeeting_32
        rw [m1_nI, nx_xor, nx_and, nI_1]
        have hlt : k &&& (s ^^^ (2 ^ 32 - 1)) < 256 := Nat.lt_of_le_of_lt Nat.and_le_left (by omega)
        refine c_ne (k &&& (s ^^^ (2 ^ 32 - 1))) 0 rfl rfl (by omega) (by omega) (fun z => keep (Or.inl (fun w => z ((and_not0 (by omega)).2 w)))) (fun z => ?_)
        have hsub := (and_not0 (by omega)).1 z
        refine c_b (fun y => ?_) (fun y => ?_)
        · rw [y] at he
          have he := of_decide_eq_false he.symm
          exact keep (Or.inr (Or.inl (by omega)))
        · rw [y] at he
          have he := of_decide_eq_true he.symm
          refine s_X0_firstCommon V m (by omega) ?_
          have me := me_iff (T := sTown σ) (A := sShown σ) (u := k)
          have lb := ckL_bd (T := sTown σ) (A := sShown σ) (s := k) 3600
          generalize ckL (sTown σ) (sShown σ) k 3600 = L at me lb ⊢
          refine d_eq L (-1) rfl rfl (by omega) (by omega) (fun q => ?_) (fun q => ?_)
          · exact keep (Or.inr (Or.inr (fun w => by have := me.2 w; omega)))
          · have hme := me.1 (by omega)
            refine ih (k + 1) k (by omega) (by omega) (by omega) (Or.inr ⟨⟨hk1, by omega, hsub, hme⟩, fun u ⟨u1, u2, u3, u4⟩ => ?_⟩)
            by_cases e : u = k
            · subst e; exact Or.inr ⟨rfl, Nat.le_refl _⟩
            · left
              rcases hb with ⟨b1, b2⟩ | ⟨b1, b2⟩
              · exact absurd ⟨u1, by omega, u3, u4⟩ (b2 u)
              · have := b2 u ⟨u1, by omega, u3, u4⟩
                omega
      refine v_X0_mostMeeting_4 zl_33 zk_33 ?_
      unfold f_X0_mostMeeting_4
      refine c_lt s k rfl rfl (by omega) (by omega) (fun y => by omega) (fun _ => ?_)
      refine c_le 256 k rfl rfl (by omega) (by omega) (fun y => by omega) (fun _ => ?_)
      refine s_bitCount (by omega) ?_
      refine s_bitCount (by omega) ?_
      refine c_le (pcN k) (pcN b) rfl rfl (by omega) (by omega) (fun y => ?_) (fun y => ?_)
      · exact rest false (decide_eq_false (by omega)).symm
      · exact rest true (decide_eq_true (by omega)).symm
  exact lp s 1 0 (by omega) (by omega) (by omega) (Or.inl ⟨rfl, fun u ⟨u1, u2, _⟩ => by omega⟩)
theorem c_cloud (V : vSta σ) (m : CI σ c gi gl) {x w : Int32} (k : KC σ (c + 1) gi gl (Qi (aCloud (sTown σ) (sShown σ) x w))) : p_X11_cloud x w gi gl Qi := by
  have h := k.s V m Scr.rf
  have h8 : (sShown σ).1 ≤ 8 := V.2.2.2.1.1
  have hp := pw8 h8
  have hp0 := pw_pos (n := (sShown σ).1)
  unfold aCloud at h
  refine v_X11_cloud ?_
  unfold f_X11_cloud
  have ex := iI_of x
  have rx := iI_rng x
  generalize x.toInt = x' at *
  subst ex
  refine d_le x' 0 rfl rfl rx (by omega) (fun q => by rw [if_neg (by rintro ⟨z, -⟩; omega)] at h; exact h) (fun q => ?_)
  obtain ⟨s, es⟩ := nat_of (show 0 ≤ x' by omega)
  subst es
  rw [iI_n]
  refine v_X0_size zl_33 zk_33 ?_
  unfold f_X0_size
  rw [m.A.1]
  have hdl := Nat.div_le_self s (2 ^ (sShown σ).1)
  refine c_eq (s / 2 ^ (sShown σ).1) 0 (ja_n (by omega) (by omega)) rfl (by omega) (by omega) (fun z => ?_) (fun z => ?_)
  · have hs : s < 2 ^ (sShown σ).1 := by
      rcases Nat.lt_or_ge s (2 ^ (sShown σ).1) with w | w
      · exact w
      · have := Nat.div_pos w hp0
        omega
    rw [Int.toNat_natCast] at h
    refine d_ne w.toInt 0 (iI_of w) rfl (iI_rng w) (by omega) (fun w0 => ?_) (fun w0 => ?_)
    · refine d_ne w.toInt 1 (iI_of w) rfl (iI_rng w) (by omega) (fun w1 => ?_) (fun w1 => ?_)
      · refine d_ne w.toInt 2 (iI_of w) rfl (iI_rng w) (by omega) (fun w2 => ?_) (fun w2 => ?_)
        · rw [if_neg (by omega)] at h; exact h
        · rw [if_pos (by omega), if_pos w2] at h
          exact s_X0_mostMeeting V m hs h
      · rw [if_pos (by omega), if_neg (by omega), if_pos w1] at h
        exact s_X0_firstCommon V m hs h
    · rw [if_pos (by omega), if_neg (by omega), if_neg (by omega)] at h
      exact s_X0_commonCount V m hs h
  · rw [if_neg (by
      rintro ⟨-, w, -⟩
      apply z
      exact Nat.div_eq_of_lt (by omega))] at h
    exact h
end CO
