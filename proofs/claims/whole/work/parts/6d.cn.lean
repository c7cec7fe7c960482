/-! THE CLASS, fourteen: cloud -/
theorem sub_all {f : Nat → Bool} {s n : Nat} (hs : s < 2 ^ n) : decide (bN f n &&& s = s) = allK (fun k => !s.testBit k || f k) n := by
  cases h : allK (fun k => !s.testBit k || f k) n with
  | true =>
    have h := allK_iff.1 h
    rw [decide_eq_true]
    apply Nat.eq_of_testBit_eq
    intro i
    rw [Nat.testBit_and, bN_bit]
    by_cases hi : i < n
    · have := h i hi
      cases hb : s.testBit i with
      | false => simp
      | true => rw [hb] at this; simp at this; simp [hi, this]
    · rw [Nat.testBit_lt_two_pow (Nat.lt_of_lt_of_le hs (Nat.pow_le_pow_right (by omega) (by omega)))]; simp
  | false =>
    rw [decide_eq_false]
    intro q
    have : allK (fun k => !s.testBit k || f k) n = true := allK_iff.2 (fun k hk => by
      cases hb : s.testBit k with
      | false => rfl
      | true =>
        have h1 : (bN f n &&& s).testBit k = s.testBit k := by rw [q]
        rw [Nat.testBit_and, bN_bit, hb] at h1
        simp [hk] at h1
        rw [h1]; rfl)
    rw [h] at this; cases this
theorem allK_cg {f g : Nat → Bool} : ∀ n, (∀ k, k < n → f k = g k) → allK f n = allK g n
  | 0, _ => rfl
  | n + 1, h => by rw [allK_s, allK_s, h n (by omega), allK_cg n (fun k hk => h k (by omega))]
/-- all of the set have the day, as the class keeps it -/
def cdD (T : Twn) (A : Alb) (s d : Nat) : Bool := allK (fun k => !s.testBit k || pDay T (A.2.1 k) d) A.1
theorem ckM_all {T : Twn} {A : Alb} {s mo t : Nat} (hs : s < 2 ^ A.1) : ckM T A s mo t = allK (fun k => !s.testBit k || pM T (A.2.1 k) mo t) A.1 := by
  unfold ckM mPk
  exact sub_all hs
theorem ckD_all {T : Twn} {A : Alb} {s d : Nat} (hs : s < 2 ^ A.1) : ckD T A s d = allK (fun k => !s.testBit k || pD T 0 nosu (A.2.1 k) d) A.1 := by
  unfold ckD dPk
  exact sub_all hs
theorem cdD_eq {T : Twn} {A : Alb} {s d : Nat} (hs : s < 2 ^ A.1) (ht : ∃ t, t < 720 ∧ ckM T A s (mth d) t = true) : cdD T A s d = ckD T A s d := by
  obtain ⟨t, h1, h2⟩ := ht
  rw [ckM_all hs, allK_iff] at h2
  rw [ckD_all hs]
  unfold cdD
  refine allK_cg _ (fun k hk => ?_)
  cases hb : s.testBit k with
  | false => rfl
  | true =>
    have h3 := h2 k hk
    rw [hb] at h3
    have hne : pCnt T (A.2.1 k) (mth d) ≠ 0 := fun e => by
      have := cntN_0 (f := fun t => pM T (A.2.1 k) (mth d) t) e t h1
      simp only [this] at h3
      cases h3
    unfold pDay
    simp [hne]
theorem low_skip {f : Nat → Bool} {b : Nat} (h : lowN f b < 0) : ∀ n, (∀ i, i < n → f (b + i) = false) → lowN f (b + n) < 0
  | 0, _ => h
  | n + 1, hf => by
    have ih := low_skip h n (fun i hi => hf i (by omega))
    show lowN f (b + n + 1) < 0
    rw [lowN_neg ih, hf n (by omega), if_neg Bool.false_ne_true]
    decide
theorem low_hit {f : Nat → Bool} {b e N : Nat} (h : lowN f b < 0) (h1 : ∀ i, i < e → f (b + i) = false) (h2 : f (b + e) = true) (hN : b + e < N) : lowN f N = (b + e : Nat) := by
  have h3 : lowN f (b + e + 1) = (b + e : Nat) := by rw [lowN_neg (low_skip h e h1), if_pos h2]
  rw [lowN_keep (t := b + e + 1) (by omega) (by omega), h3]
theorem ckL_skip {T : Twn} {A : Alb} {s b : Nat} (h : ckL T A s b < 0) : ∀ n, (∀ i, i < n → ckF T A s (b + i) < 0) → ckL T A s (b + n) < 0
  | 0, _ => h
  | n + 1, hf => by
    have ih := ckL_skip h n (fun i hi => hf i (by omega))
    show ckL T A s (b + n + 1) < 0
    rw [ckL_s, if_neg (by omega)]
    exact hf n (by omega)
theorem ckL_hit {T : Twn} {A : Alb} {s b e N : Nat} (h : ckL T A s b < 0) (h1 : ∀ i, i < e → ckF T A s (b + i) < 0) (h2 : 0 ≤ ckF T A s (b + e)) (hN : b + e < N) : ckL T A s N = ckF T A s (b + e) := by
  have h0 := ckL_skip h e h1
  have h3 : ckL T A s (b + e + 1) = ckF T A s (b + e) := by rw [ckL_s, if_neg (by omega)]
  rw [ckL_keep (d := b + e + 1) (by omega) (by omega), h3]
section CN
variable {σ : Sta} {c : Nat} {gi : Gi} {gl : Gl} {Qi : Int32 → Gi → Gl → Prop}
theorem m36 {k : Nat} (hk : k < 8) : 36 + 7 * k + 2 < NN ∧ sK (36 + 7 * k + 2) = 4 := mom_k (p36 k hk).1 (p36 k hk).2
theorem s_X0_commonDays (V : vSta σ) (m : CI σ c gi gl) {s r : Nat} (hs : s < 256) (hr : r < 120) (h : Qi (nI (bN (fun i => cdD (sTown σ) (sShown σ) s (r * 30 + i)) 30)) gi gl) : p_X0_commonDays 33 (nI s) (nI r) gi gl Qi := by
  have h8 : (sShown σ).1 ≤ 8 := V.2.2.2.1.1
  refine v_X0_commonDays zl_33 zk_33 ?_
  unfold f_X0_commonDays
  rw [fullN]
  refine dn (P := fun k => p_X0_commonDays_6 33 (nI s) (nI r) (nI (bN (fun i => allK (fun k => !s.testBit k || pDay (sTown σ) ((sShown σ).2.1 k) (r * 30 + i)) k) 30)) (nI k) gi gl Qi) (N := (sShown σ).1) ?_ ?_ 0 (Nat.zero_le _)
  · refine v_X0_commonDays_6 zl_33 zk_33 ?_
    unfold f_X0_commonDays_6
    rw [m.A.1]
    exact ifT (by rw [nI_leI (by omega) (by omega)]; omega) h
  · intro k hk ih
    have b30 := bN30 (f := fun i => allK (fun k => !s.testBit k || pDay (sTown σ) ((sShown σ).2.1 k) (r * 30 + i)) k)
    refine v_X0_commonDays_6 zl_33 zk_33 ?_
    unfold f_X0_commonDays_6
    rw [m.A.1]
    refine c_le (sShown σ).1 k rfl rfl (by omega) (by omega) (fun y => by omega) (fun _ => ?_)
    refine c_le 8 k rfl rfl (by omega) (by omega) (fun y => by omega) (fun _ => ?_)
    refine c_eq _ 0 rfl rfl (by omega) (by omega) (fun z => ?_) (fun _ => ?_)
    · have z' := bN_0.1 z
      rw [z]
      have : bN (fun i => cdD (sTown σ) (sShown σ) s (r * 30 + i)) 30 = 0 := bN_0.2 (fun i hi => allK_f (z' i hi) _ (by omega))
      rw [this] at h; exact h
    · rw [jab (by omega) (by omega), nI_1]
      cases hb : s.testBit k with
      | false =>
        refine ifT (by rw [b2i_f]; decide) ?_
        have : bN (fun i => allK (fun k => !s.testBit k || pDay (sTown σ) ((sShown σ).2.1 k) (r * 30 + i)) (k + 1)) 30 = bN (fun i => allK (fun k => !s.testBit k || pDay (sTown σ) ((sShown σ).2.1 k) (r * 30 + i)) k) 30 := bN_congr (fun i _ => by rw [allK_s, hb]; simp)
        rw [this] at ih; exact ih
      | true =>
        refine ifF (by rw [b2i_t]; decide) ?_
        rw [nI_cl (by omega)]
        refine ⟨vp_nI (by omega) (by omega), ?_⟩
        rintro b1 rfl
        rw [show 33 + 3 + 7 * k = 36 + 7 * k by omega]
        obtain ⟨q1, q2⟩ := p36 k (by omega)
        obtain ⟨q3, q4⟩ := m36 (k := k) (by omega)
        have hm := (m.P V hk).2
        refine c_mom q1 q2 ?_
        refine v_X4_dayRow q3 q4 ?_
        unfold f_X4_dayRow
        refine c_lt r 0 rfl rfl (by omega) (by omega) (fun y => by omega) (fun _ => ?_)
        refine c_lt r 120 rfl rfl (by omega) (by omega) (fun _ => ⟨vp_nI hr (by omega), ?_⟩) (fun y => by omega)
        rw [nI_cl (by omega), hm.1 r hr]
        rintro z8 rfl
        rw [and30]
        have : bN (fun i => allK (fun k => !s.testBit k || pDay (sTown σ) ((sShown σ).2.1 k) (r * 30 + i)) (k + 1)) 30 = bN (fun i => allK (fun k => !s.testBit k || pDay (sTown σ) ((sShown σ).2.1 k) (r * 30 + i)) k && pDay (sTown σ) ((sShown σ).2.1 k) (r * 30 + i)) 30 := bN_congr (fun i _ => by rw [allK_s, hb]; simp)
        rw [this] at ih; exact ih
theorem s_X0_commonMinutes (V : vSta σ) (m : CI σ c gi gl) {s mo r : Nat} (hs : s < 2 ^ (sShown σ).1) (hm : mo < 12) (hr : r < 24) (h : Qi (nI (bN (fun i => ckM (sTown σ) (sShown σ) s mo (r * 30 + i)) 30)) gi gl) : p_X0_commonMinutes 33 (nI s) (nI mo) (nI r) gi gl Qi := by
  have h8 : (sShown σ).1 ≤ 8 := V.2.2.2.1.1
  have hp := pw8 h8
  rw [show bN (fun i => ckM (sTown σ) (sShown σ) s mo (r * 30 + i)) 30 = bN (fun i => allK (fun k => !s.testBit k || pM (sTown σ) ((sShown σ).2.1 k) mo (r * 30 + i)) (sShown σ).1) 30 from bN_congr (fun i _ => ckM_all hs)] at h
  refine v_X0_commonMinutes zl_33 zk_33 ?_
  unfold f_X0_commonMinutes
  rw [fullN]
  refine dn (P := fun k => p_X0_commonMinutes_7 33 (nI s) (nI mo) (nI r) (nI (bN (fun i => allK (fun k => !s.testBit k || pM (sTown σ) ((sShown σ).2.1 k) mo (r * 30 + i)) k) 30)) (nI k) gi gl Qi) (N := (sShown σ).1) ?_ ?_ 0 (Nat.zero_le _)
  · refine v_X0_commonMinutes_7 zl_33 zk_33 ?_
    unfold f_X0_commonMinutes_7
    rw [m.A.1]
    exact ifT (by rw [nI_leI (by omega) (by omega)]; omega) h
  · intro k hk ih
    have b30 := bN30 (f := fun i => allK (fun k => !s.testBit k || pM (sTown σ) ((sShown σ).2.1 k) mo (r * 30 + i)) k)
    refine v_X0_commonMinutes_7 zl_33 zk_33 ?_
    unfold f_X0_commonMinutes_7
    rw [m.A.1]
    refine c_le (sShown σ).1 k rfl rfl (by omega) (by omega) (fun y => by omega) (fun _ => ?_)
    refine c_le 8 k rfl rfl (by omega) (by omega) (fun y => by omega) (fun _ => ?_)
    refine c_eq _ 0 rfl rfl (by omega) (by omega) (fun z => ?_) (fun _ => ?_)
    · have z' := bN_0.1 z
      rw [z]
      rw [show bN (fun i => allK (fun k => !s.testBit k || pM (sTown σ) ((sShown σ).2.1 k) mo (r * 30 + i)) (sShown σ).1) 30 = 0 from bN_0.2 (fun i hi => allK_f (z' i hi) _ (by omega))] at h
      exact h
    · rw [jab (by omega) (by omega), nI_1]
      cases hb : s.testBit k with
      | false =>
        refine ifT (by rw [b2i_f]; decide) ?_
        have : bN (fun i => allK (fun k => !s.testBit k || pM (sTown σ) ((sShown σ).2.1 k) mo (r * 30 + i)) (k + 1)) 30 = bN (fun i => allK (fun k => !s.testBit k || pM (sTown σ) ((sShown σ).2.1 k) mo (r * 30 + i)) k) 30 := bN_congr (fun i _ => by rw [allK_s, hb]; simp)
        rw [this] at ih; exact ih
      | true =>
        refine ifF (by rw [b2i_t]; decide) ?_
        rw [nI_cl (by omega)]
        refine ⟨vp_nI (by omega) (by omega), ?_⟩
        rintro b1 rfl
        rw [show 33 + 3 + 7 * k = 36 + 7 * k by omega]
        obtain ⟨q1, q2⟩ := p36 k (by omega)
        obtain ⟨q3, q4⟩ := m36 (k := k) (by omega)
        have hmm := (m.P V hk).2
        refine c_mom q1 q2 ?_
        refine X4_minuteRow q3 q4 hm hr ?_
        rw [hmm.2.1 mo hm r hr]
        rintro z8 rfl
        rw [and30]
        have : bN (fun i => allK (fun k => !s.testBit k || pM (sTown σ) ((sShown σ).2.1 k) mo (r * 30 + i)) (k + 1)) 30 = bN (fun i => allK (fun k => !s.testBit k || pM (sTown σ) ((sShown σ).2.1 k) mo (r * 30 + i)) k && pM (sTown σ) ((sShown σ).2.1 k) mo (r * 30 + i)) 30 := bN_congr (fun i _ => by rw [allK_s, hb]; simp)
        rw [this] at ih; exact ih
/-- a row with a bit, and its lowest -/
theorem row_low {f : Nat → Bool} (z : bN f 30 ≠ 0) (k : ∀ e, e < 30 → f e = true → (∀ i, i < e → f i = false) → Qi (nI e) gi gl) : p_X11_lowest (nI (bN f 30)) gi gl Qi := by
  have hex : ∃ e, e < 30 ∧ f e = true := by
    apply Classical.byContradiction
    intro q
    apply z
    refine bN_0.2 (fun e he => ?_)
    cases hd : f e with
    | false => rfl
    | true => exact absurd ⟨e, he, hd⟩ q
  refine s_X11_lowest hex (fun e he hl hf => k e hl hf ?_)
  rcases lowN_spec (f := f) 30 with ⟨w, -⟩ | ⟨e2, w1, w2, w3, w4⟩
  · omega
  · have : e2 = e := by omega
    subst this; exact w4
theorem s_X0_firstCommonMinute (V : vSta σ) (m : CI σ c gi gl) {s mo : Nat} (hs : s < 2 ^ (sShown σ).1) (hm : mo < 12) (h : Qi (iI (lowN (ckM (sTown σ) (sShown σ) s mo) 720)) gi gl) : p_X0_firstCommonMinute 33 (nI s) (nI mo) gi gl Qi := by
  refine v_X0_firstCommonMinute zl_33 zk_33 ?_
  unfold f_X0_firstCommonMinute
  refine dn (P := fun r => lowN (ckM (sTown σ) (sShown σ) s mo) (r * 30) < 0 → p_X0_firstCommonMinute_2 33 (nI s) (nI mo) (nI r) gi gl Qi) (N := 24) ?_ ?_ 0 (by omega) (by rw [Nat.zero_mul]; exact (by decide : (-1 : Int) < 0))
  · intro hl
    have := lowN_bd (f := ckM (sTown σ) (sShown σ) s mo) 720
    refine v_X0_firstCommonMinute_2 zl_33 zk_33 ?_
    unfold f_X0_firstCommonMinute_2
    refine ifT (by decide) ?_
    have hl : lowN (ckM (sTown σ) (sShown σ) s mo) 720 < 0 := hl
    rw [show lowN (ckM (sTown σ) (sShown σ) s mo) 720 = -1 by omega] at h
    exact h
  · intro r hr ih hl
    refine v_X0_firstCommonMinute_2 zl_33 zk_33 ?_
    unfold f_X0_firstCommonMinute_2
    refine c_le 24 r rfl rfl (by omega) (by omega) (fun y => by omega) (fun _ => ?_)
    refine s_X0_commonMinutes V m hs hm hr ?_
    have b30 := bN30 (f := fun i => ckM (sTown σ) (sShown σ) s mo (r * 30 + i))
    refine c_eq _ 0 rfl rfl (by omega) (by omega) (fun z => ?_) (fun z => ?_)
    · rw [nI_1]
      refine ih ?_
      rw [Nat.add_mul]
      exact low_skip hl 30 (fun i hi => bN_0.1 z i hi)
    · refine row_low z (fun e he h1 h2 => ?_)
      rw [low_hit hl h2 h1 (by omega), iI_n] at h
      rw [show (30 : Int32) = nI 30 by rfl, mulN, nI_add]
      exact h
theorem lowN_ex {f : Nat → Bool} {n : Nat} (h : 0 ≤ lowN f n) : ∃ t, t < n ∧ f t = true := by
  rcases lowN_spec (f := f) n with ⟨w, -⟩ | ⟨e, -, w2, w3, -⟩
  · omega
  · exact ⟨e, w2, w3⟩
theorem s_X0_firstCommon (V : vSta σ) (m : CI σ c gi gl) {s : Nat} (hs : s < 2 ^ (sShown σ).1) (h : Qi (iI (ckL (sTown σ) (sShown σ) s 3600)) gi gl) : p_X0_firstCommon 33 (nI s) gi gl Qi := by
  have hp := pw8 (V.2.2.2.1.1)
  refine v_X0_firstCommon zl_33 zk_33 ?_
  unfold f_X0_firstCommon
  refine dn (P := fun r => ckL (sTown σ) (sShown σ) s (r * 30) < 0 → p_X0_firstCommon_2 33 (nI s) (nI r) gi gl Qi) (N := 120) ?_ ?_ 0 (by omega) (by rw [Nat.zero_mul]; exact (by decide : (-1 : Int) < 0))
  · intro hl
    have := ckL_bd (T := sTown σ) (A := sShown σ) (s := s) 3600
    refine v_X0_firstCommon_2 zl_33 zk_33 ?_
    unfold f_X0_firstCommon_2
    refine ifT (by decide) ?_
    have hl : ckL (sTown σ) (sShown σ) s 3600 < 0 := hl
    rw [show ckL (sTown σ) (sShown σ) s 3600 = -1 by omega] at h
    exact h
  · intro r hr ih hl
    have lb := lowN_bd (f := ckM (sTown σ) (sShown σ) s (r % 12)) 720
    have ev : ∀ i, i < 30 → 0 ≤ lowN (ckM (sTown σ) (sShown σ) s (r % 12)) 720 → cdD (sTown σ) (sShown σ) s (r * 30 + i) = ckD (sTown σ) (sShown σ) s (r * 30 + i) := fun i hi h0 => cdD_eq hs (by rw [mth_row hi]; exact lowN_ex h0)
    have ef : ∀ i, i < 30 → (lowN (ckM (sTown σ) (sShown σ) s (r % 12)) 720 < 0 ∨ cdD (sTown σ) (sShown σ) s (r * 30 + i) = false) → ckF (sTown σ) (sShown σ) s (r * 30 + i) < 0 := fun i hi hno => by
      unfold ckF
      rw [mth_row hi]
      split
      · rename_i h1
        split
        · rename_i h2
          rcases hno with hno | hno
          · omega
          · rw [ev i hi h2, h1] at hno; cases hno
        · omega
      · omega
    obtain ⟨L, hL⟩ : ∃ L, lowN (ckM (sTown σ) (sShown σ) s (r % 12)) 720 = L := ⟨_, rfl⟩
    rw [hL] at lb
    simp only [hL] at ev ef
    refine v_X0_firstCommon_2 zl_33 zk_33 ?_
    unfold f_X0_firstCommon_2
    refine c_le 120 r rfl rfl (by omega) (by omega) (fun y => by omega) (fun _ => ?_)
    refine s_X0_commonDays V m (by omega) hr ?_
    have b30 := bN30 (f := fun i => cdD (sTown σ) (sShown σ) s (r * 30 + i))
    refine c_ne _ 0 rfl rfl (by omega) (by omega) (fun z => ?_) (fun z => ?_)
    · rw [jr12 (by omega)]
      refine s_X0_firstCommonMinute V m hs (by omega) ?_
      rw [hL]
      refine v_X0_firstCommon_32 zl_33 zk_33 ?_
      unfold f_X0_firstCommon_32
      refine d_eq L (-1) rfl rfl (by omega) (by omega) (fun q => ?_) (fun q => ?_)
      · rw [nI_1]
        refine ih ?_
        rw [Nat.add_mul]
        exact ckL_skip hl 30 (fun i hi => ef i hi (Or.inl (by omega)))
      · refine row_low z (fun e he h1 h2 => ?_)
        have hF : ckF (sTown σ) (sShown σ) s (r * 30 + e) = 720 * ((r * 30 + e : Nat) : Int) + L := by
          unfold ckF
          rw [← ev e he (by omega), h1, mth_row he, hL]
          rw [if_pos rfl, if_pos (by omega)]
        rw [ckL_hit hl (fun i hi => ef i (by omega) (Or.inr (h2 i hi))) (by omega) (by omega), hF] at h
        rw [show (30 : Int32) = nI 30 by rfl, mulN, nI_add, show (720 : Int32) = iI 720 by rfl, ← iI_n (r * 30 + e), iI_mul, iI_add, Int.mul_comm]
        exact h
    · refine v_X0_firstCommon_32 zl_33 zk_33 ?_
      unfold f_X0_firstCommon_32
      refine ifT rfl ?_
      rw [nI_1]
      refine ih ?_
      rw [Nat.add_mul]
      exact ckL_skip hl 30 (fun i hi => ef i hi (Or.inr (bN_0.1 z i hi)))
theorem s_X0_commonCount (V : vSta σ) (m : CI σ c gi gl) {s : Nat} (hs : s < 2 ^ (sShown σ).1) (h : Qi (nI (sumN (ckC (sTown σ) (sShown σ) s) 3600)) gi gl) : p_X0_commonCount 33 (nI s) gi gl Qi := by
  have hp := pw8 (V.2.2.2.1.1)
  generalize hK : (fun mo => cntN (ckM (sTown σ) (sShown σ) s mo) 720) = K at *
  have eK : ∀ mo, cntN (ckM (sTown σ) (sShown σ) s mo) 720 = K mo := fun mo => by rw [← hK]
  have bK : ∀ mo, K mo ≤ 720 := fun mo => by rw [← eK]; exact cntN_le
  have row : ∀ r, sumN (fun i => ckC (sTown σ) (sShown σ) s (r * 30 + i)) 30 = cntN (fun i => cdD (sTown σ) (sShown σ) s (r * 30 + i)) 30 * K (r % 12) := fun r => by
    by_cases z : K (r % 12) = 0
    · rw [z, Nat.mul_zero]
      refine sumN_0 30 (fun i hi => ?_)
      unfold ckC
      rw [mth_row hi, eK, z]; split <;> rfl
    · rw [← sumN_if]
      refine sumN_congr (fun i hi => ?_)
      unfold ckC
      rw [mth_row hi, eK, cdD_eq hs]
      apply Classical.byContradiction
      intro q
      apply z
      rw [← eK]
      refine sumN_0 720 (fun t ht => ?_)
      cases hb : ckM (sTown σ) (sShown σ) s (r % 12) t with
      | false => rfl
      | true => exact absurd ⟨t, ht, by rw [mth_row hi]; exact hb⟩ q
  have tot : sumN (ckC (sTown σ) (sShown σ) s) 3600 = sumN (fun mo => sumN (fun q => cntN (fun i => cdD (sTown σ) (sShown σ) s ((mo + 12 * q) * 30 + i)) 30 * K mo) 10) 12 := by
    rw [show (3600 : Nat) = 120 * 30 by rfl, sumN_blocks, by_month]
    exact sumN_congr (fun mo hm => sumN_congr (fun q _ => by rw [row, show (mo + 12 * q) % 12 = mo by omega]))
  rw [tot] at h
  generalize hFS : (fun mo => sumN (fun q => cntN (fun i => cdD (sTown σ) (sShown σ) s ((mo + 12 * q) * 30 + i)) 30 * K mo) 10) = FS at *
  have eFS : ∀ mo, FS mo = sumN (fun q => cntN (fun i => cdD (sTown σ) (sShown σ) s ((mo + 12 * q) * 30 + i)) 30 * K mo) 10 := fun mo => by rw [← hFS]
  refine v_X0_commonCount zl_33 zk_33 ?_
  unfold f_X0_commonCount
  refine dn (P := fun mo => p_X0_commonCount_4 33 (nI s) (nI (sumN FS mo)) (nI mo) gi gl Qi) (N := 12) ?_ ?_ 0 (by omega)
  · refine v_X0_commonCount_4 zl_33 zk_33 ?_
    unfold f_X0_commonCount_4
    exact ifT (by decide) h
  · intro mo hm ih
    rw [sumN_s] at ih
    refine v_X0_commonCount_4 zl_33 zk_33 ?_
    unfold f_X0_commonCount_4
    refine c_le 12 mo rfl rfl (by omega) (by omega) (fun y => by omega) (fun _ => ?_)
    refine dn (P := fun r => p_X0_commonCount_16 33 (nI s) (nI (sumN FS mo)) (nI mo) (nI (cntN (ckM (sTown σ) (sShown σ) s mo) (r * 30))) (nI r) gi gl Qi) (N := 24) ?_ ?_ 0 (by omega)
    · refine v_X0_commonCount_16 zl_33 zk_33 ?_
      unfold f_X0_commonCount_16
      refine ifT (by decide) ?_
      rw [show 24 * 30 = 720 by rfl, eK]
      have hb := bK mo
      have lp : ∀ n q, q + n = 10 → p_X0_commonCount_48 33 (nI s) (nI (sumN FS mo + sumN (fun q => cntN (fun i => cdD (sTown σ) (sShown σ) s ((mo + 12 * q) * 30 + i)) 30 * K mo) q)) (nI mo) (nI (K mo)) (nI (mo + 12 * q)) gi gl Qi := by
        intro n
        induction n with
        | zero =>
          intro q hq
          refine v_X0_commonCount_48 zl_33 zk_33 ?_
          unfold f_X0_commonCount_48
          refine ifT (by rw [show (120 : Int32) = nI 120 by rfl, nI_leI (by omega) (by omega)]; omega) ?_
          rw [show q = 10 by omega, ← eFS, nI_1]
          exact ih
        | succ n ihn =>
          intro q hq
          have ihn := ihn (q + 1) (by omega)
          rw [sumN_s] at ihn
          refine v_X0_commonCount_48 zl_33 zk_33 ?_
          unfold f_X0_commonCount_48
          refine c_le 120 (mo + 12 * q) rfl rfl (by omega) (by omega) (fun y => by omega) (fun _ => ?_)
          refine c_le (K mo) 0 rfl rfl (by omega) (by omega) (fun z => ?_) (fun z => ?_)
          · have z0 : K mo = 0 := by omega
            have e0 : ∀ n, sumN (fun q => cntN (fun i => cdD (sTown σ) (sShown σ) s ((mo + 12 * q) * 30 + i)) 30 * K mo) n = 0 := fun n => sumN_0 n (fun i _ => by rw [z0, Nat.mul_zero])
            rw [e0, nI_1]
            rw [eFS, e0] at ih
            exact ih
          · refine s_X0_commonDays V m (by omega) (by omega) ?_
            have b30 := bN30 (f := fun i => cdD (sTown σ) (sShown σ) s ((mo + 12 * q) * 30 + i))
            refine s_bitCount (by omega) ?_
            rw [pc_bN (by omega)]
            rintro z7 rfl
            rw [mulN, nI_add, show (12 : Int32) = nI 12 by rfl, nI_add, show mo + 12 * q + 12 = mo + 12 * (q + 1) by omega, Nat.add_assoc]
            exact ihn
      exact lp 10 0 (by omega)
    · intro r hr ih2
      rw [Nat.add_mul, Nat.one_mul, cntN_split] at ih2
      refine v_X0_commonCount_16 zl_33 zk_33 ?_
      unfold f_X0_commonCount_16
      refine c_le 24 r rfl rfl (by omega) (by omega) (fun y => by omega) (fun _ => ?_)
      refine s_X0_commonMinutes V m hs hm hr ?_
      have b30 := bN30 (f := fun i => ckM (sTown σ) (sShown σ) s mo (r * 30 + i))
      refine s_bitCount (by omega) ?_
      rw [pc_bN (by omega)]
      rintro z7 rfl
      rw [nI_add, nI_1]
      exact ih2
end CN
