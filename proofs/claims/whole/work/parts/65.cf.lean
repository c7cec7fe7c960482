/-! THE CLASS, six: all, days, runs -/
/-- the one with k before it, by rows -/
theorem selN_row {f : Nat → Bool} {k r N : Nat} (h1 : cntN f (r * 30) ≤ k) (h2 : k < cntN f (r * 30) + cntN (fun i => f (r * 30 + i)) 30) (hN : r * 30 + 30 ≤ N) : selN f k N = r * 30 + selN (fun i => f (r * 30 + i)) (k - cntN f (r * 30)) 30 ∧ f (selN f k N) = true ∧ selN f k N < N := by
  obtain ⟨e, g1, g2, g3⟩ := cnt_find (f := fun i => f (r * 30 + i)) (j := k - cntN f (r * 30)) 30 (by omega)
  rw [selN_eq (f := fun i => f (r * 30 + i)) g1 g2 g3]
  have := selN_eq (f := f) (k := k) (d := r * 30 + e) (N := N) (by omega) g2 (by rw [cntN_split, g3]; omega)
  rw [this]
  exact ⟨rfl, g2, by omega⟩
theorem dec1 {x : Nat} (h : 1 ≤ x) : nI x + (-1) = nI (x - 1) := by
  rw [← iI_n, show (-1 : Int32) = iI (-1) by rfl, iI_add, show ((x : Int) + -1) = ((x - 1 : Nat) : Int) by omega, iI_n]
section CF
variable {T : Twn} {P : Pic} {a : Nat} {gi : Gi} {gl : Gl} {Q : Int32 → Gi → Gl → Prop}
def DR (T : Twn) (P : Pic) (r i : Nat) : Bool := pDay T P (r * 30 + i)
theorem cm1 (h : cMom T P gi a) {r : Nat} (hr : r < 120) : gi (a + 1) r = nI (bN (DR T P r) 30) := h.1 r hr
theorem mOn_row {r i : Nat} (hi : i < 30) : mOn T 0 nosu P (r * 30 + i) = if DR T P r i then pCnt T P (r % 12) else 0 := by
  unfold mOn DR
  rw [pDay_row hi, mth_row hi]
  unfold dAll
  by_cases z : pCnt T P (r % 12) = 0
  · rw [z]; simp
  · cases pD T 0 nosu P (r * 30 + i) <;> simp [z]
theorem sum_mOn {r : Nat} : sumN (fun i => mOn T 0 nosu P (r * 30 + i)) 30 = cntN (DR T P r) 30 * pCnt T P (r % 12) := by
  rw [← sumN_if]
  exact sumN_congr (fun i hi => mOn_row hi)
theorem pRun_0 {mo : Nat} (h : pCnt T P mo = 0) : pRun T P mo = 0 := by
  have h0 : ∀ t, t < 720 → pM T P mo t = false := by
    intro t ht
    cases hb : pM T P mo t with
    | false => rfl
    | true =>
      have := cntN_mono (f := fun t => pM T P mo t) (show t + 1 ≤ 720 by omega)
      rw [cntN_s, if_pos hb] at this
      unfold pCnt at h; omega
  unfold pRun
  exact cntN_tail (a := 0) (Nat.zero_le _) (fun t _ ht => by unfold rB; rw [h0 t ht]; rfl)
theorem dRun_row {r i : Nat} (hi : i < 30) : dRun T P (r * 30 + i) = if DR T P r i then pRun T P (r % 12) else 0 := by
  unfold dRun DR
  rw [pDay_row hi, mth_row hi]
  unfold dAll
  by_cases z : pCnt T P (r % 12) = 0
  · rw [z, pRun_0 z]; simp
  · cases pD T 0 nosu P (r * 30 + i) <;> simp [z]
theorem sum_dRun {r : Nat} : sumN (fun i => dRun T P (r * 30 + i)) 30 = cntN (DR T P r) 30 * pRun T P (r % 12) := by
  rw [← sumN_if]
  exact sumN_congr (fun i hi => dRun_row hi)
theorem hasD_day : hasD T P = pDay T P := by
  funext d
  unfold hasD mOn pDay
  cases pD T 0 nosu P d <;> simp
theorem blk {f : Nat → Nat} {r : Nat} : sumN f ((r + 1) * 30) = sumN f (r * 30) + sumN (fun i => f (r * 30 + i)) 30 := by rw [Nat.add_mul, Nat.one_mul, sumN_split]
theorem blkC {f : Nat → Bool} {r : Nat} : cntN f ((r + 1) * 30) = cntN f (r * 30) + cntN (fun i => f (r * 30 + i)) 30 := by rw [Nat.add_mul, Nat.one_mul, cntN_split]
theorem s_X4_momentCount (hN : a < NN) (hK : sK a = 4) (m : cMom T P gi a) (h : Q (nI (sumN (mOn T 0 nosu P) 3600)) gi gl) : p_X4_momentCount a gi gl Q := by
  refine v_X4_momentCount hN hK ?_
  unfold f_X4_momentCount
  refine dn (P := fun r => p_X4_momentCount_4 a (nI (sumN (mOn T 0 nosu P) (r * 30))) (nI r) gi gl Q) (N := 120) ?_ ?_ 0 (by omega)
  · refine v_X4_momentCount_4 hN hK ?_
    unfold f_X4_momentCount_4
    exact ifT (by decide) h
  · intro r hr ih
    rw [blk, sum_mOn] at ih
    refine v_X4_momentCount_4 hN hK ?_
    unfold f_X4_momentCount_4
    refine c_le 120 r rfl rfl (by omega) (by omega) (fun z => by omega) (fun _ => ⟨vp_nI hr (by omega), ?_⟩)
    rw [nI_cl (by omega), cm1 m hr]
    have b0 := bN30 (f := DR T P r)
    refine s_bitCount (by omega) ?_
    rw [pc_bN (by omega), jr12 (by omega), nI_cl (by omega), m.2.2.1 _ (by omega)]
    refine ⟨vp_nI (by omega) (by omega), ?_⟩
    rintro z4 rfl
    rw [mulN, nI_add, nI_1]
    exact ih
theorem s_X4_dayCount (hN : a < NN) (hK : sK a = 4) (m : cMom T P gi a) (h : Q (nI (cntN (pDay T P) 3600)) gi gl) : p_X4_dayCount a gi gl Q := by
  refine v_X4_dayCount hN hK ?_
  unfold f_X4_dayCount
  refine dn (P := fun r => p_X4_dayCount_4 a (nI (cntN (pDay T P) (r * 30))) (nI r) gi gl Q) (N := 120) ?_ ?_ 0 (by omega)
  · refine v_X4_dayCount_4 hN hK ?_
    unfold f_X4_dayCount_4
    exact ifT (by decide) h
  · intro r hr ih
    rw [blkC] at ih
    refine v_X4_dayCount_4 hN hK ?_
    unfold f_X4_dayCount_4
    refine c_le 120 r rfl rfl (by omega) (by omega) (fun z => by omega) (fun _ => ⟨vp_nI hr (by omega), ?_⟩)
    rw [nI_cl (by omega), cm1 m hr]
    have b0 := bN30 (f := DR T P r)
    refine s_bitCount (by omega) ?_
    rw [pc_bN (by omega)]
    rintro z4 rfl
    rw [nI_add, nI_1]
    exact ih
theorem s_X4_runCount (hN : a < NN) (hK : sK a = 4) (m : cMom T P gi a) (h : Q (nI (sumN (dRun T P) 3600)) gi gl) : p_X4_runCount a gi gl Q := by
  refine v_X4_runCount hN hK ?_
  unfold f_X4_runCount
  refine dn (P := fun r => p_X4_runCount_4 a (nI (sumN (dRun T P) (r * 30))) (nI r) gi gl Q) (N := 120) ?_ ?_ 0 (by omega)
  · refine v_X4_runCount_4 hN hK ?_
    unfold f_X4_runCount_4
    exact ifT (by decide) h
  · intro r hr ih
    rw [blk, sum_dRun] at ih
    refine v_X4_runCount_4 hN hK ?_
    unfold f_X4_runCount_4
    refine c_le 120 r rfl rfl (by omega) (by omega) (fun z => by omega) (fun _ => ⟨vp_nI hr (by omega), ?_⟩)
    rw [nI_cl (by omega), cm1 m hr]
    have b0 := bN30 (f := DR T P r)
    refine s_bitCount (by omega) ?_
    rw [pc_bN (by omega), jr12 (by omega), nI_cl (by omega), m.2.2.2 _ (by omega)]
    refine ⟨vp_nI (by omega) (by omega), ?_⟩
    rintro z4 rfl
    rw [mulN, nI_add, nI_1]
    exact ih
theorem s_X4_dayAt (hN : a < NN) (hK : sK a = 4) (m : cMom T P gi a) {k : Int} (hk : 0 ≤ k ∧ k < 2147483648) (h : Q (if k < cntN (pDay T P) 3600 then nI (selN (pDay T P) k.toNat 3600) else -1) gi gl) : p_X4_dayAt a (iI k) gi gl Q := by
  obtain ⟨n, hn⟩ := nat_of hk.1
  subst hn
  rw [iI_n]
  rw [Int.toNat_natCast] at h
  refine v_X4_dayAt hN hK ?_
  unfold f_X4_dayAt
  refine dn (P := fun r => cntN (pDay T P) (r * 30) ≤ n → p_X4_dayAt_4 a (nI (n - cntN (pDay T P) (r * 30))) (nI r) gi gl Q) (N := 120) ?_ ?_ 0 (by omega) (Nat.zero_le _)
  · intro hc
    have hc : cntN (pDay T P) 3600 ≤ n := hc
    refine v_X4_dayAt_4 hN hK ?_
    unfold f_X4_dayAt_4
    rw [if_neg (by omega)] at h
    exact ifT (by decide) h
  · intro r hr ih hc
    have hb := blkC (f := pDay T P) (r := r)
    refine v_X4_dayAt_4 hN hK ?_
    unfold f_X4_dayAt_4
    refine c_le 120 r rfl rfl (by omega) (by omega) (fun z => by omega) (fun _ => ⟨vp_nI hr (by omega), ?_⟩)
    rw [nI_cl (by omega), cm1 m hr]
    have b0 := bN30 (f := DR T P r)
    have c0 := cntN_le (f := DR T P r) (n := 30)
    refine s_bitCount (by omega) ?_
    rw [pc_bN (by omega)]
    have hb : cntN (pDay T P) ((r + 1) * 30) = cntN (pDay T P) (r * 30) + cntN (DR T P r) 30 := hb
    refine c_le (cntN (DR T P r) 30) (n - cntN (pDay T P) (r * 30)) rfl rfl (by omega) (by omega) (fun y => ?_) (fun y => ⟨vp_nI hr (by omega), ?_⟩)
    · rintro z4 rfl
      rw [pk_sub y, nI_1, show n - cntN (pDay T P) (r * 30) - cntN (DR T P r) 30 = n - cntN (pDay T P) ((r + 1) * 30) by omega]
      exact ih (by omega)
    · rw [cm1 m hr]
      refine s_X4_placeOf y ?_
      have hm := cntN_mono (f := pDay T P) (show (r + 1) * 30 ≤ 3600 by omega)
      obtain ⟨s1, -, -⟩ := selN_row (f := pDay T P) (k := n) (r := r) (N := 3600) hc (by show _ < _ + cntN (DR T P r) 30; omega) (by omega)
      rw [if_pos (by omega), s1] at h
      rw [show (30 : Int32) = nI 30 by rfl, mulN, nI_add]
      exact h
/-- a minute of a month, or outside -/
def bA (T : Twn) (P : Pic) (mo : Nat) (z : Int) : Bool := if 0 ≤ z ∧ z < 720 then pM T P mo z.toNat else false
theorem s_X4_bitAt (hN : a < NN) (hK : sK a = 4) (m : cMom T P gi a) {mo : Nat} (hm : mo < 12) {z : Int} (hz : -10000 ≤ z ∧ z ≤ 10000) (h : Q (b2i (bA T P mo z)) gi gl) : p_X4_bitAt a (nI mo) (iI z) gi gl Q := by
  refine v_X4_bitAt hN hK ?_
  unfold f_X4_bitAt
  unfold bA at h
  refine d_le 0 z rfl rfl (by omega) (by omega) (fun y => ?_) (fun y => ?_)
  · obtain ⟨t, ht⟩ := nat_of y
    subst ht
    rw [Int.toNat_natCast] at h
    rw [iI_n, show nI t / 30 = nI (t / 30) from div_n (b := 30) (by omega) (by omega) (by omega), show jr (nI t) 30 = nI (t % 30) from jr_n (b := 30) (by omega) (by omega) (by omega)]
    by_cases w : t < 720
    · rw [if_pos ⟨y, by omega⟩] at h
      refine X4_minuteRow hN hK hm (by omega) ?_
      rw [m.2.1 mo hm (t / 30) (by omega), jab_b (by omega), show t / 30 * 30 + t % 30 = t by omega]
      exact h
    · rw [if_neg (by omega)] at h
      refine v_X4_minuteRow hN hK ?_
      unfold f_X4_minuteRow
      refine c_lt mo 0 rfl rfl (by omega) (by omega) (fun z => by omega) (fun _ => ?_)
      refine c_le 12 mo rfl rfl (by omega) (by omega) (fun z => by omega) (fun _ => ?_)
      refine c_lt (t / 30) 0 rfl rfl (by omega) (by omega) (fun z => by omega) (fun _ => ?_)
      refine c_lt (t / 30) 24 rfl rfl (by omega) (by omega) (fun z => by omega) (fun _ => ?_)
      have e : ja 0 (nI (t % 30)) &&& 1 = 0 := by
        have := jab (n := 0) (k := t % 30) (by omega) (by omega)
        rw [Nat.zero_testBit] at this
        exact this
      show Q (ja 0 (nI (t % 30)) &&& 1) gi gl
      rw [e]; exact h
  · rw [if_neg (by omega)] at h; exact h
theorem bA_in {mo t : Nat} (h : t < 720) : bA T P mo (t : Int) = pM T P mo t := by unfold bA; rw [if_pos (by omega), Int.toNat_natCast]
theorem s_X4_runStart (hN : a < NN) (hK : sK a = 4) (m : cMom T P gi a) {mo k : Nat} (hm : mo < 12) (hk : k < pRun T P mo) (h : Q (nI (selN (rB T P mo) k 720)) gi gl) : p_X4_runStart a (nI mo) (nI k) gi gl Q := by
  have hr : pRun T P mo ≤ 720 := cntN_le
  refine v_X4_runStart hN hK ?_
  unfold f_X4_runStart
  refine dn (P := fun t => cntN (rB T P mo) t ≤ k → p_X4_runStart_5 a (nI mo) (nI (k - cntN (rB T P mo) t)) (nI t) gi gl Q) (N := 720) ?_ ?_ 0 (by omega) (Nat.zero_le _)
  · intro hc
    exact absurd hk (Nat.not_lt.2 hc)
  · intro t ht ih hc
    have hs := cntN_s (rB T P mo) t
    refine v_X4_runStart_5 hN hK ?_
    unfold f_X4_runStart_5
    refine c_lt 719 t rfl rfl (by omega) (by omega) (fun z => by omega) (fun _ => ?_)
    have eb := bA_in (T := T) (P := P) (mo := mo) ht
    have eb2 : bA T P mo ((t : Int) - 1) = if t = 0 then false else pM T P mo (t - 1) := by
      unfold bA
      by_cases z : t = 0
      · rw [if_neg (by omega), if_pos z]
      · rw [if_pos (by omega), if_neg z, show ((t : Int) - 1).toNat = t - 1 by omega]
    have er : rB T P mo t = (pM T P mo t && !(if t = 0 then false else pM T P mo (t - 1))) := by
      unfold rB
      by_cases z : t = 0
      · subst z; rfl
      · rw [if_neg z, show (t == 0) = false by simp [z], Bool.false_or]
    rw [← iI_n t]
    refine s_X4_bitAt hN hK m hm (by omega) ?_
    rw [eb, iI_n, nI_1]
    have skip : rB T P mo t = false → p_X4_runStart_5 a (nI mo) (nI (k - cntN (rB T P mo) t)) (nI (t + 1)) gi gl Q := fun e => by
      rw [e] at hs
      have hs : cntN (rB T P mo) (t + 1) = cntN (rB T P mo) t := hs
      rw [hs] at ih
      exact ih hc
    cases hb : pM T P mo t with
    | false =>
      rw [hb, Bool.false_and] at er
      exact ifT (by decide) (skip er)
    | true =>
      rw [hb, Bool.true_and] at er
      refine ifF (by decide) ?_
      rw [show nI t - 1 = iI ((t : Int) - 1) by rw [← iI_n, ← iI_1, iI_sub]]
      refine s_X4_bitAt hN hK m hm (by omega) ?_
      rw [eb2]
      refine c_nb (fun y => ?_) (fun y => ?_)
      · rw [y] at er; exact skip er
      · rw [y] at er
        have er : rB T P mo t = true := er
        rw [if_pos er] at hs
        refine c_ne (k - cntN (rB T P mo) t) 0 rfl rfl (by omega) (by omega) (fun w => ?_) (fun w => ?_)
        · rw [dec1 (by omega), show k - cntN (rB T P mo) t - 1 = k - cntN (rB T P mo) (t + 1) by omega]
          exact ih (by omega)
        · rw [selN_eq (d := t) (by omega) er (by omega)] at h
          exact h
theorem s_X4_runEnd (hN : a < NN) (hK : sK a = 4) (m : cMom T P gi a) {mo : Nat} (hm : mo < 12) : ∀ n t, t < 720 → 720 ≤ n + t → Q (nI (rEnd (pM T P mo) n t)) gi gl → p_X4_runEnd_2 a (nI mo) (nI t) gi gl Q := by
  intro n
  induction n with
  | zero => intro t h1 h2; omega
  | succ n ih =>
    intro t h1 h2 h
    refine v_X4_runEnd_2 hN hK ?_
    unfold f_X4_runEnd_2
    unfold rEnd at h
    refine c_le 719 t rfl rfl (by omega) (by omega) (fun y => ?_) (fun y => ?_)
    · rw [if_neg (by omega)] at h; exact h
    · rw [nI_1, ← iI_n (t + 1)]
      refine s_X4_bitAt hN hK m hm (by omega) ?_
      rw [bA_in (by omega), iI_n]
      cases hb : pM T P mo (t + 1) with
      | false =>
        rw [if_neg (by rw [hb]; simp)] at h
        exact ifT (by decide) h
      | true =>
        rw [if_pos ⟨by omega, hb⟩] at h
        exact ifF (by decide) (ih (t + 1) (by omega) (by omega) h)
def runA (T : Twn) (P : Pic) (n : Nat) (w : Int) : Int32 :=
  let d := selS (dRun T P) n 3600
  let t := selN (rB T P (mth d)) (n - sumN (dRun T P) d) 720
  if w = 0 then nI d else if w = 1 then nI t else if w = 2 then nI (rEnd (pM T P (mth d)) 720 t) else -1
theorem s_X4_runAt (hN : a < NN) (hK : sK a = 4) (m : cMom T P gi a) {k w : Int} (hk : 0 ≤ k ∧ k < 2147483648) (hw : -2147483648 ≤ w ∧ w < 2147483648) (h : Q (if k < sumN (dRun T P) 3600 then runA T P k.toNat w else -1) gi gl) : p_X4_runAt a (iI k) (iI w) gi gl Q := by
  obtain ⟨n, hn⟩ := nat_of hk.1
  subst hn
  rw [iI_n]
  rw [Int.toNat_natCast] at h
  refine v_X4_runAt hN hK ?_
  unfold f_X4_runAt
  refine dn (P := fun r => sumN (dRun T P) (r * 30) ≤ n → p_X4_runAt_5 a (iI w) (nI (n - sumN (dRun T P) (r * 30))) (nI r) gi gl Q) (N := 120) ?_ ?_ 0 (by omega) (Nat.zero_le _)
  · intro hc
    have hc : sumN (dRun T P) 3600 ≤ n := hc
    refine v_X4_runAt_5 hN hK ?_
    unfold f_X4_runAt_5
    rw [if_neg (by omega)] at h
    exact ifT (by decide) h
  · intro r hr ih hc
    have hb := blk (f := dRun T P) (r := r)
    rw [sum_dRun] at hb
    have hm12 : r % 12 < 12 := by omega
    have hv12 : vp_in (nI (r % 12)) 12 := vp_nI hm12 (by omega)
    have hvr : vp_in (nI r) 120 := vp_nI hr (by omega)
    refine v_X4_runAt_5 hN hK ?_
    unfold f_X4_runAt_5
    refine c_le 120 r rfl rfl (by omega) (by omega) (fun z => by omega) (fun _ => ?_)
    rw [jr12 (by omega), nI_cl (by omega), m.2.2.2 _ hm12]
    refine ⟨hv12, ?_⟩
    rintro z1 rfl
    rw [nI_cl (by omega), cm1 m hr]
    have b0 := bN30 (f := DR T P r)
    have c0 := cntN_le (f := DR T P r) (n := 30)
    have p0 : pRun T P (r % 12) ≤ 720 := cntN_le
    refine ⟨hvr, s_bitCount (by omega) ?_⟩
    rw [pc_bN (by omega), mulN]
    rintro z5 rfl
    have hmul := Nat.mul_le_mul c0 p0
    generalize hC : cntN (DR T P r) 30 = C at *
    generalize hA : pRun T P (r % 12) = A at *
    generalize hS : sumN (dRun T P) (r * 30) = S at *
    refine c_le (C * A) (n - S) rfl rfl (by omega) (by omega) (fun y => ?_) (fun y => ?_)
    · rintro z6 rfl
      rw [pk_sub y, nI_1, show n - S - C * A = n - sumN (dRun T P) ((r + 1) * 30) by omega]
      exact ih (by omega)
    · have A0 : 0 < A := by
        rcases Nat.eq_zero_or_pos A with z | z
        · subst z; rw [Nat.mul_zero] at y; omega
        · exact z
      refine c_le A 0 rfl rfl (by omega) (by omega) (fun z => by omega) (fun _ => ?_)
      have hne : ¬ nI A = 0 := by rw [show (0 : Int32) = nI 0 by rfl, nI_eq (by omega) (by omega)]; omega
      refine ⟨hne, ?_⟩
      have hq : (n - S) / A < C := (Nat.div_lt_iff_lt_mul A0).2 y
      have hmod : (n - S) % A < A := Nat.mod_lt _ A0
      have hdm := Nat.div_add_mod (n - S) A
      rw [jr_n (by omega) A0 (by omega), div_n (by omega) A0 (by omega)]
      -- the day
      obtain ⟨e, g1, g2, g3⟩ := cnt_find (f := DR T P r) (j := (n - S) / A) 30 (by omega)
      have hsel := selN_eq (f := DR T P r) (N := 30) g1 g2 g3
      have hpre : sumN (dRun T P) (r * 30 + e) = S + (n - S) / A * A := by
        rw [sumN_split, hS]
        congr 1
        rw [show sumN (fun i => dRun T P (r * 30 + i)) e = sumN (fun i => if DR T P r i then A else 0) e from sumN_congr (fun i hi => by rw [dRun_row (by omega), hA]), sumN_if, g3]
      have hday : selS (dRun T P) n 3600 = r * 30 + e := by
        refine selS_eq (by omega) (by rw [hpre, Nat.mul_comm]; omega) ?_
        rw [sumN_s, hpre, dRun_row g1, if_pos g2, hA, Nat.mul_comm]; omega
      have hmono := sumN_mono (f := dRun T P) (show (r + 1) * 30 ≤ 3600 by omega)
      rw [if_pos (by omega)] at h
      unfold runA at h
      simp only [hday, mth_row g1, hpre, show n - (S + (n - S) / A * A) = (n - S) % A by rw [Nat.mul_comm] at hdm; omega] at h
      refine s_X4_runStart hN hK m hm12 (by rw [hA]; exact hmod) ?_
      refine d_eq w 0 rfl rfl hw (by omega) (fun w0 => ⟨hvr, hne, ?_⟩) (fun w0 => ?_)
      · rw [if_pos w0] at h
        rw [cm1 m hr]
        refine s_X4_placeOf (by omega) ?_
        rw [hsel, show (30 : Int32) = nI 30 by rfl, mulN, nI_add]
        exact h
      · rw [if_neg w0] at h
        refine d_eq w 1 rfl rfl hw (by omega) (fun w1 => ?_) (fun w1 => ?_)
        · rw [if_pos w1] at h; exact h
        · rw [if_neg w1] at h
          refine d_eq w 2 rfl rfl hw (by omega) (fun w2 => ?_) (fun w2 => ?_)
          · rw [if_pos w2] at h
            obtain ⟨e2, f1, f2, f3⟩ := cnt_find (f := rB T P (r % 12)) (j := (n - S) % A) 720 (by show _ < pRun T P (r % 12); omega)
            have hs2 := selN_eq (f := rB T P (r % 12)) (N := 720) f1 f2 f3
            refine v_X4_runEnd hN hK ?_
            unfold f_X4_runEnd
            exact s_X4_runEnd hN hK m hm12 720 _ (by omega) (by omega) h
          · rw [if_neg w2] at h; exact h
end CF
