/-! THE REFERENCE, eleven: late, likely -/
theorem mTown_congrL {T : Twn} {gi gi' : Gi} {gl gl' : Gl} {p : Nat} (h : ∀ b, 330 ≤ b → b ≤ 354 → gi' b = gi b) (hl : ∀ b, 336 ≤ b → b ≤ 339 → gl' b = gl b) (m : mTown T gi gl p) : mTown T gi' gl' p := by
  obtain ⟨m1, m2, m3, m4, m5, m6, m7⟩ := mTown_congr h m
  exact ⟨m1, fun k hk i hi => by rw [hl _ (by omega) (by omega)]; exact m2 k hk i hi, m3, m4, m5, m6, m7⟩
theorem MI_frameL {σ : Sta} {gi gi' : Gi} {gl gl' : Gl} (m : MI σ gi gl) (h : ∀ c, 330 ≤ c → c ≤ 363 → gi' c = gi c) (h2 : ∀ k, k = 36 ∨ k = 37 ∨ k = 1 ∨ k = 67 ∨ k = 0 ∨ k = 49 ∨ k = 50 → gi' 329 k = gi 329 k) (hl : ∀ b, 336 ≤ b → b ≤ 339 → gl' b = gl b) : MI σ gi' gl' := by
  obtain ⟨m1, m2, m3, m4, m5, ⟨p, hp, m6, m7⟩, m8, m9, m10, m11⟩ := MI_frame m h h2
  exact ⟨m1, m2, m3, m4, m5, ⟨p, hp, m6, mTown_congrL (fun _ _ _ => rfl) hl m7⟩, m8, m9, m10, m11⟩
theorem ME.congrL {T : Twn} {p : Nat} {la : Int} {su : Int × Int} {gi gi' : Gi} {gl gl' : Gl} (m : ME T p la su gi gl) (h : ∀ b, 330 ≤ b → b ≤ 354 → gi' b = gi b) (hl : ∀ b, 336 ≤ b → b ≤ 339 → gl' b = gl b) (h2 : gi' 329 0 = gi 329 0 ∧ gi' 329 49 = gi 329 49 ∧ gi' 329 50 = gi 329 50 ∧ gi' 329 51 = gi 329 51) : ME T p la su gi' gl' := by
  obtain ⟨m1, m2, m3, m4, m5, m6, m7, m8, m9, m10, m11, m12⟩ := m
  exact ⟨m1, h2.1.trans m2, mTown_congrL h hl m3, m4, h2.2.1.trans m5, m6, m7, h2.2.2.1.trans m8, m9, m10, m11.imp id (fun q => h2.2.2.2.trans q), m12⟩
/-- minutes found -/
def FM (T : Twn) (P : Pic) (g : Gi) : Prop := (∀ m t, m < 12 → t < 720 → g 365 (720 * m + t) = b2i (pM T P m t)) ∧ (∀ m, m < 12 → g 366 m = nI (pCnt T P m))
theorem FM.congr {T : Twn} {P : Pic} {g g' : Gi} (h : FM T P g) (e1 : g' 365 = g 365) (e2 : g' 366 = g 366) : FM T P g' := ⟨fun m t hm ht => by rw [e1]; exact h.1 m t hm ht, fun m hm => by rw [e2]; exact h.2 m hm⟩
theorem FMin.M {T : Twn} {P : Pic} {gi g : Gi} (h : FMin T P gi 12 0 g) : FM T P g := ⟨fun m t hm ht => h.2.2.1 m t ht (by omega), fun m hm => h.2.2.2 m hm⟩
theorem FMin.Sc {T : Twn} {P : Pic} {gi g : Gi} {a b : Nat} (h : FMin T P gi a b g) : Sc gi g := ⟨fun z _ h2 => h.1 z h2 (by omega) (by omega), h.2.1⟩
theorem mPic.sc {P : Pic} {x : Nat} {gi gi' : Gi} (s : Sc gi gi') (h : mPic P x gi) : mPic P x gi' := h.congr (fun z _ _ => s.1 z (by omega) (by omega))
theorem sumMO_le {T : Twn} {la : Int} {su : Int × Int} {P : Pic} : sumN (mOn T la su P) 3600 ≤ 2592000 := sumN_le (b := 720) (fun _ _ => mOn_le)
section DC
variable {T : Twn} {p : Nat} {gi : Gi} {gl : Gl} {P : Pic} {x : Nat}
theorem s_X12_lateBy {Q : Int32 → Gi → Gl → Prop} (m : ME T p 0 nosu gi gl) (hP : mPic P x gi) (vP : ∀ k, k < P.1 → vSign T (P.2 k)) (hf : FM T P gi) {n : Nat} (hn : n ≤ 99)
    (h : ∀ g, Sc gi g → FM T P g → Q (nI (sumN (mOn T n nosu P) 3600)) g gl) : p_X12_lateBy (nI x) (nI n) gi gl Q := by
  refine v_X12_lateBy ?_
  unfold f_X12_lateBy
  rintro g1 rfl
  obtain ⟨m1, m2, m3, m4, m5, m6, m7, m8, m9, m10, m11, m12⟩ := id m
  have mE : ME T p n nosu (uI gi 329 (upd (gi 329) 49 (nI n))) gl := ⟨m1, by rw [uI_s, upd_n (by omega)]; exact m2, mTown_congr (fun b _ _ => uI_n (by omega)) m3, m4, by rw [uI_s, upd_s, iI_n], by omega, by omega, by rw [uI_s, upd_n (by omega)]; exact m8, m9, m10, m11.imp id (fun q => by rw [uI_s, upd_n (by omega)]; exact q), m12⟩
  refine s_X12_findDays mE (hP.congr (fun z _ _ => uI_n (by omega))) vP (fun g2 h1 h2 => ?_)
  rintro g3 rfl
  have o : ∀ z, z ≠ 329 → z ≠ 364 → uI g2 329 (upd (g2 329) 49 0) z = gi z := fun z a b => by rw [uI_n a, h1 z b, uI_n a]
  have hfm : FM T P (uI g2 329 (upd (g2 329) 49 0)) := hf.congr (o 365 (by omega) (by omega)) (o 366 (by omega) (by omega))
  refine s_X12_moments (T := T) (la := n) (su := nosu) (P := P) ⟨fun d hd => by rw [uI_n (by omega)]; exact h2 d hd, hfm.1, hfm.2⟩ ?_
  refine h _ ⟨fun z a b => o z b (by omega), fun k hk => ?_⟩ hfm
  rw [uI_s, updA]
  by_cases q : k = 49
  · rw [if_pos q, q, m5]; rfl
  · rw [if_neg q, h1 _ (by omega), uI_s, upd_n q]
def aLate (T : Twn) (A : Alb) (x n : Int32) : Int32 :=
  if isP A x = true ∧ -1 ≤ n.toInt ∧ n.toInt ≤ 99 then
    (let P := A.2.1 x.toInt.toNat
     if n.toInt < 0 then
       (let j := firstN (fun k => decide (sumN (mOn T k nosu P) 3600 = 0)) 100 0
        if j < 100 then nI j else -1)
     else nI (sumN (mOn T n.toInt nosu P) 3600))
  else -1
theorem m_late {σ : Sta} {x n : Int32} {Q : Int32 → Gi → Gl → Prop} (V : vSta σ) (m : MI σ gi gl) (h : ∀ gi', Sc gi gi' → Q (aLate (sTown σ) (sShown σ) x n) gi' gl) : p_X12_late x n gi gl Q := by
  have hA8 : (sShown σ).1 ≤ 8 := V.2.2.2.1.1
  refine v_X12_late ?_
  unfold f_X12_late
  refine s_X12_isPicture hA8 m.np ?_
  unfold aLate at h
  refine c_b (fun hp => ?_) (fun hp => ?_)
  · rw [if_neg (by rw [hp]; simp)] at h; exact h gi Sc.rf
  · have hk := iI_of n
    have hkr := iI_rng n
    refine s_X12_within ?_
    rw [show (((-1 : Int32)).toInt) = -1 by rfl, show ((99 : Int32).toInt) = 99 by rfl]
    generalize n.toInt = n' at *
    subst hk
    refine c_nb (fun hb => ?_) (fun hb => ?_)
    · simp at hb
      obtain ⟨i, hi, hxi, e⟩ := isP_of hp hA8
      obtain ⟨p, hE⟩ := m.E V
      rw [if_pos ⟨hp, hb⟩, e] at h
      rw [hxi]
      have hP := m.mP V hi
      have vP := (V.2.2.2.1.2.1 i hi).2.2
      refine s_X12_findMinutes hE hP vP (fun g1 hf => ?_)
      have hE1 := hf.Sc.E hE
      have hP1 := hP.sc hf.Sc
      generalize (sShown σ).2.1 i = P at *
      generalize sTown σ = T at *
      refine d_lt n' 0 rfl rfl hkr (by omega) (fun hn => ?_) (fun hn => ?_)
      · have lp : ∀ c j g, j + c = 100 → Sc g1 g → FM T P g → (∀ gi', Sc gi gi' → Q (if firstN (fun k => decide (sumN (mOn T k nosu P) 3600 = 0)) c j < 100 then nI (firstN (fun k => decide (sumN (mOn T k nosu P) 3600 = 0)) c j) else -1) gi' gl) → p_X12_late_38 (nI i) (nI j) g gl Q := by
          intro c
          induction c with
          | zero =>
            intro j g hj hs hm hq
            refine v_X12_late_38 ?_
            unfold f_X12_late_38
            refine c_le 100 j rfl rfl (by omega) (by omega) (fun _ => ?_) (fun q => by omega)
            have := hq g (hf.Sc.tr hs)
            unfold firstN at this
            rw [if_neg (by omega)] at this
            exact this
          | succ c ih =>
            intro j g hj hs hm hq
            refine v_X12_late_38 ?_
            unfold f_X12_late_38
            refine c_le 100 j rfl rfl (by omega) (by omega) (fun q => by omega) (fun _ => ?_)
            refine s_X12_lateBy (hs.E hE1) (hP1.sc hs) vP hm (by omega) (fun g2 hs2 hm2 => ?_)
            have hle := sumMO_le (T := T) (la := (j : Int)) (su := nosu) (P := P)
            unfold firstN at hq
            refine c_le (sumN (mOn T j nosu P) 3600) 0 rfl rfl (by omega) (by omega) (fun q => ?_) (fun q => ?_)
            · rw [nI_1]
              refine ih (j + 1) g2 (by omega) (hs.tr hs2) hm2 (fun g3 h3 => ?_)
              have := hq g3 h3
              simp only [decide_eq_true (show sumN (mOn T (j : Int) nosu P) 3600 = 0 by omega), if_true] at this
              exact this
            · have := hq g2 (hf.Sc.tr (hs.tr hs2))
              simp only [decide_eq_false (show ¬ sumN (mOn T (j : Int) nosu P) 3600 = 0 by omega), Bool.false_eq_true, if_false] at this
              rw [if_pos (by omega)] at this
              exact this
        rw [if_pos hn] at h
        exact lp 100 0 g1 (by omega) Sc.rf hf.M h
      · rw [if_neg (by omega)] at h
        have en : iI n' = nI n'.toNat := by rw [← iI_n, Int.toNat_of_nonneg hn]
        rw [en]
        refine s_X12_lateBy hE1 hP1 vP hf.M (by omega) (fun g2 hs2 hm2 => ?_)
        rw [Int.toNat_of_nonneg hn]
        exact h g2 (hf.Sc.tr hs2)
    · rw [if_neg (by rintro ⟨-, q1, q2⟩; simp at hb; omega)] at h; exact h gi Sc.rf
/-- the first greatest one, and where -/
def bestN (v : Nat → Nat) : Nat → Nat × Int
  | 0 => (0, -1)
  | n + 1 => if (bestN v n).1 < v n then (v n, (n : Int)) else bestN v n
theorem bestN_bd {v : Nat → Nat} {B : Nat} (hB : ∀ i, v i ≤ B) : ∀ n, (bestN v n).1 ≤ B ∧ -1 ≤ (bestN v n).2 ∧ (bestN v n).2 < n ∧ ((bestN v n).2 < 0 ↔ (bestN v n).1 = 0) ∧ (bestN v n).1 ≤ sumN v n
  | 0 => ⟨Nat.zero_le _, (by decide : (-1 : Int) ≤ -1), (by decide : (-1 : Int) < ((0 : Nat) : Int)), (by decide : ((-1 : Int) < 0 ↔ (0 : Nat) = 0)), Nat.le_refl _⟩
  | n + 1 => by
    obtain ⟨h1, h2, h3, h4, h5⟩ := bestN_bd hB n
    have hs := sumN_s v n
    have hv := hB n
    unfold bestN
    by_cases h : (bestN v n).1 < v n
    · rw [if_pos h]
      refine ⟨hv, ?_, ?_, ?_, ?_⟩
      · show (-1 : Int) ≤ (n : Int); omega
      · show (n : Int) < ((n + 1 : Nat) : Int); omega
      · show (n : Int) < 0 ↔ v n = 0; omega
      · show v n ≤ sumN v (n + 1); omega
    · rw [if_neg h]
      exact ⟨h1, h2, by omega, h4, by omega⟩
/-- what a day weighs -/
def vDay (T : Twn) (A : Alb) (P : Pic) (d : Nat) : Nat := mOn T 0 nosu P d * A.2.2 (mth d)
theorem vDay_le {T : Twn} {A : Alb} {P : Pic} (hw : ∀ m, m < 12 → A.2.2 m ≤ 99) {d : Nat} (hd : d < 3600) : vDay T A P d ≤ 71280 := by
  have h1 := mOn_le (T := T) (la := 0) (su := nosu) (P := P) (d := d)
  have h2 := hw _ (mth_lt hd)
  have := Nat.mul_le_mul h1 h2
  unfold vDay; omega
def vW (T : Twn) (A : Alb) (P : Pic) (d : Nat) : Nat := if d < 3600 then vDay T A P d else 0
def aLk (v : Nat → Nat) (w : Int) : Int64 := if (bestN v 3600).2 < 0 then -1 else if w = 0 then iL (bestN v 3600).2 else if w = 1 then iL (((bestN v 3600).1 : Int).tdiv (Nat.gcd (bestN v 3600).1 (sumN v 3600) : Nat)) else iL ((sumN v 3600 : Int).tdiv (Nat.gcd (bestN v 3600).1 (sumN v 3600) : Nat))
def aLikely (T : Twn) (A : Alb) (x w : Int32) : Int64 := if isP A x = true ∧ 0 ≤ w.toInt ∧ w.toInt ≤ 2 then aLk (vW T A (A.2.1 x.toInt.toNat)) w.toInt else -1
theorem m_likely {σ : Sta} {x w : Int32} {Q : Int64 → Gi → Gl → Prop} (V : vSta σ) (m : MI σ gi gl) (h : ∀ gi', Sc gi gi' → Q (aLikely (sTown σ) (sShown σ) x w) gi' gl) : p_X12_likely x w gi gl Q := by
  have hA8 : (sShown σ).1 ≤ 8 := V.2.2.2.1.1
  have hW : ∀ m, m < 12 → (sShown σ).2.2 m ≤ 99 := V.2.2.2.1.2.2
  refine v_X12_likely ?_
  unfold f_X12_likely
  refine s_X12_isPicture hA8 m.np ?_
  unfold aLikely at h
  refine c_b (fun hp => ?_) (fun hp => ?_)
  · rw [if_neg (by rw [hp]; simp)] at h; exact h gi Sc.rf
  · have hk := iI_of w
    have hkr := iI_rng w
    refine s_X12_within ?_
    rw [show ((0 : Int32).toInt) = 0 by rfl, show ((2 : Int32).toInt) = 2 by rfl]
    generalize w.toInt = w' at *
    subst hk
    refine c_nb (fun hb => ?_) (fun hb => ?_)
    · simp at hb
      obtain ⟨i, hi, hxi, e⟩ := isP_of hp hA8
      obtain ⟨p, hE⟩ := m.E V
      rw [if_pos ⟨hp, hb⟩, e] at h
      rw [hxi]
      refine s_X12_finds hE (m.mP V hi) (V.2.2.2.1.2.1 i hi).2.2 (fun g1 h1 _ hf => ?_)
      have h := h g1 h1
      have wt : ∀ j, j < 12 → g1 362 j = nI ((sShown σ).2.2 j) := fun j hj => by
        have := m.sh.2.2 j hj
        rw [Nat.mul_zero, Nat.zero_add] at this
        rw [h1.1 _ (by omega) (by omega)]; exact this
      have hB : ∀ d, vW (sTown σ) (sShown σ) ((sShown σ).2.1 i) d ≤ 71280 := fun d => by
        unfold vW
        by_cases q : d < 3600
        · rw [if_pos q]; exact vDay_le hW q
        · rw [if_neg q]; omega
      have ev2 : ∀ d, d < 3600 → vW (sTown σ) (sShown σ) ((sShown σ).2.1 i) d = mOn (sTown σ) 0 nosu ((sShown σ).2.1 i) d * (sShown σ).2.2 (mth d) := fun d hd => by
        unfold vW
        rw [if_pos hd]; rfl
      generalize vW (sTown σ) (sShown σ) ((sShown σ).2.1 i) = v at *
      unfold aLk at h
      have hS := fun n => sumN_le (f := v) (b := 71280) (n := n) (fun i _ => hB i)
      have lp : ∀ n d, d + n = 3600 → p_X12_likely_37 (iI w') (iL (sumN v d : Nat)) (iL ((bestN v d).1 : Nat)) (iI (bestN v d).2) (nI d) g1 gl Q := by
        intro n
        induction n with
        | zero =>
          intro d hd
          have : d = 3600 := by omega
          subst this
          obtain ⟨b1, b2, b3, b4, b5⟩ := bestN_bd hB 3600
          have hS := hS 3600
          refine v_X12_likely_37 ?_
          unfold f_X12_likely_37
          refine ifT (by decide) ?_
          refine d_le 0 (bestN v 3600).2 rfl rfl (by omega) (by omega) (fun q => ?_) (fun q => ?_)
          · rw [if_neg (by omega)] at h
            refine s_X12_divisor (by omega) (by omega) ?_
            rw [Int.natAbs_natCast, Int.natAbs_natCast]
            have hg0 := Nat.gcd_pos_of_pos_left (sumN v 3600) (show 0 < (bestN v 3600).1 by omega)
            have hg := Nat.gcd_le_left (sumN v 3600) (show 0 < (bestN v 3600).1 by omega)
            generalize Nat.gcd (bestN v 3600).1 (sumN v 3600) = g at *
            have hne : ¬ iL (g : Int) = 0 := by rw [show (0 : Int64) = iL 0 by rfl, iL_eq (by omega) (by omega)]; omega
            refine d_ne w' 0 rfl rfl hkr (by omega) (fun w0 => ?_) (fun w0 => ?_)
            · rw [if_neg w0] at h
              refine d_ne w' 1 rfl rfl hkr (by omega) (fun w1 => ⟨hne, ?_⟩) (fun w1 => ⟨hne, ?_⟩)
              · rw [if_neg w1] at h
                rw [iL_div (by omega) (by omega)]; exact h
              · rw [if_pos w1] at h
                rw [iL_div (by omega) (by omega)]; exact h
            · rw [if_pos w0] at h
              rw [iI_toL (by omega) (by omega)]; exact h
          · rw [if_pos q] at h; exact h
        | succ n ih =>
          intro d hd
          obtain ⟨b1, b2, b3, b4, b5⟩ := bestN_bd hB d
          have ih := ih (d + 1) (by omega)
          have hSd := hS d
          have hd3 : d < 3600 := by omega
          have hm := mth_lt hd3
          have hvd := hB d
          refine v_X12_likely_37 ?_
          unfold f_X12_likely_37
          refine c_le 3600 d rfl rfl (by omega) (by omega) (fun q => by omega) (fun _ => ?_)
          refine s_X12_minutesOn hf hd3 ?_
          rw [mth_i hd3, nI_cl (by omega), wt _ hm]
          refine ⟨vp_nI (by omega) (by omega), ?_⟩
          have hmo := mOn_le (T := sTown σ) (la := 0) (su := nosu) (P := (sShown σ).2.1 i) (d := d)
          have hwm := hW _ hm
          rintro z7 rfl z8 rfl
          rw [← iI_n, ← iI_n, iI_toL (by omega) (by omega), iI_toL (by omega) (by omega), iL_mul, iL_add, nI_1]
          have e1 : ((mOn (sTown σ) 0 nosu ((sShown σ).2.1 i) d : Nat) : Int) * (((sShown σ).2.2 (mth d) : Nat) : Int) = ((v d : Nat) : Int) := by rw [ev2 d hd3]; simp
          rw [e1]
          have e2 : ((sumN v d : Nat) : Int) + (v d : Nat) = ((sumN v (d + 1) : Nat) : Int) := by rw [sumN_s]; simp
          rw [e2]
          unfold bestN at ih
          by_cases q : (bestN v d).1 < v d
          · rw [if_pos q] at ih
            rw [if_pos ((iL_lt (by omega) (by omega)).2 (by omega)), ← iI_n]
            exact ih
          · rw [if_neg q] at ih
            rw [if_neg (fun z => q (by have := (iL_lt (by omega) (by omega)).1 z; omega))]
            exact ih
      have := lp 3600 0 (by omega)
      exact this
    · rw [if_neg (by rintro ⟨-, q1, q2⟩; simp at hb; omega)] at h; exact h gi Sc.rf
end DC
