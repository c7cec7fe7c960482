/-! comparisons told apart -/
theorem ifT {c : Prop} [Decidable c] {X Y : Prop} (h : c) (k : X) : if c then X else Y := by rw [if_pos h]; exact k
theorem ifF {c : Prop} [Decidable c] {X Y : Prop} (h : ¬ c) (k : Y) : if c then X else Y := by rw [if_neg h]; exact k
section CC
variable {x y : Int32} {X Y : Prop}
theorem c_le (a b : Nat) (hx : x = nI a) (hy : y = nI b) (ha : a < 2147483648) (hb : b < 2147483648) (kt : a ≤ b → X) (kf : b < a → Y) : if x ≤ y then X else Y := by
  subst hx; subst hy
  by_cases h : a ≤ b
  · exact ifT ((nI_leI ha hb).2 h) (kt h)
  · exact ifF (fun q => h ((nI_leI ha hb).1 q)) (kf (by omega))
theorem c_lt (a b : Nat) (hx : x = nI a) (hy : y = nI b) (ha : a < 2147483648) (hb : b < 2147483648) (kt : a < b → X) (kf : b ≤ a → Y) : if x < y then X else Y := by
  subst hx; subst hy
  by_cases h : a < b
  · exact ifT ((nI_ltI ha hb).2 h) (kt h)
  · exact ifF (fun q => h ((nI_ltI ha hb).1 q)) (kf (by omega))
theorem c_eq (a b : Nat) (hx : x = nI a) (hy : y = nI b) (ha : a < 2147483648) (hb : b < 2147483648) (kt : a = b → X) (kf : a ≠ b → Y) : if x = y then X else Y := by
  subst hx; subst hy
  by_cases h : a = b
  · exact ifT ((nI_eq ha hb).2 h) (kt h)
  · exact ifF (fun q => h ((nI_eq ha hb).1 q)) (kf h)
theorem c_ne (a b : Nat) (hx : x = nI a) (hy : y = nI b) (ha : a < 2147483648) (hb : b < 2147483648) (kt : a ≠ b → X) (kf : a = b → Y) : if ¬ x = y then X else Y := by
  subst hx; subst hy
  by_cases h : a = b
  · exact ifF (not_not_intro ((nI_eq ha hb).2 h)) (kf h)
  · exact ifT (fun q => h ((nI_eq ha hb).1 q)) (kt h)
theorem d_le (a b : Int) (hx : x = iI a) (hy : y = iI b) (ha : -2147483648 ≤ a ∧ a < 2147483648) (hb : -2147483648 ≤ b ∧ b < 2147483648) (kt : a ≤ b → X) (kf : b < a → Y) : if x ≤ y then X else Y := by
  subst hx; subst hy
  by_cases h : a ≤ b
  · exact ifT ((iI_le ha hb).2 h) (kt h)
  · exact ifF (fun q => h ((iI_le ha hb).1 q)) (kf (by omega))
theorem d_lt (a b : Int) (hx : x = iI a) (hy : y = iI b) (ha : -2147483648 ≤ a ∧ a < 2147483648) (hb : -2147483648 ≤ b ∧ b < 2147483648) (kt : a < b → X) (kf : b ≤ a → Y) : if x < y then X else Y := by
  subst hx; subst hy
  by_cases h : a < b
  · exact ifT ((iI_lt ha hb).2 h) (kt h)
  · exact ifF (fun q => h ((iI_lt ha hb).1 q)) (kf (by omega))
theorem d_eq (a b : Int) (hx : x = iI a) (hy : y = iI b) (ha : -2147483648 ≤ a ∧ a < 2147483648) (hb : -2147483648 ≤ b ∧ b < 2147483648) (kt : a = b → X) (kf : a ≠ b → Y) : if x = y then X else Y := by
  subst hx; subst hy
  by_cases h : a = b
  · exact ifT ((iI_eq ha hb).2 h) (kt h)
  · exact ifF (fun q => h ((iI_eq ha hb).1 q)) (kf h)
theorem d_ne (a b : Int) (hx : x = iI a) (hy : y = iI b) (ha : -2147483648 ≤ a ∧ a < 2147483648) (hb : -2147483648 ≤ b ∧ b < 2147483648) (kt : a ≠ b → X) (kf : a = b → Y) : if ¬ x = y then X else Y := by
  subst hx; subst hy
  by_cases h : a = b
  · exact ifF (not_not_intro ((iI_eq ha hb).2 h)) (kf h)
  · exact ifT (fun q => h ((iI_eq ha hb).1 q)) (kt h)
theorem c_b {e : Bool} (kt : e = false → X) (kf : e = true → Y) : if b2i e = 0 then X else Y := by
  cases e with
  | false => exact ifT rfl (kt rfl)
  | true => exact ifF (by decide) (kf rfl)
theorem c_nb {e : Bool} (kt : e = true → X) (kf : e = false → Y) : if ¬ b2i e = 0 then X else Y := by
  cases e with
  | false => exact ifF (by decide) (kf rfl)
  | true => exact ifT (by decide) (kt rfl)
end CC
/-- a loop that counts up -/
theorem dn {P : Nat → Prop} {N : Nat} (h0 : P N) (hs : ∀ t, t < N → P (t + 1) → P t) : ∀ t, t ≤ N → P t := by
  intro t ht
  obtain ⟨e, rfl⟩ : ∃ e, N = t + e := ⟨N - t, by omega⟩
  clear ht
  induction e generalizing t with
  | zero => exact h0
  | succ e ih =>
    refine hs t (by omega) (ih (t + 1) ?_ ?_)
    · rw [show t + 1 + e = t + (e + 1) by omega]; exact h0
    · intro u hu; exact hs u (by omega)
theorem mulL (a b : Nat) {x y : Int32} (hx : x = nI a) (hy : y = nI b) : x * y = nI (a * b) := by subst hx; subst hy; exact pk_mul a b
theorem addL (a b : Nat) {x y : Int32} (hx : x = nI a) (hy : y = nI b) : x + y = nI (a + b) := by subst hx; subst hy; exact nI_add a b
theorem subL (a b : Nat) {x y : Int32} (hx : x = nI a) (hy : y = nI b) (h : b ≤ a) : x - y = nI (a - b) := by subst hx; subst hy; exact pk_sub h
theorem sub1 {a : Nat} (h : 1 ≤ a) : nI a - 1 = nI (a - 1) := pk_sub h
theorem sub0 {a : Nat} : nI a - 0 = nI a := pk_sub (Nat.zero_le _)
theorem mthL {d : Nat} (h : d < 3600) {x : Int32} (hx : x = nI d) : jr x 360 / 30 = nI (mth d) := by subst hx; exact mth_i h
/-! THE REFERENCE, ten: runs -/
section DB
variable {T : Twn} {p : Nat} {la : Int} {su : Int × Int} {gi : Gi} {gl : Gl} {P : Pic} {x : Nat}
theorem s_X12_beginsRun {Q : Int32 → Gi → Gl → Prop} (hf : Fnd T la su P gi) {m t : Nat} (hm : m < 12) (ht : t < 720) (h : Q (b2i (rB T P m t)) gi gl) : p_X12_beginsRun (nI m) (nI t) gi gl Q := by
  refine v_X12_beginsRun ?_
  unfold f_X12_beginsRun
  rw [show (720 : Int32) * nI m = nI (720 * m) from pk_mul 720 m, nI_add, nI_cl (by omega), hf.2.1 m t hm ht]
  refine ⟨vp_nI (by omega) (by omega), ?_⟩
  unfold rB at h
  refine c_b (fun hb => ?_) (fun hb => ?_)
  · rw [hb] at h; exact h
  · rw [hb, Bool.true_and] at h
    refine c_eq t 0 rfl rfl (by omega) (by omega) (fun h0 => ?_) (fun h0 => ?_)
    · subst h0; exact h
    · rw [show nI (720 * m + t) - 1 = nI (720 * m + (t - 1)) by rw [sub1 (by omega)]; congr 1; omega, nI_cl (by omega), hf.2.1 m (t - 1) hm (by omega)]
      refine ⟨vp_nI (by omega) (by omega), ?_⟩
      have e0 : (t == 0) = false := by simp [h0]
      rw [e0, Bool.false_or] at h
      refine c_nb (fun hc => ?_) (fun hc => ?_)
      · rw [hc] at h; exact h
      · rw [hc] at h; exact h
theorem s_X12_runsOf {Q : Int32 → Gi → Gl → Prop} (hf : Fnd T la su P gi) {m : Nat} (hm : m < 12) (h : Q (nI (pRun T P m)) gi gl) : p_X12_runsOf (nI m) gi gl Q := by
  refine v_X12_runsOf ?_
  unfold f_X12_runsOf
  refine dn (P := fun t => p_X12_runsOf_4 (nI m) (nI (cntN (rB T P m) t)) (nI t) gi gl Q) (N := 720) ?_ ?_ 0 (by omega)
  · refine v_X12_runsOf_4 ?_
    unfold f_X12_runsOf_4
    exact ifT (by decide) h
  · intro t ht ih
    refine v_X12_runsOf_4 ?_
    unfold f_X12_runsOf_4
    refine c_le 720 t rfl rfl (by omega) (by omega) (fun h => by omega) (fun _ => ?_)
    refine s_X12_beginsRun hf hm ht ?_
    rw [cntN_s] at ih
    refine c_b (fun hb => ?_) (fun hb => ?_)
    · rintro z1 rfl
      rw [if_neg (by rw [hb]; decide)] at ih
      rw [nI_1, show nI (cntN (rB T P m) t) + 0 = nI (cntN (rB T P m) t + 0) from nI_add _ 0]
      exact ih
    · rintro z1 rfl
      rw [if_pos hb] at ih
      rw [nI_1, nI_1]
      exact ih
/-- where a run ends -/
def rEnd (f : Nat → Bool) : Nat → Nat → Nat
  | 0, t => t
  | n + 1, t => if t + 1 < 720 ∧ f (t + 1) = true then rEnd f n (t + 1) else t
theorem runMinute_end {Q : Int32 → Gi → Gl → Prop} (hf : Fnd T la su P gi) {m : Nat} (hm : m < 12) : ∀ n t, t < 720 → 720 ≤ n + t → Q (nI (rEnd (pM T P m) n t)) gi gl → p_X12_runMinute_47 (nI m) 1 (nI t) gi gl Q := by
  intro n
  induction n with
  | zero => intro t h1 h2; omega
  | succ n ih =>
    intro t h1 h2 h
    refine v_X12_runMinute_47 ?_
    unfold f_X12_runMinute_47
    refine ifF (by decide) ?_
    rw [nI_1]
    unfold rEnd at h
    refine c_le 720 (t + 1) rfl rfl (by omega) (by omega) (fun h3 => ?_) (fun h3 => ?_)
    · rw [if_neg (by omega)] at h; exact h
    · rw [show (720 : Int32) * nI m = nI (720 * m) from pk_mul 720 m, nI_add, nI_1, nI_cl (by omega), show 720 * m + t + 1 = 720 * m + (t + 1) by omega, hf.2.1 m (t + 1) hm h3]
      refine ⟨vp_nI (by omega) (by omega), ?_⟩
      refine c_b (fun hb => ?_) (fun hb => ?_)
      · rw [if_neg (by rw [hb]; simp)] at h; exact h
      · rw [if_pos ⟨h3, hb⟩] at h
        exact ih (t + 1) h3 (by omega) h
theorem s_X12_runMinute {Q : Int32 → Gi → Gl → Prop} (hf : Fnd T la su P gi) {m a : Nat} (hm : m < 12) (ha : a < pRun T P m) {w : Bool} (h : Q (nI (if w then rEnd (pM T P m) 720 (selN (rB T P m) a 720) else selN (rB T P m) a 720)) gi gl) : p_X12_runMinute (nI m) (nI a) (b2i w) gi gl Q := by
  have hr : pRun T P m ≤ 720 := cntN_le
  have lp : ∀ n t, t + n = 720 → cntN (rB T P m) t ≤ a → p_X12_runMinute_6 (nI m) (b2i w) (nI (a - cntN (rB T P m) t)) (nI t) gi gl Q := by
    intro n
    induction n with
    | zero =>
      intro t ht hc
      have : t = 720 := by omega
      subst this
      exact absurd ha (Nat.not_lt.2 hc)
    | succ n ih =>
      intro t ht hc
      refine v_X12_runMinute_6 ?_
      unfold f_X12_runMinute_6
      have hs := cntN_s (rB T P m) t
      refine s_X12_beginsRun hf hm (by omega) ?_
      refine c_b (fun hb => ?_) (fun hb => ?_)
      · rw [if_neg (by rw [hb]; decide)] at hs
        refine v_X12_runMinute_21 ?_
        unfold f_X12_runMinute_21
        refine s_X12_beginsRun hf hm (by omega) ?_
        rw [hb]
        refine ifT rfl ?_
        rintro z1 rfl
        rw [nI_1, sub0]
        have := ih (t + 1) (by omega) (by omega)
        rw [hs] at this
        exact this
      · rw [if_pos hb] at hs
        refine c_le (a - cntN (rB T P m) t) 0 rfl rfl (by omega) (by omega) (fun h0 => ?_) (fun h0 => ?_)
        · rw [selN_eq (d := t) (by omega) hb (by omega)] at h
          cases w with
          | true => exact runMinute_end hf hm 720 t (by omega) (by omega) h
          | false =>
            refine v_X12_runMinute_47 ?_
            unfold f_X12_runMinute_47
            exact ifT rfl h
        · refine v_X12_runMinute_21 ?_
          unfold f_X12_runMinute_21
          refine s_X12_beginsRun hf hm (by omega) ?_
          rw [hb]
          refine ifF (by decide) ?_
          rintro z1 rfl
          rw [nI_1, sub1 (by omega)]
          have := ih (t + 1) (by omega) (by omega)
          rw [hs, show a - (cntN (rB T P m) t + 1) = a - cntN (rB T P m) t - 1 by omega] at this
          exact this
  refine v_X12_runMinute ?_
  unfold f_X12_runMinute
  exact lp 720 0 (by omega) (Nat.zero_le _)
/-- runs of a day -/
def dRun (T : Twn) (P : Pic) (d : Nat) : Nat := if pD T 0 nosu P d then pRun T P (mth d) else 0
theorem dRun_le {d : Nat} : dRun T P d ≤ 720 := by unfold dRun; split; exact cntN_le; omega
def aRuns (T : Twn) (A : Alb) (x k w : Int32) : Int32 :=
  if isP A x = true ∧ -1 ≤ k.toInt ∧ 0 ≤ w.toInt ∧ w.toInt ≤ (if k.toInt = -1 then 0 else 2) then
    (let P := A.2.1 x.toInt.toNat
     if k.toInt = -1 then nI (sumN (dRun T P) 3600)
     else if k.toInt < sumN (dRun T P) 3600 then
       (let d := selS (dRun T P) k.toInt.toNat 3600
        let t := selN (rB T P (mth d)) (k.toInt.toNat - sumN (dRun T P) d) 720
        nI (if w.toInt = 0 then d else if w.toInt = 2 then rEnd (pM T P (mth d)) 720 t else t))
     else -1)
  else -1
theorem runs_73 {Q : Int32 → Gi → Gl → Prop} (hf : Fnd T 0 nosu P gi) (hr : ∀ m, m < 12 → gi 367 m = nI (pRun T P m)) {k w : Int} (hk : -1 ≤ k ∧ k < 2147483648) (hw : 0 ≤ w ∧ w ≤ 2)
    (h1 : k = -1 → Q (nI (sumN (dRun T P) 3600)) gi gl) (h2 : 0 ≤ k → sumN (dRun T P) 3600 ≤ k → Q (-1) gi gl)
    (h3 : 0 ≤ k → k < sumN (dRun T P) 3600 → Q (nI (if w = 0 then selS (dRun T P) k.toNat 3600 else if w = 2 then rEnd (pM T P (mth (selS (dRun T P) k.toNat 3600))) 720 (selN (rB T P (mth (selS (dRun T P) k.toNat 3600))) (k.toNat - sumN (dRun T P) (selS (dRun T P) k.toNat 3600)) 720) else selN (rB T P (mth (selS (dRun T P) k.toNat 3600))) (k.toNat - sumN (dRun T P) (selS (dRun T P) k.toNat 3600)) 720)) gi gl) :
    p_X12_runs_73 (iI k) (iI w) 0 0 gi gl Q := by
  have lp : ∀ n d, d + n = 3600 → (k = -1 ∨ (sumN (dRun T P) d : Int) ≤ k) → p_X12_runs_73 (iI k) (iI w) (nI (sumN (dRun T P) d)) (nI d) gi gl Q := by
    intro n
    induction n with
    | zero =>
      intro d hd hc
      have : d = 3600 := by omega
      subst this
      refine v_X12_runs_73 ?_
      unfold f_X12_runs_73
      refine ifT (by decide) ?_
      refine d_ne k (-1) rfl rfl (by omega) (by omega) (fun h => ?_) (fun h => ?_)
      · exact h2 (by omega) (by omega)
      · exact h1 h
    | succ n ih =>
      intro d hd hc
      have hs := sumN_s (dRun T P) d
      have hle := sumN_le (f := dRun T P) (b := 720) (n := d) (fun _ _ => dRun_le)
      have hdl := dRun_le (T := T) (P := P) (d := d)
      have ih := ih (d + 1) (by omega)
      refine v_X12_runs_73 ?_
      unfold f_X12_runs_73
      refine c_le 3600 d rfl rfl (by omega) (by omega) (fun h => by omega) (fun _ => ?_)
      rw [nI_cl (by omega), hf.1 d (by omega)]
      refine ⟨vp_nI (by omega) (by omega), ?_⟩
      refine c_nb (fun hb => ?_) (fun hb => ?_)
      · have ed : dRun T P d = pRun T P (mth d) := by unfold dRun; rw [if_pos hb]
        rintro z1 rfl
        have hm := mth_lt (d := d) (by omega)
        have hv : vp_in (nI (mth d)) 12 := vp_nI hm (by omega)
        rw [mth_i (by omega), nI_cl (by omega), hr _ hm, nI_1]
        rw [nI_add, ← ed, ← hs]
        refine d_lt k 0 rfl rfl (by omega) (by omega) (fun h => ⟨hv, ?_⟩) (fun h => ⟨hv, ?_⟩)
        · rintro z2 rfl
          exact ih (by omega)
        · refine d_le (sumN (dRun T P) (d + 1)) k (iI_n _).symm rfl (by omega) (by omega) (fun hle => ⟨hv, ?_⟩) (fun hlt => ?_)
          · rintro z2 rfl
            exact ih (by omega)
          · have hmono := sumN_mono (f := dRun T P) (show d + 1 ≤ 3600 by omega)
            have h3 := h3 h (by omega)
            rw [selS_eq (d := d) (by omega) (by omega) (by omega)] at h3
            have eS : iI k - nI (sumN (dRun T P) d) = nI (k.toNat - sumN (dRun T P) d) := by
              rw [← iI_n, ← iI_n, iI_sub]; congr 1; omega
            refine d_ne w 0 rfl rfl (by omega) (by omega) (fun w0 => ?_) (fun w0 => ?_)
            · rw [if_neg w0] at h3
              refine d_ne w 2 rfl rfl (by omega) (by omega) (fun w2 => ?_) (fun w2 => ?_)
              · rw [if_neg w2] at h3
                rw [eS]
                exact s_X12_runMinute hf hm (by omega) (w := false) h3
              · rw [if_pos w2] at h3
                rw [eS]
                exact s_X12_runMinute hf hm (by omega) (w := true) h3
            · rw [if_pos w0] at h3; exact h3
      · have ed : dRun T P d = 0 := by unfold dRun; rw [hb]; rfl
        rw [nI_1]
        rw [ed, Nat.add_zero] at hs
        rw [hs] at ih
        exact ih hc
  exact lp 3600 0 (by omega) (by show _ ∨ ((0 : Nat) : Int) ≤ k; omega)
theorem m_runs {σ : Sta} {x k w : Int32} {Q : Int32 → Gi → Gl → Prop} (V : vSta σ) (m : MI σ gi gl) (h : ∀ gi', Sc gi gi' → Q (aRuns (sTown σ) (sShown σ) x k w) gi' gl) : p_X12_runs x k w gi gl Q := by
  have hA8 : (sShown σ).1 ≤ 8 := V.2.2.2.1.1
  refine v_X12_runs ?_
  unfold f_X12_runs
  refine s_X12_isPicture hA8 m.np ?_
  unfold aRuns at h
  refine c_b (fun hp => ?_) (fun hp => ?_)
  · rw [if_neg (by rw [hp]; simp)] at h; exact h gi Sc.rf
  · have hk := iI_of k
    have hkr := iI_rng k
    have hw := iI_of w
    have hwr := iI_rng w
    generalize k.toInt = k' at *
    generalize w.toInt = w' at *
    subst hk
    subst hw
    refine d_lt k' (-1) rfl rfl hkr (by omega) (fun h1 => ?_) (fun h1 => ?_)
    · rw [if_neg (by omega)] at h; exact h gi Sc.rf
    · obtain ⟨i, hi, hxi, e⟩ := isP_of hp hA8
      obtain ⟨p, hE⟩ := m.E V
      have go : 0 ≤ w' → w' ≤ (if k' = -1 then 0 else 2) → p_X12_finds x gi gl (fun (gi7 : Gi) (gl8 : Gl) => p_X12_runs_41 (iI k') (iI w') (0 : Int32) gi7 gl8 Q) := by
        intro w0 w2
        rw [if_pos ⟨hp, h1, w0, w2⟩, e] at h
        rw [hxi]
        refine s_X12_finds hE (m.mP V hi) (V.2.2.2.1.2.1 i hi).2.2 (fun g1 h2 _ hf => ?_)
        generalize (sShown σ).2.1 i = P at *
        generalize sTown σ = T at *
        refine dn (P := fun mo => ∀ g, (∀ z, z ≠ 367 → g z = g1 z) → (∀ m', m' < mo → g 367 m' = nI (pRun T P m')) → p_X12_runs_41 (iI k') (iI w') (nI mo) g gl Q) (N := 12) ?_ ?_ 0 (by omega) g1 (fun _ _ => rfl) (fun _ q => by omega)
        · intro g e1 e2
          refine v_X12_runs_41 ?_
          unfold f_X12_runs_41
          refine ifT (by decide) ?_
          have h := h g (h2.tr ⟨fun z a b => e1 z (by omega), fun j _ => by rw [e1 _ (by omega)]⟩)
          refine runs_73 (T := T) (P := P) (hf.congr (fun z _ _ => e1 z (by omega))) e2 (by omega) ⟨w0, by split at w2 <;> omega⟩ (fun q => ?_) (fun q q2 => ?_) (fun q q2 => ?_)
          · rw [if_pos q] at h; exact h
          · rw [if_neg (by omega), if_neg (by omega)] at h; exact h
          · rw [if_neg (by omega), if_pos q2] at h; exact h
        · intro mo hmo ih g e1 e2
          refine v_X12_runs_41 ?_
          unfold f_X12_runs_41
          refine c_le 12 mo rfl rfl (by omega) (by omega) (fun h => by omega) (fun _ => ?_)
          refine s_X12_runsOf (T := T) (P := P) (la := 0) (su := nosu) (hf.congr (fun z _ _ => e1 z (by omega))) hmo ?_
          refine ⟨vp_nI hmo (by omega), ?_⟩
          rintro g2 rfl
          rw [nI_1, nI_cl (by omega)]
          refine ih _ (fun z hz => by rw [uI_n hz]; exact e1 z hz) (fun m' hm' => ?_)
          rw [uI_s, updA]
          by_cases q : m' = mo
          · rw [if_pos q, q]
          · rw [if_neg q]; exact e2 m' (by omega)
      refine d_ne k' (-1) rfl rfl hkr (by omega) (fun h2 => ?_) (fun h2 => ?_)
      · refine s_X12_within ?_
        rw [iI_toInt hwr.1 hwr.2, show ((0 : Int32).toInt) = 0 by rfl, show ((2 : Int32).toInt) = 2 by rfl]
        refine c_nb (fun hb => ?_) (fun hb => ?_)
        · simp at hb
          exact go hb.1 (by rw [if_neg h2]; exact hb.2)
        · rw [if_neg (by rintro ⟨-, -, q1, q2⟩; rw [if_neg h2] at q2; simp at hb; omega)] at h; exact h gi Sc.rf
      · refine s_X12_within ?_
        rw [iI_toInt hwr.1 hwr.2, show ((0 : Int32).toInt) = 0 by rfl]
        refine c_nb (fun hb => ?_) (fun hb => ?_)
        · simp at hb
          exact go hb.1 (by rw [if_pos h2]; exact hb.2)
        · rw [if_neg (by rintro ⟨-, -, q1, q2⟩; rw [if_pos h2] at q2; simp at hb; omega)] at h; exact h gi Sc.rf
end DB
