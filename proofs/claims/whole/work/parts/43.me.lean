/-! THE REFERENCE, thirteen: couples -/
theorem uLA {g : Gl} {a b : Nat} {f : Nat → Int64} : uL g a f b = if b = a then f else g b := rfl
theorem updLA {f : Nat → Int64} {k j : Nat} {x : Int64} : vp_updL f k x j = if j = k then x else f j := rfl
theorem cntN_tail {f : Nat → Bool} {a b : Nat} (h : a ≤ b) (e : ∀ i, a ≤ i → i < b → f i = false) : cntN f b = cntN f a := by
  obtain ⟨n, rfl⟩ : ∃ n, b = a + n := ⟨b - a, by omega⟩
  clear h
  induction n with
  | zero => rfl
  | succ n ih =>
    rw [show a + (n + 1) = a + n + 1 by omega, cntN_s, e (a + n) (by omega) (by omega), ih (fun i h1 h2 => e i h1 (by omega))]; rfl
def cpF (T : Twn) (R : Pic) (m : Nat) (a b : Int) (t u : Nat) : Bool := pM T R m u && (decide ((t : Int) + a ≤ u) && decide ((u : Int) ≤ t + b))
def cplT (T : Twn) (P R : Pic) (m : Nat) (a b : Int) (t : Nat) : Nat := if pM T P m t then cntN (cpF T R m a b t) 720 else 0
def cpl (T : Twn) (P R : Pic) (m : Nat) (a b : Int) : Nat := sumN (cplT T P R m a b) 720
theorem cpl_le {T : Twn} {P R : Pic} {m : Nat} {a b : Int} : cpl T P R m a b ≤ 518400 := sumN_le (b := 720) (n := 720) (fun i _ => by unfold cplT; split; exact cntN_le; omega)
/-- what a day has of couples -/
def vCp (T : Twn) (P R : Pic) (a b : Int) (d : Nat) : Nat := if pD T 0 nosu P d && pD T 0 nosu R d then cpl T P R (mth d) a b else 0
theorem vCp_le {T : Twn} {P R : Pic} {a b : Int} {d : Nat} : vCp T P R a b d ≤ 518400 := by unfold vCp; split; exact cpl_le; omega
/-- the first of them; -1: none -/
def lowN (f : Nat → Bool) : Nat → Int
  | 0 => -1
  | n + 1 => if 0 ≤ lowN f n then lowN f n else if f n then (n : Int) else -1
theorem lowN_bd {f : Nat → Bool} : ∀ n, -1 ≤ lowN f n ∧ lowN f n < n
  | 0 => ⟨(by decide : (-1 : Int) ≤ -1), (by decide : (-1 : Int) < ((0 : Nat) : Int))⟩
  | n + 1 => by
    obtain ⟨h1, h2⟩ := lowN_bd (f := f) n
    unfold lowN
    split
    · omega
    · split <;> omega
theorem lowN_s (f : Nat → Bool) (n : Nat) : lowN f (n + 1) = if 0 ≤ lowN f n then lowN f n else if f n then (n : Int) else -1 := rfl
def nz (v : Nat → Nat) (d : Nat) : Bool := decide (v d ≠ 0)
def aCouples (T : Twn) (A : Alb) (x y a b w : Int32) : Int64 :=
  if isP A x = true ∧ isP A y = true ∧ -719 ≤ a.toInt ∧ a.toInt ≤ b.toInt ∧ b.toInt ≤ 719 ∧ 0 ≤ w.toInt ∧ w.toInt ≤ 2 then
    (let v := vCp T (A.2.1 x.toInt.toNat) (A.2.1 y.toInt.toNat) a.toInt b.toInt
     if w.toInt = 0 then iL (sumN v 3600 : Nat) else if w.toInt = 1 then iL (cntN (nz v) 3600 : Nat) else iL (lowN (nz v) 3600))
  else -1
/-- what was found before lies aside -/
def WA (T : Twn) (P : Pic) (g : Gi) : Prop := (∀ d, d < 3600 → g 371 d = b2i (pD T 0 nosu P d)) ∧ (∀ m t, m < 12 → t < 720 → g 372 (720 * m + t) = b2i (pM T P m t))
section DE
variable {T : Twn} {p : Nat} {gi : Gi} {gl : Gl} {P R : Pic} {x : Nat}
theorem s_X12_keepsAside {Q : Gi → Gl → Prop} (hf : Fnd T 0 nosu P gi) (h : ∀ g, (∀ z, z ≠ 371 → z ≠ 372 → g z = gi z) → WA T P g → Q g gl) : p_X12_keepsAside gi gl Q := by
  refine v_X12_keepsAside ?_
  unfold f_X12_keepsAside
  refine dn (P := fun d => ∀ g, (∀ z, z ≠ 371 → g z = gi z) → (∀ e, e < d → g 371 e = b2i (pD T 0 nosu P e)) → p_X12_keepsAside_2 (nI d) g gl Q) (N := 3600) ?_ ?_ 0 (by omega) gi (fun _ _ => rfl) (fun _ q => by omega)
  · intro g1 e1 e2
    refine v_X12_keepsAside_2 ?_
    unfold f_X12_keepsAside_2
    refine ifT (by decide) ?_
    refine dn (P := fun d => ∀ g, (∀ z, z ≠ 372 → g z = g1 z) → (∀ e, e < d → g 372 e = gi 365 e) → p_X12_keepsAside_29 (nI d) g gl Q) (N := 8640) ?_ ?_ 0 (by omega) g1 (fun _ _ => rfl) (fun _ q => by omega)
    · intro g e3 e4
      refine v_X12_keepsAside_29 ?_
      unfold f_X12_keepsAside_29
      refine ifT (by decide) ?_
      refine h g (fun z a b => by rw [e3 z b, e1 z a]) ⟨fun d hd => by rw [e3 _ (by omega)]; exact e2 d hd, fun m t hm ht => ?_⟩
      rw [e4 _ (by omega)]; exact hf.2.1 m t hm ht
    · intro d hd ih g e3 e4
      refine v_X12_keepsAside_29 ?_
      unfold f_X12_keepsAside_29
      refine c_le 8640 d rfl rfl (by omega) (by omega) (fun q => by omega) (fun _ => ⟨vp_nI hd (by omega), vp_nI hd (by omega), ?_⟩)
      rintro g2 rfl
      have ev : g 365 d = b2i (pM T P (d / 720) (d % 720)) := by
        rw [e3 _ (by omega), e1 _ (by omega), ← hf.2.1 (d / 720) (d % 720) (by omega) (by omega), Nat.div_add_mod]
      rw [nI_cl (by omega), nI_1, ev, nar_b, ← ev]
      refine ih _ (fun z hz => by rw [uI_n hz]; exact e3 z hz) (fun e he => ?_)
      rw [uI_s, updA]
      by_cases q : e = d
      · rw [if_pos q, q, e3 _ (by omega), e1 _ (by omega)]
      · rw [if_neg q]; exact e4 e (by omega)
  · intro d hd ih g e1 e2
    refine v_X12_keepsAside_2 ?_
    unfold f_X12_keepsAside_2
    refine c_le 3600 d rfl rfl (by omega) (by omega) (fun q => by omega) (fun _ => ⟨vp_nI hd (by omega), vp_nI hd (by omega), ?_⟩)
    rintro g2 rfl
    rw [nI_cl (by omega), nI_1, e1 364 (by omega), hf.1 d hd, nar_b]
    refine ih _ (fun z hz => by rw [uI_n hz]; exact e1 z hz) (fun e he => ?_)
    rw [uI_s, updA]
    by_cases q : e = d
    · rw [if_pos q, q]
    · rw [if_neg q]; exact e2 e (by omega)
theorem couplesIn_76 {Q : Int64 → Gi → Gl → Prop} (hf : ∀ m t, m < 12 → t < 720 → gi 365 (720 * m + t) = b2i (pM T R m t)) {m t : Nat} (hm : m < 12) (ht : t < 720) {a b : Int} (ha : -719 ≤ a ∧ a ≤ b ∧ b ≤ 719) {base : Nat} {f l : Int} (hfe : f = if (t : Int) + a < 0 then 0 else t + a) (hle : l = if (t : Int) + b ≤ 719 then (t : Int) + b else 719)
    (h : p_X12_couplesIn_6 (nI m) (iI a) (iI b) (iL ((base + cntN (cpF T R m a b t) 720 : Nat) : Int)) (nI (t + 1)) gi gl Q) :
    ∀ (n u : Nat), l + 1 - (u : Int) ≤ (n : Int) → u ≤ 3000 → f ≤ u → p_X12_couplesIn_76 (nI m) (iI a) (iI b) (iL ((base + cntN (cpF T R m a b t) (if u ≤ 720 then u else 720) : Nat) : Int)) (nI t) (iI l) (nI u) gi gl Q := by
  have out : ∀ u : Nat, l < u → f ≤ u → cntN (cpF T R m a b t) (if u ≤ 720 then u else 720) = cntN (cpF T R m a b t) 720 := by
    intro u h1 h2
    by_cases q : u ≤ 720
    · rw [if_pos q]
      symm
      refine cntN_tail q (fun i h3 h4 => ?_)
      unfold cpF
      rw [show decide ((i : Int) ≤ t + b) = false by rw [decide_eq_false_iff_not]; split at hle <;> omega]
      simp
    · rw [if_neg q]
  have go : ∀ u : Nat, l < u → u ≤ 3000 → f ≤ u → p_X12_couplesIn_76 (nI m) (iI a) (iI b) (iL ((base + cntN (cpF T R m a b t) (if u ≤ 720 then u else 720) : Nat) : Int)) (nI t) (iI l) (nI u) gi gl Q := by
    intro u h1 h2 h3
    refine v_X12_couplesIn_76 ?_
    unfold f_X12_couplesIn_76
    refine d_lt l u rfl (iI_n _).symm (by split at hle <;> omega) (by omega) (fun _ => ?_) (fun q => by omega)
    rw [out u h1 h3, nI_1]
    exact h
  intro n
  induction n with
  | zero => intro u h1 h2 h3; exact go u (by omega) h2 h3
  | succ n ih =>
    intro u h1 h2 h3
    by_cases hlu : l < u
    · exact go u hlu h2 h3
    · have hl7 : l ≤ 719 := by split at hle <;> omega
      have hu : u < 720 := by omega
      have ih := ih (u + 1) (by omega) (by omega) (by omega)
      rw [if_pos (show u + 1 ≤ 720 by omega), cntN_s] at ih
      rw [if_pos (show u ≤ 720 by omega)]
      have ec : cpF T R m a b t u = pM T R m u := by
        unfold cpF
        rw [show decide ((t : Int) + a ≤ u) = true by rw [decide_eq_true_eq]; split at hfe <;> omega, show decide ((u : Int) ≤ t + b) = true by rw [decide_eq_true_eq]; split at hle <;> omega]
        simp
      rw [ec] at ih
      refine v_X12_couplesIn_76 ?_
      unfold f_X12_couplesIn_76
      refine d_lt l u rfl (iI_n _).symm (by omega) (by omega) (fun q => by omega) (fun _ => ?_)
      rw [show (720 : Int32) * nI m = nI (720 * m) from pk_mul 720 m, nI_add, nI_cl (by omega), hf m u hm hu, nI_1]
      refine ⟨vp_nI (by omega) (by omega), ?_⟩
      refine c_b (fun q => ?_) (fun q => ?_)
      · rintro z1 rfl
        rw [q] at ih
        rw [show (0 : Int64) = iL 0 by rfl, iL_add]
        exact ih
      · rintro z1 rfl
        rw [q] at ih
        rw [show (1 : Int64) = iL 1 by rfl, iL_add]
        exact ih
theorem s_X12_couplesIn {Q : Int64 → Gi → Gl → Prop} (hw : WA T P gi) (hf : ∀ m t, m < 12 → t < 720 → gi 365 (720 * m + t) = b2i (pM T R m t)) {m : Nat} (hm : m < 12) {a b : Int} (ha : -719 ≤ a ∧ a ≤ b ∧ b ≤ 719)
    (h : Q (iL (cpl T P R m a b : Nat)) gi gl) : p_X12_couplesIn (nI m) (iI a) (iI b) gi gl Q := by
  refine v_X12_couplesIn ?_
  unfold f_X12_couplesIn
  refine dn (P := fun t => p_X12_couplesIn_6 (nI m) (iI a) (iI b) (iL (sumN (cplT T P R m a b) t : Nat)) (nI t) gi gl Q) (N := 720) ?_ ?_ 0 (by omega)
  · refine v_X12_couplesIn_6 ?_
    unfold f_X12_couplesIn_6
    exact ifT (by decide) h
  · intro t ht ih
    rw [sumN_s] at ih
    refine v_X12_couplesIn_6 ?_
    unfold f_X12_couplesIn_6
    refine c_le 720 t rfl rfl (by omega) (by omega) (fun q => by omega) (fun _ => ?_)
    rw [show (720 : Int32) * nI m = nI (720 * m) from pk_mul 720 m, nI_add, nI_cl (by omega), hw.2 m t hm ht]
    refine ⟨vp_nI (by omega) (by omega), ?_⟩
    refine c_nb (fun q => ?_) (fun q => ?_)
    · have e1 : cplT T P R m a b t = cntN (cpF T R m a b t) 720 := by unfold cplT; rw [if_pos q]
      rw [e1] at ih
      have main : ∀ f : Int, f = (if (t : Int) + a < 0 then 0 else t + a) → p_X12_couplesIn_48 (nI m) (iI a) (iI b) (iL (sumN (cplT T P R m a b) t : Nat)) (nI t) (iI f) gi gl Q := by
        intro f hfe
        have hf0 : 0 ≤ f := by split at hfe <;> omega
        have hf3 : f ≤ 3000 := by split at hfe <;> omega
        refine v_X12_couplesIn_48 ?_
        unfold f_X12_couplesIn_48
        obtain ⟨u, hu⟩ := nat_of hf0
        have go : ∀ l : Int, l = (if (t : Int) + b ≤ 719 then (t : Int) + b else 719) → p_X12_couplesIn_76 (nI m) (iI a) (iI b) (iL (sumN (cplT T P R m a b) t : Nat)) (nI t) (iI l) (iI f) gi gl Q := by
          intro l hl
          have := couplesIn_76 (T := T) (R := R) hf hm ht ha (base := sumN (cplT T P R m a b) t) hfe hl ih (l + 1).toNat u (by omega) (by omega) (by omega)
          have e0 : cntN (cpF T R m a b t) (if u ≤ 720 then u else 720) = 0 := by
            refine cntN_tail (a := 0) (Nat.zero_le _) (fun i h1 h2 => ?_)
            unfold cpF
            rw [show decide ((t : Int) + a ≤ i) = false by rw [decide_eq_false_iff_not]; split at hfe <;> split at h2 <;> omega]
            simp
          rw [e0, Nat.add_zero] at this
          rw [hu, iI_n]
          exact this
        rw [← iI_n t, iI_add]
        refine d_le (t + b) 719 rfl rfl (by omega) (by omega) (fun q2 => ?_) (fun q2 => ?_)
        · rintro z1 rfl
          rw [iI_n]
          exact go _ (by rw [if_pos q2])
        · rw [iI_n]
          exact go _ (by rw [if_neg (by omega)])
      have m1 := main _ rfl
      rw [← iI_n t, iI_add]
      refine d_le 0 (t + a) rfl rfl (by omega) (by omega) (fun q2 => ?_) (fun q2 => ?_)
      · rw [if_neg (by omega), ← iI_n t] at m1; exact m1
      · rw [if_pos q2, ← iI_n t] at m1; exact m1
    · have e1 : cplT T P R m a b t = 0 := by unfold cplT; rw [q]; rfl
      rw [e1] at ih
      rw [nI_1]
      exact ih
theorem couples_108 {Q : Int64 → Gi → Gl → Prop} (hw : WA T P gi) (hd : ∀ d, d < 3600 → gi 364 d = b2i (pD T 0 nosu R d)) {a b : Int} (hg : ∀ m, m < 12 → gl 373 m = iL (cpl T P R m a b : Nat)) {w : Int} (hw2 : 0 ≤ w ∧ w ≤ 2)
    (h : Q (if w = 0 then iL (sumN (vCp T P R a b) 3600 : Nat) else if w = 1 then iL (cntN (nz (vCp T P R a b)) 3600 : Nat) else iL (lowN (nz (vCp T P R a b)) 3600)) gi gl) : p_X12_couples_108 (iI w) 0 0 (-1) 0 gi gl Q := by
  have ev : ∀ d, vCp T P R a b d = if pD T 0 nosu P d && pD T 0 nosu R d then cpl T P R (mth d) a b else 0 := fun _ => rfl
  have hB : ∀ d, vCp T P R a b d ≤ 518400 := fun d => vCp_le
  generalize vCp T P R a b = v at *
  refine dn (P := fun d => p_X12_couples_108 (iI w) (iL (sumN v d : Nat)) (nI (cntN (nz v) d)) (iI (lowN (nz v) d)) (nI d) gi gl Q) (N := 3600) ?_ ?_ 0 (by omega)
  · refine v_X12_couples_108 ?_
    unfold f_X12_couples_108
    have hc := cntN_le (f := nz v) (n := 3600)
    have hl := lowN_bd (f := nz v) 3600
    refine ifT (by decide) ?_
    refine d_ne w 0 rfl rfl (by omega) (by omega) (fun w0 => ?_) (fun w0 => ?_)
    · rw [if_neg w0] at h
      refine d_ne w 1 rfl rfl (by omega) (by omega) (fun w1 => ?_) (fun w1 => ?_)
      · rw [if_neg w1] at h
        rw [iI_toL (by omega) (by omega)]; exact h
      · rw [if_pos w1] at h
        rw [← iI_n, iI_toL (by omega) (by omega)]; exact h
    · rw [if_pos w0] at h; exact h
  · intro d hd3 ih
    have hl := lowN_bd (f := nz v) d
    have hc := cntN_le (f := nz v) (n := d)
    have k154 : p_X12_couples_154 (iI w) (iL (sumN v d : Nat)) (nI (cntN (nz v) d)) (iI (lowN (nz v) d)) (nI d) (iL (v d : Nat)) gi gl Q := by
      refine v_X12_couples_154 ?_
      unfold f_X12_couples_154
      have hv := hB d
      rw [sumN_s, cntN_s, lowN_s] at ih
      rw [nI_1]
      by_cases q : v d = 0
      · have nzf : nz v d = false := by unfold nz; simp [q]
        rw [if_neg (by rw [q]; decide)]
        rw [q, nzf] at ih
        simp only [Bool.false_eq_true, if_false] at ih
        have e2 : (if 0 ≤ lowN (nz v) d then lowN (nz v) d else -1) = lowN (nz v) d := by split <;> omega
        rw [e2] at ih
        rw [nI_1]
        exact ih
      · have nzt : nz v d = true := by unfold nz; simp [q]
        rw [if_pos (by rw [show (0 : Int64) = iL 0 by rfl, iL_eq (by omega) (by omega)]; omega)]
        rw [nzt] at ih
        simp only [if_true] at ih
        rintro z1 rfl
        rw [iL_add, nI_1]
        have e3 : ((sumN v d : Nat) : Int) + ((v d : Nat) : Int) = ((sumN v d + v d : Nat) : Int) := by simp
        rw [e3]
        refine d_le 0 (lowN (nz v) d) rfl rfl (by omega) (by omega) (fun q2 => ?_) (fun q2 => ?_)
        · rw [if_pos q2] at ih; exact ih
        · rw [if_neg (by omega), iI_n] at ih; exact ih
    have hm := mth_lt hd3
    have evd := ev d
    refine v_X12_couples_108 ?_
    unfold f_X12_couples_108
    refine c_le 3600 d rfl rfl (by omega) (by omega) (fun q => by omega) (fun _ => ?_)
    rw [nI_cl (by omega), hw.1 d hd3, hd d hd3, mth_i hd3, nI_cl (by omega), hg _ hm]
    refine ⟨vp_nI hd3 (by omega), ?_⟩
    refine c_b (fun q => ?_) (fun q => ⟨vp_nI hd3 (by omega), ?_⟩)
    · rw [q, Bool.false_and, if_neg (by decide)] at evd
      rw [evd] at k154; exact k154
    · refine c_b (fun q2 => ?_) (fun q2 => ⟨vp_nI hm (by omega), ?_⟩)
      · rw [q2, Bool.and_false, if_neg (by decide)] at evd
        rw [evd] at k154; exact k154
      · rw [q, q2, Bool.and_true, if_pos rfl] at evd
        rw [← evd]; exact k154
theorem m_couples {σ : Sta} {x y a b w : Int32} {Q : Int64 → Gi → Gl → Prop} (V : vSta σ) (m : MI σ gi gl) (h : ∀ gi' gl', MI σ gi' gl' → FrM gi gl gi' gl' → Q (aCouples (sTown σ) (sShown σ) x y a b w) gi' gl') : p_X12_couples x y a b w gi gl Q := by
  have hA8 : (sShown σ).1 ≤ 8 := V.2.2.2.1.1
  have h0 := h gi gl m FrM.rf
  refine v_X12_couples ?_
  unfold f_X12_couples
  refine s_X12_isPicture hA8 m.np ?_
  unfold aCouples at h h0
  refine c_b (fun hp => ?_) (fun hp => ?_)
  · rw [if_neg (by rw [hp]; simp)] at h0; exact h0
  refine s_X12_isPicture hA8 m.np ?_
  refine c_b (fun hp2 => ?_) (fun hp2 => ?_)
  · rw [if_neg (by rw [hp2]; simp)] at h0; exact h0
  have ea := iI_of a
  have eb := iI_of b
  have ew := iI_of w
  have ra := iI_rng a
  have rb := iI_rng b
  have rw' := iI_rng w
  refine s_X12_within ?_
  rw [show ((-719 : Int32).toInt) = -719 by rfl]
  generalize a.toInt = a' at *
  generalize b.toInt = b' at *
  refine c_b (fun hb => ?_) (fun hb => ?_)
  · rw [if_neg (by rintro ⟨-, -, q1, q2, -⟩; simp at hb; omega)] at h0; exact h0
  simp at hb
  refine d_lt 719 b' rfl eb (by omega) (by omega) (fun hb2 => ?_) (fun hb2 => ?_)
  · rw [if_neg (by omega)] at h0; exact h0
  refine s_X12_within ?_
  rw [show ((0 : Int32).toInt) = 0 by rfl, show ((2 : Int32).toInt) = 2 by rfl]
  generalize w.toInt = w' at *
  subst ea eb ew
  refine c_nb (fun hw => ?_) (fun hw => ?_)
  · simp at hw
    obtain ⟨i, hi, hxi, e⟩ := isP_of hp hA8
    obtain ⟨j, hj, hyj, e2⟩ := isP_of hp2 hA8
    rw [e, e2] at h
    obtain ⟨p, hE⟩ := m.E V
    rw [hxi, hyj]
    have hc : isP (sShown σ) x = true ∧ isP (sShown σ) y = true ∧ -719 ≤ a' ∧ a' ≤ b' ∧ b' ≤ 719 ∧ 0 ≤ w' ∧ w' ≤ 2 := ⟨hp, hp2, by omega, by omega, by omega, by omega, by omega⟩
    refine s_X12_finds hE (m.mP V hi) (V.2.2.2.1.2.1 i hi).2.2 (fun g1 h1 _ hf => ?_)
    refine s_X12_keepsAside hf (fun g2 h2 hw2 => ?_)
    have s12 : Sc g1 g2 := ⟨fun z a b => h2 z (by omega) (by omega), fun k _ => by rw [h2 _ (by omega) (by omega)]⟩
    have S2 := h1.tr s12
    refine s_X12_finds (S2.E hE) ((m.mP V hj).sc S2) (V.2.2.2.1.2.1 j hj).2.2 (fun g3 h3 h3b hf3 => ?_)
    have S3 := S2.tr h3
    have hw3 : WA (sTown σ) ((sShown σ).2.1 i) g3 := ⟨fun d hd => by rw [h3b _ (by omega)]; exact hw2.1 d hd, fun m t hm ht => by rw [h3b _ (by omega)]; exact hw2.2 m t hm ht⟩
    refine dn (P := fun mo => ∀ l : Gl, (∀ z, z ≠ 373 → l z = gl z) → (∀ m', m' < mo → l 373 m' = iL (cpl (sTown σ) ((sShown σ).2.1 i) ((sShown σ).2.1 j) m' a' b' : Nat)) → p_X12_couples_67 (iI a') (iI b') (iI w') (nI mo) g3 l Q) (N := 12) ?_ ?_ 0 (by omega) gl (fun _ _ => rfl) (fun _ q => by omega)
    · intro l e1 e2
      refine v_X12_couples_67 ?_
      unfold f_X12_couples_67
      refine ifT (by decide) ?_
      refine couples_108 hw3 hf3.1 e2 hw ?_
      have := h g3 l (MI_frameL m (fun c _ _ => S3.1 c (by omega) (by omega)) (fun k hk => S3.2 k (by omega)) (fun b _ _ => e1 b (by omega))) (fun z hz => ⟨S3.1 z (by omega) (by omega), e1 z (by omega)⟩)
      rw [if_pos hc] at this
      exact this
    · intro mo hmo ih l e1 e2
      refine v_X12_couples_67 ?_
      unfold f_X12_couples_67
      refine c_le 12 mo rfl rfl (by omega) (by omega) (fun q => by omega) (fun _ => ?_)
      refine s_X12_couplesIn hw3 hf3.2.1 hmo ⟨by omega, by omega, by omega⟩ ⟨vp_nI hmo (by omega), ?_⟩
      rintro l2 rfl
      rw [nI_1, nI_cl (by omega)]
      refine ih _ (fun z hz => by rw [uL_n hz]; exact e1 z hz) (fun m' hm' => ?_)
      rw [uL_s, updLA]
      by_cases q : m' = mo
      · rw [if_pos q, q]
      · rw [if_neg q]; exact e2 m' (by omega)
  · rw [if_neg (by rintro ⟨-, -, -, -, -, q1, q2⟩; simp at hw; omega)] at h0; exact h0
end DE
