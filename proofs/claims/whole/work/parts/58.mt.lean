/-! THE REFERENCE, twenty-five: picture, more -/
def putP (A : Alb) (i : Nat) (P : Pic) : Nat → Pic := fun j => if j = i then P else A.2.1 j
def dPic (σ : Sta) (P : Pic) : Sta := (0, sTape σ, -1, sTowns σ, sTown σ, ((sShown σ).1 + 1, putP (sShown σ) (sShown σ).1 P, (sShown σ).2.2), sKept σ, sKeep σ)
def dMore (σ : Sta) (i : Nat) (P : Pic) : Sta := (0, sTape σ, -1, sTowns σ, sTown σ, ((sShown σ).1, putP (sShown σ) i P, (sShown σ).2.2), sKept σ, sKeep σ)
section KT
variable {f : Nat → Nat} {n : Nat} {G : Gi} {L : Gl} {B : Nat → Int32} {gi : Gi} {gl : Gl}
variable {Qv : Gi → Gl → Prop} {Qi : Int32 → Gi → Gl → Prop} {T : Twn} {p : Nat}
theorem k_readSigns {x : Nat} (hx : x < 8) {P : Pic} (h : K f n (.inr (skp f n 0)) G L B gi gl) (hB : B 0 = nI p) (hp : p < 2) (mt : mTown T G L p) (vt : vTown T) (hP : P.1 ≤ 12) (hG : ∀ k, k < P.1 → ∀ w, w < 5 → G (357 + w) (12 * x + k) = iI (P.2 k w))
    (kk : ∀ gi' gl' G', K f n (rdSigns f n T P).2 G' L B gi' gl' → Ons x P.1 G G' → (isR (rdSigns f n T P).2 = true → ∀ k, k < (rdSigns f n T P).1.1 → ∀ w, w < 5 → G' (357 + w) (12 * x + k) = iI ((rdSigns f n T P).1.2 k w)) → Qi (if isR (rdSigns f n T P).2 then nI (rdSigns f n T P).1.1 else -1) gi' gl') : p_X12_readSigns (nI x) (nI P.1) gi gl Qi := by
  refine v_X12_readSigns ?_
  unfold f_X12_readSigns
  unfold rdSigns at kk
  obtain ⟨u44, u41, -, -⟩ := h.r
  have hk := kd_cases f n (skp f n 0)
  rw [u41]
  refine c_ne (kd f n (skp f n 0)) 0 rfl rfl (by omega) (by omega) (fun y => ?_) (fun y => ?_)
  · have ye : enS n (Sum.inr (skp f n 0)) = false := decide_eq_false (fun z => y (kd_0.2 z))
    rw [ye] at kk
    simp only [Bool.false_eq_true, if_false] at kk
    exact k_signs hx hB hp vt (13 - P.1) P _ G gi gl P.1 h mt (fun _ => ⟨hP, by omega, Nat.le_refl _⟩) (fun _ => hG) _ (fun _ => rfl) kk
  · have ye : enS n (Sum.inr (skp f n 0)) = true := decide_eq_true (kd_0.1 y)
    rw [ye] at kk
    simp only [if_true] at kk
    refine k_errs h (fun g1 l1 h1 => ?_)
    exact k_signs hx hB hp vt (13 - P.1) P _ G g1 l1 P.1 h1 mt (fun q => by rw [isR_er] at q; cases q) (fun q => by rw [isR_er] at q; cases q) (nI P.1) (fun q => absurd q (by rw [isR_er]; decide)) kk
end KT
theorem mAlb_ons {A : Alb} {b x k0 : Nat} {G G' : Gi} (hb : b ≠ 0 ∨ A.1 ≤ x) (hx : x < 8) (hA : A.1 ≤ 8) (hc : ∀ i, i < A.1 → (A.2.1 i).1 ≤ 12) (o : Ons x k0 G G') (m : mAlb A G b) : mAlb A G' b := by
  obtain ⟨m1, m2, m3⟩ := m
  refine ⟨by rw [o.1 _ (by omega)]; exact m1, fun i hi => ⟨by rw [o.1 _ (by omega)]; exact (m2 i hi).1, fun k hk w hw => ?_⟩, fun j hj => by rw [o.1 _ (by omega)]; exact m3 j hj⟩
  have := hc i hi
  rw [o.2 _ (by omega) (by omega) _ (by omega)]; exact (m2 i hi).2 k hk w hw
theorem m_picture {σ : Sta} {x : Int32} {gi : Gi} {gl : Gl} {Q : Int32 → Gi → Gl → Prop} (V : vSta σ) (m : MI σ gi gl)
    (h2 : (x.toInt < 0 ∨ (sN_ σ : Int) < x.toInt) → Q (-2) gi gl)
    (h3 : ∀ n, n ≤ sN_ σ → x = nI n → (sShown σ).1 = 8 → Q (-3) gi gl)
    (hI : ∀ n, n ≤ sN_ σ → x = nI n → (sShown σ).1 < 8 → ∀ e, (rdSigns (fT σ) n (sTown σ) (0, fun _ _ => 0)).2 = .inl e → ∀ gi' gl', MI (dIll σ e) gi' gl' → FrM gi gl gi' gl' → Q (-1) gi' gl')
    (hW : ∀ n, n ≤ sN_ σ → x = nI n → (sShown σ).1 < 8 → isR (rdSigns (fT σ) n (sTown σ) (0, fun _ _ => 0)).2 = true → ∀ gi' gl', MI (dPic σ (rdSigns (fT σ) n (sTown σ) (0, fun _ _ => 0)).1) gi' gl' → FrM gi gl gi' gl' → Q (nI (sShown σ).1) gi' gl') : p_X12_picture x gi gl Q := by
  have V1 := V.1
  have hA8 : (sShown σ).1 ≤ 8 := V.2.2.2.1.1
  obtain ⟨m1, m2, m3, m4, m5, ⟨p, hp, m6, m7⟩, m8, m9, m10, m11⟩ := id m
  refine v_X12_picture ?_
  unfold f_X12_picture
  rw [m1]
  by_cases y1 : x < 0
  · refine ifT y1 (h2 (Or.inl ?_))
    rw [lt_toInt] at y1; exact y1
  refine ifF y1 ?_
  have hx0 := neg_of y1
  have hxe := int_of hx0 rfl
  generalize hn : x.toInt.toNat = n at *
  by_cases y2 : ¬ x ≤ nI (sN_ σ)
  · refine ifF y2 (h2 (Or.inr ?_))
    rw [le_toInt, nI_tI (by omega)] at y2; omega
  have y2 := Decidable.of_not_not y2
  refine ifT y2 ?_
  have hnl : n ≤ sN_ σ := by
    rw [le_toInt, nI_tI (by omega)] at y2; omega
  rw [cl0, m.np]
  refine c_ne (sShown σ).1 8 rfl rfl (by omega) (by omega) (fun y3 => ?_) (fun y3 => h3 n hnl hxe y3)
  have hI := hI n hnl hxe (by omega)
  have hW := hW n hnl hxe (by omega)
  rw [hxe]
  refine k_begins V m hnl (fun g1 l1 B h1 hB1 hB36 => ?_)
  have hB0 : B 0 = nI p := (hB1 0 (by omega)).trans m6
  rw [show g1 355 0 = nI (sShown σ).1 by rw [h1.2.1 _ (by omega)]; exact m.np]
  refine k_readSigns (x := (sShown σ).1) (P := (0, fun _ _ => 0)) (by omega) h1 hB0 hp m7 V.2.2.1 (Nat.zero_le _) (fun k hk => absurd hk (Nat.not_lt_zero k)) (fun g9 l9 G' h9 o9 s9 => ?_)
  generalize hr : rdSigns (fT σ) n (sTown σ) (0, fun _ _ => 0) = r at *
  have vP : isR r.2 = true → vPic (sTown σ) r.1 := fun hR => by
    rw [← hr] at hR ⊢
    exact (v_rdSigns (Nat.zero_le _) (fun k hk => absurd hk (Nat.not_lt_zero k)) hR).1
  have fB : ∀ k, k ≠ 36 ∧ k ≠ 37 ∧ k ≠ 38 ∧ k ≠ 39 ∧ k ≠ 40 ∧ k ≠ 41 ∧ k ≠ 42 ∧ k ≠ 44 → g9 329 k = gi 329 k := fun k hk => by rw [h9.2.2.2 k (by omega), hB1 k (by omega)]
  have f36 : g9 329 36 = 0 := by rw [h9.2.2.2 36 (by omega), hB36]
  have cell : ∀ z, z < 357 ∨ 361 < z → z ≠ 329 → g9 z = gi z := fun z hz hz2 => by rw [h9.2.1 z hz2, o9.1 z hz]
  have cellL : ∀ z, z ≠ 329 → l9 z = gl z := fun z hz2 => h9.2.2.1 z hz2
  have FR : FrM gi gl g9 l9 := fun z hz => ⟨cell z (by omega) (by omega), cellL z (by omega)⟩
  have V4 := V.2.2.2.1
  have V6 := V.2.2.2.2.2.1
  have a9 : ∀ i, i < sKept σ → mAlb (sKeep σ i) g9 (i + 1) := fun i hi => mAlb_congr (fun c _ _ => h9.2.1 c (by omega)) (mAlb_ons (Or.inl (by omega)) (by omega) (V6 i hi).1 (V6 i hi).le o9 (m9 i hi))
  have a8 : mAlb (sShown σ) g9 0 := mAlb_congr (fun c _ _ => h9.2.1 c (by omega)) (mAlb_ons (Or.inr (Nat.le_refl _)) (by omega) hA8 V4.le o9 m8)
  have t9 : mTown (sTown σ) g9 l9 p := mTown_congrL (fun b _ _ => cell b (by omega) (by omega)) (fun b _ _ => cellL b (by omega)) m7
  cases hs : r.2 with
  | inl e =>
    have hse := h9.1
    rw [hs] at hse
    refine ifF (show ¬ (0 : Int32) ≤ -1 by decide) ?_
    exact hI e hs g9 l9 ⟨f36, fun j hj => absurd hj (Nat.not_lt_zero j), by rw [hse.2.1, ← iI_n]; rfl, by rw [fB 1 (by omega)]; exact m4, by rw [fB 67 (by omega)]; exact m5, ⟨p, hp, by rw [fB 0 (by omega)]; exact m6, t9⟩, a8, a9, by rw [fB 49 (by omega)]; exact m10, by rw [fB 50 (by omega)]; exact m11⟩ FR
  | inr a =>
    have hR : isR r.2 = true := by rw [hs]; rfl
    have vP := vP hR
    have s9 := s9 hR
    have hW := hW hR
    have r12 := vP.2.1
    have hse := h9.1
    rw [hs] at hse
    have eif : (if isR (Sum.inr a : Ps) = true then nI r.1.1 else (-1 : Int32)) = nI r.1.1 := rfl
    rw [eif]
    refine c_le 0 r.1.1 rfl rfl (by omega) (by omega) (fun _ => ?_) (fun q => by omega)
    rw [show g9 355 0 = nI (sShown σ).1 by rw [cell _ (by omega) (by omega)]; exact m.np, nI_cl (by omega)]
    refine ⟨vp_nI (by omega) (by omega), ?_⟩
    intro ga ea gb eb
    have x1 : ga 355 0 = nI (sShown σ).1 := by rw [ea, uI_n (by omega), cell _ (by omega) (by omega)]; exact m.np
    rw [x1, nI_1] at eb
    have x2 : gb 355 0 = nI ((sShown σ).1 + 1) := by rw [eb, uI_s, upd_s]
    rw [x2, sub1 (by omega), show (sShown σ).1 + 1 - 1 = (sShown σ).1 by omega]
    have o : ∀ z, z ≠ 355 → z ≠ 356 → gb z = g9 z := fun z h1 h2 => by rw [eb, uI_n h1, ea, uI_n h2]
    have n356 : ∀ j, gb 356 j = if j = (sShown σ).1 then nI r.1.1 else g9 356 j := fun j => by rw [eb, uI_n (by omega), ea, uI_s, updA]
    have n355 : ∀ j, j ≠ 0 → gb 355 j = g9 355 j := fun j hj => by rw [eb, uI_s, upd_n hj, ea, uI_n (by omega)]
    refine hW gb l9 ⟨by rw [o _ (by omega) (by omega)]; exact f36, fun j hj => absurd hj (Nat.not_lt_zero j), by rw [o _ (by omega) (by omega)]; exact hse.2.2.2.2.2.2.2.1, by rw [o _ (by omega) (by omega), fB 1 (by omega)]; exact m4, by rw [o _ (by omega) (by omega), fB 67 (by omega)]; exact m5, ⟨p, hp, by rw [o _ (by omega) (by omega), fB 0 (by omega)]; exact m6, mTown_congr (fun b _ _ => o b (by omega) (by omega)) t9⟩, ⟨x2, fun i hi => ?_, fun j hj => by rw [o _ (by omega) (by omega)]; exact a8.2.2 j hj⟩, fun i hi => ?_, by rw [o _ (by omega) (by omega), fB 49 (by omega)]; exact m10, by rw [o _ (by omega) (by omega), fB 50 (by omega)]; exact m11⟩ (fun z hz => ⟨by rw [o z (by omega) (by omega)]; exact (FR z hz).1, (FR z hz).2⟩)
    · have hi : i < (sShown σ).1 + 1 := hi
      show _ = nI (putP (sShown σ) (sShown σ).1 r.1 i).1 ∧ ∀ k, k < (putP (sShown σ) (sShown σ).1 r.1 i).1 → ∀ w, w < 5 → _ = iI ((putP (sShown σ) (sShown σ).1 r.1 i).2 k w)
      unfold putP
      rw [n356, Nat.mul_zero, Nat.zero_add]
      by_cases z : i = (sShown σ).1
      · rw [if_pos z, if_pos z]
        refine ⟨rfl, fun k hk w hw => ?_⟩
        rw [o _ (by omega) (by omega), h9.2.1 _ (by omega), z, show 96 * 0 + 12 * (sShown σ).1 + k = 12 * (sShown σ).1 + k by omega]
        exact s9 k hk w hw
      · rw [if_neg z, if_neg z]
        have := a8.2.1 i (by omega)
        rw [Nat.mul_zero, Nat.zero_add] at this
        exact ⟨this.1, fun k hk w hw => by rw [o _ (by omega) (by omega)]; exact this.2 k hk w hw⟩
    · have := a9 i hi
      refine ⟨by rw [n355 _ (by omega)]; exact this.1, fun j hj => ⟨?_, fun k hk w hw => by rw [o _ (by omega) (by omega)]; exact (this.2.1 j hj).2 k hk w hw⟩, fun j hj => by rw [o _ (by omega) (by omega)]; exact this.2.2 j hj⟩
      have hj8 := (V6 i hi).1
      rw [n356, if_neg (by omega)]; exact (this.2.1 j hj).1
theorem m_more {σ : Sta} {y x : Int32} {gi : Gi} {gl : Gl} {Q : Int32 → Gi → Gl → Prop} (V : vSta σ) (m : MI σ gi gl)
    (h2 : (isP (sShown σ) y = false ∨ x.toInt < 0 ∨ (sN_ σ : Int) < x.toInt) → Q (-2) gi gl)
    (hI : ∀ i n, i < (sShown σ).1 → y = nI i → n ≤ sN_ σ → x = nI n → ∀ e, (rdSigns (fT σ) n (sTown σ) ((sShown σ).2.1 i)).2 = .inl e → ∀ gi' gl', MI (dIll σ e) gi' gl' → FrM gi gl gi' gl' → Q (-1) gi' gl')
    (hW : ∀ i n, i < (sShown σ).1 → y = nI i → n ≤ sN_ σ → x = nI n → isR (rdSigns (fT σ) n (sTown σ) ((sShown σ).2.1 i)).2 = true → ∀ gi' gl', MI (dMore σ i (rdSigns (fT σ) n (sTown σ) ((sShown σ).2.1 i)).1) gi' gl' → FrM gi gl gi' gl' → Q (nI (rdSigns (fT σ) n (sTown σ) ((sShown σ).2.1 i)).1.1) gi' gl') : p_X12_more y x gi gl Q := by
  have V1 := V.1
  have hA8 : (sShown σ).1 ≤ 8 := V.2.2.2.1.1
  obtain ⟨m1, m2, m3, m4, m5, ⟨p, hp, m6, m7⟩, m8, m9, m10, m11⟩ := id m
  refine v_X12_more ?_
  unfold f_X12_more
  refine s_X12_isPicture hA8 m.np ?_
  refine c_b (fun hy => h2 (Or.inl hy)) (fun hy => ?_)
  obtain ⟨i, hi, hyi, -⟩ := isP_of hy hA8
  rw [m1]
  by_cases y1 : x < 0
  · refine ifT y1 (h2 (Or.inr (Or.inl ?_)))
    rw [lt_toInt] at y1; exact y1
  refine ifF y1 ?_
  have hx0 := neg_of y1
  have hxe := int_of hx0 rfl
  generalize hn : x.toInt.toNat = n at *
  by_cases y2 : ¬ x ≤ nI (sN_ σ)
  · refine ifF y2 (h2 (Or.inr (Or.inr ?_)))
    rw [le_toInt, nI_tI (by omega)] at y2; omega
  have y2 := Decidable.of_not_not y2
  refine ifT y2 ?_
  have hnl : n ≤ sN_ σ := by
    rw [le_toInt, nI_tI (by omega)] at y2; omega
  have hI := hI i n hi hyi hnl hxe
  have hW := hW i n hi hyi hnl hxe
  have vA := V.2.2.2.1.2.1 i hi
  rw [hxe, hyi]
  refine k_begins V m hnl (fun g1 l1 B h1 hB1 hB36 => ?_)
  have hB0 : B 0 = nI p := (hB1 0 (by omega)).trans m6
  rw [nI_cl (by omega), show g1 356 i = nI ((sShown σ).2.1 i).1 by rw [h1.2.1 _ (by omega)]; exact m.many hi]
  refine ⟨vp_nI (by omega) (by omega), ?_⟩
  refine k_readSigns (x := i) (P := (sShown σ).2.1 i) (by omega) h1 hB0 hp m7 V.2.2.1 vA.2.1 (fun k hk w hw => m.sgn hi hk hw) (fun g9 l9 G' h9 o9 s9 => ?_)
  have vRR := v_rdSigns (f := fT σ) (n := n) (T := sTown σ) (P := (sShown σ).2.1 i) vA.2.1 vA.2.2
  generalize hr : rdSigns (fT σ) n (sTown σ) ((sShown σ).2.1 i) = r at *
  have fB : ∀ k, k ≠ 36 ∧ k ≠ 37 ∧ k ≠ 38 ∧ k ≠ 39 ∧ k ≠ 40 ∧ k ≠ 41 ∧ k ≠ 42 ∧ k ≠ 44 → g9 329 k = gi 329 k := fun k hk => by rw [h9.2.2.2 k (by omega), hB1 k (by omega)]
  have f36 : g9 329 36 = 0 := by rw [h9.2.2.2 36 (by omega), hB36]
  have cell : ∀ z, z < 357 ∨ 361 < z → z ≠ 329 → g9 z = gi z := fun z hz hz2 => by rw [h9.2.1 z hz2, o9.1 z hz]
  have cellL : ∀ z, z ≠ 329 → l9 z = gl z := fun z hz2 => h9.2.2.1 z hz2
  have FR : FrM gi gl g9 l9 := fun z hz => ⟨cell z (by omega) (by omega), cellL z (by omega)⟩
  have V4 := V.2.2.2.1
  have V6 := V.2.2.2.2.2.1
  have a9 : ∀ i, i < sKept σ → mAlb (sKeep σ i) g9 (i + 1) := fun i hi => mAlb_congr (fun c _ _ => h9.2.1 c (by omega)) (mAlb_ons (Or.inl (by omega)) (by omega) (V6 i hi).1 (V6 i hi).le o9 (m9 i hi))
  have sg : ∀ j, j < (sShown σ).1 → ∀ k, k < ((sShown σ).2.1 j).1 → ∀ w, w < 5 → g9 (357 + w) (12 * j + k) = iI (((sShown σ).2.1 j).2 k w) := fun j hj k hk w hw => by
    have hc := (V4.2.1 j hj).2.1
    have hne : ¬ (12 * i + ((sShown σ).2.1 i).1 ≤ 12 * j + k ∧ 12 * j + k < 12 * i + 12) := by
      by_cases z : j = i
      · subst z; omega
      · omega
    rw [h9.2.1 _ (by omega), o9.2 _ (by omega) (by omega) _ hne]; exact m.sgn hj hk hw
  have a8 : mAlb (sShown σ) g9 0 := ⟨by rw [cell _ (by omega) (by omega)]; exact m8.1, fun j hj => ⟨by rw [cell _ (by omega) (by omega)]; exact (m8.2.1 j hj).1, fun k hk w hw => by rw [Nat.mul_zero, Nat.zero_add]; exact sg j hj k hk w hw⟩, fun j hj => by rw [cell _ (by omega) (by omega)]; exact m8.2.2 j hj⟩
  have t9 : mTown (sTown σ) g9 l9 p := mTown_congrL (fun b _ _ => cell b (by omega) (by omega)) (fun b _ _ => cellL b (by omega)) m7
  cases hs : r.2 with
  | inl e =>
    have hse := h9.1
    rw [hs] at hse
    refine ifF (show ¬ (0 : Int32) ≤ -1 by decide) ?_
    exact hI e hs g9 l9 ⟨f36, fun j hj => absurd hj (Nat.not_lt_zero j), by rw [hse.2.1, ← iI_n]; rfl, by rw [fB 1 (by omega)]; exact m4, by rw [fB 67 (by omega)]; exact m5, ⟨p, hp, by rw [fB 0 (by omega)]; exact m6, t9⟩, a8, a9, by rw [fB 49 (by omega)]; exact m10, by rw [fB 50 (by omega)]; exact m11⟩ FR
  | inr a =>
    have hR : isR r.2 = true := by rw [hs]; rfl
    obtain ⟨vP, -, -⟩ := vRR hR
    have s9 := s9 hR
    have hW := hW hR
    have r12 := vP.2.1
    have hse := h9.1
    rw [hs] at hse
    have eif : (if isR (Sum.inr a : Ps) = true then nI r.1.1 else (-1 : Int32)) = nI r.1.1 := rfl
    rw [eif]
    refine c_le 0 r.1.1 rfl rfl (by omega) (by omega) (fun _ => ?_) (fun q => by omega)
    refine ⟨vp_nI (by omega) (by omega), ?_⟩
    intro gb eb
    have o : ∀ z, z ≠ 356 → gb z = g9 z := fun z h1 => by rw [eb, uI_n h1]
    have n356 : ∀ j, gb 356 j = if j = i then nI r.1.1 else g9 356 j := fun j => by rw [eb, uI_s, updA]
    refine hW gb l9 ⟨by rw [o _ (by omega)]; exact f36, fun j hj => absurd hj (Nat.not_lt_zero j), by rw [o _ (by omega)]; exact hse.2.2.2.2.2.2.2.1, by rw [o _ (by omega), fB 1 (by omega)]; exact m4, by rw [o _ (by omega), fB 67 (by omega)]; exact m5, ⟨p, hp, by rw [o _ (by omega), fB 0 (by omega)]; exact m6, mTown_congr (fun b _ _ => o b (by omega)) t9⟩, ⟨by rw [o _ (by omega)]; exact a8.1, fun j hj => ?_, fun j hj => by rw [o _ (by omega)]; exact a8.2.2 j hj⟩, fun j hj => ?_, by rw [o _ (by omega), fB 49 (by omega)]; exact m10, by rw [o _ (by omega), fB 50 (by omega)]; exact m11⟩ (fun z hz => ⟨by rw [o z (by omega)]; exact (FR z hz).1, (FR z hz).2⟩)
    · have hj : j < (sShown σ).1 := hj
      show _ = nI (putP (sShown σ) i r.1 j).1 ∧ ∀ k, k < (putP (sShown σ) i r.1 j).1 → ∀ w, w < 5 → _ = iI ((putP (sShown σ) i r.1 j).2 k w)
      unfold putP
      rw [n356, Nat.mul_zero, Nat.zero_add]
      by_cases z : j = i
      · rw [if_pos z, if_pos z]
        refine ⟨rfl, fun k hk w hw => ?_⟩
        rw [o _ (by omega), h9.2.1 _ (by omega), z, show 96 * 0 + 12 * i + k = 12 * i + k by omega]
        exact s9 k hk w hw
      · rw [if_neg z, if_neg z]
        have := a8.2.1 j hj
        rw [Nat.mul_zero, Nat.zero_add] at this
        exact ⟨this.1, fun k hk w hw => by rw [o _ (by omega)]; exact this.2 k hk w hw⟩
    · have := a9 j hj
      have hj8 := (V6 j hj).1
      refine ⟨by rw [o _ (by omega)]; exact this.1, fun l hl => ⟨?_, fun k hk w hw => by rw [o _ (by omega)]; exact (this.2.1 l hl).2 k hk w hw⟩, fun l hl => by rw [o _ (by omega)]; exact this.2.2 l hl⟩
      rw [n356, if_neg (by omega)]; exact (this.2.1 l hl).1
