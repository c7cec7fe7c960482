/-! THE REFERENCE, sixteen: look, next -/
def lkF (T : Twn) (i : Nat) : Int := if 0 ≤ tNum T 0 i 0 - tNum T 0 i 1 then tNum T 0 i 0 - tNum T 0 i 1 else 0
def lkL0 (T : Twn) (i : Nat) : Int := if tNum T 0 i 0 + tNum T 0 i 1 ≤ 3599 then tNum T 0 i 0 + tNum T 0 i 1 else 3599
def lkL (T : Twn) (i : Nat) : Int := if tNum T 0 i 2 < 0 then lkL0 T i else if lkL0 T i ≤ tNum T 0 i 2 then lkL0 T i else tNum T 0 i 2
/-- how many days it can be -/
def lkN (T : Twn) (i : Nat) : Nat := (lkL T i + 1 - lkF T i).toNat
/-- all, were its first day just told -/
def lkD (T : Twn) (P : Pic) (i d : Nat) : Nat := sumN (mOn T 0 ((i : Int), (d : Int)) P) 3600
def lkS (T : Twn) (P : Pic) (i : Nat) : Nat := sumN (fun k => lkD T P i ((lkF T i).toNat + k)) (lkN T i)
theorem lkD_le {T : Twn} {P : Pic} {i d : Nat} : lkD T P i d ≤ 2592000 := sumMO_le
theorem lk_bd {T : Twn} (vt : vTown T) {i : Nat} (hi : i < tCnt T 0) : 0 ≤ lkF T i ∧ lkF T i ≤ lkL T i ∧ lkL T i ≤ 3599 ∧ 1 ≤ lkN T i ∧ lkN T i ≤ 199 := by
  obtain ⟨r1, r2, r3, r4, r5, r6, r7⟩ := vt.2.2.2.1 i hi
  have a : 0 ≤ lkF T i ∧ tNum T 0 i 0 - 99 ≤ lkF T i ∧ lkF T i ≤ tNum T 0 i 0 := by unfold lkF; split <;> omega
  have b : tNum T 0 i 0 ≤ lkL0 T i ∧ lkL0 T i ≤ 3599 ∧ lkL0 T i ≤ tNum T 0 i 0 + 99 := by unfold lkL0; split <;> omega
  have c : tNum T 0 i 0 ≤ lkL T i ∧ lkL T i ≤ lkL0 T i := by
    unfold lkL
    split
    · omega
    · split <;> omega
  unfold lkN
  omega
theorem lkS_le {T : Twn} {P : Pic} (vt : vTown T) {i : Nat} (hi : i < tCnt T 0) : lkS T P i ≤ 515808000 := by
  have h := sumN_le (f := fun k => lkD T P i ((lkF T i).toNat + k)) (b := 2592000) (n := lkN T i) (fun _ _ => lkD_le)
  have := (lk_bd vt hi).2.2.2.2
  unfold lkS
  have h2 := Nat.mul_le_mul_right 2592000 this
  omega
def nmB (P : Pic) (i : Nat) : Bool := !allK (fun k => !(decide (P.2 k 0 ≤ 1) && decide (P.2 k 1 = i))) P.1
/-- the least look of those before n: which, its sum, its days -/
def nxB (T : Twn) (P : Pic) : Nat → Int × Nat × Nat
  | 0 => (-1, 0, 1)
  | t + 1 => if tNum T 0 t 1 ≠ 0 ∧ nmB P t = true ∧ ((nxB T P t).1 < 0 ∨ lkS T P t * (nxB T P t).2.2 < (nxB T P t).2.1 * lkN T t) then ((t : Int), lkS T P t, lkN T t) else nxB T P t
theorem nxB_s (T : Twn) (P : Pic) (t : Nat) : nxB T P (t + 1) = if tNum T 0 t 1 ≠ 0 ∧ nmB P t = true ∧ ((nxB T P t).1 < 0 ∨ lkS T P t * (nxB T P t).2.2 < (nxB T P t).2.1 * lkN T t) then ((t : Int), lkS T P t, lkN T t) else nxB T P t := rfl
theorem nxB_bd {T : Twn} {P : Pic} (vt : vTown T) : ∀ n, n ≤ tCnt T 0 → -1 ≤ (nxB T P n).1 ∧ (nxB T P n).1 < n ∧ (nxB T P n).2.1 ≤ 515808000 ∧ (nxB T P n).2.2 ≤ 199
  | 0, _ => ⟨(by decide : (-1 : Int) ≤ -1), (by decide : (-1 : Int) < ((0 : Nat) : Int)), Nat.zero_le _, by show 1 ≤ 199; omega⟩
  | n + 1, hn => by
    obtain ⟨h1, h2, h3, h4⟩ := nxB_bd (P := P) vt n (by omega)
    rw [nxB_s]
    split
    · refine ⟨?_, ?_, lkS_le vt (by omega), (lk_bd vt (by omega)).2.2.2.2⟩
      · show (-1 : Int) ≤ (n : Int); omega
      · show (n : Int) < ((n + 1 : Nat) : Int); omega
    · exact ⟨h1, by omega, h3, h4⟩
def aLook (T : Twn) (A : Alb) (x i w : Int32) : Int64 :=
  if isP A x = true ∧ 0 ≤ i.toInt ∧ i.toInt < tCnt T 0 ∧ 0 ≤ w.toInt ∧ w.toInt ≤ 1 ∧ tNum T 0 i.toInt.toNat 1 ≠ 0 then
    (if w.toInt = 0 then iL (lkS T (A.2.1 x.toInt.toNat) i.toInt.toNat : Nat) else iL (lkN T i.toInt.toNat : Nat)) else -1
def aNext (T : Twn) (A : Alb) (x : Int32) : Int32 := if isP A x = true then iI (nxB T (A.2.1 x.toInt.toNat) (tCnt T 0)).1 else -1
/-- the same but for scratch, the sure day too -/
def Sl (gi g : Gi) : Prop := (∀ z, z < 364 → z ≠ 329 → g z = gi z) ∧ ∀ k, k ≠ 46 ∧ k ≠ 47 ∧ k ≠ 48 ∧ k ≠ 51 ∧ k ≠ 63 → g 329 k = gi 329 k
theorem Sl.rf {gi : Gi} : Sl gi gi := ⟨fun _ _ _ => rfl, fun _ _ => rfl⟩
theorem Sl.tr {a b c : Gi} (h : Sl a b) (k : Sl b c) : Sl a c := ⟨fun z h1 h2 => (k.1 z h1 h2).trans (h.1 z h1 h2), fun j hj => (k.2 j hj).trans (h.2 j hj)⟩
theorem Sc.Sl {a b : Gi} (h : Sc a b) : Sl a b := ⟨h.1, fun k hk => h.2 k (by omega)⟩
theorem Sl.I {σ : Sta} {gi g : Gi} {gl l : Gl} (h : Sl gi g) (hl : ∀ z, z ≠ 329 → l z = gl z) (m : MI σ gi gl) : MI σ g l := MI_frameL m (fun c _ _ => h.1 c (by omega) (by omega)) (fun k hk => h.2 k (by omega)) (fun b _ _ => hl b (by omega))
theorem Sl.F {gi g : Gi} {gl l : Gl} (h : Sl gi g) (hl : ∀ z, z ≠ 329 → l z = gl z) : FrM gi gl g l := fun z hz => ⟨h.1 z (by omega) (by omega), hl z (by omega)⟩
theorem ME.su0 {T : Twn} {p : Nat} {gi g : Gi} {gl l : Gl} (m : ME T p 0 nosu gi gl) (h : ∀ b, 330 ≤ b → b ≤ 354 → g b = gi b) (hl : ∀ b, 336 ≤ b → b ≤ 339 → l b = gl b) {su : Int × Int} (h1 : g 329 0 = gi 329 0) (h2 : g 329 49 = gi 329 49) (h3 : g 329 50 = iI su.1) (h4 : -1 ≤ su.1 ∧ su.1 < 12) (h5 : su.1 = -1 ∨ g 329 51 = iI su.2) (h6 : 0 ≤ su.2 ∧ su.2 ≤ 3599) : ME T p 0 su g l := by
  obtain ⟨m1, m2, m3, m4, m5, m6, m7, -⟩ := m
  exact ⟨m1, h1.trans m2, mTown_congrL h hl m3, m4, h2.trans m5, m6, m7, h3, h4.1, h4.2, h5, h6⟩
section DH
variable {T : Twn} {p : Nat} {gi : Gi} {gl : Gl} {P : Pic} {x : Nat}
theorem looks_108 {Q : Gi → Gl → Prop} (m : ME T p 0 nosu gi gl) (hP : mPic P x gi) (vP : ∀ k, k < P.1 → vSign T (P.2 k)) (hf : FM T P gi) {i : Nat} (hi : i < tCnt T 0)
    (h : ∀ g l, Sl gi g → FM T P g → (∀ z, z ≠ 329 → l z = gl z) → l 329 62 = iL (lkS T P i : Nat) → g 329 63 = nI (lkN T i) → Q g l) :
    ∀ k, k ≤ lkN T i → ∀ g l, (∀ z, z < 364 → z ≠ 329 → g z = gi z) → (∀ k, k ≠ 46 ∧ k ≠ 47 ∧ k ≠ 48 ∧ k ≠ 50 ∧ k ≠ 51 ∧ k ≠ 63 → g 329 k = gi 329 k) → g 329 50 = nI i → FM T P g → (∀ z, z ≠ 329 → l z = gl z) → l 329 62 = iL (sumN (fun k => lkD T P i ((lkF T i).toNat + k)) k : Nat) → g 329 63 = nI k → p_X12_looks_108 (nI x) (iI (lkL T i)) (iI (lkF T i + k)) g l Q := by
  obtain ⟨b1, b2, b3, b4, b5⟩ := lk_bd m.2.2.2.1 hi
  have c0 : tCnt T 0 ≤ 12 := m.2.2.2.1.1 0 (by omega)
  have hN : (lkN T i : Int) = lkL T i + 1 - lkF T i := by unfold lkN; omega
  refine dn ?_ ?_
  · intro g l e1 e2 e3 e4 e5 e6 e7
    refine v_X12_looks_108 ?_
    unfold f_X12_looks_108
    refine d_lt _ _ rfl rfl (by omega) (by omega) (fun _ => ?_) (fun q => by omega)
    rintro g1 rfl
    refine h _ _ ⟨fun z a b => by rw [uI_n b]; exact e1 z a b, fun k hk => ?_⟩ (e4.congr (uI_n (by omega)) (uI_n (by omega))) e5 e6 (by rw [uI_s, upd_n (by omega)]; exact e7)
    rw [uI_s, updA]
    by_cases q : k = 50
    · rw [if_pos q, q, m.2.2.2.2.2.2.2.1]; rfl
    · rw [if_neg q]; exact e2 k (by omega)
  · intro k hk ih g l e1 e2 e3 e4 e5 e6 e7
    refine v_X12_looks_108 ?_
    unfold f_X12_looks_108
    refine d_lt _ _ rfl rfl (by omega) (by omega) (fun q => by omega) (fun _ => ?_)
    rintro g1 rfl
    obtain ⟨d, hd⟩ := nat_of b1
    rw [hd] at b2 hN
    have hdk : ((lkF T i).toNat + k) = d + k := by omega
    have mE : ME T p 0 ((i : Int), ((d + k : Nat) : Int)) (uI g 329 (upd (g 329) 51 (iI (lkF T i + k)))) l := by
      refine m.su0 (fun b _ _ => by rw [uI_n (by omega)]; exact e1 b (by omega) (by omega)) (fun b _ _ => e5 b (by omega)) ?_ ?_ ?_ ⟨?_, ?_⟩ (Or.inr ?_) ⟨?_, ?_⟩
      · rw [uI_s, upd_n (by omega)]; exact e2 _ (by omega)
      · rw [uI_s, upd_n (by omega)]; exact e2 _ (by omega)
      · rw [uI_s, upd_n (by omega), e3]; exact (iI_n i).symm
      · show (-1 : Int) ≤ (i : Int); omega
      · show (i : Int) < 12; omega
      · rw [uI_s, upd_s, hd]; rfl
      · show (0 : Int) ≤ ((d + k : Nat) : Int); omega
      · show ((d + k : Nat) : Int) ≤ 3599; omega
    refine s_X12_findDays mE (hP.congr (fun z _ _ => by rw [uI_n (by omega)]; exact e1 z (by omega) (by omega))) vP (fun g2 h1 h2 => ?_)
    have o : ∀ z, z ≠ 329 → z ≠ 364 → g2 z = g z := fun z a b => by rw [h1 z b, uI_n a]
    have hfm : FM T P g2 := e4.congr (o 365 (by omega) (by omega)) (o 366 (by omega) (by omega))
    refine s_X12_moments (T := T) (la := 0) (su := ((i : Int), ((d + k : Nat) : Int))) (P := P) ⟨h2, hfm.1, hfm.2⟩ ?_
    have hle := sumMO_le (T := T) (la := 0) (su := ((i : Int), ((d + k : Nat) : Int))) (P := P)
    rintro l3 rfl g3 rfl
    have o9 : ∀ k, k ≠ 51 → g2 329 k = g 329 k := fun k hk => by rw [h1 329 (by omega), uI_s, upd_n hk]
    rw [e6, o9 63 (by omega), e7, ← iI_n (sumN _ _), iI_toL (by omega) (by omega), iL_add, nI_1]
    have ih := ih (uI g2 329 (upd (g2 329) 63 (nI (k + 1)))) (uL l 329 (vp_updL (l 329) 62 (iL (((sumN (fun k => lkD T P i ((lkF T i).toNat + k)) k : Nat) : Int) + ((sumN (mOn T 0 ((i : Int), ((d + k : Nat) : Int)) P) 3600 : Nat) : Int))))) (fun z a b => by rw [uI_n b, o z b (by omega)]; exact e1 z a b)
      (fun j hj => by rw [uI_s, upd_n (by omega), o9 j (by omega)]; exact e2 j hj) (by rw [uI_s, upd_n (by omega), o9 50 (by omega)]; exact e3) (hfm.congr (uI_n (by omega)) (uI_n (by omega))) (fun z hz => by rw [uL_n hz]; exact e5 z hz)
      (by
        rw [uL_s, updLA, if_pos rfl, sumN_s (fun k => lkD T P i ((lkF T i).toNat + k)) k]
        show iL _ = iL ((sumN (fun k => lkD T P i ((lkF T i).toNat + k)) k + lkD T P i ((lkF T i).toNat + k) : Nat) : Int)
        rw [hdk, Int.natCast_add]; rfl) (by rw [uI_s, upd_s])
    rw [show lkF T i + ((k + 1 : Nat) : Int) = lkF T i + k + 1 by omega, ← iI_add] at ih
    exact ih
theorem s_X12_looks {Q : Gi → Gl → Prop} (m : ME T p 0 nosu gi gl) (hP : mPic P x gi) (vP : ∀ k, k < P.1 → vSign T (P.2 k)) (hf : FM T P gi) {i : Nat} (hi : i < tCnt T 0)
    (h : ∀ g l, Sl gi g → FM T P g → (∀ z, z ≠ 329 → l z = gl z) → l 329 62 = iL (lkS T P i : Nat) → g 329 63 = nI (lkN T i) → Q g l) : p_X12_looks (nI x) (nI i) gi gl Q := by
  obtain ⟨n0, n1, n2, n3⟩ := thing_num m hi
  have hp := m.1
  have c0 : tCnt T 0 ≤ 12 := m.2.2.2.1.1 0 (by omega)
  obtain ⟨r1, r2, r3, r4, r5, r6, r7⟩ := m.2.2.2.1.2.2.2.1 i hi
  have hv : vp_in (nI (12 * p + i)) 24 := vp_nI (by omega) (by omega)
  obtain ⟨b1, b2, b3, b4, b5⟩ := lk_bd m.2.2.2.1 hi
  have main : p_X12_looks_61 (nI x) (nI i) (nI (12 * p + i)) (iI (lkF T i)) (iI (lkL0 T i)) gi gl Q := by
    have k108 : ∀ L, L = lkL T i → p_X12_looks_108 (nI x) (iI L) (iI (lkF T i)) (uI (uI gi 329 (upd (gi 329) 63 0)) 329 (upd ((uI gi 329 (upd (gi 329) 63 0)) 329) 50 (nI i))) (uL gl 329 (vp_updL (gl 329) 62 0)) Q := by
      rintro L rfl
      have := looks_108 m hP vP hf hi h 0 (Nat.zero_le _) (uI (uI gi 329 (upd (gi 329) 63 0)) 329 (upd ((uI gi 329 (upd (gi 329) 63 0)) 329) 50 (nI i))) (uL gl 329 (vp_updL (gl 329) 62 0)) (fun z a b => by rw [uI_n b, uI_n b]) (fun k hk => by rw [uI_s, upd_n (by omega), uI_s, upd_n (by omega)]) (by rw [uI_s, upd_s]) (hf.congr (by rw [uI_n (by omega), uI_n (by omega)]) (by rw [uI_n (by omega), uI_n (by omega)])) (fun z hz => uL_n hz) (by rw [uL_s, updLA, if_pos rfl]; rfl) (by rw [uI_s, upd_n (by omega), uI_s, upd_s]; rfl)
      rw [show lkF T i + ((0 : Nat) : Int) = lkF T i by omega] at this
      exact this
    refine v_X12_looks_61 ?_
    unfold f_X12_looks_61
    rw [nI_cl (by omega), n2]
    refine ⟨hv, ?_⟩
    have c : tNum T 0 i 0 ≤ lkL0 T i ∧ lkL0 T i ≤ 3599 := by unfold lkL0; split <;> omega
    refine d_lt (tNum T 0 i 2) 0 rfl rfl (by omega) (by omega) (fun q => ?_) (fun q => ⟨hv, ?_⟩)
    · rintro l1 rfl g2 rfl g3 rfl
      exact k108 _ (by unfold lkL; rw [if_pos q])
    · refine d_le (lkL0 T i) (tNum T 0 i 2) rfl rfl (by omega) (by omega) (fun q2 => ?_) (fun q2 => ⟨hv, ?_⟩)
      · rintro l1 rfl g2 rfl g3 rfl
        exact k108 _ (by unfold lkL; rw [if_neg (by omega), if_pos q2])
      · rintro z7 rfl l1 rfl g2 rfl g3 rfl
        exact k108 _ (by unfold lkL; rw [if_neg (by omega), if_neg (by omega)])
  refine v_X12_looks ?_
  unfold f_X12_looks
  rintro z1 rfl
  rw [m.2.1, show (12 : Int32) = nI 12 by rfl, mulN, nI_add, nI_cl (by omega), n0, n1, iI_sub, iI_add]
  refine ⟨hv, hv, ?_⟩
  rintro z2 rfl
  refine ⟨hv, hv, ?_⟩
  rintro z3 rfl
  unfold lkF lkL0 at main
  refine d_le 0 (tNum T 0 i 0 - tNum T 0 i 1) rfl rfl (by omega) (by omega) (fun q => ?_) (fun q => ?_)
  · rw [if_pos q] at main
    refine d_le (tNum T 0 i 0 + tNum T 0 i 1) 3599 rfl rfl (by omega) (by omega) (fun q2 => ?_) (fun q2 => ?_)
    · rw [if_pos q2] at main; exact main
    · rw [if_neg (by omega)] at main; exact main
  · rw [if_neg (by omega)] at main
    refine d_le (tNum T 0 i 0 + tNum T 0 i 1) 3599 rfl rfl (by omega) (by omega) (fun q2 => ?_) (fun q2 => ?_)
    · rw [if_pos q2] at main; exact main
    · rw [if_neg (by omega)] at main; exact main
theorem m_look {σ : Sta} {x i w : Int32} {Q : Int64 → Gi → Gl → Prop} (V : vSta σ) (m : MI σ gi gl) (h : ∀ gi' gl', MI σ gi' gl' → FrM gi gl gi' gl' → Q (aLook (sTown σ) (sShown σ) x i w) gi' gl') : p_X12_look x i w gi gl Q := by
  have hA8 : (sShown σ).1 ≤ 8 := V.2.2.2.1.1
  have h0 := h gi gl m FrM.rf
  refine v_X12_look ?_
  unfold f_X12_look
  refine s_X12_isPicture hA8 m.np ?_
  unfold aLook at h h0
  refine c_b (fun hp => ?_) (fun hp => ?_)
  · rw [if_neg (by rw [hp]; simp)] at h0; exact h0
  obtain ⟨p, hE⟩ := m.E V
  have hp2 := hE.1
  have c0 : tCnt (sTown σ) 0 ≤ 12 := hE.2.2.2.1.1 0 (by omega)
  have mt := hE.2.2.1
  rw [hE.2.1, nI_cl (by omega), show gi 330 p = nI (tCnt (sTown σ) 0) from mt.1 0 (by omega)]
  refine ⟨vp_nI hp2 (by omega), ?_⟩
  have ei := iI_of i
  have ew := iI_of w
  refine s_X12_within ?_
  rw [show nI (tCnt (sTown σ) 0) - 1 = iI ((tCnt (sTown σ) 0 : Int) - 1) by rw [← iI_n, ← iI_1, iI_sub], iI_toInt (by omega) (by omega), show ((0 : Int32).toInt) = 0 by rfl]
  generalize i.toInt = i' at *
  refine c_b (fun hb => ?_) (fun hb => ?_)
  · rw [if_neg (by rintro ⟨-, q1, q2, -⟩; simp at hb; omega)] at h0; exact h0
  simp at hb
  refine s_X12_within ?_
  rw [show ((0 : Int32).toInt) = 0 by rfl, show ((1 : Int32).toInt) = 1 by rfl]
  generalize w.toInt = w' at *
  subst ei ew
  refine c_b (fun hw => ?_) (fun hw => ?_)
  · rw [if_neg (by rintro ⟨-, -, -, q1, q2, -⟩; simp at hw; omega)] at h0; exact h0
  simp at hw
  obtain ⟨n, hn⟩ := nat_of hb.1
  have hnc : n < tCnt (sTown σ) 0 := by omega
  subst hn
  rw [Int.toNat_natCast] at h h0
  obtain ⟨n0, n1, n2, n3⟩ := thing_num hE hnc
  obtain ⟨r1, r2, r3, r4, -⟩ := hE.2.2.2.1.2.2.2.1 n hnc
  rw [hE.2.1, show (12 : Int32) * nI p = nI (12 * p) from pk_mul 12 p, iI_n, nI_add, nI_cl (by omega), n1]
  refine ⟨vp_nI (by omega) (by omega), ?_⟩
  refine d_ne (tNum (sTown σ) 0 n 1) 0 rfl rfl (by omega) (by omega) (fun hg => ?_) (fun hg => ?_)
  · obtain ⟨j, hj, hxi, e⟩ := isP_of hp hA8
    rw [e] at h
    rw [hxi]
    have hc : isP (sShown σ) x = true ∧ 0 ≤ (n : Int) ∧ (n : Int) < tCnt (sTown σ) 0 ∧ 0 ≤ w' ∧ w' ≤ 1 ∧ tNum (sTown σ) 0 n 1 ≠ 0 := ⟨hp, by omega, by omega, by omega, by omega, hg⟩
    refine s_X12_findMinutes hE (m.mP V hj) (V.2.2.2.1.2.1 j hj).2.2 (fun g1 hf => ?_)
    refine s_X12_looks (hf.Sc.E hE) ((m.mP V hj).sc hf.Sc) (V.2.2.2.1.2.1 j hj).2.2 hf.M hnc (fun g l s1 s2 s3 s4 s5 => ?_)
    have S := hf.Sc.Sl.tr s1
    have h := h g l (S.I s3 m) (S.F s3)
    rw [if_pos hc] at h
    have := (lk_bd hE.2.2.2.1 hnc).2.2.2.2
    rw [s4, s5, ← iI_n, iI_toL (by omega) (by omega)]
    refine d_ne w' 0 rfl rfl (by omega) (by omega) (fun q => ?_) (fun q => ?_)
    · rw [if_neg q] at h; exact h
    · rw [if_pos q] at h; exact h
  · rw [if_neg (by rintro ⟨-, -, -, -, -, q⟩; exact q hg)] at h0; exact h0
theorem s_X12_names {Q : Int32 → Gi → Gl → Prop} (hP : mPic P x gi) (vP : ∀ k, k < P.1 → vSign T (P.2 k)) (vt : vTown T) {i : Nat} (hi : i < 12) (k : Q (b2i (nmB P i)) gi gl) : p_X12_names (nI x) (nI i) gi gl Q := by
  obtain ⟨hx, hc, hn, hsg⟩ := hP
  have hv : vp_in (nI x) 40 := vp_nI hx (by omega)
  have e12 : (12 : Int32) * nI x = nI (12 * x) := pk_mul 12 x
  unfold nmB at k
  refine v_X12_names ?_
  unfold f_X12_names
  rintro z1 rfl
  rw [e12]
  refine dn (P := fun j => allK (fun k => !(decide (P.2 k 0 ≤ 1) && decide (P.2 k 1 = i))) j = true → p_X12_names_5 (nI x) (nI i) (nI (12 * x + j)) gi gl Q) (N := P.1) ?_ ?_ 0 (by omega) rfl
  · intro hA
    refine v_X12_names_5 ?_
    unfold f_X12_names_5
    rw [e12, nI_cl (by omega), hn, nI_add]
    refine ⟨hv, ifT (by rw [nI_leI (by omega) (by omega)]; omega) ?_⟩
    rw [hA] at k
    exact k
  · intro j hj ih hA
    have hs := hsg j hj
    have vs := vP j hj
    have e0 := hs.2 0 (by omega)
    have e1 := hs.2 1 (by omega)
    have r0 := vSign_r0 vs
    have hi9 := hs.1
    have hvj : vp_in (nI (12 * x + j)) 480 := vp_nI (by omega) (by omega)
    rw [allK_s, hA, Bool.true_and] at ih
    refine v_X12_names_5 ?_
    unfold f_X12_names_5
    rw [e12, nI_cl (show x < 2147483648 by omega), hn, nI_add, nI_cl (by omega), show gi 357 (12 * x + j) = iI (P.2 j 0) from e0, show gi 358 (12 * x + j) = iI (P.2 j 1) from e1, nI_1, Nat.add_assoc]
    refine ⟨hv, ?_⟩
    refine c_le (12 * x + P.1) (12 * x + j) rfl rfl (by omega) (by omega) (fun q => by omega) (fun _ => ⟨hvj, ?_⟩)
    refine d_lt 1 (P.2 j 0) rfl rfl (by omega) (by omega) (fun h8 => ?_) (fun h8 => ⟨hvj, ?_⟩)
    · exact ih (by simp; omega)
    · have r1 : 0 ≤ P.2 j 1 ∧ P.2 j 1 < 100 := by
        have t0 : tCnt T 0 ≤ 12 := vt.1 0 (by omega)
        rcases vs with ⟨q | q, a, b, -⟩ | ⟨q | q, -⟩ | ⟨q, -⟩ | ⟨q, -⟩ | ⟨q, -⟩ | ⟨q, -⟩ | ⟨q | q, -⟩ <;> omega
      refine d_ne (P.2 j 1) i rfl (iI_n _).symm (by omega) (by omega) (fun q => ?_) (fun q => ?_)
      · exact ih (by simp [q])
      · have hF : allK (fun k => !(decide (P.2 k 0 ≤ 1) && decide (P.2 k 1 = i))) (j + 1) = false := by
          rw [allK_s, hA, Bool.true_and]; simp [q]; omega
        rw [allK_f hF _ (by omega)] at k
        exact k
theorem m_next {σ : Sta} {x : Int32} {Q : Int32 → Gi → Gl → Prop} (V : vSta σ) (m : MI σ gi gl) (h : ∀ gi' gl', MI σ gi' gl' → FrM gi gl gi' gl' → Q (aNext (sTown σ) (sShown σ) x) gi' gl') : p_X12_next_ x gi gl Q := by
  have hA8 : (sShown σ).1 ≤ 8 := V.2.2.2.1.1
  have h0 := h gi gl m FrM.rf
  refine v_X12_next_ ?_
  unfold f_X12_next_
  refine s_X12_isPicture hA8 m.np ?_
  unfold aNext at h h0
  refine c_nb (fun hp => ?_) (fun hp => by rw [if_neg (by rw [hp]; simp)] at h0; exact h0)
  obtain ⟨p, hE⟩ := m.E V
  have hp2 := hE.1
  obtain ⟨j, hj, hxi, e⟩ := isP_of hp hA8
  rw [e] at h
  rw [hxi]
  have hP := m.mP V hj
  have vP := (V.2.2.2.1.2.1 j hj).2.2
  refine s_X12_findMinutes hE hP vP (fun g1 hf => ?_)
  have h : ∀ g l, Sl g1 g → (∀ z, z ≠ 329 → l z = gl z) → Q (iI (nxB (sTown σ) ((sShown σ).2.1 j) (tCnt (sTown σ) 0)).1) g l := by
    intro g l s1 s3
    have S := hf.Sc.Sl.tr s1
    have h := h g l (S.I s3 m) (S.F s3)
    rw [if_pos hp] at h
    exact h
  have hE1 := hf.Sc.E hE
  have hP1 := hP.sc hf.Sc
  have hM := hf.M
  generalize (sShown σ).2.1 j = P at *
  generalize sTown σ = T at *
  have c0 : tCnt T 0 ≤ 12 := hE.2.2.2.1.1 0 (by omega)
  have vt := hE.2.2.2.1
  refine dn (P := fun t => ∀ g l, Sl g1 g → FM T P g → (∀ z, z ≠ 329 → l z = gl z) → p_X12_next__25 (nI j) (iI (nxB T P t).1) (iL ((nxB T P t).2.1 : Nat)) (iL ((nxB T P t).2.2 : Nat)) (nI t) g l Q) (N := tCnt T 0) ?_ ?_ 0 (by omega) g1 gl Sl.rf hM (fun _ _ => rfl)
  · intro g l s1 s2 s3
    have hE2 : ME T p 0 nosu g l := hE1.su0 (fun b _ _ => s1.1 b (by omega) (by omega)) (fun b _ _ => s3 b (by omega)) (s1.2 _ (by omega)) (s1.2 _ (by omega)) ((s1.2 _ (by omega)).trans hE1.2.2.2.2.2.2.2.1) (by decide) (Or.inl rfl) (by decide)
    refine v_X12_next__25 ?_
    unfold f_X12_next__25
    rw [hE2.2.1, nI_cl (show p < 2147483648 by omega), show g 330 p = nI (tCnt T 0) from hE2.2.2.1.1 0 (by omega)]
    refine ⟨vp_nI hp2 (by omega), ifT (by rw [nI_leI (by omega) (by omega)]; omega) ?_⟩
    exact h g l s1 s3
  · intro t ht ih g l s1 s2 s3
    have hE2 : ME T p 0 nosu g l := hE1.su0 (fun b _ _ => s1.1 b (by omega) (by omega)) (fun b _ _ => s3 b (by omega)) (s1.2 _ (by omega)) (s1.2 _ (by omega)) ((s1.2 _ (by omega)).trans hE1.2.2.2.2.2.2.2.1) (by decide) (Or.inl rfl) (by decide)
    have hP2 : mPic P j g := hP1.congr (fun z _ _ => s1.1 z (by omega) (by omega))
    obtain ⟨n0, n1, n2, n3⟩ := thing_num hE2 ht
    obtain ⟨r1, r2, r3, r4, -⟩ := vt.2.2.2.1 t ht
    obtain ⟨b1, b2, b3, b4⟩ := nxB_bd (P := P) vt t (by omega)
    have l1 := lkS_le (P := P) vt ht
    have l2 := (lk_bd vt ht).2.2.2.2
    rw [nxB_s] at ih
    refine v_X12_next__25 ?_
    unfold f_X12_next__25
    rw [hE2.2.1, nI_cl (show p < 2147483648 by omega), show g 330 p = nI (tCnt T 0) from hE2.2.2.1.1 0 (by omega)]
    refine ⟨vp_nI hp2 (by omega), ?_⟩
    refine c_le (tCnt T 0) t rfl rfl (by omega) (by omega) (fun q => by omega) (fun _ => ?_)
    rw [show (12 : Int32) * nI p = nI (12 * p) from pk_mul 12 p, nI_add, nI_cl (show 12 * p + t < 2147483648 by omega), n1, nI_1]
    refine ⟨vp_nI (by omega) (by omega), ?_⟩
    refine d_eq (tNum T 0 t 1) 0 rfl rfl (by omega) (by omega) (fun hg => ?_) (fun hg => ?_)
    · rw [if_neg (by rintro ⟨q, -⟩; exact q hg)] at ih
      exact ih g l s1 s2 s3
    · refine s_X12_names hP2 vP vt (by omega) ?_
      refine c_nb (fun hn => ?_) (fun hn => ?_)
      · refine s_X12_looks hE2 hP2 vP s2 ht (fun g2 l2' t1 t2 t3 t4 t5 => ?_)
        have S := s1.tr t1
        have SL : ∀ z, z ≠ 329 → l2' z = gl z := fun z hz => (t3 z hz).trans (s3 z hz)
        rw [t4, t5, ← iI_n (lkN T t), iI_toL (by omega) (by omega)]
        have em1 : iL ((lkS T P t : Nat) : Int) * iL (((nxB T P t).2.2 : Nat) : Int) = iL ((lkS T P t * (nxB T P t).2.2 : Nat) : Int) := by rw [iL_mul]; simp
        have em2 : iL (((nxB T P t).2.1 : Nat) : Int) * iL ((lkN T t : Nat) : Int) = iL (((nxB T P t).2.1 * lkN T t : Nat) : Int) := by rw [iL_mul]; simp
        rw [em1, em2]
        have m1 := Nat.mul_le_mul l1 b4
        have m2 := Nat.mul_le_mul b3 l2
        refine d_lt (nxB T P t).1 0 rfl rfl (by omega) (by omega) (fun q => ?_) (fun q => ?_)
        · rw [if_pos ⟨hg, hn, Or.inl q⟩, iI_n] at ih
          rintro z6 rfl z7 rfl
          exact ih g2 l2' S t2 SL
        · by_cases z : lkS T P t * (nxB T P t).2.2 < (nxB T P t).2.1 * lkN T t
          · rw [if_pos ((iL_lt (by omega) (by omega)).2 (by omega))]
            rw [if_pos ⟨hg, hn, Or.inr z⟩, iI_n] at ih
            rintro z6 rfl z7 rfl
            exact ih g2 l2' S t2 SL
          · rw [if_neg (fun w => z (by have := (iL_lt (by omega) (by omega)).1 w; omega))]
            rw [if_neg (by rintro ⟨-, -, w | w⟩ <;> omega)] at ih
            exact ih g2 l2' S t2 SL
      · rw [if_neg (by rintro ⟨-, q, -⟩; rw [hn] at q; cases q)] at ih
        exact ih g l s1 s2 s3
end DH
