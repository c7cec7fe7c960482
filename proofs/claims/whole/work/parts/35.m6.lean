/-! THE REFERENCE, six: minutes, lets, judge -/
/-- the same but for where the sun stands -/
def Sn (gi gi' : Gi) : Prop := (∀ z, z ≠ 329 → gi' z = gi z) ∧ ∀ k, k ≠ 46 ∧ k ≠ 47 ∧ k ≠ 48 → gi' 329 k = gi 329 k
theorem Sn.rf {gi : Gi} : Sn gi gi := ⟨fun _ _ => rfl, fun _ _ => rfl⟩
theorem Sn.tr {a b c : Gi} (h : Sn a b) (k : Sn b c) : Sn a c := ⟨fun z hz => (k.1 z hz).trans (h.1 z hz), fun j hj => (k.2 j hj).trans (h.2 j hj)⟩
theorem Sn.sun {gi : Gi} {q : Int × Int × Int} : Sn gi (sunG gi q) := ⟨fun _ h => sunG_o h, fun _ h => sunG_k h⟩
theorem Sn.E {T : Twn} {p : Nat} {la : Int} {su : Int × Int} {gi gi' : Gi} {gl : Gl} (h : Sn gi gi') (m : ME T p la su gi gl) : ME T p la su gi' gl :=
  m.congr (fun b _ _ => h.1 b (by omega)) ⟨h.2 _ (by omega), h.2 _ (by omega), h.2 _ (by omega), h.2 _ (by omega)⟩
theorem Sn.I {σ : Sta} {gi gi' : Gi} {gl : Gl} (h : Sn gi gi') (m : MI σ gi gl) : MI σ gi' gl :=
  MI_frame m (fun c _ _ => h.1 c (by omega)) (fun k hk => h.2 k (by omega))
theorem Sn.F {gi gi' : Gi} {gl : Gl} (h : Sn gi gi') : FrM gi gl gi' gl := fun z hz => ⟨h.1 z (by omega), rfl⟩
section D6
variable {T : Twn} {p : Nat} {la : Int} {su : Int × Int} {gi : Gi} {gl : Gl} {Q : Int32 → Gi → Gl → Prop}
theorem s_X12_isNear (m : ME T p la su gi gl) {s : Nat → Int} {i : Nat} (hs : mSgn s i gi) (vs : vSign T s) (h4 : s 0 = 4) {q : Int × Int × Int} (hq : 1 ≤ q.2.2 ∧ q.2.2 ≤ 719 ∧ -213543 ≤ q.1 ∧ q.1 ≤ 213543 ∧ -213543 ≤ q.2.1 ∧ q.2.1 ≤ 213543) (g48 : gi 329 48 = iI q.2.2 ∧ gi 329 46 = iI q.1 ∧ gi 329 47 = iI q.2.1) (k : Q (b2i (near T s q)) gi gl) : p_X12_isNear (nI i) gi gl Q := by
  obtain ⟨h0, h1, v2, v2b, v3, v3b, v4, v4b⟩ : 0 ≤ s 1 ∧ s 1 < tCnt T 2 ∧ 0 ≤ s 2 ∧ s 2 ≤ 31 ∧ 0 ≤ s 3 ∧ s 3 ≤ 31 ∧ 0 ≤ s 4 ∧ s 4 ≤ 99 := by
    rcases vs with ⟨q | q, -⟩ | ⟨q | q, -⟩ | ⟨q, h⟩ | ⟨q, -⟩ | ⟨q, -⟩ | ⟨q, -⟩ | ⟨q | q, -⟩
    · omega
    · omega
    · omega
    · omega
    · exact h
    · omega
    · omega
    · omega
    · omega
    · omega
  obtain ⟨hp, mp, mt, vt, -⟩ := m
  obtain ⟨n, hn⟩ := nat_of h0
  have hnc : n < tCnt T 2 := by omega
  have c2 : tCnt T 2 ≤ 10 := vt.1 2 (by omega)
  have e1 := hs.2 1 (by omega)
  have e2 := hs.2 2 (by omega)
  have e3 := hs.2 3 (by omega)
  have e4 := hs.2 4 (by omega)
  have t0 : gi 346 (10 * p + n) = iI (tNum T 2 n 0) := mt.2.2.2.2.1 0 (by omega) n hnc
  have t1 : gi 347 (10 * p + n) = iI (tNum T 2 n 1) := mt.2.2.2.2.1 1 (by omega) n hnc
  have t2 : gi 348 (10 * p + n) = iI (tNum T 2 n 2) := mt.2.2.2.2.1 2 (by omega) n hnc
  obtain ⟨r1, r2, r3, r4, r5, r6⟩ := vt.2.2.2.2.2.1 n hnc
  have hi9 := hs.1
  have hv : vp_in (nI i) 480 := vp_nI hs.1 (by omega)
  have hz : vp_in (nI (10 * p + n)) 20 := vp_nI (by omega) (by omega)
  have b1 := mul_bd (a := (tNum T 2 n 0 - s 2) * 10) (b := q.2.2) (A := 310) (B := 719) (by omega) (by omega) (by omega) (by omega)
  have b2 := mul_bd (a := tNum T 2 n 2) (b := q.1) (A := 20) (B := 213543) (by omega) (by omega) (by omega) (by omega)
  have b3 := mul_bd (a := (tNum T 2 n 1 - s 3) * 10) (b := q.2.2) (A := 310) (B := 719) (by omega) (by omega) (by omega) (by omega)
  have b4 := mul_bd (a := tNum T 2 n 2) (b := q.2.1) (A := 20) (B := 213543) (by omega) (by omega) (by omega) (by omega)
  have b5 := mul_bd (a := s 4 * 10) (b := q.2.2) (A := 990) (B := 719) (by omega) (by omega) (by omega) (by omega)
  refine v_X12_isNear ?_
  unfold f_X12_isNear
  rw [nI_cl (by omega), show gi 358 i = iI (s 1) from e1, hn, iI_n, show gi 359 i = iI (s 2) from e2, show gi 360 i = iI (s 3) from e3, show gi 361 i = iI (s 4) from e4, mp, show (10 : Int32) * nI p = nI (10 * p) from pk_mul 10 _, nI_add, g48.1, g48.2.1, g48.2.2]
  refine ⟨hv, ?_⟩
  rintro z1 rfl
  rw [nI_cl (by omega), t0, t1, t2]
  refine ⟨hz, hv, hz, ?_⟩
  rw [show (10 : Int32) = iI 10 by rfl, iI_sub, iI_mul, iI_mul, iI_mul, iI_add, iI_sub, iI_mul, iI_mul, iI_mul, iI_add, iI_mul, iI_mul]
  have ev : near T s q = true ↔ ((tNum T 2 n 0 - s 2) * 10 * q.2.2 + tNum T 2 n 2 * q.1 ≤ s 4 * 10 * q.2.2 ∧ -((tNum T 2 n 0 - s 2) * 10 * q.2.2 + tNum T 2 n 2 * q.1) ≤ s 4 * 10 * q.2.2 ∧ (tNum T 2 n 1 - s 3) * 10 * q.2.2 + tNum T 2 n 2 * q.2.1 ≤ s 4 * 10 * q.2.2 ∧ -((tNum T 2 n 1 - s 3) * 10 * q.2.2 + tNum T 2 n 2 * q.2.1) ≤ s 4 * 10 * q.2.2) := by
    simp only [near, hn, Int.toNat_natCast, Bool.and_eq_true, decide_eq_true_eq, and_assoc]
  have bX : -5000000 ≤ (tNum T 2 n 0 - s 2) * 10 * q.2.2 + tNum T 2 n 2 * q.1 ∧ (tNum T 2 n 0 - s 2) * 10 * q.2.2 + tNum T 2 n 2 * q.1 ≤ 5000000 := by omega
  have bY : -5000000 ≤ (tNum T 2 n 1 - s 3) * 10 * q.2.2 + tNum T 2 n 2 * q.2.1 ∧ (tNum T 2 n 1 - s 3) * 10 * q.2.2 + tNum T 2 n 2 * q.2.1 ≤ 5000000 := by omega
  clear b1 b2 b3 b4
  generalize (tNum T 2 n 0 - s 2) * 10 * q.2.2 + tNum T 2 n 2 * q.1 = X at *
  generalize (tNum T 2 n 1 - s 3) * 10 * q.2.2 + tNum T 2 n 2 * q.2.1 = Y at *
  generalize s 4 * 10 * q.2.2 = G at *
  rintro z2 rfl
  refine ⟨hz, hv, hz, ?_⟩
  rintro z3 rfl
  refine ⟨hv, ?_⟩
  rintro z4 rfl
  rw [iI_neg, iI_neg]
  by_cases a1 : iI G < iI X
  · rw [if_pos a1]
    rw [iI_lt (by omega) (by omega)] at a1
    exact qq0 (P := fun r => Q r gi gl) k (by rw [ev]; omega)
  rw [if_neg a1]
  rw [iI_lt (by omega) (by omega)] at a1
  by_cases a2 : iI G < iI (-X)
  · rw [if_pos a2]
    rw [iI_lt (by omega) (by omega)] at a2
    exact qq0 (P := fun r => Q r gi gl) k (by rw [ev]; omega)
  rw [if_neg a2]
  rw [iI_lt (by omega) (by omega)] at a2
  by_cases a3 : iI G < iI Y
  · rw [if_pos a3]
    rw [iI_lt (by omega) (by omega)] at a3
    exact qq0 (P := fun r => Q r gi gl) k (by rw [ev]; omega)
  rw [if_neg a3]
  rw [iI_lt (by omega) (by omega)] at a3
  by_cases a4 : iI G < iI (-Y)
  · rw [if_pos a4]
    rw [iI_lt (by omega) (by omega)] at a4
    exact qq0 (P := fun r => Q r gi gl) k (by rw [ev]; omega)
  rw [if_neg a4]
  rw [iI_lt (by omega) (by omega)] at a4
  exact qq1 (P := fun r => Q r gi gl) k (by rw [ev]; omega)
theorem mSgn.sn {s : Nat → Int} {i : Nat} {gi gi' : Gi} (h : Sn gi gi') (m : mSgn s i gi) : mSgn s i gi' := ⟨m.1, fun w hw => by rw [h.1 _ (by omega)]; exact m.2 w hw⟩
theorem s_X12_letsMinute (m : ME T p la su gi gl) {s : Nat → Int} {i : Nat} (hs : mSgn s i gi) (vs : vSign T s) {mo t : Nat} (hm : mo < 12) (ht : t < 720) (k : ∀ gi', Sn gi gi' → Q (b2i (sM T s mo t)) gi' gl) : p_X12_letsMinute (nI i) (nI mo) (nI t) gi gl Q := by
  have hi9 := hs.1
  have hv : vp_in (nI i) 480 := vp_nI hs.1 (by omega)
  have e0 := hs.2 0 (by omega)
  have e1 := hs.2 1 (by omega)
  have e2 := hs.2 2 (by omega)
  refine v_X12_letsMinute ?_
  unfold f_X12_letsMinute
  rw [nI_cl (by omega), show gi 357 i = iI (s 0) from e0, show gi 358 i = iI (s 1) from e1, show gi 359 i = iI (s 2) from e2]
  refine ⟨hv, ?_⟩
  have r0 : 0 ≤ s 0 ∧ s 0 ≤ 9 := by
    rcases vs with ⟨q | q, -⟩ | ⟨q | q, -⟩ | ⟨q, -⟩ | ⟨q, -⟩ | ⟨q, -⟩ | ⟨q, -⟩ | ⟨q | q, -⟩ <;> omega
  by_cases h5 : iI (s 0) = 5
  · rw [if_neg (not_not_intro h5)]
    rw [show (5 : Int32) = iI 5 by rfl, iI_eq (by omega) (by omega)] at h5
    obtain ⟨h0, h1, h2, h3⟩ : 0 ≤ s 1 ∧ s 1 < tCnt T 3 ∧ 0 ≤ s 2 ∧ s 2 ≤ 719 := by
      rcases vs with ⟨q | q, -⟩ | ⟨q | q, -⟩ | ⟨q, -⟩ | ⟨q, a, b, c, d, -⟩ | ⟨q, -⟩ | ⟨q, -⟩ | ⟨q | q, -⟩ <;> first | omega | exact ⟨a, b, c, d⟩
    obtain ⟨n, hn⟩ := nat_of h0
    have hnc : n < tCnt T 3 := by omega
    have vt := m.2.2.2.1
    have c3 : tCnt T 3 ≤ 4 := vt.1 3 (by omega)
    have hp := m.1
    have t0 : gi 349 (4 * p + n) = iI (tNum T 3 n 0) := m.2.2.1.2.2.2.2.2.1 0 (by omega) n hnc
    have t1 : gi 350 (4 * p + n) = iI (tNum T 3 n 1) := m.2.2.1.2.2.2.2.2.1 1 (by omega) n hnc
    obtain ⟨u1, u2, u3, u4⟩ := vt.2.2.2.2.2.2.1 n hnc
    refine ⟨hv, ?_⟩
    rintro z10 rfl
    have hz : vp_in (nI (4 * p + n)) 8 := vp_nI (by omega) (by omega)
    rw [hn, iI_n, m.2.1, show (4 : Int32) * nI p = nI (4 * p) from pk_mul 4 _, nI_add, nI_cl (by omega), t0, t1, iI_sub, iI_add]
    refine ⟨hv, hz, hv, hz, s_X12_within ⟨b2i_01 _, ?_⟩⟩
    rw [iI_toInt (by omega) (by omega), iI_toInt (by omega) (by omega), nI_tI (by omega)]
    have := k gi Sn.rf
    unfold sM at this
    rw [if_pos h5, hn, Int.toNat_natCast] at this
    exact this
  · rw [if_pos h5]
    rw [show (5 : Int32) = iI 5 by rfl, iI_eq (by omega) (by omega)] at h5
    refine ⟨hv, ?_⟩
    by_cases h4 : iI (s 0) = 4
    · rw [if_neg (not_not_intro h4)]
      rw [show (4 : Int32) = iI 4 by rfl, iI_eq (by omega) (by omega)] at h4
      refine s_X12_hasRows m hm ?_
      unfold sM at k
      rw [if_neg h5, if_pos h4] at k
      by_cases hr : rowsOf T mo = []
      · rw [if_pos hr] at k
        rw [show decide (rowsOf T mo ≠ []) = false by simp [hr], b2i_f, if_neg (by decide)]
        exact k gi Sn.rf
      · rw [if_neg hr] at k
        rw [show decide (rowsOf T mo ≠ []) = true by simp [hr], b2i_t, if_pos (by decide)]
        refine s_X12_isLit m hm ht (fun hl => ?_) (fun q hl => ?_)
        · rw [hl] at k
          rw [if_pos rfl]
          exact k gi Sn.rf
        · rw [hl] at k
          rw [if_neg (by decide)]
          refine s_X12_isNear (T := T) m.sun (mSgn.sn Sn.sun hs) vs h4 (lit_bd m.2.2.2.1 hl) sunG_48 ?_
          have k := k _ (Sn.sun (q := q))
          cases hb : near T s q with
          | false => rw [b2i_f, if_pos rfl]; simp only [hb] at k; exact k
          | true => rw [b2i_t, if_neg (by decide)]; simp only [hb] at k; exact k
    · rw [if_pos h4]
      rw [show (4 : Int32) = iI 4 by rfl, iI_eq (by omega) (by omega)] at h4
      have := k gi Sn.rf
      unfold sM at this
      rw [if_neg h5, if_neg h4] at this
      exact this
end D6
/-- what a picture's sign lets -/
def okM (x y : Int32) : Bool := (decide (0 ≤ x.toInt) && decide (x.toInt ≤ 3599)) && (decide (0 ≤ y.toInt) && decide (y.toInt ≤ 719))
def sL (T : Twn) (P : Pic) (k d t : Nat) : Bool := sD T 0 nosu (P.2 k) d && sM T (P.2 k) (mth d) t
def aLets (T : Twn) (A : Alb) (x k d t : Int32) : Int32 :=
  if isS A x k = true ∧ okM d t = true then b2i (sL T (A.2.1 x.toInt.toNat) k.toInt.toNat d.toInt.toNat t.toInt.toNat) else -1
theorem MI.mS {σ : Sta} {gi : Gi} {gl : Gl} (V : vSta σ) (m : MI σ gi gl) {i k : Nat} (hi : i < (sShown σ).1) (hk : k < ((sShown σ).2.1 i).1) : mSgn (((sShown σ).2.1 i).2 k) (12 * i + k) gi := by
  have hA8 : (sShown σ).1 ≤ 8 := V.2.2.2.1.1
  have hc := (V.2.2.2.1.2.1 i hi).2.1
  exact ⟨by omega, fun w hw => m.sgn hi hk hw⟩
theorem mth_lt {d : Nat} (h : d < 3600) : mth d < 12 := by unfold mth; omega
theorem mth_i {d : Nat} (h : d < 3600) : jr (nI d) 360 / 30 = nI (mth d) := by
  rw [show jr (nI d) 360 = nI (d % 360) from jr_n (b := 360) (by omega) (by omega) (by omega), show nI (d % 360) / 30 = nI (d % 360 / 30) from div_n (b := 30) (by omega) (by omega) (by omega)]; rfl
theorem m_lets {σ : Sta} {gi : Gi} {gl : Gl} {x y d t : Int32} {Q : Int32 → Gi → Gl → Prop} (V : vSta σ) (m : MI σ gi gl) (h : ∀ gi', Sn gi gi' → Q (aLets (sTown σ) (sShown σ) x y d t) gi' gl) : p_X12_lets x y d t gi gl Q := by
  refine v_X12_lets ?_
  unfold f_X12_lets
  refine s_X12_isSign V m ?_
  unfold aLets okM at h
  cases hs : isS (sShown σ) x y with
  | false => rw [b2i_f, if_pos rfl]; rw [if_neg (by rw [hs]; simp)] at h; exact h gi Sn.rf
  | true =>
    rw [b2i_t, if_neg (by decide)]
    refine s_X12_within ?_
    rw [show ((0 : Int32).toInt) = 0 by rfl, show ((3599 : Int32).toInt) = 3599 by rfl]
    cases hd : (decide (0 ≤ d.toInt) && decide (d.toInt ≤ 3599)) with
    | false => rw [b2i_f, if_pos rfl]; rw [if_neg (by rw [hd]; simp)] at h; exact h gi Sn.rf
    | true =>
      rw [b2i_t, if_neg (by decide)]
      refine s_X12_within ?_
      rw [show ((0 : Int32).toInt) = 0 by rfl, show ((719 : Int32).toInt) = 719 by rfl]
      cases ht : (decide (0 ≤ t.toInt) && decide (t.toInt ≤ 719)) with
      | false => rw [b2i_f, if_neg (by decide)]; rw [if_neg (by rw [hd, ht]; simp)] at h; exact h gi Sn.rf
      | true =>
        rw [b2i_t, if_pos (by decide)]
        rw [if_pos ⟨hs, by rw [hd, ht]; rfl⟩] at h
        unfold isS at hs
        rw [Bool.and_eq_true] at hs
        obtain ⟨i, hi, rfl, e⟩ := isP_of hs.1 V.2.2.2.1.1
        have hs2 := hs.2
        rw [e] at hs2 h
        simp at hs2 hd ht
        have hA8 : (sShown σ).1 ≤ 8 := V.2.2.2.1.1
        have hc := (V.2.2.2.1.2.1 i hi).2.1
        have hye := int_of hs2.1 rfl
        have hde := int_of hd.1 rfl
        have hte := int_of ht.1 rfl
        generalize hj : y.toInt.toNat = j at *
        generalize hdd : d.toInt.toNat = dd at *
        generalize htt : t.toInt.toNat = tt at *
        have hj2 : j < ((sShown σ).2.1 i).1 := by omega
        have hd2 : dd < 3600 := by omega
        have ht2 : tt < 720 := by omega
        rintro z10 rfl
        rw [hye, hde, hte, show (12 : Int32) * nI i = nI (12 * i) from pk_mul 12 i, nI_add, mth_i hd2]
        obtain ⟨p, hE⟩ := m.E V
        have vs := (V.2.2.2.1.2.1 i hi).2.2 j hj2
        refine s_X12_letsDay hE (m.mS V hi hj2) vs hd2 ?_
        unfold sL at h
        cases hb : sD (sTown σ) 0 nosu (((sShown σ).2.1 i).2 j) dd with
        | false => rw [b2i_f, if_pos rfl]; rw [hb] at h; exact h gi Sn.rf
        | true =>
          rw [b2i_t, if_neg (by decide)]
          refine s_X12_letsMinute hE (m.mS V hi hj2) vs (mth_lt hd2) ht2 (fun gi' hn => ?_)
          have h := h gi' hn
          rw [hb, Bool.true_and] at h
          cases hc : sM (sTown σ) (((sShown σ).2.1 i).2 j) (mth dd) tt with
          | false => rw [b2i_f, if_pos rfl]; rw [hc] at h; exact h
          | true => rw [b2i_t, if_neg (by decide)]; rw [hc] at h; exact h
/-- the first of n that isn't so; n: none -/
def firstN (f : Nat → Bool) : Nat → Nat → Nat
  | 0, j => j
  | n + 1, j => if f j then firstN f n (j + 1) else j
def aJudge (T : Twn) (A : Alb) (x d t : Int32) : Int32 :=
  if isP A x = true ∧ okM d t = true then
    (let P := A.2.1 x.toInt.toNat
     let j := firstN (fun k => sL T P k d.toInt.toNat t.toInt.toNat) P.1 0
     if j < P.1 then nI j else -1) else -2
theorem m_judge {σ : Sta} {gi : Gi} {gl : Gl} {x d t : Int32} {Q : Int32 → Gi → Gl → Prop} (V : vSta σ) (m : MI σ gi gl) (h : ∀ gi', Sn gi gi' → Q (aJudge (sTown σ) (sShown σ) x d t) gi' gl) : p_X12_judge x d t gi gl Q := by
  refine v_X12_judge ?_
  unfold f_X12_judge
  have hA8 : (sShown σ).1 ≤ 8 := V.2.2.2.1.1
  refine s_X12_isPicture hA8 m.np ?_
  unfold aJudge at h
  cases hp : isP (sShown σ) x with
  | false => rw [b2i_f, if_pos rfl]; rw [if_neg (by rw [hp]; simp)] at h; exact h gi Sn.rf
  | true =>
    rw [b2i_t, if_neg (by decide)]
    refine s_X12_within ?_
    rw [show ((0 : Int32).toInt) = 0 by rfl, show ((3599 : Int32).toInt) = 3599 by rfl]
    cases hd : (decide (0 ≤ d.toInt) && decide (d.toInt ≤ 3599)) with
    | false => rw [b2i_f, if_pos rfl]; rw [if_neg (by unfold okM; rw [hd]; simp)] at h; exact h gi Sn.rf
    | true =>
      rw [b2i_t, if_neg (by decide)]
      refine s_X12_within ?_
      rw [show ((0 : Int32).toInt) = 0 by rfl, show ((719 : Int32).toInt) = 719 by rfl]
      cases ht : (decide (0 ≤ t.toInt) && decide (t.toInt ≤ 719)) with
      | false => rw [b2i_f, if_neg (by decide)]; rw [if_neg (by unfold okM; rw [hd, ht]; simp)] at h; exact h gi Sn.rf
      | true =>
        rw [b2i_t, if_pos (by decide)]
        have hok : okM d t = true := by unfold okM; rw [hd, ht]; rfl
        rw [if_pos ⟨hp, hok⟩] at h
        obtain ⟨i, hi, hxi, e⟩ := isP_of hp hA8
        rw [e] at h
        have hc := (V.2.2.2.1.2.1 i hi).2.1
        have lp : ∀ n j g, j + n = ((sShown σ).2.1 i).1 → Sn gi g → (∀ gi', Sn gi gi' → Q (if firstN (fun k => sL (sTown σ) ((sShown σ).2.1 i) k d.toInt.toNat t.toInt.toNat) n j < ((sShown σ).2.1 i).1 then nI (firstN (fun k => sL (sTown σ) ((sShown σ).2.1 i) k d.toInt.toNat t.toInt.toNat) n j) else -1) gi' gl) → p_X12_judge_36 (nI i) d t (nI j) g gl Q := by
          intro n
          induction n with
          | zero =>
            intro j g hj hg hQ
            have mg := hg.I m
            refine v_X12_judge_36 ?_
            unfold f_X12_judge_36
            rw [nI_cl (by omega), mg.many hi]
            refine ⟨vp_nI (by omega) (by omega), ?_⟩
            rw [if_pos (by rw [nI_leI (by omega) (by omega)]; omega)]
            have := hQ g hg
            unfold firstN at this
            rw [if_neg (by omega)] at this
            exact this
          | succ n ih =>
            intro j g hj hg hQ
            have mg := hg.I m
            refine v_X12_judge_36 ?_
            unfold f_X12_judge_36
            rw [nI_cl (by omega), mg.many hi]
            refine ⟨vp_nI (by omega) (by omega), ?_⟩
            rw [if_neg (by rw [nI_leI (by omega) (by omega)]; omega)]
            refine m_lets V mg (fun g2 hg2 => ?_)
            have eL : aLets (sTown σ) (sShown σ) (nI i) (nI j) d t = b2i (sL (sTown σ) ((sShown σ).2.1 i) j d.toInt.toNat t.toInt.toNat) := by
              unfold aLets
              have h1 : isS (sShown σ) (nI i) (nI j) = true := by
                unfold isS isP
                rw [nI_tI (show i < 2147483648 by omega), nI_tI (show j < 2147483648 by omega), Int.toNat_natCast]
                simp; omega
              rw [if_pos ⟨h1, hok⟩, nI_tI (show i < 2147483648 by omega), nI_tI (show j < 2147483648 by omega), Int.toNat_natCast, Int.toNat_natCast]
            rw [eL]
            unfold firstN at hQ
            cases hb : sL (sTown σ) ((sShown σ).2.1 i) j d.toInt.toNat t.toInt.toNat with
            | false =>
              rw [b2i_f, if_neg (by decide)]
              have := hQ g2 (hg.tr hg2)
              simp only [hb, Bool.false_eq_true, if_false] at this
              rw [if_pos (show j < ((sShown σ).2.1 i).1 by omega)] at this
              exact this
            | true =>
              rw [b2i_t, if_pos (by decide), nI_1]
              refine ih (j + 1) g2 (by omega) (hg.tr hg2) (fun g3 hg3 => ?_)
              have := hQ g3 hg3
              simp only [hb, if_true] at this
              exact this
        rw [hxi]
        exact lp ((sShown σ).2.1 i).1 0 gi (by omega) Sn.rf h
