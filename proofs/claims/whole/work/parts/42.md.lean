/-! THE REFERENCE, twelve: stood, couples -/
/-- from a point a sign of two posts is so -/
def soV (k : Int) (over : Bool) (ax ay bx b' : Int) : Bool :=
  if k = 9 then (if over then decide (0 < ax * b' - ay * bx) else decide (ax * b' - ay * bx < 0))
  else decide (ax * b' - ay * bx = 0) && decide (0 < ax * bx + ay * b') && decide (ax * ax + ay * ay < bx * bx + b' * b')
def soB (T : Twn) (s : Nat → Int) (over : Bool) (x y : Int) : Bool := soV (s 0) over (tNum T 2 (s 1).toNat 0 - x) (tNum T 2 (s 1).toNat 1 - y) (tNum T 2 (s 2).toNat 0 - x) (tNum T 2 (s 2).toNat 1 - y)
def ownB (T : Twn) (s : Nat → Int) (x y : Int) : Bool :=
  let a := (s 1).toNat
  let b := (s 2).toNat
  (decide (tNum T 2 a 0 = x) && decide (tNum T 2 a 1 = y)) || (decide (tNum T 2 b 0 = x) && decide (tNum T 2 b 1 = y))
def stB (T : Twn) (P : Pic) (over : Bool) (c : Nat) : Bool := allK (fun k => decide (P.2 k 0 < 8) || (!ownB T (P.2 k) (c % 32 : Nat) (c / 32 : Nat) && soB T (P.2 k) over (c % 32 : Nat) (c / 32 : Nat))) P.1
theorem allK_and {f g h : Nat → Bool} (e : ∀ k, h k = (f k && g k)) : ∀ n, allK h n = (allK f n && allK g n)
  | 0 => rfl
  | n + 1 => by
    rw [allK_s, allK_s, allK_s, allK_and e n, e n]
    cases allK f n <;> cases allK g n <;> cases f n <;> cases g n <;> rfl
theorem vSign_two {T : Twn} {s : Nat → Int} (vs : vSign T s) (h8 : 8 ≤ s 0) : (s 0 = 8 ∨ s 0 = 9) ∧ 0 ≤ s 1 ∧ s 1 < tCnt T 2 ∧ 0 ≤ s 2 ∧ s 2 < tCnt T 2 := by
  rcases vs with ⟨q | q, -⟩ | ⟨q | q, -⟩ | ⟨q, -⟩ | ⟨q, -⟩ | ⟨q, -⟩ | ⟨q, -⟩ | ⟨q, a, b, c, d, -⟩ <;> first | omega | exact ⟨q, a, b, c, d⟩
theorem vSign_r0 {T : Twn} {s : Nat → Int} (vs : vSign T s) : 0 ≤ s 0 ∧ s 0 ≤ 9 := by
  rcases vs with ⟨q | q, -⟩ | ⟨q | q, -⟩ | ⟨q, -⟩ | ⟨q, -⟩ | ⟨q, -⟩ | ⟨q, -⟩ | ⟨q | q, -⟩ <;> omega
section DD
variable {T : Twn} {p : Nat} {la : Int} {su : Int × Int} {gi : Gi} {gl : Gl} {P : Pic} {x : Nat}
theorem post_at (m : ME T p la su gi gl) {z : Int} (h0 : 0 ≤ z) (h1 : z < tCnt T 2) : ∃ n : Nat, z = n ∧ n < tCnt T 2 ∧ (10 : Int32) * gi 329 0 + iI z = nI (10 * p + n) ∧ (nI (10 * p + n)).toNatClampNeg = 10 * p + n ∧ vp_in (nI (10 * p + n)) 20 ∧ gi 346 (10 * p + n) = iI (tNum T 2 n 0) ∧ gi 347 (10 * p + n) = iI (tNum T 2 n 1) ∧ 0 ≤ tNum T 2 n 0 ∧ tNum T 2 n 0 ≤ 31 ∧ 0 ≤ tNum T 2 n 1 ∧ tNum T 2 n 1 ≤ 31 := by
  obtain ⟨n, hn⟩ := nat_of h0
  have vt := m.2.2.2.1
  have c2 : tCnt T 2 ≤ 10 := vt.1 2 (by omega)
  have hp := m.1
  have hnc : n < tCnt T 2 := by omega
  obtain ⟨r1, r2, r3, r4, -⟩ := vt.2.2.2.2.2.1 n hnc
  refine ⟨n, hn, hnc, ?_, nI_cl (by omega), vp_nI (by omega) (by omega), m.2.2.1.2.2.2.2.1 0 (by omega) n hnc, m.2.2.1.2.2.2.2.1 1 (by omega) n hnc, r1, r2, r3, r4⟩
  rw [m.2.1, hn, iI_n, show (10 : Int32) * nI p = nI (10 * p) from pk_mul 10 _, nI_add]
theorem s_X12_isSo {Q : Int32 → Gi → Gl → Prop} (m : ME T p la su gi gl) {s : Nat → Int} {i : Nat} (hs : mSgn s i gi) (vs : vSign T s) (h8 : 8 ≤ s 0) {x y : Nat} (hx : x < 32) (hy : y < 32) {over : Bool} (k : Q (b2i (soB T s over x y)) gi gl) : p_X12_isSo (nI i) (nI x) (nI y) (b2i over) gi gl Q := by
  obtain ⟨h89, h0, h1, h2, h3⟩ := vSign_two vs h8
  have hi9 := hs.1
  have hv : vp_in (nI i) 480 := vp_nI hs.1 (by omega)
  have e0 := hs.2 0 (by omega)
  have e1 := hs.2 1 (by omega)
  have e2 := hs.2 2 (by omega)
  obtain ⟨a, ea, -, ea1, ea2, ea3, ea4, ea5, r1, r2, r3, r4⟩ := post_at m h0 h1
  obtain ⟨b, eb, -, eb1, eb2, eb3, eb4, eb5, u1, u2, u3, u4⟩ := post_at m h2 h3
  refine v_X12_isSo ?_
  unfold f_X12_isSo
  rw [nI_cl (by omega), show gi 357 i = iI (s 0) from e0, show gi 358 i = iI (s 1) from e1, show gi 359 i = iI (s 2) from e2, ea1, eb1]
  refine ⟨hv, ?_⟩
  rintro z1 rfl
  refine ⟨hv, ?_⟩
  rintro z2 rfl
  rw [ea2, ea4, ea5, eb2, eb4, eb5, ← iI_n x, ← iI_n y, iI_sub, iI_sub, iI_sub, iI_sub]
  unfold soB at k
  rw [ea, eb] at k
  simp only [Int.toNat_natCast] at k
  have g1 : -31 ≤ tNum T 2 a 0 - x ∧ tNum T 2 a 0 - x ≤ 31 := by omega
  have g2 : -31 ≤ tNum T 2 a 1 - y ∧ tNum T 2 a 1 - y ≤ 31 := by omega
  have g3 : -31 ≤ tNum T 2 b 0 - x ∧ tNum T 2 b 0 - x ≤ 31 := by omega
  have g4 : -31 ≤ tNum T 2 b 1 - y ∧ tNum T 2 b 1 - y ≤ 31 := by omega
  generalize tNum T 2 a 0 - x = ax at *
  generalize tNum T 2 a 1 - y = ay at *
  generalize tNum T 2 b 0 - x = bx at *
  generalize tNum T 2 b 1 - y = b' at *
  have m1 := mul_bd (a := ax) (b := b') (A := 31) (B := 31) (by omega) (by omega) (by omega) (by omega)
  have m2 := mul_bd (a := ay) (b := bx) (A := 31) (B := 31) (by omega) (by omega) (by omega) (by omega)
  have m3 := mul_bd (a := ax) (b := bx) (A := 31) (B := 31) (by omega) (by omega) (by omega) (by omega)
  have m4 := mul_bd (a := ay) (b := b') (A := 31) (B := 31) (by omega) (by omega) (by omega) (by omega)
  have m5 := mul_bd (a := ax) (b := ax) (A := 31) (B := 31) (by omega) (by omega) (by omega) (by omega)
  have m6 := mul_bd (a := ay) (b := ay) (A := 31) (B := 31) (by omega) (by omega) (by omega) (by omega)
  have m7 := mul_bd (a := bx) (b := bx) (A := 31) (B := 31) (by omega) (by omega) (by omega) (by omega)
  have m8 := mul_bd (a := b') (b := b') (A := 31) (B := 31) (by omega) (by omega) (by omega) (by omega)
  refine ⟨ea3, ?_⟩
  rintro z3 rfl
  refine ⟨ea3, ?_⟩
  rintro z4 rfl
  refine ⟨eb3, ?_⟩
  rintro z5 rfl
  refine ⟨eb3, ?_⟩
  rintro z6 rfl z7 rfl
  refine ⟨hv, ?_⟩
  simp only [iI_mul, iI_sub, iI_add]
  unfold soV at k
  generalize ax * b' = p1 at *
  generalize ay * bx = p2 at *
  generalize ax * bx = p3 at *
  generalize ay * b' = p4 at *
  generalize ax * ax = p5 at *
  generalize ay * ay = p6 at *
  generalize bx * bx = p7 at *
  generalize b' * b' = p8 at *
  refine d_ne (s 0) 9 rfl rfl (by omega) (by omega) (fun q => ?_) (fun q => ?_)
  · rw [if_neg q] at k
    refine d_ne (p1 - p2) 0 rfl rfl (by omega) (by omega) (fun c1 => ?_) (fun c1 => ?_)
    · exact qq0 (P := fun r => Q r gi gl) k (by simp [c1])
    · refine d_le (p3 + p4) 0 rfl rfl (by omega) (by omega) (fun c2 => ?_) (fun c2 => ?_)
      · exact qq0 (P := fun r => Q r gi gl) k (by simp; omega)
      · refine d_le (p7 + p8) (p5 + p6) rfl rfl (by omega) (by omega) (fun c3 => ?_) (fun c3 => ?_)
        · exact qq0 (P := fun r => Q r gi gl) k (by simp; omega)
        · exact qq1 (P := fun r => Q r gi gl) k (by simp; omega)
  · rw [if_pos q] at k
    refine c_b (fun ho => ?_) (fun ho => ?_)
    · rw [ho] at k
      simp only [Bool.false_eq_true, if_false] at k
      refine d_le 0 (p1 - p2) rfl rfl (by omega) (by omega) (fun c => ?_) (fun c => ?_)
      · exact qq0 (P := fun r => Q r gi gl) k (by simp; omega)
      · exact qq1 (P := fun r => Q r gi gl) k (by simp; omega)
    · rw [ho] at k
      simp only [if_true] at k
      refine d_le (p1 - p2) 0 rfl rfl (by omega) (by omega) (fun c => ?_) (fun c => ?_)
      · exact qq0 (P := fun r => Q r gi gl) k (by simp; omega)
      · exact qq1 (P := fun r => Q r gi gl) k (by simp; omega)
theorem s_X12_isOwnPost {Q : Int32 → Gi → Gl → Prop} (m : ME T p la su gi gl) (hP : mPic P x gi) (vP : ∀ k, k < P.1 → vSign T (P.2 k)) {a b : Nat} (ha : a < 32) (hb : b < 32)
    (k : Q (b2i (!allK (fun k => decide (P.2 k 0 < 8) || !ownB T (P.2 k) a b) P.1)) gi gl) : p_X12_isOwnPost (nI x) (nI a) (nI b) gi gl Q := by
  obtain ⟨hx, hc, hn, hsg⟩ := hP
  have hv : vp_in (nI x) 40 := vp_nI hx (by omega)
  have e12 : (12 : Int32) * nI x = nI (12 * x) := pk_mul 12 x
  have lp : ∀ n j, j + n = P.1 → allK (fun k => decide (P.2 k 0 < 8) || !ownB T (P.2 k) a b) j = true → p_X12_isOwnPost_6 (nI x) (nI a) (nI b) (nI (12 * x + j)) gi gl Q := by
    intro n
    induction n with
    | zero =>
      intro j hj hA
      refine v_X12_isOwnPost_6 ?_
      unfold f_X12_isOwnPost_6
      rw [e12, nI_cl (by omega), hn, nI_add]
      refine ⟨hv, ?_⟩
      refine c_le (12 * x + P.1) (12 * x + j) rfl rfl (by omega) (by omega) (fun _ => ?_) (fun q => by omega)
      rw [show P.1 = j by omega, hA] at k
      exact k
    | succ n ih =>
      intro j hj hA
      have hs := hsg j (by omega)
      have vs := vP j (by omega)
      have e0 := hs.2 0 (by omega)
      have e1 := hs.2 1 (by omega)
      have e2 := hs.2 2 (by omega)
      have r0 := vSign_r0 vs
      have hi9 := hs.1
      have hvj : vp_in (nI (12 * x + j)) 480 := vp_nI (by omega) (by omega)
      have ih := ih (j + 1) (by omega)
      rw [allK_s, hA, Bool.true_and] at ih
      refine v_X12_isOwnPost_6 ?_
      unfold f_X12_isOwnPost_6
      rw [e12, nI_cl (show x < 2147483648 by omega), hn, nI_add, nI_cl (by omega), show gi 357 (12 * x + j) = iI (P.2 j 0) from e0, show gi 358 (12 * x + j) = iI (P.2 j 1) from e1, show gi 359 (12 * x + j) = iI (P.2 j 2) from e2]
      refine ⟨hv, ?_⟩
      refine c_le (12 * x + P.1) (12 * x + j) rfl rfl (by omega) (by omega) (fun q => by omega) (fun _ => ⟨hvj, ?_⟩)
      have stop : ownB T (P.2 j) a b = true → 8 ≤ P.2 j 0 → Q 1 gi gl := by
        intro h1 h2
        have hF : allK (fun k => decide (P.2 k 0 < 8) || !ownB T (P.2 k) a b) (j + 1) = false := by
          rw [allK_s, hA, Bool.true_and, h1]; simp; omega
        rw [allK_f hF _ (by omega)] at k
        exact k
      refine d_le 8 (P.2 j 0) rfl rfl (by omega) (by omega) (fun h8 => ⟨hvj, ?_⟩) (fun h8 => ?_)
      · obtain ⟨h89, h0, h1, h2, h3⟩ := vSign_two vs h8
        obtain ⟨u, ea, -, ea1, ea2, ea3, ea4, ea5, r1, r2, r3, r4⟩ := post_at m h0 h1
        obtain ⟨w, eb, -, eb1, eb2, eb3, eb4, eb5, u1, u2, u3, u4⟩ := post_at m h2 h3
        rw [ea1, eb1]
        rintro z1 rfl
        refine ⟨hvj, ?_⟩
        rintro z2 rfl
        rw [ea2, ea4, ea5]
        unfold ownB at stop ih
        rw [ea, eb] at stop ih
        simp only [Int.toNat_natCast] at stop ih
        have c93 : ¬ (tNum T 2 u 0 = a ∧ tNum T 2 u 1 = b) → p_X12_isOwnPost_93 (nI x) (nI a) (nI b) (nI (12 * x + j)) (nI (10 * p + w)) gi gl Q := by
          intro hno
          refine v_X12_isOwnPost_93 ?_
          unfold f_X12_isOwnPost_93
          rw [eb2, eb4, eb5, nI_1, Nat.add_assoc]
          refine ⟨eb3, ?_⟩
          refine d_ne (tNum T 2 w 0) a rfl (iI_n _).symm (by omega) (by omega) (fun q => ?_) (fun q => ⟨eb3, ?_⟩)
          · exact ih (by simp; omega)
          · refine d_ne (tNum T 2 w 1) b rfl (iI_n _).symm (by omega) (by omega) (fun q2 => ?_) (fun q2 => ?_)
            · exact ih (by simp; omega)
            · exact stop (by simp; omega) h8
        refine ⟨ea3, ?_⟩
        refine d_ne (tNum T 2 u 0) a rfl (iI_n _).symm (by omega) (by omega) (fun q => c93 (by omega)) (fun q => ⟨ea3, ?_⟩)
        refine d_eq (tNum T 2 u 1) b rfl (iI_n _).symm (by omega) (by omega) (fun q2 => ?_) (fun q2 => c93 (by omega))
        exact stop (by simp; omega) h8
      · rw [nI_1, Nat.add_assoc]
        exact ih (by simp; omega)
  refine v_X12_isOwnPost ?_
  unfold f_X12_isOwnPost
  rintro z1 rfl
  rw [e12]
  exact lp P.1 0 (by omega) rfl
theorem s_X12_couldStand {Q : Int32 → Gi → Gl → Prop} (m : ME T p la su gi gl) (hP : mPic P x gi) (vP : ∀ k, k < P.1 → vSign T (P.2 k)) {over : Bool} {c : Nat} (hc' : c < 1024)
    (k : Q (b2i (stB T P over c)) gi gl) : p_X12_couldStand (nI x) (nI (c % 32)) (nI (c / 32)) (b2i over) gi gl Q := by
  have ha : c % 32 < 32 := by omega
  have hb : c / 32 < 32 := by omega
  unfold stB at k
  rw [allK_and (f := fun k => decide (P.2 k 0 < 8) || !ownB T (P.2 k) (c % 32 : Nat) (c / 32 : Nat)) (g := fun k => decide (P.2 k 0 < 8) || soB T (P.2 k) over (c % 32 : Nat) (c / 32 : Nat)) (fun k => by
    cases decide (P.2 k 0 < 8) <;> simp)] at k
  refine v_X12_couldStand ?_
  unfold f_X12_couldStand
  refine s_X12_isOwnPost m hP vP ha hb ?_
  refine c_b (fun hO => ?_) (fun hO => ?_)
  · rw [Bool.not_eq_false'] at hO
    rw [hO, Bool.true_and] at k
    obtain ⟨hx, hc, hn, hsg⟩ := hP
    have hv : vp_in (nI x) 40 := vp_nI hx (by omega)
    have e12 : (12 : Int32) * nI x = nI (12 * x) := pk_mul 12 x
    rintro z1 rfl
    rw [e12]
    generalize hf : (fun k => decide (P.2 k 0 < 8) || soB T (P.2 k) over (c % 32 : Nat) (c / 32 : Nat)) = f at *
    have hfk : ∀ k, f k = (decide (P.2 k 0 < 8) || soB T (P.2 k) over (c % 32 : Nat) (c / 32 : Nat)) := fun k => by rw [← hf]
    have lp : ∀ n j, j + n = P.1 → allK f j = true → p_X12_couldStand_18 (nI x) (nI (c % 32)) (nI (c / 32)) (b2i over) (nI (12 * x + j)) gi gl Q := by
      intro n
      induction n with
      | zero =>
        intro j hj hA
        refine v_X12_couldStand_18 ?_
        unfold f_X12_couldStand_18
        rw [e12, nI_cl (by omega), hn, nI_add]
        refine ⟨hv, ?_⟩
        refine c_le (12 * x + P.1) (12 * x + j) rfl rfl (by omega) (by omega) (fun _ => ?_) (fun q => by omega)
        rw [show P.1 = j by omega, hA] at k
        exact k
      | succ n ih =>
        intro j hj hA
        have hs := hsg j (by omega)
        have vs := vP j (by omega)
        have e0 := hs.2 0 (by omega)
        have r0 := vSign_r0 vs
        have hi9 := hs.1
        have hvj : vp_in (nI (12 * x + j)) 480 := vp_nI (by omega) (by omega)
        have ih := ih (j + 1) (by omega)
        rw [allK_s, hA, Bool.true_and, hfk] at ih
        refine v_X12_couldStand_18 ?_
        unfold f_X12_couldStand_18
        rw [e12, nI_cl (show x < 2147483648 by omega), hn, nI_add, nI_cl (by omega), show gi 357 (12 * x + j) = iI (P.2 j 0) from e0, nI_1, Nat.add_assoc]
        refine ⟨hv, ?_⟩
        refine c_le (12 * x + P.1) (12 * x + j) rfl rfl (by omega) (by omega) (fun q => by omega) (fun _ => ⟨hvj, ?_⟩)
        refine d_lt (P.2 j 0) 8 rfl rfl (by omega) (by omega) (fun h8 => ?_) (fun h8 => ?_)
        · exact ih (by rw [decide_eq_true h8]; rfl)
        · refine s_X12_isSo m hs vs h8 ha hb ?_
          refine c_nb (fun q => ?_) (fun q => ?_)
          · exact ih (by rw [q]; simp)
          · have hF : allK f (j + 1) = false := by
              rw [allK_s, hA, Bool.true_and, hfk, q]; simp; omega
            rw [allK_f hF _ (by omega)] at k
            exact k
    exact lp P.1 0 (by omega) rfl
  · rw [Bool.not_eq_true'] at hO
    rw [hO, Bool.false_and] at k
    exact k
def aStood (T : Twn) (A : Alb) (x : Int32) (over : Bool) (k : Int32) : Int32 :=
  if isP A x = true then
    (if k.toInt = -1 then nI (cntN (stB T (A.2.1 x.toInt.toNat) over) 1024)
     else if 0 ≤ k.toInt ∧ k.toInt < cntN (stB T (A.2.1 x.toInt.toNat) over) 1024 then nI (selN (stB T (A.2.1 x.toInt.toNat) over) k.toInt.toNat 1024) else -1)
  else -1
theorem m_stood {σ : Sta} {x k : Int32} {over : Bool} {Q : Int32 → Gi → Gl → Prop} (V : vSta σ) (m : MI σ gi gl) (h : Q (aStood (sTown σ) (sShown σ) x over k) gi gl) : p_X12_stood x (b2i over) k gi gl Q := by
  have hA8 : (sShown σ).1 ≤ 8 := V.2.2.2.1.1
  refine v_X12_stood ?_
  unfold f_X12_stood
  refine s_X12_isPicture hA8 m.np ?_
  unfold aStood at h
  refine c_b (fun hp => ?_) (fun hp => ?_)
  · rw [if_neg (by rw [hp]; simp)] at h; exact h
  · rw [if_pos hp] at h
    have hk := iI_of k
    have hr := iI_rng k
    generalize k.toInt = z at *
    subst hk
    refine d_le (-1) z rfl rfl (by omega) (by omega) (fun h1 => ?_) (fun h1 => ?_)
    · obtain ⟨i, hi, hxi, e⟩ := isP_of hp hA8
      rw [e] at h
      obtain ⟨p, hE⟩ := m.E V
      rw [hxi]
      have hP := m.mP V hi
      have vP := (V.2.2.2.1.2.1 i hi).2.2
      generalize (sShown σ).2.1 i = P at *
      generalize sTown σ = T at *
      have le := fun n => cntN_le (f := stB T P over) (n := n)
      have lp : ∀ n d, d + n = 1024 → (z = -1 ∨ (cntN (stB T P over) d : Int) ≤ z) → p_X12_stood_21 (nI i) (b2i over) (iI z) (nI (cntN (stB T P over) d)) (nI d) gi gl Q := by
        intro n
        induction n with
        | zero =>
          intro d hd hc
          have : d = 1024 := by omega
          subst this
          refine v_X12_stood_21 ?_
          unfold f_X12_stood_21
          refine ifT (by decide) ?_
          refine d_ne z (-1) rfl rfl (by omega) (by omega) (fun h2 => ?_) (fun h2 => ?_)
          · rw [if_neg h2, if_neg (by omega)] at h; exact h
          · rw [if_pos h2] at h; exact h
        | succ n ih =>
          intro d hd hc
          have hs := cntN_s (stB T P over) d
          have hle := le d
          refine v_X12_stood_21 ?_
          unfold f_X12_stood_21
          refine c_le 1024 d rfl rfl (by omega) (by omega) (fun q => by omega) (fun _ => ?_)
          rw [show jr (nI d) 32 = nI (d % 32) from jr_n (b := 32) (by omega) (by omega) (by omega), show nI d / 32 = nI (d / 32) from div_n (b := 32) (by omega) (by omega) (by omega), nI_1]
          refine s_X12_couldStand hE hP vP (by omega) ?_
          refine c_nb (fun hb => ?_) (fun hb => ?_)
          · rw [if_pos hb] at hs
            refine d_ne (cntN (stB T P over) d) z (iI_n _).symm rfl (by omega) (by omega) (fun h2 => ?_) (fun h2 => ?_)
            · rw [nI_1, ← hs]
              exact ih (d + 1) (by omega) (by omega)
            · have h3 := cntN_mono (f := stB T P over) (show d + 1 ≤ 1024 by omega)
              rw [if_neg (by omega), if_pos (by omega), selN_eq (d := d) (by omega) hb (by omega)] at h
              exact h
          · rw [if_neg (by rw [hb]; decide)] at hs
            have := ih (d + 1) (by omega) (by omega)
            rw [hs] at this
            rw [nI_1]
            exact this
      exact lp 1024 0 (by omega) (by show _ ∨ ((0 : Nat) : Int) ≤ z; omega)
    · rw [if_neg (by omega), if_neg (by omega)] at h
      exact h
end DD
