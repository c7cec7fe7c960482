/-! THE CLASS, thirty-four: picture, more -/
section DH2
variable {σ : Sta} {c : Nat} {gi : Gi} {gl : Gl} {Qi : Int32 → Gi → Gl → Prop} {P : Pic}
/-- the text's end -/
theorem s_endText {x : Int32} {K : Gi → Gl → Prop} {f : Nat → Nat} {n a : Nat} (m : SC f n a gi) (hx : x = 0 ∨ x = 1)
    (h : ∀ g, (∀ z, z ≠ 0 → g z = gi z) → (∀ j, g 0 j = if j = 15 then (if x = 0 then nI a else -1) else if j = 13 then 0 else gi 0 j) → K g gl) : p_X11_endText x gi gl K := by
  refine v_X11_endText ?_
  unfold f_X11_endText
  intro g1 e1
  rcases hx with rfl | rfl
  · refine ifT rfl ?_
    refine v_X7_placeOfToken ?_
    unfold f_X7_placeOfToken
    refine v_X8_placeOfToken ?_
    unfold f_X8_placeOfToken
    intro g5 e5
    refine h g5 (fun z hz => by rw [e5, uI_n hz, e1, uI_n hz]) (fun j => ?_)
    rw [e5, uI_s, updA]
    by_cases w : j = 15
    · rw [if_pos w, if_pos w, if_pos rfl, e1, uI_n (by omega)]; exact m.2.2.1
    · rw [if_neg w, if_neg w, e1, uI_s, updA]
  · refine ifF (by decide) ?_
    intro g5 e5
    refine h g5 (fun z hz => by rw [e5, uI_n hz, e1, uI_n hz]) (fun j => ?_)
    rw [e5, uI_s, updA]
    by_cases w : j = 15
    · rw [if_pos w, if_pos w, if_neg (by decide)]
    · rw [if_neg w, if_neg w, e1, uI_s, updA]
theorem tpC_of {f : Nat → Nat} {n : Nat} {g : Gi} (h : tpC f n gi) (e : g 1 = gi 1) : tpC f n g := ⟨h.1, fun j hj => by rw [e]; exact h.2 j hj⟩
/-- an ill text: all is as it was, but tape and fault -/
theorem CI_ill (V : vSta σ) (m : CI σ c gi gl) {e : Nat} {g g5 : Gi} (R : Rs gi g) (f5 : ∀ z, z ≠ 0 → g5 z = g z) (z0 : ∀ j, g5 0 j = if j = 15 then (if (0 : Int32) = 0 then nI e else -1) else if j = 13 then 0 else g 0 j) : CI (dIll σ e) (c + 1) g5 gl ∧ FrC gi gl g5 gl := by
  have oth : ∀ z, z ≠ 0 → z ≠ 14 → z ≠ 15 → z ≠ 22 → g5 z = gi z := fun z a0 a1 a2 a3 => by rw [f5 z a0]; exact R z a1 a2 a3
  have g0 : g 0 = gi 0 := R 0 (by omega) (by omega) (by omega)
  obtain ⟨m1, m2, m3, m4, m5, m6, m7, m8, m9⟩ := m
  have hk : sKept σ ≤ 4 := V.2.2.2.2.1
  refine ⟨⟨?_, fun j hj => absurd hj (Nat.not_lt_zero j), ?_, ?_, ?_, cTown_congr (fun b _ _ => oth b (by omega) (by omega) (by omega) (by omega)) rfl m6, cAlb_congr V.2.2.2.1.1 (fun z a1 a2 => oth z (by omega) (by omega) (by omega) (by omega)) m7, fun i hi => cAlb_congr (V.2.2.2.2.2.1 i hi).1 (fun z a1 a2 => oth z (by omega) (by omega) (by omega) (by omega)) (m8 i hi), (m9.fr (oth 25 (by omega) (by omega) (by omega) (by omega)) (oth 27 (by omega) (by omega) (by omega) (by omega))).up⟩, fun z hz => ⟨oth z (by omega) (by omega) (by omega) (by omega), rfl⟩⟩
  · rw [z0, if_neg (by omega), if_pos rfl]; rfl
  · rw [z0, if_pos rfl, if_pos rfl]; exact (iI_n e).symm
  · rw [z0, if_neg (by omega), if_neg (by omega), g0]; exact m4
  · rw [z0, if_neg (by omega), if_neg (by omega), g0]; exact m5
theorem c_picture (V : vSta σ) (m : CI σ c gi gl) (hb : tB σ) {x : Int32}
    (h2 : (x.toInt < 0 ∨ (sN_ σ : Int) < x.toInt) → Qi (-2) gi gl)
    (h3 : ∀ n, n ≤ sN_ σ → x = nI n → (sShown σ).1 = 8 → Qi (-3) gi gl)
    (hI : ∀ n, n ≤ sN_ σ → x = nI n → (sShown σ).1 < 8 → ∀ e, e ≤ n → (rdSigns (fT σ) n (sTown σ) (0, fun _ _ => 0)).2 = .inl e → ∀ gi' gl', CI (dIll σ e) (c + 1) gi' gl' → FrC gi gl gi' gl' → Qi (-1) gi' gl')
    (hW : ∀ n, n ≤ sN_ σ → x = nI n → (sShown σ).1 < 8 → isR (rdSigns (fT σ) n (sTown σ) (0, fun _ _ => 0)).2 = true → ∀ gi' gl', CI (dPic σ (rdSigns (fT σ) n (sTown σ) (0, fun _ _ => 0)).1) (c + 1) gi' gl' → FrC gi gl gi' gl' → Qi (nI (sShown σ).1) gi' gl') : p_X11_picture x gi gl Qi := by
  have V1 := V.1
  have hk : sKept σ ≤ 4 := V.2.2.2.2.1
  have hA8 : (sShown σ).1 ≤ 8 := V.2.2.2.1.1
  refine v_X11_picture ?_
  unfold f_X11_picture
  refine d_lt x.toInt 0 (iI_of x) rfl (iI_rng x) (by omega) (fun y => h2 (Or.inl y)) (fun y1 => ?_)
  rw [m.1]
  refine d_le x.toInt (sN_ σ : Int) (iI_of x) (iI_n _).symm (iI_rng x) (by omega) (fun y2 => ?_) (fun y2 => h2 (Or.inr y2))
  have ex := int_of (x := x) y1 rfl
  have hx : x.toInt.toNat ≤ sN_ σ := by omega
  generalize x.toInt.toNat = n at *
  refine v_X0_size zl_33 zk_33 ?_
  unfold f_X0_size
  rw [m.A.1]
  refine c_lt (sShown σ).1 8 rfl rfl (by omega) (by omega) (fun hl8 => ?_) (fun y3 => h3 n hx ex (by omega))
  have hI := hI n hx ex hl8
  have hW := hW n hx ex hl8
  rw [ex]
  refine v_X5_clear zl_14 zk_14 ?_
  unfold f_X5_clear
  intro g0 e0
  have f0 : ∀ z, z ≠ 14 → g0 z = gi z := fun z hz => by rw [e0]; exact uI_n hz
  have R0 : Rs gi g0 := fun z a1 _ _ => f0 z a1
  have d0 : cSgn (0, fun _ _ => 0) g0 14 := ⟨by rw [e0, uI_s, upd_s]; rfl, fun k hk => absurd hk (Nat.not_lt_zero k)⟩
  refine s_readsSigns (P := (0, fun _ _ => 0)) (tpC_of (m.tp V hb hx) (f0 1 (by omega))) (cTown_congr (fun b _ _ => f0 b (by omega)) rfl (m.E V).1) V.2.2.1 d0 (Nat.zero_le _) ⟨fun b g k1 sc d R => ?_, fun e g k1 sc R => ?_⟩
  · have hR : isR (rdSigns (fT σ) n (sTown σ) (0, fun _ _ => 0)).2 = true := by rw [k1]; rfl
    obtain ⟨vP, -, -⟩ := v_rdSigns (Nat.zero_le _) (fun k hk => absurd hk (Nat.not_lt_zero k)) hR
    have hW := hW hR
    generalize (rdSigns (fT σ) n (sTown σ) (0, fun _ _ => 0)).1 = P at *
    have R := R0.tr R
    refine s_endText sc (Or.inr rfl) (fun g1 f1 z1 => ?_)
    refine ifT (by decide) ?_
    have o1 : ∀ z, z ≠ 0 → z ≠ 14 → z ≠ 15 → z ≠ 22 → g1 z = gi z := fun z a0 a1 a2 a3 => by rw [f1 z a0]; exact R z a1 a2 a3
    have d1 : cSgn P g1 14 := ⟨by rw [f1 14 (by omega)]; exact d.1, fun k hk w hw => by rw [f1 15 (by omega)]; exact d.2 k hk w hw⟩
    refine s_X2_fill (p := 14) (P := P) ⟨cTown_congr (fun b _ _ => o1 b (by omega) (by omega) (by omega) (by omega)) rfl (m.E V).1, V.2.2.1⟩ ⟨d1, vP.2.1, vP.2.2, zl_14, zk_14, by omega⟩ (by omega) (fun g2 f2 hm => ?_)
    have o2 : ∀ z, z ≠ 0 → z ≠ 22 → z ≠ 23 → (z < 14 ∨ 20 < z) → g2 z = gi z := fun z a0 a1 a2 a3 => by rw [f2 z a2 (by omega)]; exact o1 z a0 (by omega) (by omega) a1
    have d2 : cPic (sTown σ) P g2 14 := ⟨⟨by rw [f2 14 (by omega) (by omega)]; exact d1.1, fun k hk w hw => by rw [f2 15 (by omega) (by omega)]; exact d1.2 k hk w hw⟩, hm⟩
    refine v_X0_add zl_33 zk_33 zl_14 zk_14 ?_
    unfold f_X0_add
    have a33 : g2 33 2 = nI (sShown σ).1 := by rw [o2 33 (by omega) (by omega) (by omega) (by omega)]; exact m.A.1
    rw [a33]
    refine c_lt (sShown σ).1 0 rfl rfl (by omega) (by omega) (fun y => by omega) (fun _ => ?_)
    refine c_lt (sShown σ).1 8 rfl rfl (by omega) (by omega) (fun _ => ?_) (fun y => by omega)
    rw [nI_cl (by omega)]
    refine ⟨vp_nI (by omega) (by omega), ?_⟩
    rintro b1 rfl
    obtain ⟨k1, k2⟩ := alb_k zl_33 zk_33 (sShown σ).1 (by omega)
    refine s_X5_copyFrom (P := P) k1 k2 zl_14 zk_14 (by omega) vP.2.1 d2 (fun g3 f3 d3 => ?_)
    intro g4 e4
    have f4 : ∀ z, z ≠ 33 → g4 z = g3 z := fun z hz => by rw [e4]; exact uI_n hz
    have o4 : ∀ z, z ≠ 0 → z ≠ 22 → z ≠ 23 → z ≠ 33 → (z < 14 ∨ 20 < z) → (z < 33 + 3 + 7 * (sShown σ).1 ∨ 33 + 3 + 7 * (sShown σ).1 + 6 < z) → g4 z = gi z := fun z a0 a1 a2 a3 a4 a5 => by rw [f4 z a3, f3 z a5]; exact o2 z a0 a1 a2 a4
    have a4 : g4 33 2 = nI ((sShown σ).1 + 1) := by rw [e4, uI_s, upd_s, f3 33 (by omega), a33, nI_1]
    have z0 : ∀ j, g4 0 j = if j = 15 then -1 else if j = 13 then 0 else gi 0 j := fun j => by
      rw [f4 0 (by omega), f3 0 (by omega), f2 0 (by omega) (by omega), z1, if_neg (show ¬ (1 : Int32) = 0 by decide), R 0 (by omega) (by omega) (by omega)]
    rw [a4, sub1 (by omega), show (sShown σ).1 + 1 - 1 = (sShown σ).1 by omega]
    obtain ⟨m1, m2, m3, m4, m5, m6, m7, m8, m9⟩ := id m
    refine hW g4 gl ⟨?_, fun j hj => absurd hj (Nat.not_lt_zero j), ?_, ?_, ?_, cTown_congr (fun b _ _ => o4 b (by omega) (by omega) (by omega) (by omega) (by omega) (by omega)) rfl m6, ⟨a4, fun i hi => ?_, fun mo hm2 => ?_⟩, fun i hi => cAlb_congr (V.2.2.2.2.2.1 i hi).1 (fun z b1 b2 => o4 z (by omega) (by omega) (by omega) (by omega) (by omega) (by omega)) (m8 i hi), (m9.fr (o4 25 (by omega) (by omega) (by omega) (by omega) (by omega) (by omega)) (o4 27 (by omega) (by omega) (by omega) (by omega) (by omega) (by omega))).up⟩ (fun z hz => ⟨o4 z (by omega) (by omega) (by omega) (by omega) (by omega) (by omega), rfl⟩)
    · rw [z0, if_neg (by omega), if_pos rfl]; rfl
    · rw [z0, if_pos rfl]; rfl
    · rw [z0, if_neg (by omega), if_neg (by omega)]; exact m4
    · rw [z0, if_neg (by omega), if_neg (by omega)]; exact m5
    · have hi : i < (sShown σ).1 + 1 := hi
      show cPic (sTown σ) (putP (sShown σ) (sShown σ).1 P i) g4 (33 + 3 + 7 * i)
      unfold putP
      by_cases e : i = (sShown σ).1
      · rw [if_pos e, e]
        exact cPic_congr (fun z b1 b2 => f4 z (by omega)) d3
      · rw [if_neg e]
        exact cPic_congr (fun z b1 b2 => o4 z (by omega) (by omega) (by omega) (by omega) (by omega) (by omega)) (m7.2.1 i (by omega))
    · show g4 35 mo = _
      rw [o4 35 (by omega) (by omega) (by omega) (by omega) (by omega) (by omega)]
      exact m7.2.2 mo hm2
  · refine s_endText sc (Or.inl rfl) (fun g5 f5 z5 => ?_)
    have := CI_ill V m (R0.tr R) f5 z5
    exact ifF (by decide) (hI e sc.2.2.2.1 k1 g5 gl this.1 this.2)
theorem c_more (V : vSta σ) (m : CI σ c gi gl) (hb : tB σ) {y x : Int32}
    (h2 : (isP (sShown σ) y = false ∨ x.toInt < 0 ∨ (sN_ σ : Int) < x.toInt) → Qi (-2) gi gl)
    (hI : ∀ i n, i < (sShown σ).1 → y = nI i → n ≤ sN_ σ → x = nI n → ∀ e, e ≤ n → (rdSigns (fT σ) n (sTown σ) ((sShown σ).2.1 i)).2 = .inl e → ∀ gi' gl', CI (dIll σ e) (c + 1) gi' gl' → FrC gi gl gi' gl' → Qi (-1) gi' gl')
    (hW : ∀ i n, i < (sShown σ).1 → y = nI i → n ≤ sN_ σ → x = nI n → isR (rdSigns (fT σ) n (sTown σ) ((sShown σ).2.1 i)).2 = true → ∀ gi' gl', CI (dMore σ i (rdSigns (fT σ) n (sTown σ) ((sShown σ).2.1 i)).1) (c + 1) gi' gl' → FrC gi gl gi' gl' → Qi (nI (rdSigns (fT σ) n (sTown σ) ((sShown σ).2.1 i)).1.1) gi' gl') : p_X11_more y x gi gl Qi := by
  have V1 := V.1
  have hk : sKept σ ≤ 4 := V.2.2.2.2.1
  have hA8 : (sShown σ).1 ≤ 8 := V.2.2.2.1.1
  refine v_X11_more ?_
  unfold f_X11_more
  refine c_get V m (fun q => h2 (Or.inl q)) (fun i hi hp hyi => ?_)
  have ey : y = nI i := by
    obtain ⟨i2, hi2, hy2, hyi2⟩ := isP_of hp hA8
    rw [hy2]; congr 1; omega
  refine d_lt x.toInt 0 (iI_of x) rfl (iI_rng x) (by omega) (fun y => h2 (Or.inr (Or.inl y))) (fun y1 => ?_)
  rw [m.1]
  refine d_le x.toInt (sN_ σ : Int) (iI_of x) (iI_n _).symm (iI_rng x) (by omega) (fun y2 => ?_) (fun y2 => h2 (Or.inr (Or.inr y2)))
  have ex := int_of (x := x) y1 rfl
  have hx : x.toInt.toNat ≤ sN_ σ := by omega
  generalize x.toInt.toNat = n at *
  have hI := hI i n hi ey hx ex
  have hW := hW i n hi ey hx ex
  rw [ex]
  obtain ⟨CSi, cmi⟩ := m.P V hi
  have vPi := V.2.2.2.1.2.1 i hi
  obtain ⟨pN, pK⟩ := p36 i (by omega)
  refine s_X5_copyFrom (P := (sShown σ).2.1 i) zl_14 zk_14 pN pK (by omega) vPi.2.1 ⟨CSi.1, cmi⟩ (fun g0 f0 d0 => ?_)
  refine s_readsSigns (P := (sShown σ).2.1 i) (tpC_of (m.tp V hb hx) (f0 1 (by omega))) (cTown_congr (fun b _ _ => f0 b (by omega)) rfl (m.E V).1) V.2.2.1 d0.1 vPi.2.1 ⟨fun b g k1 sc d R => ?_, fun e g k1 sc R => ?_⟩
  · have hR : isR (rdSigns (fT σ) n (sTown σ) ((sShown σ).2.1 i)).2 = true := by rw [k1]; rfl
    obtain ⟨vP, -, -⟩ := v_rdSigns vPi.2.1 vPi.2.2 hR
    have hW := hW hR
    generalize (rdSigns (fT σ) n (sTown σ) ((sShown σ).2.1 i)).1 = P at *
    refine s_endText sc (Or.inr rfl) (fun g1 f1 z1 => ?_)
    refine ifT (by decide) ?_
    have o1 : ∀ z, z ≠ 0 → z ≠ 22 → (z < 14 ∨ 20 < z) → g1 z = gi z := fun z a0 a1 a3 => by rw [f1 z a0, R z (by omega) (by omega) a1]; exact f0 z (by omega)
    have d1 : cSgn P g1 14 := ⟨by rw [f1 14 (by omega)]; exact d.1, fun k hk w hw => by rw [f1 15 (by omega)]; exact d.2 k hk w hw⟩
    refine s_X2_fill (p := 14) (P := P) ⟨cTown_congr (fun b _ _ => o1 b (by omega) (by omega) (by omega)) rfl (m.E V).1, V.2.2.1⟩ ⟨d1, vP.2.1, vP.2.2, zl_14, zk_14, by omega⟩ (by omega) (fun g2 f2 hm => ?_)
    have o2 : ∀ z, z ≠ 0 → z ≠ 22 → z ≠ 23 → (z < 14 ∨ 20 < z) → g2 z = gi z := fun z a0 a1 a2 a3 => by rw [f2 z a2 (by omega)]; exact o1 z a0 a1 a3
    have d2 : cPic (sTown σ) P g2 14 := ⟨⟨by rw [f2 14 (by omega) (by omega)]; exact d1.1, fun k hk w hw => by rw [f2 15 (by omega) (by omega)]; exact d1.2 k hk w hw⟩, hm⟩
    refine s_X5_copyFrom (P := P) pN pK zl_14 zk_14 (by omega) vP.2.1 d2 (fun g4 f4 d4 => ?_)
    refine v_X5_size pN pK ?_
    unfold f_X5_size
    rw [d4.1.1]
    have o4 : ∀ z, z ≠ 0 → z ≠ 22 → z ≠ 23 → (z < 14 ∨ 20 < z) → (z < 36 + 7 * i ∨ 36 + 7 * i + 6 < z) → g4 z = gi z := fun z a0 a1 a2 a4 a5 => by rw [f4 z a5]; exact o2 z a0 a1 a2 a4
    have z0 : ∀ j, g4 0 j = if j = 15 then -1 else if j = 13 then 0 else gi 0 j := fun j => by
      rw [f4 0 (by omega), f2 0 (by omega) (by omega), z1, if_neg (show ¬ (1 : Int32) = 0 by decide), R 0 (by omega) (by omega) (by omega), f0 0 (by omega)]
    obtain ⟨m1, m2, m3, m4, m5, m6, m7, m8, m9⟩ := id m
    refine hW g4 gl ⟨?_, fun j hj => absurd hj (Nat.not_lt_zero j), ?_, ?_, ?_, cTown_congr (fun b _ _ => o4 b (by omega) (by omega) (by omega) (by omega) (by omega)) rfl m6, ⟨?_, fun j hj => ?_, fun mo hm2 => ?_⟩, fun j hj => cAlb_congr (V.2.2.2.2.2.1 j hj).1 (fun z b1 b2 => o4 z (by omega) (by omega) (by omega) (by omega) (by omega)) (m8 j hj), (m9.fr (o4 25 (by omega) (by omega) (by omega) (by omega) (by omega)) (o4 27 (by omega) (by omega) (by omega) (by omega) (by omega))).up⟩ (fun z hz => ⟨o4 z (by omega) (by omega) (by omega) (by omega) (by omega), rfl⟩)
    · rw [z0, if_neg (by omega), if_pos rfl]; rfl
    · rw [z0, if_pos rfl]; rfl
    · rw [z0, if_neg (by omega), if_neg (by omega)]; exact m4
    · rw [z0, if_neg (by omega), if_neg (by omega)]; exact m5
    · show g4 33 2 = nI (sShown σ).1
      rw [o4 33 (by omega) (by omega) (by omega) (by omega) (by omega)]; exact m7.1
    · have hj : j < (sShown σ).1 := hj
      show cPic (sTown σ) (putP (sShown σ) i P j) g4 (33 + 3 + 7 * j)
      unfold putP
      by_cases e : j = i
      · rw [if_pos e, e, show 33 + 3 + 7 * i = 36 + 7 * i by omega]
        exact d4
      · rw [if_neg e]
        exact cPic_congr (fun z b1 b2 => o4 z (by omega) (by omega) (by omega) (by omega) (by omega)) (m7.2.1 j hj)
    · show g4 35 mo = _
      rw [o4 35 (by omega) (by omega) (by omega) (by omega) (by omega)]
      exact m7.2.2 mo hm2
  · have og : ∀ z, z ≠ 22 → (z < 14 ∨ 20 < z) → g z = gi z := fun z a1 a2 => by rw [R z (by omega) (by omega) a1]; exact f0 z (by omega)
    refine s_endText sc (Or.inl rfl) (fun g5 f5 z5 => ?_)
    have oth : ∀ z, z ≠ 0 → z ≠ 22 → (z < 14 ∨ 20 < z) → g5 z = gi z := fun z a0 a1 a2 => by rw [f5 z a0]; exact og z a1 a2
    have e0 : g 0 = gi 0 := og 0 (by omega) (by omega)
    refine ifF (by decide) ?_
    obtain ⟨m1, m2, m3, m4, m5, m6, m7, m8, m9⟩ := m
    refine hI e sc.2.2.2.1 k1 g5 gl ⟨?_, fun j hj => absurd hj (Nat.not_lt_zero j), ?_, ?_, ?_, cTown_congr (fun b _ _ => oth b (by omega) (by omega) (by omega)) rfl m6, cAlb_congr V.2.2.2.1.1 (fun z a1 a2 => oth z (by omega) (by omega) (by omega)) m7, fun i hi => cAlb_congr (V.2.2.2.2.2.1 i hi).1 (fun z a1 a2 => oth z (by omega) (by omega) (by omega)) (m8 i hi), (m9.fr (oth 25 (by omega) (by omega) (by omega)) (oth 27 (by omega) (by omega) (by omega))).up⟩ (fun z hz => ⟨oth z (by omega) (by omega) (by omega), rfl⟩)
    · rw [z5, if_neg (by omega), if_pos rfl]; rfl
    · rw [z5, if_pos rfl, if_pos rfl]; exact (iI_n e).symm
    · rw [z5, if_neg (by omega), if_neg (by omega), e0]; exact m4
    · rw [z5, if_neg (by omega), if_neg (by omega), e0]; exact m5
end DH2
