/-! THE CLASS, twenty-eight: town -/
def tB (σ : Sta) : Prop := ∀ j, j < sN_ σ → ∃ z : Int, sTape σ j = iI z ∧ -128 ≤ z ∧ z ≤ 127
theorem cd8_iI {z : Int} (h1 : -128 ≤ z) (h2 : z ≤ 127) : ((cd8 (iI z) : Nat) : Int) = z % 256 := by
  unfold cd8
  have e : (iI z).toBitVec.toNat = (z % ((2 ^ 32 : Nat) : Int)).toNat := BitVec.toNat_ofInt z
  rw [e]
  have : ((2 ^ 32 : Nat) : Int) = 4294967296 := by decide
  rw [this]
  omega
theorem cp_atL {f h : Nat → Int64} {n i : Nat} (hi : i < n) : va_cpy f h 0 0 n i = f i := by
  unfold va_cpy
  rw [if_pos (by omega)]
  show f (0 + (i - 0)) = f i
  rw [Nat.zero_add, Nat.sub_zero]
section DB
variable {σ : Sta} {c : Nat} {f : Nat → Nat} {n a : Nat} {gi : Gi} {gl : Gl} {Q : Gi → Gl → Prop} {Qi : Int32 → Gi → Gl → Prop} {T : Twn}
theorem CI.tp (V : vSta σ) (m : CI σ c gi gl) (hb : tB σ) {n : Nat} (hn : n ≤ sN_ σ) : tpC (fT σ) n gi := ⟨by have := V.1; omega, fun j hj => by
  obtain ⟨z, z1, z2, z3⟩ := hb j (by omega)
  refine ⟨z, by rw [m.2.1 j (by omega), z1], z2, z3, ?_⟩
  show ((cd8 (sTape σ j) : Nat) : Int) = _
  rw [z1]; exact cd8_iI z2 z3⟩
theorem sz_9 : 9 < NN ∧ sK 9 = 100 ∧ sN 9 = 6 := by decide +kernel
theorem sz_12 : 12 < NN ∧ sK 12 = 100 ∧ sN 12 = 12 := by decide +kernel
theorem sz_35 : 35 < NN ∧ sK 35 = 100 ∧ sN 35 = 12 := by decide +kernel
theorem s_readsTown {m : Nat} (ht : tpC f m gi) (h : Ow f m (rdTown f m) gi gl Qi) : p_X7_readsTown (nI m) gi gl Qi := by
  have hm := ht.1
  refine v_X7_readsTown ?_
  unfold f_X7_readsTown
  refine v_X10_clear zl_8 zk_8 ?_
  unfold f_X10_clear
  refine s_fill (p := 9) sz_9.1 sz_9.2.1 sz_9.2.2 (by omega) (fun g1 f1 v1 => ?_)
  refine s_fill (p := 12) sz_12.1 sz_12.2.1 sz_12.2.2 (by omega) (fun g2 f2 v2 => ?_)
  have ht2 : tpC f m g2 := ⟨ht.1, fun j hj => by rw [f2 1 (by omega), f1 1 (by omega)]; exact ht.2 j hj⟩
  refine s_X8_begin hm ht2 (fun g3 f3 m3 => ?_)
  have D : cTown T0 g3 gl 8 := by
    refine ⟨fun k hk => ?_, fun k hk i hi => absurd hi (Nat.not_lt_zero i), fun mo hmo => ⟨?_, fun r q hq => ?_⟩⟩
    · show g3 9 k = nI 0
      rw [f3 9 (by omega), f2 9 (by omega), v1 k hk]; rfl
    · show g3 12 mo = nI 0
      rw [f3 12 (by omega), v2 mo hmo]; rfl
    · have : rowsOf T0 mo = [] := rfl
      rw [this] at hq
      cases hq
  exact s_readsTown_17 60 (skp f m 0) g3 gl T0 rfl m3 D v_T0 (h.fr ⟨fun z q1 q2 q3 q4 q5 => by rw [f3 z q5, f2 z q3, f1 z q1], fun _ _ => rfl⟩)
theorem s_X10_copyFrom (D : cTown T gi gl 8) (vt : vTown T) (h : ∀ g l, cTown T g l 2 → (∀ z, (z < 3 ∨ 7 < z) → g z = gi z) → (∀ z, z ≠ 4 → l z = gl z) → Q g l) : p_X10_copyFrom 2 8 gi gl Q := by
  refine v_X10_copyFrom zl_2 zk_2 zl_8 zk_8 ?_
  unfold f_X10_copyFrom
  intro g1 e1 l2 e2 g3 e3 g4 e4 g5 e5
  rw [show (0 : Int32).toNatClampNeg = 0 by rfl, show (6 : Int32).toNatClampNeg = 6 by rfl] at e1
  rw [show (0 : Int32).toNatClampNeg = 0 by rfl, show (48 : Int32).toNatClampNeg = 48 by rfl] at e2
  rw [show (0 : Int32).toNatClampNeg = 0 by rfl, show (192 : Int32).toNatClampNeg = 192 by rfl] at e3
  rw [show (0 : Int32).toNatClampNeg = 0 by rfl, show (12 : Int32).toNatClampNeg = 12 by rfl] at e4
  rw [show (0 : Int32).toNatClampNeg = 0 by rfl, show (1440 : Int32).toNatClampNeg = 1440 by rfl] at e5
  have q1 : ∀ z, z ≠ 3 → g1 z = gi z := fun z hz => by rw [e1]; exact uI_n hz
  have q3 : ∀ z, z ≠ 5 → g3 z = g1 z := fun z hz => by rw [e3]; exact uI_n hz
  have q4 : ∀ z, z ≠ 6 → g4 z = g3 z := fun z hz => by rw [e4]; exact uI_n hz
  have q5 : ∀ z, z ≠ 7 → g5 z = g4 z := fun z hz => by rw [e5]; exact uI_n hz
  refine h g5 l2 ⟨fun k hk => ?_, fun k hk i hi => ⟨?_, fun j hj => ?_⟩, fun mo hm => ⟨?_, fun r q hq => ?_⟩⟩ (fun z hz => by rw [q5 _ (by omega), q4 _ (by omega), q3 _ (by omega), q1 _ (by omega)]) (fun z hz => by rw [e2]; exact uL_n hz)
  · show g5 3 k = _
    rw [q5 3 (by omega), q4 3 (by omega), q3 3 (by omega), e1]
    show uI gi 3 _ 3 k = _
    rw [uI_s, cp_at hk]; exact D.1 k hk
  · have hc := cnt4 vt hk
    show l2 4 _ = _
    rw [e2]
    show uL gl 4 _ 4 _ = _
    rw [uL_s, cp_atL (by omega)]; exact (D.2.1 k hk i hi).1
  · have hc := cnt4 vt hk
    have hj4 : numsOf k ≤ 4 := by rcases (show k = 0 ∨ k = 1 ∨ k = 2 ∨ k = 3 by omega) with rfl | rfl | rfl | rfl <;> decide
    show g5 5 _ = _
    rw [q5 5 (by omega), q4 5 (by omega), e3]
    show uI g1 5 _ 5 _ = _
    rw [uI_s, cp_at (by omega)]
    show g1 11 _ = _
    rw [q1 11 (by omega)]; exact (D.2.1 k hk i hi).2 j hj
  · show g5 6 mo = _
    rw [q5 6 (by omega), e4]
    show uI g3 6 _ 6 _ = _
    rw [uI_s, cp_at hm]
    show g3 12 _ = _
    rw [q3 12 (by omega), q1 12 (by omega)]; exact (D.2.2 mo hm).1
  · have hl := rows_len (mo := mo) vt
    have hr : r < (rowsOf T mo).length := by
      rcases Nat.lt_or_ge r (rowsOf T mo).length with z | z
      · exact z
      · rw [List.getElem?_eq_none z] at hq; cases hq
    have at7 : ∀ j, j < 1440 → g5 7 j = gi 13 j := fun j hj => by
      rw [e5]
      show uI g4 7 _ 7 _ = _
      rw [uI_s, cp_at hj]
      show g4 13 _ = _
      rw [q4 13 (by omega), q3 13 (by omega), q1 13 (by omega)]
    show g5 7 _ = _ ∧ g5 7 _ = _ ∧ g5 7 _ = _
    rw [at7 _ (by omega), at7 _ (by omega), at7 _ (by omega)]
    exact (D.2.2 mo hm).2 r q hq
theorem c_town (V : vSta σ) (m : CI σ c gi gl) (hb : tB σ) {x : Int32}
    (h2 : (x.toInt < 0 ∨ (sN_ σ : Int) < x.toInt) → Qi (-2) gi gl)
    (hI : ∀ n, n ≤ sN_ σ → x = nI n → ∀ e, e ≤ n → (rdTown (fT σ) n).2 = .inl e → ∀ gi' gl', CI (dIll σ e) (c + 1) gi' gl' → FrC gi gl gi' gl' → Qi (-1) gi' gl')
    (hW : ∀ n, n ≤ sN_ σ → x = nI n → isR (rdTown (fT σ) n).2 = true → ∀ gi' gl', CI (dTown σ (rdTown (fT σ) n).1) (c + 1) gi' gl' → FrC gi gl gi' gl' → Qi (nI (tCnt (rdTown (fT σ) n).1 5)) gi' gl') : p_X11_town x gi gl Qi := by
  have V1 := V.1
  have hk : sKept σ ≤ 4 := V.2.2.2.2.1
  refine v_X11_town ?_
  unfold f_X11_town
  refine d_lt x.toInt 0 (iI_of x) rfl (iI_rng x) (by omega) (fun y => h2 (Or.inl y)) (fun y1 => ?_)
  rw [m.1]
  refine d_le x.toInt (sN_ σ : Int) (iI_of x) (iI_n _).symm (iI_rng x) (by omega) (fun y2 => ?_) (fun y2 => h2 (Or.inr y2))
  have ex := int_of (x := x) y1 rfl
  have hx : x.toInt.toNat ≤ sN_ σ := by omega
  generalize x.toInt.toNat = n at *
  have hI := hI n hx ex
  have hW := hW n hx ex
  rw [ex]
  obtain ⟨m1, m2, m3, m4, m5, m6, m7, m8, m9⟩ := id m
  refine s_readsTown (m.tp V hb hx) ⟨fun b g l k1 sc D R => ?_, fun e g l k1 sc R => ?_⟩
  · have vt := v_rdTown (f := fT σ) (n := n) (by rw [k1]; rfl)
    refine v_X11_endText ?_
    unfold f_X11_endText
    intro g1 e1
    refine ifF (by decide) ?_
    intro g2 e2
    refine ifT (by decide) ?_
    have f2 : ∀ z, z ≠ 0 → g2 z = g z := fun z hz => by rw [e2, uI_n hz, e1, uI_n hz]
    refine s_X10_copyFrom (cTown_congr (fun b _ _ => f2 b (by omega)) rfl D) vt (fun g3 l3 D3 f3 fl3 => ?_)
    refine v_X0_clear zl_33 zk_33 ?_
    unfold f_X0_clear
    intro g4 e4
    have f4 : ∀ z, z ≠ 33 → g4 z = g3 z := fun z hz => by rw [e4]; exact uI_n hz
    refine s_fill (p := 35) sz_35.1 sz_35.2.1 sz_35.2.2 (by omega) (fun g5 f5 v5 => ?_)
    intro g6 e6 g7 e7
    have f7 : ∀ z, z ≠ 0 → g7 z = g5 z := fun z hz => by rw [e7, uI_n hz, e6, uI_n hz]
    have D7 : cTown (rdTown (fT σ) n).1 g7 l3 2 := cTown_congr (fun b _ _ => by rw [f7 b (by omega), f5 b (by omega), f4 b (by omega)]) rfl D3
    have g50 : ∀ j, g5 0 j = g2 0 j := fun j => by rw [f5 0 (by omega), f4 0 (by omega), f3 0 (by omega)]
    have z0 : ∀ j, g7 0 j = if j = 14 then g5 0 14 + 1 else if j = 12 then 0 else g5 0 j := fun j => by
      rw [e7, uI_s, updA]
      by_cases w : j = 14
      · rw [if_pos w, if_pos w, e6, uI_s, upd_n (by omega)]
      · rw [if_neg w, if_neg w, e6, uI_s, updA]
    have z2 : ∀ j, g2 0 j = if j = 15 then -1 else if j = 13 then 0 else gi 0 j := fun j => by
      rw [e2, uI_s, updA]
      by_cases w : j = 15
      · rw [if_pos w, if_pos w]
      · rw [if_neg w, if_neg w, e1, uI_s, updA, R.1 0 (by omega) (by omega) (by omega) (by omega) (by omega)]
    have big : ∀ z, 24 ≤ z → z ≠ 33 → z ≠ 35 → g7 z = gi z := fun z a1 a2 a3 => by rw [f7 z (by omega), f5 z a3, f4 z a2, f3 z (by omega), f2 z (by omega), R.1 z (by omega) (by omega) (by omega) (by omega) (by omega)]
    refine v_X10_countOf zl_2 zk_2 ?_
    unfold f_X10_countOf
    refine ifF (by decide) (ifT (by decide) ⟨vp_nI (n := 5) (by omega) (by omega), ?_⟩)
    rw [show (5 : Int32).toNatClampNeg = 5 by rfl, D7.1 5 (by omega)]
    refine hW (by rw [k1]; rfl) g7 l3 ⟨?_, fun j hj => absurd hj (Nat.not_lt_zero j), ?_, ?_, ?_, D7, ⟨?_, fun i hi => absurd hi (Nat.not_lt_zero i), fun mo hm => ?_⟩, fun i hi => absurd hi (Nat.not_lt_zero i), (m9.fr (big 25 (by omega) (by omega) (by omega)) (big 27 (by omega) (by omega) (by omega))).up⟩ (fun z hz => ⟨big z (by omega) (by omega) (by omega), by rw [fl3 z (by omega), R.2 z (by omega)]⟩)
    · rw [z0, if_neg (by omega), if_neg (by omega), g50, z2, if_neg (by omega), if_pos rfl]; rfl
    · rw [z0, if_neg (by omega), if_neg (by omega), g50, z2, if_pos rfl]; rfl
    · rw [z0, if_pos rfl, g50, z2, if_neg (by omega), if_neg (by omega), m4, nI_1]; rfl
    · rw [z0, if_neg (by omega), if_pos rfl]; rfl
    · rw [f7 33 (by omega), f5 33 (by omega), e4, uI_s, upd_s]; rfl
    · show g7 35 mo = nI 1
      rw [f7 35 (by omega), v5 mo hm]; rfl
  · refine v_X11_endText ?_
    unfold f_X11_endText
    intro g1 e1
    refine ifT rfl ?_
    refine v_X7_placeOfToken ?_
    unfold f_X7_placeOfToken
    refine v_X8_placeOfToken ?_
    unfold f_X8_placeOfToken
    intro g5 e5
    have f5 : ∀ z, z ≠ 0 → g5 z = g z := fun z hz => by rw [e5, uI_n hz, e1, uI_n hz]
    have z0 : ∀ j, g5 0 j = if j = 15 then nI e else if j = 13 then 0 else gi 0 j := fun j => by
      rw [e5, uI_s, updA]
      by_cases w : j = 15
      · rw [if_pos w, if_pos w, e1, uI_n (by omega)]; exact sc.2.2.1
      · rw [if_neg w, if_neg w, e1, uI_s, updA, R.1 0 (by omega) (by omega) (by omega) (by omega) (by omega)]
    have oth : ∀ z, z ≠ 0 → z ≠ 9 → z ≠ 11 → z ≠ 12 → z ≠ 13 → z ≠ 22 → g5 z = gi z := fun z a0 a1 a2 a3 a4 a5 => by rw [f5 z a0]; exact R.1 z a1 a2 a3 a4 a5
    refine ifF (by decide) ?_
    refine hI e sc.2.2.2.1 k1 g5 l ⟨?_, fun j hj => absurd hj (Nat.not_lt_zero j), ?_, ?_, ?_, cTown_congr (fun b _ _ => oth b (by omega) (by omega) (by omega) (by omega) (by omega) (by omega)) (R.2 4 (by omega)) m6, cAlb_congr V.2.2.2.1.1 (fun z a1 a2 => oth z (by omega) (by omega) (by omega) (by omega) (by omega) (by omega)) m7, fun i hi => cAlb_congr (V.2.2.2.2.2.1 i hi).1 (fun z a1 a2 => oth z (by omega) (by omega) (by omega) (by omega) (by omega) (by omega)) (m8 i hi), (m9.fr (oth 25 (by omega) (by omega) (by omega) (by omega) (by omega) (by omega)) (oth 27 (by omega) (by omega) (by omega) (by omega) (by omega) (by omega))).up⟩ (fun z hz => ⟨oth z (by omega) (by omega) (by omega) (by omega) (by omega) (by omega), R.2 z (by omega)⟩)
    · rw [z0, if_neg (by omega), if_pos rfl]; rfl
    · rw [z0, if_pos rfl]; exact (iI_n e).symm
    · rw [z0, if_neg (by omega), if_neg (by omega)]; exact m4
    · rw [z0, if_neg (by omega), if_neg (by omega)]; exact m5
end DB
