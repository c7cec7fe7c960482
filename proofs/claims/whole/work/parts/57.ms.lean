/-! THE REFERENCE, twenty-four: pictures -/
theorem mT_Dr {T : Twn} {G : Gi} {L : Gl} {p : Nat} (m : mTown T G L p) : mDr T G L p := by
  obtain ⟨m1, m2, m3, m4, m5, m6, m7⟩ := m
  refine ⟨fun k hk => m1 k (by omega), fun k hk i hi => ⟨m2 k hk i hi, fun j hj => ?_⟩, m7⟩
  rcases cols hk hj with ⟨rfl, rfl⟩ | ⟨rfl, rfl⟩ | ⟨rfl, rfl⟩ | ⟨rfl, rfl⟩ | ⟨rfl, rfl⟩ | ⟨rfl, rfl⟩ | ⟨rfl, rfl⟩ | ⟨rfl, rfl⟩ | ⟨rfl, rfl⟩ | ⟨rfl, rfl⟩ | ⟨rfl, rfl⟩
  · exact m3 0 (by omega) i hi
  · exact m3 1 (by omega) i hi
  · exact m3 2 (by omega) i hi
  · exact m3 3 (by omega) i hi
  · exact m4 0 (by omega) i hi
  · exact m4 1 (by omega) i hi
  · exact m5 0 (by omega) i hi
  · exact m5 1 (by omega) i hi
  · exact m5 2 (by omega) i hi
  · exact m6 0 (by omega) i hi
  · exact m6 1 (by omega) i hi
/-- only one sign is written -/
def One (i : Nat) (G G' : Gi) : Prop := (∀ z, (z < 357 ∨ 361 < z) → G' z = G z) ∧ ∀ z, 357 ≤ z → z ≤ 361 → ∀ j, j ≠ i → G' z j = G z j
theorem One.rf {i : Nat} {G : Gi} : One i G G := ⟨fun _ _ => rfl, fun _ _ _ _ _ => rfl⟩
theorem One.w {i : Nat} {G G' : Gi} (h : One i G G') {c : Nat} {v : Int32} (h1 : 357 ≤ c ∧ c ≤ 361) : One i G (pt G' c i v) := ⟨fun z y => by rw [pt_n (by omega)]; exact h.1 z y, fun z u w j y => by rw [pt_at, if_neg (fun k => y k.2)]; exact h.2 z u w j y⟩
theorem mTown_one {T : Twn} {i : Nat} {G G' : Gi} {L : Gl} {p : Nat} (o : One i G G') (m : mTown T G L p) : mTown T G' L p := mTown_congr (fun b _ _ => o.1 b (by omega)) m
section KS
variable {f : Nat → Nat} {n : Nat} {s : Ps} {G : Gi} {L : Gl} {B : Nat → Int32} {gi : Gi} {gl : Gl}
variable {Qv : Gi → Gl → Prop} {Qi : Int32 → Gi → Gl → Prop} {T : Twn} {p : Nat}
theorem naO_ir {k a : Nat} {but : Int} : naI f n T k (.inr a) = if wd f n a = [] then -1 else lowN (fun i => decide (tName T k i = wd f n a)) (tCnt T k) := rfl
theorem k_named {k : Nat} (hk : k < 4) (h : K f n s G L B gi gl) (hp : p < 2) (mt : mTown T G L p) (vt : vTown T) {but : Int} {b0 : Int32} (hb : b0 = iI but) (hbut : -1 ≤ but ∧ but ≤ 100)
    (kk : ∀ gi' gl', K f n (naS f n T k but s) G L B gi' gl' → Qi (iI (naV f n T k but s)) gi' gl') : p_X12_named (336 + k) (nI (most k * p)) (nI (tCnt T k)) b0 gi gl Qi := by
  subst hb
  have hsK : sK (336 + k) = 101 := by rcases (show k = 0 ∨ k = 1 ∨ k = 2 ∨ k = 3 by omega) with rfl | rfl | rfl | rfl <;> decide +kernel
  have hNN : 336 + k < NN := by show 336 + k < 377; omega
  have c9 : tCnt T k ≤ 12 := by
    have := vt.1 k (by omega)
    rcases (show k = 0 ∨ k = 1 ∨ k = 2 ∨ k = 3 by omega) with rfl | rfl | rfl | rfl <;> simp [most] at this <;> omega
  have hI := naI_bd (f := f) (n := n) (s := s) (T := T) (k := k)
  have k40 : (∃ a, s = .inr a) → p_X12_named_40 (336 + k) (iI but) (iI (naI f n T k s)) gi gl Qi := by
    intro hr
    refine v_X12_named_40 hNN hsK ?_
    unfold f_X12_named_40
    unfold naS naV at kk
    refine d_lt (naI f n T k s) 0 rfl rfl (by omega) (by omega) (fun y => ?_) (fun y => ?_)
    · have e : naO f n T k but s = false := by unfold naO; simp; omega
      simp only [e, Bool.false_eq_true, if_false] at kk
      exact k_errs h kk
    · refine d_ne (naI f n T k s) but rfl rfl (by omega) (by omega) (fun z => ?_) (fun z => ?_)
      · have e : naO f n T k but s = true := by unfold naO; simp; exact ⟨y, z⟩
        simp only [e, if_true] at kk
        exact k_next h hr kk
      · have e : naO f n T k but s = false := by unfold naO; simp [z]
        simp only [e, Bool.false_eq_true, if_false] at kk
        exact k_errs h kk
  refine v_X12_named hNN hsK ?_
  unfold f_X12_named
  cases s with
  | inl e =>
    rw [h.l]
    exact ifF (by decide) (kk gi gl h)
  | inr a =>
    obtain ⟨h44, h41, h43, -⟩ := h.r
    have ok := wd_ok (f := f) (n := n) (a := a)
    have hkd := kd_cases f n a
    have k40 := k40 ⟨a, rfl⟩
    rw [h44, h41]
    refine ifT rfl ?_
    refine c_ne (kd f n a) 1 rfl rfl (by omega) (by omega) (fun z => ?_) (fun z => ?_)
    · have : wd f n a = [] := by
        apply Classical.byContradiction
        intro y; exact z (wd_kd y)
      rw [naO_ir (but := 0), if_pos this] at k40
      exact k40
    · rw [h43]
      by_cases w0 : wd f n a = []
      · refine ifT (by rw [w0]; decide) ?_
        rw [naO_ir (but := 0), if_pos w0] at k40
        exact k40
      · have hpp := pk_pos ok.1 w0
        have hlt : pk 27 (wd f n a) < 27 ^ 8 := by
          rcases pkW_lt _ ok.1 with y | y
          · exact Nat.lt_of_lt_of_le y (Nat.pow_le_pow_right (by omega) ok.2)
          · exact absurd y w0
        have etx : txW (wd f n a) = ((pk 27 (wd f n a) : Nat) : Int) := by unfold txW; rw [if_neg w0]
        rw [etx]
        refine ifF (by rw [show (0 : Int64) = iL 0 by rfl, iL_le (by omega) (by omega)]; omega) ?_
        refine k_find h hp (mT_Dr mt) vt hk ⟨ok.1, ok.2, w0⟩ ?_
        rw [naO_ir (but := 0), if_neg w0] at k40
        exact k40
theorem K.b0 (h : K f n s G L B gi gl) (hB : B 0 = nI p) : gi 329 0 = nI p := (h.2.2.2 0 (by omega)).trans hB
theorem k_thingHere (h : K f n s G L B gi gl) (hB : B 0 = nI p) (hp : p < 2) (mt : mTown T G L p) (vt : vTown T) (kk : ∀ gi' gl', K f n (naS f n T 0 (-1) s) G L B gi' gl' → Qi (iI (naV f n T 0 (-1) s)) gi' gl') : p_X12_thingHere gi gl Qi := by
  refine v_X12_thingHere ?_
  unfold f_X12_thingHere
  rw [h.b0 hB, nI_cl (by omega), show gi 330 p = nI (tCnt T 0) by rw [h.2.1 _ (by omega)]; exact mt.1 0 (by omega), show (12 : Int32) * nI p = nI (12 * p) from pk_mul 12 p]
  exact ⟨vp_nI hp (by omega), k_named (k := 0) (by omega) h hp mt vt (but := -1) (by decide) (by omega) kk⟩
theorem k_treeHere (h : K f n s G L B gi gl) (hB : B 0 = nI p) (hp : p < 2) (mt : mTown T G L p) (vt : vTown T) (kk : ∀ gi' gl', K f n (naS f n T 1 (-1) s) G L B gi' gl' → Qi (iI (naV f n T 1 (-1) s)) gi' gl') : p_X12_treeHere gi gl Qi := by
  refine v_X12_treeHere ?_
  unfold f_X12_treeHere
  rw [h.b0 hB, nI_cl (by omega), show gi 331 p = nI (tCnt T 1) by rw [h.2.1 _ (by omega)]; exact mt.1 1 (by omega), show (6 : Int32) * nI p = nI (6 * p) from pk_mul 6 p]
  exact ⟨vp_nI hp (by omega), k_named (k := 1) (by omega) h hp mt vt (but := -1) (by decide) (by omega) kk⟩
theorem k_postHere (h : K f n s G L B gi gl) (hB : B 0 = nI p) (hp : p < 2) (mt : mTown T G L p) (vt : vTown T) {but : Int} {b0 : Int32} (hb : b0 = iI but) (hbut : -1 ≤ but ∧ but ≤ 100) (kk : ∀ gi' gl', K f n (naS f n T 2 but s) G L B gi' gl' → Qi (iI (naV f n T 2 but s)) gi' gl') : p_X12_postHere b0 gi gl Qi := by
  refine v_X12_postHere ?_
  unfold f_X12_postHere
  rw [h.b0 hB, nI_cl (by omega), show gi 332 p = nI (tCnt T 2) by rw [h.2.1 _ (by omega)]; exact mt.1 2 (by omega), show (10 : Int32) * nI p = nI (10 * p) from pk_mul 10 p]
  exact ⟨vp_nI hp (by omega), k_named (k := 2) (by omega) h hp mt vt hb hbut kk⟩
theorem k_kindHere (h : K f n s G L B gi gl) (k : Qi (iI (kiS f n s)) gi gl) : p_X12_kindHere gi gl Qi := by
  refine v_X12_kindHere ?_
  unfold f_X12_kindHere
  cases s with
  | inl e =>
    rw [h.l]
    exact ifT (by decide) k
  | inr a =>
    obtain ⟨h44, h41, h43, -⟩ := h.r
    have ok := wd_ok (f := f) (n := n) (a := a)
    have hkd := kd_cases f n a
    have k : Qi (iI (kdW (wd f n a))) gi gl := k
    rw [h44, h41]
    refine ifF (by decide) ?_
    refine c_eq (kd f n a) 1 rfl rfl (by omega) (by omega) (fun z => ?_) (fun z => ?_)
    · unfold kdW at k
      refine kw2 h43 ok.1 ok.2 gStands (by decide +kernel) (fun q0 => ?_) (fun q => by rw [if_pos q] at k; exact k)
      rw [if_neg q0] at k
      refine kw2 h43 ok.1 ok.2 gLacks (by decide +kernel) (fun q1 => ?_) (fun q => by rw [if_pos q] at k; exact k)
      rw [if_neg q1] at k
      refine kw2 h43 ok.1 ok.2 gLeaf (by decide +kernel) (fun q2 => ?_) (fun q => by rw [if_pos q] at k; exact k)
      rw [if_neg q2] at k
      refine kw2 h43 ok.1 ok.2 gBare (by decide +kernel) (fun q3 => ?_) (fun q => by rw [if_pos q] at k; exact k)
      rw [if_neg q3] at k
      refine kw2 h43 ok.1 ok.2 gShadow (by decide +kernel) (fun q4 => ?_) (fun q => by rw [if_pos q] at k; exact k)
      rw [if_neg q4] at k
      refine kw2 h43 ok.1 ok.2 gClock (by decide +kernel) (fun q5 => ?_) (fun q => by rw [if_pos q] at k; exact k)
      rw [if_neg q5] at k
      refine kw2 h43 ok.1 ok.2 gWeek (by decide +kernel) (fun q6 => ?_) (fun q => by rw [if_pos q] at k; exact k)
      rw [if_neg q6] at k
      refine kw2 h43 ok.1 ok.2 gYear (by decide +kernel) (fun q7 => ?_) (fun q => by rw [if_pos q] at k; exact k)
      rw [if_neg q7] at k
      refine kw2 h43 ok.1 ok.2 gBefore (by decide +kernel) (fun q8 => ?_) (fun q => by rw [if_pos q] at k; exact k)
      rw [if_neg q8] at k
      refine kw2 h43 ok.1 ok.2 gLeft (by decide +kernel) (fun q9 => ?_) (fun q => by rw [if_pos q] at k; exact k)
      rw [if_neg q9] at k
      exact k
    · have : wd f n a = [] := by
        apply Classical.byContradiction
        intro y; exact z (wd_kd y)
      rw [this] at k
      exact k
theorem ltI {a b : Int} (ha : -2147483648 ≤ a ∧ a < 2147483648) (hb : -2147483648 ≤ b ∧ b < 2147483648) : (iI a < iI b) ↔ a < b := iI_lt ha hb
theorem sg5_5 {w a b c d : Int} {j : Nat} (hj : j < 5) : (j = 0 ∧ sg5 w a b c d j = w) ∨ (j = 1 ∧ sg5 w a b c d j = a) ∨ (j = 2 ∧ sg5 w a b c d j = b) ∨ (j = 3 ∧ sg5 w a b c d j = c) ∨ (j = 4 ∧ sg5 w a b c d j = d) := by
  rcases (show j = 0 ∨ j = 1 ∨ j = 2 ∨ j = 3 ∨ j = 4 by omega) with rfl | rfl | rfl | rfl | rfl <;> simp [sg5]
theorem k_readSign {x k : Nat} (hx : x < 8) (hk : k ≤ 12) (h : K f n s G L B gi gl) (hB : B 0 = nI p) (hp : p < 2) (mt : mTown T G L p) (vt : vTown T)
    (kk : ∀ gi' gl' G', K f n (rdSign f n T k s).2 G' L B gi' gl' → (One (12 * x + k) G G' ∧ (k = 12 → G' = G)) → (isR (rdSign f n T k s).2 = true → ∀ w, w < 5 → G' (357 + w) (12 * x + k) = iI ((rdSign f n T k s).1 w)) → Qv gi' gl') : p_X12_readSign (nI x) (nI k) gi gl Qv := by
  have kb := kiS_bd (f := f) (n := n) (s := s)
  refine v_X12_readSign ?_
  unfold f_X12_readSign
  rintro z1 rfl
  rw [show (12 : Int32) * nI x = nI (12 * x) from pk_mul 12 x, nI_add]
  refine k_kindHere h ?_
  unfold rdSign at kk
  have bad : (kiS f n s < 0 ∨ k = 12) → ∀ gi' gl', K f n (erS s) G L B gi' gl' → Qv gi' gl' := by
    intro y gi' gl' h'
    rw [if_pos y] at kk
    exact kk gi' gl' G h' ⟨One.rf, fun _ => rfl⟩ (fun q => by have q : isR (erS s) = true := q; rw [isR_er] at q; cases q)
  refine d_lt (kiS f n s) 0 rfl rfl (by omega) (by omega) (fun y => k_errs h (bad (Or.inl y))) (fun y => ?_)
  refine c_ne k 12 rfl rfl (by omega) (by omega) (fun y2 => ?_) (fun y2 => k_errs h (bad (Or.inr y2)))
  rw [if_neg (by omega)] at kk
  have hr : ∃ a, s = .inr a := by
    cases s with
    | inl e => exact absurd y (by decide : ¬ (0 : Int) ≤ -1)
    | inr a => exact ⟨a, rfl⟩
  generalize hw : kiS f n s = w at *
  have hv : vp_in (nI (12 * x + k)) 480 := vp_nI (by omega) (by omega)
  have hc : (nI (12 * x + k)).toNatClampNeg = 12 * x + k := nI_cl (by omega)
  have c2 : tCnt T 2 ≤ 10 := vt.1 2 (by omega)
  refine k_next h hr (fun g1 l1 h1 => ?_)
  rw [hc]
  generalize nxS f n s = s1 at *
  generalize hi : 12 * x + k = i at *
  refine ⟨hv, ?_⟩
  intro g9 e9
  have h9 := h1.wr e9 (by omega) (by omega)
  refine ⟨hv, ?_⟩
  intro g10 e10
  have h10 := h9.wr e10 (by omega) (by omega)
  refine ⟨hv, ?_⟩
  intro g11 e11
  have h11 := h10.wr e11 (by omega) (by omega)
  refine ⟨hv, ?_⟩
  intro g12 e12
  have h12 := h11.wr e12 (by omega) (by omega)
  clear e9 e10 e11 e12
  have o12 : One i G (pt (pt (pt (pt G 357 i (iI w)) 359 i (-1)) 360 i (-1)) 361 i (-1)) := ((((One.rf.w (c := 357) (by omega)).w (c := 359) (by omega)).w (c := 360) (by omega)).w (c := 361) (by omega))
  have mt12 := mTown_one (L := L) (p := p) o12 mt
  unfold sgB at kk
  refine d_lt 1 w rfl rfl (by omega) (by omega) (fun a1 => ?_) (fun a1 => ?_)
  · rw [if_neg (by omega)] at kk
    refine d_lt 3 w rfl rfl (by omega) (by omega) (fun a3 => ?_) (fun a3 => ?_)
    · rw [if_neg (by omega)] at kk
      refine d_ne w 4 rfl rfl (by omega) (by omega) (fun a4 => ?_) (fun a4 => ?_)
      · rw [if_neg a4] at kk
        refine d_ne w 5 rfl rfl (by omega) (by omega) (fun a5 => ?_) (fun a5 => ?_)
        · rw [if_neg a5] at kk
          refine d_lt 7 w rfl rfl (by omega) (by omega) (fun a7 => ?_) (fun a7 => ?_)
          · rw [if_neg (by omega), if_neg (by omega)] at kk
            have vb := naV_bd (f := f) (n := n) (s := s1) (T := T) (k := 2) (but := -1)
            refine k_postHere h12 hB hp mt12 vt (but := -1) (by decide) (by omega) (fun g13 l13 h13 => ⟨hv, ?_⟩)
            intro g16 e16
            have h16 := h13.wr e16 (by omega) (by omega)
            have e358 : g16 358 i = iI (naV f n T 2 (-1) s1) := by rw [h16.2.1 _ (by omega)]; simp [pt_at]
            rw [e358]
            refine ⟨hv, ?_⟩
            refine k_postHere h16 hB hp (mTown_one (o12.w (c := 358) (by omega)) mt) vt (but := naV f n T 2 (-1) s1) rfl (by omega) (fun g17 l17 h17 => ⟨hv, ?_⟩)
            intro g20 e20
            have h20 := h17.wr e20 (by omega) (by omega)
            refine k_semicolon h20 (fun g21 l21 h21 => kk g21 l21 _ h21 ⟨((o12.w (c := 358) (by omega)).w (c := 359) (by omega)), fun z => absurd z y2⟩ (fun _ j hj => ?_))
            rcases (show j = 0 ∨ j = 1 ∨ j = 2 ∨ j = 3 ∨ j = 4 by omega) with rfl | rfl | rfl | rfl | rfl <;> simp [pt_at, sg5, iI_m1] <;> rfl
          · refine d_ne w 6 rfl rfl (by omega) (by omega) (fun a6 => ?_) (fun a6 => ?_)
            · rw [if_neg a6, if_pos (by omega)] at kk
              refine k_numeral (lo := 0) (hi := 9) h12 rfl rfl (by omega) (by omega) (fun g23 l23 h23 => ⟨hv, ?_⟩)
              intro g26 e26
              have h26 := h23.wr e26 (by omega) (by omega)
              refine k_semicolon h26 (fun g27 l27 h27 => kk g27 l27 _ h27 ⟨(o12.w (c := 358) (by omega)), fun z => absurd z y2⟩ (fun _ j hj => ?_))
              rcases (show j = 0 ∨ j = 1 ∨ j = 2 ∨ j = 3 ∨ j = 4 by omega) with rfl | rfl | rfl | rfl | rfl <;> simp [pt_at, sg5, iI_m1]
            · rw [if_pos a6] at kk
              refine k_numeral (lo := 0) (hi := 6) h12 rfl rfl (by omega) (by omega) (fun g23 l23 h23 => ⟨hv, ?_⟩)
              intro g26 e26
              have h26 := h23.wr e26 (by omega) (by omega)
              refine k_semicolon h26 (fun g27 l27 h27 => kk g27 l27 _ h27 ⟨(o12.w (c := 358) (by omega)), fun z => absurd z y2⟩ (fun _ j hj => ?_))
              rcases (show j = 0 ∨ j = 1 ∨ j = 2 ∨ j = 3 ∨ j = 4 by omega) with rfl | rfl | rfl | rfl | rfl <;> simp [pt_at, sg5, iI_m1]
        · rw [if_pos a5] at kk
          rw [h12.b0 hB, nI_cl (show p < 2147483648 by omega), show g12 333 p = nI (tCnt T 3) by rw [h12.2.1 _ (by omega)]; exact mt12.1 3 (by omega), show (4 : Int32) * nI p = nI (4 * p) from pk_mul 4 p]
          refine ⟨vp_nI hp (by omega), k_named (k := 3) (by omega) h12 hp mt12 vt (but := -1) (by decide) (by omega) (fun g35 l35 h35 => ⟨hv, ?_⟩)⟩
          intro g38 e38
          have h38 := h35.wr e38 (by omega) (by omega)
          refine k_numeral (lo := 0) (hi := 719) h38 rfl rfl (by omega) (by omega) (fun g39 l39 h39 => ⟨hv, ?_⟩)
          intro g42 e42
          have h42 := h39.wr e42 (by omega) (by omega)
          refine k_semicolon h42 (fun g43 l43 h43 => kk g43 l43 _ h43 ⟨((o12.w (c := 358) (by omega)).w (c := 359) (by omega)), fun z => absurd z y2⟩ (fun _ j hj => ?_))
          rcases (show j = 0 ∨ j = 1 ∨ j = 2 ∨ j = 3 ∨ j = 4 by omega) with rfl | rfl | rfl | rfl | rfl <;> simp [pt_at, sg5, iI_m1]
      · rw [if_pos a4] at kk
        refine k_postHere h12 hB hp mt12 vt (but := -1) (by decide) (by omega) (fun g45 l45 h45 => ⟨hv, ?_⟩)
        intro g48 e48
        have h48 := h45.wr e48 (by omega) (by omega)
        refine k_numeral (lo := 0) (hi := 31) h48 rfl rfl (by omega) (by omega) (fun g49 l49 h49 => ⟨hv, ?_⟩)
        intro g52 e52
        have h52 := h49.wr e52 (by omega) (by omega)
        refine k_numeral (lo := 0) (hi := 31) h52 rfl rfl (by omega) (by omega) (fun g53 l53 h53 => ⟨hv, ?_⟩)
        intro g56 e56
        have h56 := h53.wr e56 (by omega) (by omega)
        refine k_givenHere h56 (fun g57 l57 h57 => ⟨hv, ?_⟩)
        intro g60 e60
        have h60 := h57.wr e60 (by omega) (by omega)
        refine k_semicolon h60 (fun g61 l61 h61 => kk g61 l61 _ h61 ⟨((((o12.w (c := 358) (by omega)).w (c := 359) (by omega)).w (c := 360) (by omega)).w (c := 361) (by omega)), fun z => absurd z y2⟩ (fun _ j hj => ?_))
        rcases (show j = 0 ∨ j = 1 ∨ j = 2 ∨ j = 3 ∨ j = 4 by omega) with rfl | rfl | rfl | rfl | rfl <;> simp [pt_at, sg5, sh1, sh2, sh3]
    · rw [if_pos (by omega)] at kk
      refine k_treeHere h12 hB hp mt12 vt (fun g63 l63 h63 => ⟨hv, ?_⟩)
      intro g66 e66
      have h66 := h63.wr e66 (by omega) (by omega)
      refine k_semicolon h66 (fun g67 l67 h67 => kk g67 l67 _ h67 ⟨(o12.w (c := 358) (by omega)), fun z => absurd z y2⟩ (fun _ j hj => ?_))
      rcases (show j = 0 ∨ j = 1 ∨ j = 2 ∨ j = 3 ∨ j = 4 by omega) with rfl | rfl | rfl | rfl | rfl <;> simp [pt_at, sg5, iI_m1]
  · rw [if_pos (by omega)] at kk
    refine k_thingHere h12 hB hp mt12 vt (fun g63 l63 h63 => ⟨hv, ?_⟩)
    intro g66 e66
    have h66 := h63.wr e66 (by omega) (by omega)
    refine k_semicolon h66 (fun g67 l67 h67 => kk g67 l67 _ h67 ⟨(o12.w (c := 358) (by omega)), fun z => absurd z y2⟩ (fun _ j hj => ?_))
    rcases (show j = 0 ∨ j = 1 ∨ j = 2 ∨ j = 3 ∨ j = 4 by omega) with rfl | rfl | rfl | rfl | rfl <;> simp [pt_at, sg5, iI_m1]
/-- signs from k0 on are written -/
def Ons (x k0 : Nat) (G G' : Gi) : Prop := (∀ z, (z < 357 ∨ 361 < z) → G' z = G z) ∧ ∀ z, 357 ≤ z → z ≤ 361 → ∀ j, ¬ (12 * x + k0 ≤ j ∧ j < 12 * x + 12) → G' z j = G z j
theorem k_signs {x : Nat} (hx : x < 8) (hB : B 0 = nI p) (hp : p < 2) (vt : vTown T) : ∀ m (P : Pic) s G gi gl k0, K f n s G L B gi gl → mTown T G L p → (isR s = true → P.1 ≤ 12 ∧ P.1 + m = 13 ∧ k0 ≤ P.1) → (isR s = true → ∀ k, k < P.1 → ∀ w, w < 5 → G (357 + w) (12 * x + k) = iI (P.2 k w)) → ∀ c, (isR s = true → c = nI P.1) →
    (∀ gi' gl' G', K f n (sgL f n T m P s).2 G' L B gi' gl' → Ons x k0 G G' → (isR (sgL f n T m P s).2 = true → ∀ k, k < (sgL f n T m P s).1.1 → ∀ w, w < 5 → G' (357 + w) (12 * x + k) = iI ((sgL f n T m P s).1.2 k w)) → Qi (if isR (sgL f n T m P s).2 then nI (sgL f n T m P s).1.1 else -1) gi' gl') → p_X12_readSigns_13 (nI x) c gi gl Qi := by
  intro m
  induction m with
  | zero =>
    intro P s G gi gl k0 h mt hP hG c hc kk
    refine v_X12_readSigns_13 ?_
    unfold f_X12_readSigns_13
    cases s with
    | inr a => have := hP rfl; omega
    | inl e =>
      have kk := kk gi gl G h ⟨fun _ _ => rfl, fun _ _ _ _ _ => rfl⟩ (fun y => by cases y)
      have kk : Qi (-1) gi gl := kk
      by_cases y : gi 329 41 = 0
      · refine ifT y ?_
        rw [h.l]; exact ifF (by decide) kk
      · refine ifF y ?_
        rw [h.l]; exact ifT (by decide) (ifF (by decide) kk)
  | succ m ih =>
    intro P s G gi gl k0 h mt hP hG c hc kk
    have e : sgL f n T (m + 1) P s = if enS n s then (P, s) else sgL f n T m (sgA f n T P s) (rdSign f n T P.1 s).2 := rfl
    rw [e] at kk
    refine v_X12_readSigns_13 ?_
    unfold f_X12_readSigns_13
    cases s with
    | inl e0 =>
      have kk := kk gi gl G h ⟨fun _ _ => rfl, fun _ _ _ _ _ => rfl⟩ (fun y => by cases y)
      have kk : Qi (-1) gi gl := kk
      by_cases y : gi 329 41 = 0
      · refine ifT y ?_
        rw [h.l]; exact ifF (by decide) kk
      · refine ifF y ?_
        rw [h.l]; exact ifT (by decide) (ifF (by decide) kk)
    | inr a =>
      have hR : isR (Sum.inr a : Ps) = true := rfl
      obtain ⟨hP1, hP2, hP3⟩ := hP hR
      have hG := hG hR
      rw [hc hR]
      obtain ⟨u44, u41, -, -⟩ := h.r
      have hk := kd_cases f n a
      rw [u41, u44]
      refine c_eq (kd f n a) 0 rfl rfl (by omega) (by omega) (fun y => ?_) (fun y => ?_)
      · have ye : enS n (Sum.inr a) = true := decide_eq_true (kd_0.1 y)
        simp only [ye, if_true] at kk
        have kk := kk gi gl G h ⟨fun _ _ => rfl, fun _ _ _ _ _ => rfl⟩ (fun _ => hG)
        exact ifT rfl kk
      · have ye : enS n (Sum.inr a) = false := decide_eq_false (fun z => y (kd_0.2 z))
        simp only [ye, Bool.false_eq_true, if_false] at kk
        refine ifF (by decide) ?_
        refine k_readSign hx hP1 h hB hp mt vt (fun g1 l1 G1 h1 o1 s1 => ?_)
        rw [nI_1]
        refine ih _ _ G1 g1 l1 k0 h1 (mTown_one o1.1 mt) (fun hr => ?_) (fun hr k hk w hw => ?_) _ (fun _ => rfl) (fun g2 l2 G2 h2 o2 s2 => kk g2 l2 G2 h2 ⟨fun z hz => (o2.1 z hz).trans (o1.1.1 z hz), fun z a b j hj => (o2.2 z a b j hj).trans (by
          by_cases y12 : P.1 = 12
          · rw [o1.2 y12]
          · exact o1.1.2 z a b j (by omega))⟩ s2)
        · have := v_rdSign hr
          show P.1 + 1 ≤ 12 ∧ P.1 + 1 + m = 13 ∧ k0 ≤ P.1 + 1
          omega
        · have hk : k < P.1 + 1 := hk
          show _ = iI ((if k = P.1 then (rdSign f n T P.1 (Sum.inr a)).1 else P.2 k) w)
          by_cases z : k = P.1
          · rw [if_pos z, z]; exact s1 hr w hw
          · rw [if_neg z, o1.1.2 _ (by omega) (by omega) _ (by omega)]; exact hG k (by omega) w hw
end KS
