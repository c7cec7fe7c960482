/-! THE REFERENCE, twenty-three: town -/
def cd8 (x : Int32) : Nat := x.toBitVec.toNat % 256
theorem cd8_and (x : Int32) : x &&& 255 = nI (cd8 x) := by
  apply Int32.toBitVec.inj
  show x.toBitVec &&& (255 : BitVec 32) = BitVec.ofNat 32 (cd8 x)
  apply BitVec.eq_of_toNat_eq
  rw [BitVec.toNat_and, BitVec.toNat_ofNat]
  unfold cd8
  show x.toBitVec.toNat &&& 255 = _
  rw [show (255 : Nat) = 2 ^ 8 - 1 by rfl, Nat.and_two_pow_sub_one_eq_mod]
  omega
theorem cd8_lt (x : Int32) : cd8 x < 256 := Nat.mod_lt _ (by omega)
/-- the characters on the tape -/
def fT (σ : Sta) (j : Nat) : Nat := cd8 (sTape σ j)
/-- a text was read: ill, well -/
def dIll (σ : Sta) (e : Int) : Sta := (0, sTape σ, e, sTowns σ, sTown σ, sShown σ, sKept σ, sKeep σ)
def dTown (σ : Sta) (T : Twn) : Sta := (0, sTape σ, -1, sTowns σ + 1, T, (0, (sShown σ).2.1, fun _ => 1), 0, sKeep σ)
def psE : Ps → Int
  | .inl e => e
  | .inr _ => -1
theorem mDr_T {T : Twn} {G : Gi} {L : Gl} {q : Nat} (D : mDr T G L q) (h5 : G 335 q = nI (tCnt T 5)) : mTown T G L q := by
  obtain ⟨d1, d2, d3⟩ := D
  refine ⟨fun k hk => ?_, fun k hk i hi => (d2 k hk i hi).1, fun j hj i hi => ?_, fun j hj i hi => ?_, fun j hj i hi => ?_, fun j hj i hi => ?_, d3⟩
  · by_cases y : k = 5
    · subst y; exact h5
    · exact d1 k (by omega)
  · exact (d2 0 (by omega) i hi).2 j hj
  · exact (d2 1 (by omega) i hi).2 j hj
  · exact (d2 2 (by omega) i hi).2 j hj
  · exact (d2 3 (by omega) i hi).2 j hj
theorem mTown_half {T : Twn} {G G' : Gi} {L L' : Gl} {p q : Nat} (vt : vTown T) (hp : p < 2) (hq : q < 2) (hpq : p ≠ q) (H : Half q G L G' L') (m : mTown T G L p) : mTown T G' L' p := by
  obtain ⟨m1, m2, m3, m4, m5, m6, m7⟩ := m
  have c0 : tCnt T 0 ≤ 12 := vt.1 0 (by omega)
  have c1 : tCnt T 1 ≤ 6 := vt.1 1 (by omega)
  have c2 : tCnt T 2 ≤ 10 := vt.1 2 (by omega)
  have c3 : tCnt T 3 ≤ 4 := vt.1 3 (by omega)
  have c4 : tCnt T 4 ≤ 40 := vt.1 4 (by omega)
  have hl := vt.2.2.1
  have hpq' : (p = 0 ∧ q = 1) ∨ (p = 1 ∧ q = 0) := by omega
  have key : ∀ z j w i, 330 ≤ z → z ≤ 354 → wdt z = w → j = w * p + i → i < w → G' z j = G z j := by
    intro z j w i h1 h2 hw hj hi
    refine H.2.1 z h1 h2 j ?_
    rw [hw]
    rcases hpq' with ⟨rfl, rfl⟩ | ⟨rfl, rfl⟩ <;> omega
  have keyL : ∀ z j w i, 336 ≤ z → z ≤ 339 → wdt z = w → j = w * p + i → i < w → L' z j = L z j := by
    intro z j w i h1 h2 hw hj hi
    refine H.2.2.2 z h1 h2 j ?_
    rw [hw]
    rcases hpq' with ⟨rfl, rfl⟩ | ⟨rfl, rfl⟩ <;> omega
  refine ⟨fun k hk => ?_, fun k hk i hi => ?_, fun j hj i hi => ?_, fun j hj i hi => ?_, fun j hj i hi => ?_, fun j hj i hi => ?_, fun r w hw => ?_⟩
  · rw [key (330 + k) p 1 0 (by omega) (by omega) (by unfold wdt; rw [if_pos (by omega)]) (by omega) (by omega)]; exact m1 k hk
  · have hm : (k = 0 ∧ most k = 12) ∨ (k = 1 ∧ most k = 6) ∨ (k = 2 ∧ most k = 10) ∨ (k = 3 ∧ most k = 4) := by
      rcases (show k = 0 ∨ k = 1 ∨ k = 2 ∨ k = 3 by omega) with rfl | rfl | rfl | rfl <;> simp [most]
    have hi2 := vt.1 k (by omega)
    rw [keyL (336 + k) _ (most k) i (by omega) (by omega) (by rcases hm with ⟨rfl, -⟩ | ⟨rfl, -⟩ | ⟨rfl, -⟩ | ⟨rfl, -⟩ <;> decide) rfl (by omega)]; exact m2 k hk i hi
  · rw [key (340 + j) _ 12 i (by omega) (by omega) (by rcases (show j = 0 ∨ j = 1 ∨ j = 2 ∨ j = 3 by omega) with rfl | rfl | rfl | rfl <;> decide) rfl (by omega)]; exact m3 j hj i hi
  · rw [key (344 + j) _ 6 i (by omega) (by omega) (by rcases (show j = 0 ∨ j = 1 by omega) with rfl | rfl <;> decide) rfl (by omega)]; exact m4 j hj i hi
  · rw [key (346 + j) _ 10 i (by omega) (by omega) (by rcases (show j = 0 ∨ j = 1 ∨ j = 2 by omega) with rfl | rfl | rfl <;> decide) rfl (by omega)]; exact m5 j hj i hi
  · rw [key (349 + j) _ 4 i (by omega) (by omega) (by rcases (show j = 0 ∨ j = 1 by omega) with rfl | rfl <;> decide) rfl (by omega)]; exact m6 j hj i hi
  · have hr := (List.getElem?_eq_some_iff.mp hw).1
    rw [key 351 _ 40 r (by omega) (by omega) (by decide) rfl (by omega), key 352 _ 40 r (by omega) (by omega) (by decide) rfl (by omega), key 353 _ 40 r (by omega) (by omega) (by decide) rfl (by omega), key 354 _ 40 r (by omega) (by omega) (by decide) rfl (by omega)]
    exact m7 r w hw
section KP
variable {f : Nat → Nat} {n : Nat} {s : Ps} {G : Gi} {L : Gl} {B : Nat → Int32} {gi : Gi} {gl : Gl}
variable {Qv : Gi → Gl → Prop} {Qi : Int32 → Gi → Gl → Prop} {T : Twn} {q : Nat}
theorem mDr_St (D : mDr T G L q) : mDr (addSt T) G L q := by
  obtain ⟨d1, d2, d3⟩ := D
  refine ⟨fun k hk => ?_, fun k hk i hi => ?_, d3⟩
  · show _ = nI (if k = 5 then _ else T.1 k)
    rw [if_neg (by omega)]; exact d1 k hk
  · have hi : i < (if k = 5 then T.1 k + 1 else T.1 k) := hi
    rw [if_neg (by omega)] at hi
    exact d2 k hk i hi
theorem k_town : ∀ k T s G L gi gl, K f n s G L B gi gl → B 45 = nI q → q < 2 → mDr T G L q → (isR s = true → vTown T) → (isR s = true → tCnt T 5 + k = 61) → ∀ c, (isR s = true → c = nI (tCnt T 5)) →
    (∀ gi' gl' G' L' c, K f n (tnL f n k T s).2 G' L' B gi' gl' → mDr (tnL f n k T s).1 G' L' q → Half q G L G' L' → (isR (tnL f n k T s).2 = true → c = nI (tCnt (tnL f n k T s).1 5)) → p_X12_town_119 c gi' gl' Qi) → p_X12_town_82 c gi gl Qi := by
  intro k
  induction k with
  | zero =>
    intro T s G L gi gl h hB hq D vt h5 c hc kk
    refine v_X12_town_82 ?_
    unfold f_X12_town_82
    cases s with
    | inl e =>
      have kk := kk gi gl G L c h D Half.rf hc
      by_cases y : gi 329 41 = 0
      · exact ifT y kk
      · refine ifF y ?_
        rw [h.l]
        exact ifT (by decide) kk
    | inr a =>
      have hR : isR (Sum.inr a : Ps) = true := rfl
      have := (vt hR).1 5 (by omega)
      have h5 := h5 hR
      have : tCnt T 5 ≤ 60 := this
      omega
  | succ k ih =>
    intro T s G L gi gl h hB hq D vt h5 c hc kk
    have e : tnL f n (k + 1) T s = if enS n s then (T, s) else if k = 0 then (T, erS s) else tnL f n k (addSt (rdStat f n T s).1) (rdStat f n T s).2 := rfl
    rw [e] at kk
    refine v_X12_town_82 ?_
    unfold f_X12_town_82
    cases s with
    | inl e0 =>
      have kk := kk gi gl G L c h D Half.rf hc
      by_cases y : gi 329 41 = 0
      · exact ifT y kk
      · refine ifF y ?_
        rw [h.l]
        exact ifT (by decide) kk
    | inr a =>
      have hR : isR (Sum.inr a : Ps) = true := rfl
      have vt := vt hR
      have h5 := h5 hR
      rw [hc hR]
      obtain ⟨u44, u41, -, -⟩ := h.r
      have hk := kd_cases f n a
      rw [u41, u44]
      refine c_eq (kd f n a) 0 rfl rfl (by omega) (by omega) (fun y => ?_) (fun y => ?_)
      · have ye : enS n (Sum.inr a) = true := decide_eq_true (kd_0.1 y)
        simp only [ye, if_true] at kk
        exact kk gi gl G L _ h D Half.rf (fun _ => rfl)
      · have ye : enS n (Sum.inr a) = false := decide_eq_false (fun z => y (kd_0.2 z))
        simp only [ye, Bool.false_eq_true, if_false] at kk
        refine ifF (by decide) ?_
        have c5 : tCnt T 5 ≤ 60 := vt.1 5 (by omega)
        refine c_ne (tCnt T 5) 60 rfl rfl (by omega) (by omega) (fun z => ?_) (fun z => ?_)
        · rw [if_neg (by omega)] at kk
          refine k_readStatement h hB hq D vt (fun g1 l1 G' L' h1 D1 H1 => ?_)
          rw [nI_1]
          have e5 : tCnt (addSt (rdStat f n T (Sum.inr a)).1) 5 = tCnt T 5 + 1 := by
            show (rdStat f n T (Sum.inr a)).1.1 5 + 1 = _
            have := rdStat_5 (f := f) (n := n) (s := Sum.inr a) (T := T)
            have this : (rdStat f n T (Sum.inr a)).1.1 5 = T.1 5 := this
            rw [this]
          refine ih _ _ G' L' g1 l1 h1 hB hq (mDr_St D1) (fun hr => v_addSt (v_rdStat vt hr) (by rw [rdStat_5]; omega)) (fun _ => by rw [e5]; omega) _ (fun _ => by rw [e5]) (fun g2 l2 G2 L2 c2 h2 D2 H2 hc2 => kk g2 l2 G2 L2 c2 h2 D2 (H1.tr H2) hc2)
        · rw [if_pos (by omega)] at kk
          refine k_errs h (fun g1 l1 h1 => ?_)
          have kk := kk g1 l1 G L (nI (tCnt T 5) + 1) h1 D Half.rf (fun hr => by rw [isR_er] at hr; cases hr)
          have h1 : K f n (.inl a) G L B g1 l1 := h1
          refine v_X12_town_82 ?_
          unfold f_X12_town_82
          by_cases y : g1 329 41 = 0
          · exact ifT y kk
          · refine ifF y ?_
            rw [h1.l]
            exact ifT (by decide) kk
end KP
theorem wt_loop {Qi : Int32 → Gi → Gl → Prop} {c : Int32} {gi : Gi} {gl : Gl} (h : ∀ g, (∀ z, z ≠ 362 → g z = gi z) → (∀ j, j < 12 → g 362 j = 1) → (∀ j, 12 ≤ j → g 362 j = gi 362 j) → Qi c g gl) : p_X12_town_170 c 0 gi gl Qi := by
  refine dn (P := fun k => ∀ g, (∀ z, z ≠ 362 → g z = gi z) → (∀ j, j < k → g 362 j = 1) → (∀ j, 12 ≤ j → g 362 j = gi 362 j) → p_X12_town_170 c (nI k) g gl Qi) (N := 12) ?_ ?_ 0 (by omega) gi (fun _ _ => rfl) (fun _ y => by omega) (fun _ _ => rfl)
  · intro g e1 e2 e3
    refine v_X12_town_170 ?_
    unfold f_X12_town_170
    exact ifT (by decide) (h g e1 e2 e3)
  · intro k hk ih g e1 e2 e3
    refine v_X12_town_170 ?_
    unfold f_X12_town_170
    refine c_le 12 k rfl rfl (by omega) (by omega) (fun y => by omega) (fun _ => ⟨vp_nI (by omega) (by omega), ?_⟩)
    rintro g2 rfl
    rw [nI_cl (by omega), nI_1]
    refine ih _ (fun z hz => by rw [uI_n hz]; exact e1 z hz) (fun j hj => ?_) (fun j hj => by rw [uI_s, updA, if_neg (by omega)]; exact e3 j hj)
    rw [uI_s, updA]
    by_cases y : j = k
    · rw [if_pos y]
    · rw [if_neg y]; exact e2 j (by omega)
theorem MI.tp {σ : Sta} {gi : Gi} {gl : Gl} (V : vSta σ) (m : MI σ gi gl) {n : Nat} (hn : n ≤ sN_ σ) : tpR (fT σ) n gi := ⟨by have := V.1; omega, fun j hj => by rw [m.2.1 j (by omega), cd8_and]; exact ⟨rfl, cd8_lt _⟩⟩
theorem k_begins {σ : Sta} {gi : Gi} {gl : Gl} {Qv : Gi → Gl → Prop} (V : vSta σ) (m : MI σ gi gl) {n : Nat} (hn : n ≤ sN_ σ)
    (h : ∀ gi' gl' B, K (fT σ) n (.inr (skp (fT σ) n 0)) gi gl B gi' gl' → (∀ k, k ≠ 36 ∧ k ≠ 37 ∧ k ≠ 38 ∧ k ≠ 39 ∧ k ≠ 40 ∧ k ≠ 41 ∧ k ≠ 42 ∧ k ≠ 44 → B k = gi 329 k) → B 36 = 0 → Qv gi' gl') : p_X12_beginsText (nI n) gi gl Qv := by
  have ht := m.tp V hn
  refine v_X12_beginsText ?_
  unfold f_X12_beginsText
  rintro g1 rfl g2 rfl g3 rfl g4 rfl g5 e5
  have o : ∀ z, z ≠ 329 → g5 z = gi z := fun z hz => by rw [e5, uI_n hz, uI_n hz, uI_n hz, uI_n hz, uI_n hz]
  refine s_X12_nextAt (f := fT σ) (n := n) (p := 0) (Nat.zero_le _) ⟨ht.1, fun j hj => by rw [o 363 (by omega)]; exact ht.2 j hj⟩ ?_ ?_ ?_ ?_ (fun g6 l6 hS F => ?_)
  · rw [e5]; simp [fl]
  · rw [e5]; simp [fl]; rfl
  · rw [e5]; simp [fl]
  · rw [e5]; simp [fl]
  · refine h g6 l6 (fun k => g5 329 k) ⟨hS, fun z hz => (F.1 z hz).trans (o z hz), F.2.2, fun k hk => F.2.1 k hk⟩ (fun k hk => ?_) ?_
    · show g5 329 k = _
      rw [e5, fl, if_neg (by omega), fl, if_neg (by omega), fl, if_neg (by omega), fl, if_neg (by omega), fl, if_neg (by omega)]
    · show g5 329 36 = 0
      rw [e5]; simp [fl]
theorem neg_of {x : Int32} (h : ¬ x < 0) : 0 ≤ x.toInt := by rw [lt_toInt] at h; have : ((0 : Int32).toInt) = 0 := rfl; omega
theorem m_town {σ : Sta} {x : Int32} {gi : Gi} {gl : Gl} {Q : Int32 → Gi → Gl → Prop} (V : vSta σ) (m : MI σ gi gl)
    (h2 : (x.toInt < 0 ∨ (sN_ σ : Int) < x.toInt) → Q (-2) gi gl)
    (hI : ∀ n, n ≤ sN_ σ → x = nI n → ∀ e, (rdTown (fT σ) n).2 = .inl e → ∀ gi' gl', MI (dIll σ e) gi' gl' → FrM gi gl gi' gl' → Q (-1) gi' gl')
    (hW : ∀ n, n ≤ sN_ σ → x = nI n → isR (rdTown (fT σ) n).2 = true → ∀ gi' gl', MI (dTown σ (rdTown (fT σ) n).1) gi' gl' → FrM gi gl gi' gl' → Q (nI (tCnt (rdTown (fT σ) n).1 5)) gi' gl') : p_X12_town x gi gl Q := by
  have V1 := V.1
  obtain ⟨m1, m2, m3, m4, m5, ⟨p, hp, m6, m7⟩, m8, m9, m10, m11⟩ := id m
  refine v_X12_town ?_
  unfold f_X12_town
  rw [m1]
  by_cases y1 : x < 0
  · refine ifT y1 (h2 (Or.inl ?_))
    rw [lt_toInt] at y1; exact y1
  refine ifF y1 ?_
  have hx0 := neg_of y1
  have hxe := int_of hx0 rfl
  generalize hn : x.toInt.toNat = n at *
  by_cases y2 : x ≤ nI (sN_ σ)
  · refine ifT y2 ?_
    have hnl : n ≤ sN_ σ := by
      rw [le_toInt, nI_tI (by omega)] at y2; omega
    have hI := hI n hnl hxe
    have hW := hW n hnl hxe
    rw [hxe]
    refine k_begins V m hnl (fun g1 l1 B h1 hB1 hB36 => ?_)
    have b0 : g1 329 0 = nI p := (h1.2.2.2 0 (by omega)).trans ((hB1 0 (by omega)).trans m6)
    obtain ⟨q, hq, hqe, hpq⟩ : ∃ q, q < 2 ∧ (1 : Int32) - nI p = nI q ∧ p ≠ q := by
      rcases (show p = 0 ∨ p = 1 by omega) with rfl | rfl
      · exact ⟨1, by omega, by decide, by omega⟩
      · exact ⟨0, by omega, by decide, by omega⟩
    rw [b0, hqe]
    intro g3 e3
    have h3 : K (fT σ) n (.inr (skp (fT σ) n 0)) gi gl (fun k => if k = 45 then nI q else B k) g3 l1 := by
      obtain ⟨s1, s2, s3, s4⟩ := h1
      refine ⟨?_, fun z hz => by rw [e3, uI_n hz]; exact s2 z hz, s3, fun k hk => by rw [e3, fl]; by_cases z : k = 45 <;> simp [z]; exact s4 k hk⟩
      obtain ⟨t1, t2, t3, t4, t5, t6, t7, t8, t9, t10⟩ := s1
      have o : ∀ j, j ≠ 45 → g3 329 j = g1 329 j := fun j hj => by rw [e3, fl, if_neg hj]
      exact ⟨⟨t1.1, fun j hj => by rw [e3, uI_n (by omega)]; exact t1.2 j hj⟩, t2, by rw [o _ (by omega)]; exact t3, by rw [o _ (by omega)]; exact t4, by rw [o _ (by omega)]; exact t5, by rw [o _ (by omega)]; exact t6, by rw [o _ (by omega)]; exact t7, by rw [o _ (by omega)]; exact t8, t9, fun z => by rw [o _ (by omega)]; exact t10 z⟩
    have hB45 : (fun k => if k = 45 then nI q else B k) 45 = nI q := rfl
    generalize hBB : (fun k => if k = 45 then nI q else B k) = B' at *
    have hBo : ∀ k, k ≠ 45 → B' k = B k := fun k hk => by rw [← hBB]; simp [hk]
    clear e3
    have hv : vp_in (nI q) 2 := vp_nI hq (by omega)
    have b3 := h3.b hB45
    rw [b3, nI_cl (by omega)]
    refine ⟨hv, ?_⟩
    intro g4 e4
    have h4 := h3.wr e4 (by omega) (by omega)
    rw [h4.b hB45, nI_cl (by omega)]
    refine ⟨hv, ?_⟩
    intro g5 e5
    have h5 := h4.wr e5 (by omega) (by omega)
    rw [h5.b hB45, nI_cl (by omega)]
    refine ⟨hv, ?_⟩
    intro g6 e6
    have h6 := h5.wr e6 (by omega) (by omega)
    rw [h6.b hB45, nI_cl (by omega)]
    refine ⟨hv, ?_⟩
    intro g7 e7
    have h7 := h6.wr e7 (by omega) (by omega)
    rw [h7.b hB45, nI_cl (by omega)]
    refine ⟨hv, ?_⟩
    intro g8 e8
    have h8 := h7.wr e8 (by omega) (by omega)
    clear e4 e5 e6 e7 e8
    have H0 : Half q gi gl (pt (pt (pt (pt (pt gi 330 q 0) 331 q 0) 332 q 0) 333 q 0) 334 q 0) gl := (((((Half.rf.w (c := 330) (i := q) (by omega) (by simp [wdt])).w (c := 331) (i := q) (by omega) (by simp [wdt])).w (c := 332) (i := q) (by omega) (by simp [wdt])).w (c := 333) (i := q) (by omega) (by simp [wdt])).w (c := 334) (i := q) (by omega) (by simp [wdt]))
    have D0 : mDr T0 (pt (pt (pt (pt (pt gi 330 q 0) 331 q 0) 332 q 0) 333 q 0) 334 q 0) gl q := by
      refine ⟨fun k hk => ?_, fun k hk i hi => absurd hi (Nat.not_lt_zero i), fun r w hw => by cases hw⟩
      rcases (show k = 0 ∨ k = 1 ∨ k = 2 ∨ k = 3 ∨ k = 4 by omega) with rfl | rfl | rfl | rfl | rfl <;> simp [pt_at] <;> rfl
    refine k_town 61 T0 _ _ _ g8 l1 h8 hB45 hq D0 (fun _ => v_T0) (fun _ => rfl) 0 (fun _ => rfl) (fun g9 l9 G' L' c h9 D9 H9 hc9 => ?_)
    have H := H0.tr H9
    have ew : tnL (fT σ) n 61 T0 (.inr (skp (fT σ) n 0)) = rdTown (fT σ) n := rfl
    rw [ew] at h9 D9 hc9
    have fB : ∀ k, k ≠ 36 ∧ k ≠ 37 ∧ k ≠ 38 ∧ k ≠ 39 ∧ k ≠ 40 ∧ k ≠ 41 ∧ k ≠ 42 ∧ k ≠ 44 ∧ k ≠ 45 → g9 329 k = gi 329 k := fun k hk => by
      rw [h9.2.2.2 k (by omega), hBo k (by omega), hB1 k (by omega)]
    have f36 : g9 329 36 = 0 := by rw [h9.2.2.2 36 (by omega), hBo 36 (by omega), hB36]
    have cell : ∀ z, z < 330 ∨ 354 < z → z ≠ 329 → g9 z = gi z := fun z hz hz2 => by rw [h9.2.1 z hz2, H.1 z hz]
    have cellL : ∀ z, z < 336 ∨ 339 < z → z ≠ 329 → l9 z = gl z := fun z hz hz2 => by rw [h9.2.2.1 z hz2, H.2.2.1 z hz]
    have FR : FrM gi gl g9 l9 := fun z hz => ⟨cell z (by omega) (by omega), cellL z (by omega) (by omega)⟩
    refine v_X12_town_119 ?_
    unfold f_X12_town_119
    refine h9.w (fun a ha => ?_) (fun e he => ?_)
    · have hR : isR (rdTown (fT σ) n).2 = true := by rw [ha]; rfl
      have hW := hW hR
      have hc9 := hc9 hR
      have b9 := h9.b hB45
      rw [b9, nI_cl (by omega)]
      refine ⟨hv, ?_⟩
      intro ga ea gb eb gc ec gd ed ge' ee
      have b9a : ga 329 45 = nI q := by rw [ea, uI_n (by omega)]; exact b9
      rw [b9a] at eb
      have hTt := v_rdTown hR
      have c5 := hTt.1 5 (by omega)
      have x1 : gb 329 1 = nI (sTowns σ) := by rw [eb, fl, if_neg (by omega), ea, uI_n (by omega), fB 1 (by omega)]; exact m4
      rw [x1, nI_1] at ec
      rw [cl0] at ed
      have o : ∀ z, z ≠ 329 → z ≠ 335 → z ≠ 355 → ge' z = g9 z := fun z h1 h2 h3 => by rw [ee, uI_n h1, ed, uI_n h3, ec, uI_n h1, eb, uI_n h1, ea, uI_n h2]
      have o2 : ∀ k, k ≠ 0 → k ≠ 1 → k ≠ 67 → ge' 329 k = g9 329 k := fun k h1 h2 h3 => by rw [ee, fl, if_neg h3, ed, uI_n (by omega), ec, fl, if_neg h2, eb, fl, if_neg h1, ea, uI_n (by omega)]
      refine wt_loop (fun gf e1 e2 e3 => ?_)
      rw [hc9]
      refine hW gf l9 ⟨?_, fun j hj => absurd hj (Nat.not_lt_zero j), ?_, ?_, ?_, ⟨q, hq, ?_, mDr_T (T := (rdTown (fT σ) n).1) ?_ ?_⟩, ⟨?_, fun i hi => absurd hi (Nat.not_lt_zero i), fun j hj => ?_⟩, fun i hi => absurd hi (Nat.not_lt_zero i), ?_, ?_⟩ (fun z hz => ⟨by rw [e1 z (by omega), o z (by omega) (by omega) (by omega)]; exact (FR z hz).1, (FR z hz).2⟩)
      · rw [e1 _ (by omega), o2 36 (by omega) (by omega) (by omega)]; exact f36
      · rw [e1 _ (by omega), o2 37 (by omega) (by omega) (by omega)]
        have hs := h9.1
        rw [ha] at hs
        exact hs.2.2.2.2.2.2.2.1
      · rw [e1 _ (by omega), ee, fl, if_neg (by omega), ed, uI_n (by omega), ec, fl, if_pos rfl]; rfl
      · rw [e1 _ (by omega), ee, fl, if_pos rfl]; rfl
      · rw [e1 _ (by omega), ee, fl, if_neg (by omega), ed, uI_n (by omega), ec, fl, if_neg (by omega), eb, fl, if_pos rfl]
      · obtain ⟨d1, d2, d3⟩ := D9
        have gG : ∀ z, 330 ≤ z → z ≤ 354 → z ≠ 335 → gf z = G' z := fun z h1 h2 h3 => by rw [e1 z (by omega), o z (by omega) (by omega) (by omega), h9.2.1 z (by omega)]
        refine ⟨fun k hk => by rw [gG _ (by omega) (by omega) (by omega)]; exact d1 k hk, fun k hk i hi => ⟨by rw [h9.2.2.1 _ (by omega)]; exact (d2 k hk i hi).1, fun j hj => ?_⟩, fun r w hw => by rw [gG _ (by omega) (by omega) (by omega), gG _ (by omega) (by omega) (by omega), gG _ (by omega) (by omega) (by omega), gG _ (by omega) (by omega) (by omega)]; exact d3 r w hw⟩
        have : 340 ≤ colB k + j ∧ colB k + j ≤ 350 := by
          rcases cols hk hj with ⟨rfl, rfl⟩ | ⟨rfl, rfl⟩ | ⟨rfl, rfl⟩ | ⟨rfl, rfl⟩ | ⟨rfl, rfl⟩ | ⟨rfl, rfl⟩ | ⟨rfl, rfl⟩ | ⟨rfl, rfl⟩ | ⟨rfl, rfl⟩ | ⟨rfl, rfl⟩ | ⟨rfl, rfl⟩ <;> simp [colB]
        rw [gG _ (by omega) (by omega) (by omega)]; exact (d2 k hk i hi).2 j hj
      · rw [e1 _ (by omega), ee, uI_n (by omega), ed, uI_n (by omega), ec, uI_n (by omega), eb, uI_n (by omega), ea, uI_s, upd_s, hc9]
      · rw [e1 _ (by omega), ee, uI_n (by omega), ed, uI_s, upd_s]; rfl
      · rw [e2 _ (by omega)]; rfl
      · rw [e1 _ (by omega), o2 49 (by omega) (by omega) (by omega), fB 49 (by omega)]; exact m10
      · rw [e1 _ (by omega), o2 50 (by omega) (by omega) (by omega), fB 50 (by omega)]; exact m11
    · refine hI e he g9 l9 ⟨f36, fun j hj => absurd hj (Nat.not_lt_zero j), ?_, ?_, ?_, ⟨p, hp, ?_, ?_⟩, mAlb_congr (fun c _ _ => cell c (by omega) (by omega)) m8, fun i hi => mAlb_congr (fun c _ _ => cell c (by omega) (by omega)) (m9 i hi), ?_, ?_⟩ FR
      · have hs := h9.1
        rw [he] at hs
        rw [hs.2.1, ← iI_n]; rfl
      · rw [fB 1 (by omega)]; exact m4
      · rw [fB 67 (by omega)]; exact m5
      · rw [fB 0 (by omega)]; exact m6
      · have := mTown_half V.2.2.1 hp hq hpq H m7
        exact mTown_congrL (fun b h1 h2 => h9.2.1 b (by omega)) (fun b h1 h2 => h9.2.2.1 b (by omega)) this
      · rw [fB 49 (by omega)]; exact m10
      · rw [fB 50 (by omega)]; exact m11
  · refine ifF y2 (h2 (Or.inr ?_))
    rw [le_toInt, nI_tI (by omega)] at y2; omega
