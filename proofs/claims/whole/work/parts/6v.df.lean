/-! THE CLASS, thirty-two: signs of posts and clocks; a sign -/
section DF2
variable {f : Nat → Nat} {n a : Nat} {gi : Gi} {gl : Gl} {Q : Gi → Gl → Prop} {Qi : Int32 → Gi → Gl → Prop} {T : Twn} {P : Pic}
theorem Os.fr {r : (Nat → Int) × Ps} {g : Gi} (h : Os f n P r gi gl Qi) (R : Rs gi g) : Os f n P r g gl Qi := ⟨fun b g' h1 h2 h3 h4 => h.1 b g' h1 h2 h3 (R.tr h4), fun e g' h1 h2 h4 => h.2 e g' h1 h2 (R.tr h4)⟩
theorem Os.two {r : (Nat → Int) × Ps} (h : Os f n P r gi gl Qi) : Os f n P r gi gl (fun v g l => (v = 0 ∨ v = 1) ∧ Qi v g l) := ⟨fun b g' h1 h2 h3 h4 => ⟨Or.inr rfl, h.1 b g' h1 h2 h3 h4⟩, fun e g' h1 h2 h4 => ⟨Or.inl rfl, h.2 e g' h1 h2 h4⟩⟩
theorem Os.iff0 {r : (Nat → Int) × Ps} (h : Os f n P r gi gl Qi) : Os f n P r gi gl (fun v g l => if v = 0 then Qi 0 g l else Qi 1 g l) := ⟨fun b g' h1 h2 h3 h4 => ifF (by decide) (h.1 b g' h1 h2 h3 h4), fun e g' h1 h2 h4 => ifT rfl (h.2 e g' h1 h2 h4)⟩
theorem cTown2_F22 {g : Gi} (h : F22 gi g) (D : cTown T gi gl 2) : cTown T g gl 2 := cTown_congr (fun b _ _ => h b (by omega)) rfl D
theorem naI_rng (vt : vTown T) {k : Nat} (hk : k < 4) : -1 ≤ naI f n T k (.inr a) ∧ naI f n T k (.inr a) ≤ 12 := by
  have hc := cnt4 vt hk
  have lb := lowN_bd (f := fun i => decide (tName T k i = wd f n a)) (tCnt T k)
  rw [← naI_low (f := f) (n := n) (a := a) vt hk] at lb
  omega
theorem s_readsShownTime (m : SC f n a gi) (D : cTown T gi gl 2) (vt : vTown T) (d : cSgn P gi 14) (hP : P.1 ≤ 11) (h : Os f n P (sg5 5 (naV f n T 3 (-1) (.inr a)) (nuV f n 0 719 (naS f n T 3 (-1) (.inr a))) (-1) (-1), nuS f n 0 719 (naS f n T 3 (-1) (.inr a))) gi gl Qi) : p_X7_readsShownTime gi gl Qi := by
  have hb := naI_rng (f := f) (n := n) (a := a) vt (k := 3) (by omega)
  unfold Os at h
  refine v_X7_readsShownTime ?_
  unfold f_X7_readsShownTime
  refine s_takeTold m D vt (k := 3) (by omega) (fun q g1 f1 m1 => ?_) (fun q => ?_)
  · rw [(na_t q).1, (na_t q).2] at h
    refine d_ne (naI f n T 3 (.inr a)) (-1) rfl rfl (by omega) (by omega) (fun _ => ?_) (fun y => by omega)
    refine s_X8_takeNumber (lo := 0) (hi := 719) (by omega) (by omega) m1 (fun w g2 f2 m2 => ?_) (fun w => ?_)
    · have hv := (nuO_hi w).2.1
      rw [(nu_t w).1, (nu_t w).2] at h
      refine v_X7_readsShownTime_26 ?_
      unfold f_X7_readsShownTime_26
      refine d_eq (vl f n (nx f n a) : Int) (-1) (iI_n _).symm rfl (by omega) (by omega) (fun y => by omega) (fun _ => ?_)
      rw [← iI_n (vl f n (nx f n a)), m1_i]
      refine s_addEnd (w := 5) (cSgn_F22 f2 (cSgn_F22 f1 d)) hP m2 (f1.S.tr f2.S) (fun g3 d3 m3 R3 => ?_)
      exact ifF (by decide) (h.1 _ g3 rfl m3 d3 R3)
    · rw [nu_f w] at h
      refine v_X7_readsShownTime_26 ?_
      unfold f_X7_readsShownTime_26
      exact ifT rfl (h.2 _ g1 rfl m1 f1.S)
  · rw [na_f q] at h
    refine ifF (by decide) ?_
    refine v_X7_readsShownTime_26 ?_
    unfold f_X7_readsShownTime_26
    exact ifT rfl (h.2 a gi rfl m Rs.rf)
theorem s_readsShadow (m : SC f n a gi) (D : cTown T gi gl 2) (vt : vTown T) (d : cSgn P gi 14) (hP : P.1 ≤ 11) (h : Os f n P (sg5 4 (naV f n T 2 (-1) (.inr a)) (nuV f n 0 31 (sh1 f n T (.inr a))) (nuV f n 0 31 (sh2 f n T (.inr a))) (giV f n (sh3 f n T (.inr a))), giS f n (sh3 f n T (.inr a))) gi gl Qi) : p_X7_readsShadow gi gl Qi := by
  have hb := naI_rng (f := f) (n := n) (a := a) vt (k := 2) (by omega)
  have e1 : sh1 f n T (.inr a) = naS f n T 2 (-1) (.inr a) := rfl
  have e2 : sh2 f n T (.inr a) = nuS f n 0 31 (sh1 f n T (.inr a)) := rfl
  have e3 : sh3 f n T (.inr a) = nuS f n 0 31 (sh2 f n T (.inr a)) := rfl
  unfold Os at h
  refine v_X7_readsShadow ?_
  unfold f_X7_readsShadow
  refine s_takeTold m D vt (k := 2) (by omega) (fun q g1 f1 m1 => ?_) (fun q => ?_)
  · rw [(na_t q).1] at e1
    rw [e1] at e2
    rw [(na_t q).2, e1] at h
    refine d_ne (naI f n T 2 (.inr a)) (-1) rfl rfl (by omega) (by omega) (fun _ => ?_) (fun y => by omega)
    refine s_X8_takeNumber (lo := 0) (hi := 31) (by omega) (by omega) m1 (fun w g2 f2 m2 => ?_) (fun w => ?_)
    · have hv := (nuO_hi w).2.1
      rw [(nu_t w).1] at e2
      rw [e2] at e3
      rw [(nu_t w).2, e2] at h
      refine v_X7_readsShadow_25 ?_
      unfold f_X7_readsShadow_25
      refine d_ne (vl f n (nx f n a) : Int) (-1) (iI_n _).symm rfl (by omega) (by omega) (fun _ => ?_) (fun y => by omega)
      refine s_X8_takeNumber (lo := 0) (hi := 31) (by omega) (by omega) m2 (fun w2 g3 f3 m3 => ?_) (fun w2 => ?_)
      · have hv2 := (nuO_hi w2).2.1
        rw [(nu_t w2).1] at e3
        rw [(nu_t w2).2, e3] at h
        have gb := giV_bd (f := f) (n := n) (s := .inr (nx f n (nx f n (nx f n a))))
        refine d_ne (vl f n (nx f n (nx f n a)) : Int) (-1) (iI_n _).symm rfl (by omega) (by omega) (fun _ => ?_) (fun y => by omega)
        refine s_X8_takeGive m3 (fun g4 b f4 es m4 => ?_) (fun g4 e f4 es m4 => ?_)
        · refine v_X7_readsShadow_62 ?_
          unfold f_X7_readsShadow_62
          refine d_eq (giV f n (.inr (nx f n (nx f n (nx f n a))))) (-1) rfl rfl (by omega) (by omega) (fun y => by omega) (fun _ => ?_)
          rw [← iI_n (vl f n (nx f n a)), ← iI_n (vl f n (nx f n (nx f n a)))]
          refine s_addEnd (w := 4) (cSgn_F22 f4 (cSgn_F22 f3 (cSgn_F22 f2 (cSgn_F22 f1 d)))) hP m4 (((f1.tr f2).tr f3).tr f4).S (fun g5 d5 m5 R5 => ?_)
          exact ifF (by decide) (h.1 b g5 es m5 d5 R5)
        · refine v_X7_readsShadow_62 ?_
          unfold f_X7_readsShadow_62
          exact ifT rfl (h.2 e g4 es m4 (((f1.tr f2).tr f3).tr f4).S)
      · rw [nu_f w2] at e3
        rw [e3] at h
        refine ifF (by decide) ?_
        refine v_X7_readsShadow_62 ?_
        unfold f_X7_readsShadow_62
        exact ifT rfl (h.2 _ g2 rfl m2 (f1.tr f2).S)
    · rw [nu_f w] at e2
      have e3 : sh3 f n T (.inr a) = .inl (nx f n a) := by rw [e3, e2]; rfl
      rw [e3] at h
      refine v_X7_readsShadow_25 ?_
      unfold f_X7_readsShadow_25
      refine ifF (by decide) ?_
      refine v_X7_readsShadow_62 ?_
      unfold f_X7_readsShadow_62
      exact ifT rfl (h.2 _ g1 rfl m1 f1.S)
  · rw [na_f q] at e1
    have e3 : sh3 f n T (.inr a) = .inl a := by rw [e3, e2, e1]; rfl
    rw [e3] at h
    refine ifF (by decide) ?_
    refine v_X7_readsShadow_25 ?_
    unfold f_X7_readsShadow_25
    refine ifF (by decide) ?_
    refine v_X7_readsShadow_62 ?_
    unfold f_X7_readsShadow_62
    exact ifT rfl (h.2 a gi rfl m Rs.rf)
theorem na_t2 {k : Nat} {but : Int} (h : 0 ≤ naI f n T k (.inr a)) (h2 : naI f n T k (.inr a) ≠ but) : naS f n T k but (.inr a) = .inr (nx f n a) ∧ naV f n T k but (.inr a) = naI f n T k (.inr a) := by
  have e : naO f n T k but (.inr a) = true := by
    unfold naO
    rw [decide_eq_true h, decide_eq_true h2]; rfl
  unfold naS naV
  rw [e]; exact ⟨rfl, rfl⟩
theorem na_f2 {k : Nat} {but : Int} (h : naI f n T k (.inr a) = -1 ∨ naI f n T k (.inr a) = but) : naS f n T k but (.inr a) = .inl a := by
  have e : naO f n T k but (.inr a) = false := by
    unfold naO
    rcases h with h | h
    · rw [h]; rfl
    · rw [decide_eq_false (show ¬ naI f n T k (.inr a) ≠ but from not_not_intro h), Bool.and_false]
  unfold naS
  rw [e]; rfl
theorem s_readsTwoPosts (m : SC f n a gi) (D : cTown T gi gl 2) (vt : vTown T) (d : cSgn P gi 14) (hP : P.1 ≤ 11) {w : Nat} (h : Os f n P (sg5 w (naV f n T 2 (-1) (.inr a)) (naV f n T 2 (naV f n T 2 (-1) (.inr a)) (sh1 f n T (.inr a))) (-1) (-1), naS f n T 2 (naV f n T 2 (-1) (.inr a)) (sh1 f n T (.inr a))) gi gl Qi) : p_X7_readsTwoPosts (nI w) gi gl Qi := by
  have hb := naI_rng (f := f) (n := n) (a := a) vt (k := 2) (by omega)
  have e1 : sh1 f n T (.inr a) = naS f n T 2 (-1) (.inr a) := rfl
  unfold Os at h
  refine v_X7_readsTwoPosts ?_
  unfold f_X7_readsTwoPosts
  refine s_takeTold m D vt (k := 2) (by omega) (fun q g1 f1 m1 => ?_) (fun q => ?_)
  · rw [(na_t q).1] at e1
    rw [(na_t q).2, e1] at h
    have hb2 := naI_rng (f := f) (n := n) (a := nx f n a) vt (k := 2) (by omega)
    have wo := wd_ok (f := f) (n := n) (a := nx f n a)
    refine d_eq (naI f n T 2 (.inr a)) (-1) rfl rfl (by omega) (by omega) (fun y => by omega) (fun _ => ?_)
    refine s_X8_wordHere m1 ?_
    refine s_X10_find zl_2 zk_2 (cTown2_F22 f1 D) vt (k := 2) (by omega) wo.1 wo.2 ?_
    rw [← naI_low (f := f) (n := n) (a := nx f n a) vt (k := 2) (by omega)]
    refine d_ne (naI f n T 2 (.inr (nx f n a))) (naI f n T 2 (.inr a)) rfl rfl (by omega) (by omega) (fun y => ?_) (fun y => ?_)
    · refine s_takeTold m1 (cTown2_F22 f1 D) vt (k := 2) (by omega) (fun q2 g2 f2 m2 => ?_) (fun q2 => ?_)
      · rw [(na_t2 q2 y).1, (na_t2 q2 y).2] at h
        refine d_eq (naI f n T 2 (.inr (nx f n a))) (-1) rfl rfl (by omega) (by omega) (fun y => by omega) (fun _ => ?_)
        rw [← iI_n w, m1_i]
        refine s_addEnd (cSgn_F22 f2 (cSgn_F22 f1 d)) hP m2 (f1.S.tr f2.S) (fun g3 d3 m3 R3 => ?_)
        exact ifF (by decide) (h.1 _ g3 rfl m3 d3 R3)
      · rw [na_f2 (Or.inl q2)] at h
        exact ifT rfl (h.2 _ g1 rfl m1 f1.S)
    · rw [na_f2 (Or.inr y)] at h
      exact h.2 _ g1 rfl m1 f1.S
  · rw [na_f q] at e1
    rw [e1] at h
    exact ifT rfl (h.2 a gi rfl m Rs.rf)
/-- a sign but its end -/
def rsG (f : Nat → Nat) (n : Nat) (T : Twn) (s : Ps) : (Nat → Int) × Ps := if kiS f n s < 0 then (fun _ => 0, erS s) else sgB f n T (kiS f n s) (nxS f n s)
theorem rsG_k {w : Int} (hk : kdW (wd f n a) = w) (hw : 0 ≤ w) : rsG f n T (.inr a) = sgB f n T w (.inr (nx f n a)) := by
  have e : kiS f n (.inr a) = w := hk
  unfold rsG
  rw [e, if_neg (by omega)]; rfl
theorem s_readsSign (m : SC f n a gi) (D : cTown T gi gl 2) (vt : vTown T) (d : cSgn P gi 14) (hP : P.1 ≤ 11) (h : Os f n P (rsG f n T (.inr a)) gi gl Qi) : p_X7_readsSign gi gl Qi := by
  refine v_X7_readsSign ?_
  unfold f_X7_readsSign
  have kw : kdW (wd f n a) = kdW (wd f n a) := rfl
  rw (occs := .pos [2]) [kdW] at kw
  refine s_X8_takes tx_17 m (fun w g fg mg => ?_) (fun w0 => ?_)
  · rw [if_pos w] at kw
    rw [rsG_k kw (by omega)] at h
    unfold sgB at h
    rw [if_pos (by decide)] at h
    refine ifF (by decide) ?_
    exact s_readsNamed (w := 0) (k := 0) mg (cTown2_F22 fg D) vt (cSgn_F22 fg d) hP (by omega) (h.fr fg.S).two
  rw [if_neg w0] at kw
  refine ifT rfl ?_
  refine s_X8_takes tx_18 m (fun w g fg mg => ?_) (fun w1 => ?_)
  · rw [if_pos w] at kw
    rw [rsG_k kw (by omega)] at h
    unfold sgB at h
    rw [if_pos (by decide)] at h
    refine ifF (by decide) ?_
    exact s_readsNamed (w := 1) (k := 0) mg (cTown2_F22 fg D) vt (cSgn_F22 fg d) hP (by omega) (h.fr fg.S).two
  rw [if_neg w1] at kw
  refine ifT rfl ?_
  refine s_X8_takes tx_6 m (fun w g fg mg => ?_) (fun w2 => ?_)
  · rw [if_pos w] at kw
    rw [rsG_k kw (by omega)] at h
    unfold sgB at h
    rw [if_neg (by decide), if_pos (by decide)] at h
    refine ifF (by decide) ?_
    exact s_readsNamed (w := 2) (k := 1) mg (cTown2_F22 fg D) vt (cSgn_F22 fg d) hP (by omega) (h.fr fg.S).two
  rw [if_neg w2] at kw
  refine ifT rfl ?_
  refine s_X8_takes tx_7 m (fun w g fg mg => ?_) (fun w3 => ?_)
  · rw [if_pos w] at kw
    rw [rsG_k kw (by omega)] at h
    unfold sgB at h
    rw [if_neg (by decide), if_pos (by decide)] at h
    refine ifF (by decide) ?_
    exact s_readsNamed (w := 3) (k := 1) mg (cTown2_F22 fg D) vt (cSgn_F22 fg d) hP (by omega) (h.fr fg.S).two
  rw [if_neg w3] at kw
  refine ifT rfl ?_
  refine s_X8_takes tx_19 m (fun w g fg mg => ?_) (fun w4 => ?_)
  · rw [if_pos w] at kw
    rw [rsG_k kw (by omega)] at h
    unfold sgB at h
    rw [if_neg (by decide), if_neg (by decide), if_pos (by decide)] at h
    refine ifF (by decide) ?_
    exact s_readsShadow mg (cTown2_F22 fg D) vt (cSgn_F22 fg d) hP (h.fr fg.S).two
  rw [if_neg w4] at kw
  refine ifT rfl ?_
  refine s_X8_takes tx_9 m (fun w g fg mg => ?_) (fun w5 => ?_)
  · rw [if_pos w] at kw
    rw [rsG_k kw (by omega)] at h
    unfold sgB at h
    rw [if_neg (by decide), if_neg (by decide), if_neg (by decide), if_pos (by decide)] at h
    refine ifF (by decide) ?_
    exact s_readsShownTime mg (cTown2_F22 fg D) vt (cSgn_F22 fg d) hP (h.fr fg.S).two
  rw [if_neg w5] at kw
  refine ifT rfl ?_
  refine s_X8_takes tx_20 m (fun w g fg mg => ?_) (fun w6 => ?_)
  · rw [if_pos w] at kw
    rw [rsG_k kw (by omega)] at h
    unfold sgB at h
    rw [if_neg (by decide), if_neg (by decide), if_neg (by decide), if_neg (by decide), if_pos (by decide)] at h
    refine ifF (by decide) ?_
    exact s_readsNumbered (w := 6) (hi := 6) mg (cSgn_F22 fg d) hP (by omega) (h.fr fg.S).two
  rw [if_neg w6] at kw
  refine ifT rfl ?_
  refine s_X8_takes tx_21 m (fun w g fg mg => ?_) (fun w7 => ?_)
  · rw [if_pos w] at kw
    rw [rsG_k kw (by omega)] at h
    unfold sgB at h
    rw [if_neg (by decide), if_neg (by decide), if_neg (by decide), if_neg (by decide), if_neg (by decide), if_pos (by decide)] at h
    refine ifF (by decide) ?_
    exact s_readsNumbered (w := 7) (hi := 9) mg (cSgn_F22 fg d) hP (by omega) (h.fr fg.S).two
  rw [if_neg w7] at kw
  refine ifT rfl ?_
  refine s_X8_takes tx_22 m (fun w g fg mg => ?_) (fun w8 => ?_)
  · rw [if_pos w] at kw
    rw [rsG_k kw (by omega)] at h
    unfold sgB at h
    rw [if_neg (by decide), if_neg (by decide), if_neg (by decide), if_neg (by decide), if_neg (by decide), if_neg (by decide)] at h
    refine ifF (by decide) ?_
    exact s_readsTwoPosts (w := 8) mg (cTown2_F22 fg D) vt (cSgn_F22 fg d) hP (h.fr fg.S).two
  rw [if_neg w8] at kw
  refine ifT rfl ?_
  refine s_X8_takes tx_23 m (fun w g fg mg => ?_) (fun w9 => ?_)
  · rw [if_pos w] at kw
    rw [rsG_k kw (by omega)] at h
    unfold sgB at h
    rw [if_neg (by decide), if_neg (by decide), if_neg (by decide), if_neg (by decide), if_neg (by decide), if_neg (by decide)] at h
    refine ifF (by decide) ?_
    exact s_readsTwoPosts (w := 9) mg (cTown2_F22 fg D) vt (cSgn_F22 fg d) hP (h.fr fg.S).iff0
  rw [if_neg w9] at kw
  have er : rsG f n T (.inr a) = (fun _ => 0, .inl a) := by
    have e : kiS f n (.inr a) = -1 := kw
    unfold rsG
    rw [e, if_pos (by decide)]; rfl
  rw [er] at h
  exact ifT rfl (h.2 a gi rfl m Rs.rf)
end DF2
