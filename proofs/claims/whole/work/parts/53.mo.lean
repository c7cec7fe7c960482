/-! THE REFERENCE, twenty-two: suns, statements -/
theorem rowsOf_add {T : Twn} {r : Nat × Nat × Int × Int} {m : Nat} : rowsOf (addSun T r) m = rowsOf T m ++ (if r.1 = m then [r] else []) := by
  unfold rowsOf addSun
  show (tSun T ++ [r]).filter _ = _
  rw [List.filter_append]
  congr 1
  by_cases h : r.1 = m
  · rw [if_pos h, List.filter_cons_of_pos (by simpa using h)]; rfl
  · rw [if_neg h, List.filter_cons_of_neg (by simpa using h)]; rfl
theorem lastMin_bd {T : Twn} (vt : vTown T) {m : Nat} : -1 ≤ lastMin T m ∧ lastMin T m < 720 := by
  unfold lastMin
  cases h : (rowsOf T m).getLast? with
  | none => exact ⟨by decide, by decide⟩
  | some r =>
    have hm : r ∈ rowsOf T m := List.mem_of_getLast? h
    have := vt.2.2.2.2.2.2.2.1 r (mem_rows hm).1
    exact ⟨by show (-1 : Int) ≤ (r.2.1 : Nat); omega, by show ((r.2.1 : Nat) : Int) < 720; omega⟩
section KO
variable {f : Nat → Nat} {n : Nat} {s : Ps} {G : Gi} {L : Gl} {B : Nat → Int32} {gi : Gi} {gl : Gl}
variable {Qv : Gi → Gl → Prop} {Qi : Int32 → Gi → Gl → Prop} {T : Twn} {q : Nat}
theorem k_falls {u w : List Nat} {v1 v2 : Int64} (h : K f n s G L B gi gl) (hu : goodW u) (hw : goodW w) (e1 : v1 = iL ((pk 27 u : Nat) : Int)) (e2 : v2 = iL ((pk 27 w : Nat) : Int)) (k : ∀ gi' gl', K f n (faS f n u w s) G L B gi' gl' → Qi (iI (faV f n u w s)) gi' gl') : p_X12_falls v1 v2 gi gl Qi := by
  refine v_X12_falls ?_
  unfold f_X12_falls
  unfold faS faV at k
  have go : ∀ b : Bool, (∃ a, s = .inr a) → (∀ gi' gl', K f n (nuS f n 0 99 (nxS f n s)) G L B gi' gl' → Qi (iI (if b then nuV f n 0 99 (nxS f n s) else -(nuV f n 0 99 (nxS f n s)))) gi' gl') → p_X12_falls_26 (b2i b) gi gl Qi := by
    intro b hr kb
    refine v_X12_falls_26 ?_
    unfold f_X12_falls_26
    refine k_next h hr (fun g1 l1 h1 => ?_)
    refine k_numeral (lo := 0) (hi := 99) h1 rfl rfl (by omega) (by omega) (fun g2 l2 h2 => ?_)
    have kb := kb g2 l2 h2
    refine c_b (fun y => ?_) (fun y => ?_)
    · rw [y] at kb
      rw [iI_neg]; exact kb
    · rw [y] at kb; exact kb
  refine k_is h hu e1 ?_
  refine c_nb (fun y => ?_) (fun y => ?_)
  · rw [y]
    simp only [y, if_true] at k
    exact go true (isW_r y) k
  · simp only [y, Bool.false_eq_true, if_false] at k
    refine k_is h hw e2 ?_
    rw [y]
    refine c_nb (fun z => ?_) (fun z => ?_)
    · simp only [z, if_true] at k
      exact go false (isW_r z) k
    · simp only [z, Bool.false_eq_true, if_false] at k
      exact k_errs h (fun g1 l1 h1 => k g1 l1 h1)
theorem k_lastMinute (h : K f n s G L B gi gl) (hB : B 45 = nI q) (hq : q < 2) (D : mDr T G L q) (vt : vTown T) {m : Nat} (hm : m < 12) (k : Qi (iI (lastMin T m)) gi gl) : p_X12_lastMinute (nI m) gi gl Qi := by
  have h45 := h.b hB
  have c4 : tCnt T 4 ≤ 40 := vt.1 4 (by omega)
  have hl := vt.2.2.1
  have cnt : gi 334 q = nI (tSun T).length := by rw [h.2.1 _ (by omega), hl]; exact D.1 4 (by omega)
  have sun : ∀ {j : Nat} {r : Nat × Nat × Int × Int}, (tSun T)[j]? = some r → gi 351 (40 * q + j) = nI r.1 ∧ gi 352 (40 * q + j) = nI r.2.1 := fun hj => by
    have := D.2.2 _ _ hj
    rw [h.2.1 _ (by omega), h.2.1 _ (by omega)]; exact ⟨this.1, this.2.1⟩
  have lp : ∀ c j (v : Int), j + c = (tSun T).length → v = (match (((tSun T).take j).filter (fun r => r.1 == m)).getLast? with | none => -1 | some r => ((r.2.1 : Nat) : Int)) → p_X12_lastMinute_10 (nI m) (iI v) (nI (40 * q + j)) gi gl Qi := by
    intro c
    induction c with
    | zero =>
      intro j v hj hv
      refine v_X12_lastMinute_10 ?_
      unfold f_X12_lastMinute_10
      rw [h45, nI_cl (show q < 2147483648 by omega), cnt, show (40 : Int32) * nI q = nI (40 * q) from pk_mul 40 q, nI_add]
      refine ⟨vp_nI hq (by omega), ifT (by rw [nI_leI (by omega) (by omega)]; omega) ?_⟩
      rw [show j = (tSun T).length by omega, List.take_length] at hv
      rw [hv]; exact k
    | succ c ih =>
      intro j v hj hv
      have hlt : j < (tSun T).length := by omega
      have gj := List.getElem?_eq_getElem hlt
      obtain ⟨s1, s2⟩ := sun gj
      have vr := vt.2.2.2.2.2.2.2.1 _ (List.getElem_mem hlt)
      have tk := take_s hlt
      have ih := ih (j + 1)
      rw [tk, List.filter_append] at ih
      generalize (tSun T)[j] = r at *
      refine v_X12_lastMinute_10 ?_
      unfold f_X12_lastMinute_10
      rw [h45, nI_cl (show q < 2147483648 by omega), cnt, show (40 : Int32) * nI q = nI (40 * q) from pk_mul 40 q, nI_add]
      refine ⟨vp_nI hq (by omega), ?_⟩
      refine c_le (40 * q + (tSun T).length) (40 * q + j) rfl rfl (by omega) (by omega) (fun y => by omega) (fun _ => ?_)
      have vj : vp_in (nI (40 * q + j)) 80 := vp_nI (by omega) (by omega)
      rw [nI_cl (show 40 * q + j < 2147483648 by omega), s1, s2, nI_1, Nat.add_assoc]
      refine ⟨vj, ?_⟩
      refine c_ne r.1 m rfl rfl (by omega) (by omega) (fun y => ?_) (fun y => ⟨vj, ?_⟩)
      · refine ih v (by omega) ?_
        rw [List.filter_cons_of_neg (by simpa using y), List.filter_nil, List.append_nil]; exact hv
      · rintro z1 rfl
        rw [← iI_n r.2.1]
        refine ih _ (by omega) ?_
        rw [List.filter_cons_of_pos (by simpa using y), List.filter_nil, List.getLast?_append]
        rfl
  refine v_X12_lastMinute ?_
  unfold f_X12_lastMinute
  rintro z1 rfl
  rw [h45, show (40 : Int32) * nI q = nI (40 * q) from pk_mul 40 q]
  exact lp (tSun T).length 0 (-1) (by omega) (by simp)
theorem faV_bd {u w : List Nat} : -99 ≤ faV f n u w s ∧ faV f n u w s ≤ 99 := by
  have := nuV_bd (f := f) (n := n) (s := nxS f n s) (lo := 0) (hi := 99) (by omega) (by omega)
  unfold faV
  split
  · omega
  · split <;> omega
theorem isR_er : isR (erS s) = false := by cases s <;> rfl
theorem isR_mu {w : List Nat} (h : isR (muS f n w s) = true) : isR s = true := by cases s <;> first | rfl | cases h
theorem isR_nu {lo hi : Int} (h : isR (nuS f n lo hi s) = true) : isR s = true ∧ lo ≤ nuV f n lo hi s ∧ nuV f n lo hi s ≤ hi := by
  cases s with
  | inl e => cases h
  | inr a =>
    unfold nuS at h
    cases hO : nuO f n lo hi (.inr a) with
    | false => rw [hO] at h; cases h
    | true =>
      refine ⟨rfl, ?_⟩
      rw [nuV_r, hO, if_pos rfl]
      unfold nuO at hO
      simp at hO
      exact hO.2
theorem isR_gi (h : isR (giS f n s) = true) : isR s = true := by
  cases s with
  | inl e => cases h
  | inr a => rfl
theorem isR_sm (h : isR (smS f n s) = true) : isR s = true := by cases s <;> first | rfl | cases h
theorem isR_fa {u w : List Nat} (h : isR (faS f n u w s) = true) : isR s = true := by cases s <;> first | rfl | cases h
theorem isR_er' {s' : Ps} (h : isR (if s' = s' then erS s else s) = true) : False := by rw [if_pos rfl, isR_er] at h; cases h
theorem mDr_sun {G' : Gi} {r : Nat × Nat × Int × Int} (D : mDr T G L q) (vt : vTown T)
    (e1 : ∀ c, c < 5 → G' (330 + c) q = if c = 4 then nI (tCnt T 4 + 1) else G (330 + c) q) (e2 : ∀ c, 340 ≤ c → c ≤ 350 → G' c = G c)
    (e3 : G' 351 = fun i => if i = 40 * q + tCnt T 4 then nI r.1 else G 351 i) (e4 : G' 352 = fun i => if i = 40 * q + tCnt T 4 then nI r.2.1 else G 352 i)
    (e5 : G' 353 = fun i => if i = 40 * q + tCnt T 4 then iI r.2.2.1 else G 353 i) (e6 : G' 354 = fun i => if i = 40 * q + tCnt T 4 then iI r.2.2.2 else G 354 i) : mDr (addSun T r) G' L q := by
  obtain ⟨d1, d2, d3⟩ := D
  have ec : ∀ c, tCnt (addSun T r) c = if c = 4 then tCnt T c + 1 else tCnt T c := fun c => rfl
  have hl := vt.2.2.1
  refine ⟨fun c hc => ?_, fun c hc i hi => ⟨?_, fun j hj => ?_⟩, fun k w hw => ?_⟩
  · rw [e1 c hc, ec]
    by_cases y : c = 4
    · subst y; rfl
    · rw [if_neg y, if_neg y]; exact d1 c hc
  · rw [ec, if_neg (by omega)] at hi
    exact (d2 c hc i hi).1
  · rw [ec, if_neg (by omega)] at hi
    have : 340 ≤ colB c + j ∧ colB c + j ≤ 350 := by
      rcases cols hc hj with ⟨rfl, rfl⟩ | ⟨rfl, rfl⟩ | ⟨rfl, rfl⟩ | ⟨rfl, rfl⟩ | ⟨rfl, rfl⟩ | ⟨rfl, rfl⟩ | ⟨rfl, rfl⟩ | ⟨rfl, rfl⟩ | ⟨rfl, rfl⟩ | ⟨rfl, rfl⟩ | ⟨rfl, rfl⟩ <;> simp [colB]
    rw [e2 _ this.1 this.2]
    exact (d2 c hc i hi).2 j hj
  · have hw : (tSun T ++ [r])[k]? = some w := hw
    rw [e3, e4, e5, e6]
    show (if _ then _ else _) = _ ∧ (if _ then _ else _) = _ ∧ (if _ then _ else _) = _ ∧ (if _ then _ else _) = _
    by_cases y : k < (tSun T).length
    · rw [List.getElem?_append_left y] at hw
      rw [if_neg (by omega), if_neg (by omega), if_neg (by omega), if_neg (by omega)]
      exact d3 k w hw
    · rw [List.getElem?_append_right (by omega)] at hw
      have hk : k = (tSun T).length := by
        have := (List.getElem?_eq_some_iff.mp hw).1
        simp at this; omega
      subst hk
      rw [Nat.sub_self] at hw
      have hw : some r = some w := hw
      cases hw
      rw [if_pos (by omega), if_pos (by omega), if_pos (by omega), if_pos (by omega)]
      exact ⟨rfl, rfl, rfl, rfl⟩
theorem k_readSun (h : K f n s G L B gi gl) (hB : B 45 = nI q) (hq : q < 2) (D : mDr T G L q) (vt : vTown T)
    (kk : ∀ gi' gl' G' L', K f n (rdSun f n T s).2 G' L' B gi' gl' → mDr (rdSun f n T s).1 G' L' q → Half q G L G' L' → Qv gi' gl') : p_X12_readSun gi gl Qv := by
  have h45 := h.b hB
  have c4 : tCnt T 4 ≤ 40 := vt.1 4 (by omega)
  have d4 : G 334 q = nI (tCnt T 4) := D.1 4 (by omega)
  have cnt : gi 334 q = nI (tCnt T 4) := by rw [h.2.1 _ (by omega)]; exact d4
  have hv : vp_in (nI q) 2 := vp_nI hq (by omega)
  have main : ∀ g0 l0, K f n (su0 T s) G L B g0 l0 → p_X12_readSun_36 (nI (40 * q + tCnt T 4)) g0 l0 Qv := by
    intro g0 l0 h0
    refine v_X12_readSun_36 ?_
    unfold f_X12_readSun_36
    refine k_numeral (lo := 0) (hi := 11) h0 rfl rfl (by omega) (by omega) (fun g1 l1 h1 => ?_)
    have mb := nuV_bd (f := f) (n := n) (s := su0 T s) (lo := 0) (hi := 11) (by omega) (by omega)
    have h1 : K f n (su1 f n T s) G L B g1 l1 := h1
    have mb : 0 ≤ suM f n T s ∧ suM f n T s ≤ 11 := mb
    obtain ⟨m, hm⟩ := nat_of mb.1
    have em : iI (nuV f n 0 11 (su0 T s)) = nI m := by
      show iI (suM f n T s) = nI m
      rw [hm, iI_n]
    rw [em]
    refine k_lastMinute h1 hB hq D vt (by omega) ?_
    have lb := lastMin_bd vt (m := m)
    have et : (suM f n T s).toNat = m := by rw [hm]; rfl
    rw [← iI_1, iI_add]
    refine k_numeral (lo := lastMin T m + 1) (hi := 719) h1 rfl rfl (by omega) (by omega) (fun g2 l2 h2 => ?_)
    have eT : nuV f n (lastMin T m + 1) 719 (su1 f n T s) = suT f n T s := by unfold suT; rw [et]
    have eS : nuS f n (lastMin T m + 1) 719 (su1 f n T s) = su2 f n T s := by unfold su2; rw [et]
    rw [eT]
    rw [eS] at h2
    have tb := nuV_bd (f := f) (n := n) (s := su1 f n T s) (lo := lastMin T m + 1) (hi := 719) (by omega) (by omega)
    rw [eT] at tb
    refine k_falls h2 gEast gWest (by decide +kernel) (by decide +kernel) (fun g3 l3 h3 => ?_)
    have h3 : K f n (su3 f n T s) G L B g3 l3 := h3
    refine k_falls h3 gNorth gSouth (by decide +kernel) (by decide +kernel) (fun g4 l4 h4 => ?_)
    have h4 : K f n (su4 f n T s) G L B g4 l4 := h4
    unfold rdSun at kk
    refine h4.w (fun a ha => ?_) (fun e he => ?_)
    · have hR : isR (su4 f n T s) = true := by rw [ha]; rfl
      rw [if_pos hR] at kk
      have hlt : tCnt T 4 < 40 := by
        rcases Nat.lt_or_ge (tCnt T 4) 40 with y | y
        · exact y
        · exfalso
          have z := isR_nu (lo := 0) (hi := 11) (isR_nu (isR_fa (isR_fa hR))).1
          have z := z.1
          unfold su0 at z
          rw [if_pos (by omega), isR_er] at z
          cases z
      have hvx : vp_in (nI (40 * q + tCnt T 4)) 80 := vp_nI (by omega) (by omega)
      have hcx : (nI (40 * q + tCnt T 4)).toNatClampNeg = 40 * q + tCnt T 4 := nI_cl (by omega)
      obtain ⟨t, ht⟩ := nat_of tb.1
      rw [hcx, ht, iI_n]
      refine ⟨hvx, ?_⟩
      intro g16 e16
      have h16 := h4.wr e16 (by omega) (by omega)
      refine ⟨hvx, ?_⟩
      intro g17 e17
      have h17 := h16.wr e17 (by omega) (by omega)
      refine ⟨hvx, ?_⟩
      intro g18 e18
      have h18 := h17.wr e18 (by omega) (by omega)
      refine ⟨hvx, ?_⟩
      intro g19 e19
      have h19 := h18.wr e19 (by omega) (by omega)
      clear e16 e17 e18 e19
      have b9 := h19.b hB
      have c9 : g19 334 q = nI (tCnt T 4) := by rw [h19.2.1 _ (by omega)]; simp [pt_at, d4]
      rw [b9, nI_cl (show q < 2147483648 by omega), c9, iI_1, nI_1]
      refine ⟨hv, hv, ?_⟩
      intro g20 e20
      have h20 := h19.wr e20 (by omega) (by omega)
      rw [hm, ht] at kk
      refine kk _ _ _ _ h20 (mDr_sun D vt (fun c hc => ?_) (fun c hc1 hc2 => ?_) ?_ ?_ ?_ ?_) (((((Half.rf.w (c := 351) (i := 40 * q + tCnt T 4) (by omega) (by simp [wdt]; omega)).w (c := 352) (i := 40 * q + tCnt T 4) (by omega) (by simp [wdt]; omega)).w (c := 353) (i := 40 * q + tCnt T 4) (by omega) (by simp [wdt]; omega)).w (c := 354) (i := 40 * q + tCnt T 4) (by omega) (by simp [wdt]; omega)).w (c := 334) (i := q) (by omega) (by simp [wdt]))
      · rcases (show c = 0 ∨ c = 1 ∨ c = 2 ∨ c = 3 ∨ c = 4 by omega) with rfl | rfl | rfl | rfl | rfl <;> simp [pt_at]
      · rw [pt_n (by omega), pt_n (by omega), pt_n (by omega), pt_n (by omega), pt_n (by omega)]
      · funext i; simp [pt_at]
      · funext i; simp [pt_at]
      · funext i; simp [pt_at]
      · funext i; simp [pt_at]
    · have hR : isR (su4 f n T s) = false := by rw [he]; rfl
      rw [if_neg (by rw [hR]; decide)] at kk
      exact kk _ _ _ _ h4 D Half.rf
  refine v_X12_readSun ?_
  unfold f_X12_readSun
  rw [h45, nI_cl (by omega), cnt]
  refine ⟨hv, ?_⟩
  rintro z1 rfl
  rw [show (40 : Int32) * nI q = nI (40 * q) from pk_mul 40 q, nI_add]
  refine ⟨hv, ?_⟩
  unfold su0 at main
  refine c_ne (tCnt T 4) 40 rfl rfl (by omega) (by omega) (fun y => ?_) (fun y => ?_)
  · rw [if_neg y] at main; exact main gi gl h
  · rw [if_pos y] at main
    exact k_errs h (fun g1 l1 h1 => main g1 l1 h1)
theorem k_readStatement (h : K f n s G L B gi gl) (hB : B 45 = nI q) (hq : q < 2) (D : mDr T G L q) (vt : vTown T)
    (kk : ∀ gi' gl' G' L', K f n (rdStat f n T s).2 G' L' B gi' gl' → mDr (rdStat f n T s).1 G' L' q → Half q G L G' L' → Qv gi' gl') : p_X12_readStatement gi gl Qv := by
  refine v_X12_readStatement ?_
  unfold f_X12_readStatement
  unfold rdStat at kk
  refine k_is h gThing (by decide +kernel) ?_
  refine c_b (fun y1 => ?_) (fun y1 => ?_)
  · simp only [y1, Bool.false_eq_true, if_false] at kk
    refine k_is h gTree (by decide +kernel) ?_
    refine c_b (fun y2 => ?_) (fun y2 => ?_)
    · simp only [y2, Bool.false_eq_true, if_false] at kk
      refine k_is h gPost (by decide +kernel) ?_
      refine c_b (fun y3 => ?_) (fun y3 => ?_)
      · simp only [y3, Bool.false_eq_true, if_false] at kk
        refine k_is h gClock (by decide +kernel) ?_
        refine c_b (fun y4 => ?_) (fun y4 => ?_)
        · simp only [y4, Bool.false_eq_true, if_false] at kk
          refine k_is h gSun (by decide +kernel) ?_
          refine c_b (fun y5 => ?_) (fun y5 => ?_)
          · simp only [y5, Bool.false_eq_true, if_false] at kk
            refine v_X12_readStatement_71 ?_
            unfold f_X12_readStatement_71
            refine ifF (by decide) ?_
            exact k_errs h (fun g1 l1 h1 => kk _ _ _ _ h1 D Half.rf)
          · simp only [y5, if_true] at kk
            refine v_X12_readStatement_71 ?_
            unfold f_X12_readStatement_71
            refine ifT (by decide) ?_
            refine k_next h (isW_r y5) (fun g1 l1 h1 => ?_)
            refine ifT (by decide) (ifT (by decide) (ifT (by decide) (ifT (by decide) ?_)))
            refine k_readSun h1 hB hq D vt (fun g2 l2 G' L' h2 D2 H2 => ?_)
            exact k_semicolon h2 (fun g3 l3 h3 => kk _ _ _ _ h3 D2 H2)
        · simp only [y4, if_true] at kk
          refine v_X12_readStatement_71 ?_
          unfold f_X12_readStatement_71
          refine ifT (by decide) ?_
          refine k_next h (isW_r y4) (fun g1 l1 h1 => ?_)
          refine ifT (by decide) (ifT (by decide) (ifT (by decide) (ifF (by decide) ?_)))
          refine k_readClock h1 hB hq D vt (fun g2 l2 G' L' h2 D2 H2 => ?_)
          exact k_semicolon h2 (fun g3 l3 h3 => kk _ _ _ _ h3 D2 H2)
      · simp only [y3, if_true] at kk
        refine v_X12_readStatement_71 ?_
        unfold f_X12_readStatement_71
        refine ifT (by decide) ?_
        refine k_next h (isW_r y3) (fun g1 l1 h1 => ?_)
        refine ifT (by decide) (ifT (by decide) (ifF (by decide) ?_))
        refine k_readPost h1 hB hq D vt (fun g2 l2 G' L' h2 D2 H2 => ?_)
        exact k_semicolon h2 (fun g3 l3 h3 => kk _ _ _ _ h3 D2 H2)
    · simp only [y2, if_true] at kk
      refine v_X12_readStatement_71 ?_
      unfold f_X12_readStatement_71
      refine ifT (by decide) ?_
      refine k_next h (isW_r y2) (fun g1 l1 h1 => ?_)
      refine ifT (by decide) (ifF (by decide) ?_)
      refine k_readTree h1 hB hq D vt (fun g2 l2 G' L' h2 D2 H2 => ?_)
      exact k_semicolon h2 (fun g3 l3 h3 => kk _ _ _ _ h3 D2 H2)
  · simp only [y1, if_true] at kk
    refine v_X12_readStatement_71 ?_
    unfold f_X12_readStatement_71
    refine ifT (by decide) ?_
    refine k_next h (isW_r y1) (fun g1 l1 h1 => ?_)
    refine ifF (by decide) ?_
    refine k_readThing h1 hB hq D vt (fun g2 l2 G' L' h2 D2 H2 => ?_)
    exact k_semicolon h2 (fun g3 l3 h3 => kk _ _ _ _ h3 D2 H2)
end KO
