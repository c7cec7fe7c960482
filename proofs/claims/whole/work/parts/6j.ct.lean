/-! THE CLASS, twenty: its tokens -/
theorem kC_1 {f : Nat → Nat} {n a : Nat} : kC f n a = 1 ↔ kd f n a = 1 := by
  unfold kC kd
  split
  · omega
  · split
    · omega
    · split
      · split <;> omega
      · split <;> omega
theorem ltrs_get {f : Nat → Nat} {a : Nat} : ∀ k i, i < k → (ltrs f a k).getD i 0 = f (a + i) - 96
  | 0, i, h => by omega
  | k + 1, i, h => by
    show (ltrs f a k ++ [f (a + k) - 96]).getD i 0 = _
    have hl := ltrs_len (f := f) (a := a) k
    by_cases e : i < k
    · rw [← ltrs_get k i e, List.getD_eq_getElem?_getD, List.getD_eq_getElem?_getD, List.getElem?_append_left (by omega)]
    · have : i = k := by omega
      subst this
      rw [List.getD_eq_getElem?_getD, List.getElem?_append_right (by omega), hl, Nat.sub_self]; rfl
theorem ltrs_eq {f : Nat → Nat} {a k : Nat} {w : List Nat} : ltrs f a k = w ↔ k = w.length ∧ ∀ i, i < k → f (a + i) - 96 = w.getD i 0 := by
  constructor
  · intro h
    subst h
    exact ⟨(ltrs_len k).symm, fun i hi => (ltrs_get k i hi).symm⟩
  · rintro ⟨h1, h2⟩
    apply List.ext_getElem?
    intro i
    by_cases hi : i < k
    · have h3 := ltrs_get (f := f) (a := a) k i hi
      rw [h2 i hi] at h3
      rw [List.getElem?_eq_getElem (by rw [ltrs_len]; exact hi), List.getElem?_eq_getElem (by omega)]
      rw [List.getD_eq_getElem?_getD, List.getD_eq_getElem?_getD, List.getElem?_eq_getElem (by rw [ltrs_len]; exact hi), List.getElem?_eq_getElem (by omega)] at h3
      exact congrArg some h3
    · rw [List.getElem?_eq_none (by rw [ltrs_len]; omega), List.getElem?_eq_none (by omega)]
/-- a word, as the tape has it -/
theorem wd_eq {f : Nat → Nat} {n a : Nat} (ha : a ≤ n) {w : List Nat} (hw : goodW w) : wd f n a = w ↔ kd f n a = 1 ∧ en f n a - a = w.length ∧ ∀ i, i < w.length → f (a + i) = 96 + w.getD i 0 := by
  have hb := en_bd (f := f) ha
  unfold wd
  constructor
  · intro h
    by_cases q : kd f n a = 1 ∧ en f n a - a ≤ 8
    · rw [if_pos q] at h
      obtain ⟨h1, h2⟩ := ltrs_eq.1 h
      refine ⟨q.1, h1, fun i hi => ?_⟩
      have h3 := h2 i (by omega)
      have hl : cL (f (a + i)) = true := by
        have hk := q.1
        unfold kd at hk
        by_cases h0 : n ≤ a
        · rw [if_pos h0] at hk; omega
        · rw [if_neg h0] at hk
          by_cases hc : cL (f a) = true
          · have e : en f n a = enP cL f n a := by unfold en; rw [if_neg h0, if_pos hc]
            exact (enP_bd (c := cL) (f := f) ha).2.2.1 (a + i) (by omega) (by omega)
          · rw [if_neg hc] at hk
            split at hk
            · split at hk <;> omega
            · split at hk <;> omega
      have := cL_iff.1 hl
      omega
    · rw [if_neg q] at h
      exact absurd h.symm hw.2.2
  · rintro ⟨h1, h2, h3⟩
    rw [if_pos ⟨h1, by have := hw.2.1; omega⟩]
    refine ltrs_eq.2 ⟨h2, fun i hi => ?_⟩
    rw [h3 i (by omega)]; omega
/-- text p of the class is the word w -/
abbrev txI (p : Nat) (w : List Nat) : Prop := p < nJt ∧ lenJt.getD p 0 = w.length ∧ (∀ j, j < w.length → chJ p j = nI (96 + w.getD j 0)) ∧ w.length ≤ 8 ∧ w ≠ [] ∧ (∀ j, j < w.length → 1 ≤ w.getD j 0 ∧ w.getD j 0 < 27)
theorem tx_g {p : Nat} {w : List Nat} (h : txI p w) : goodW w := ⟨fun c hc => by
  obtain ⟨i, hi, e⟩ := List.mem_iff_getElem.1 hc
  have := h.2.2.2.2.2 i hi
  rw [List.getD_eq_getElem?_getD, List.getElem?_eq_getElem hi] at this
  have : 1 ≤ w[i] ∧ w[i] < 27 := this
  rw [e] at this
  exact this, h.2.2.2.1, h.2.2.2.2.1⟩
theorem tx_0 : txI 0 wThing := by decide +kernel
theorem tx_2 : txI 2 wFrom := by decide +kernel
theorem tx_3 : txI 3 wGive := by decide +kernel
theorem tx_4 : txI 4 wTill := by decide +kernel
theorem tx_5 : txI 5 wTree := by decide +kernel
theorem tx_6 : txI 6 wLeaf := by decide +kernel
theorem tx_7 : txI 7 wBare := by decide +kernel
theorem tx_8 : txI 8 wPost := by decide +kernel
theorem tx_9 : txI 9 wClock := by decide +kernel
theorem tx_10 : txI 10 wSlow := by decide +kernel
theorem tx_11 : txI 11 wFast := by decide +kernel
theorem tx_12 : txI 12 wSun := by decide +kernel
theorem tx_13 : txI 13 wEast := by decide +kernel
theorem tx_14 : txI 14 wWest := by decide +kernel
theorem tx_15 : txI 15 wNorth := by decide +kernel
theorem tx_16 : txI 16 wSouth := by decide +kernel
theorem tx_17 : txI 17 wStands := by decide +kernel
theorem tx_18 : txI 18 wLacks := by decide +kernel
theorem tx_19 : txI 19 wShadow := by decide +kernel
theorem tx_20 : txI 20 wWeek := by decide +kernel
theorem tx_21 : txI 21 wYear := by decide +kernel
theorem tx_22 : txI 22 wBefore := by decide +kernel
theorem tx_23 : txI 23 wLeft := by decide +kernel
section CT
variable {f : Nat → Nat} {n a : Nat} {gi : Gi} {gl : Gl} {Q : Gi → Gl → Prop} {Qi : Int32 → Gi → Gl → Prop} {Ql : Int64 → Gi → Gl → Prop}
theorem kC_lt (f : Nat → Nat) (n a : Nat) : kC f n a ≤ 4 := by
  unfold kC
  split
  · omega
  · split
    · omega
    · split
      · omega
      · split <;> omega
theorem s_X8_isWord {p : Nat} {w : List Nat} (hp : txI p w) (m : SC f n a gi) (h : Qi (b2i (decide (wd f n a = w))) gi gl) : p_X8_isWord p gi gl Qi := by
  obtain ⟨t1, t2, t3, t4, t5, t6⟩ := id hp
  obtain ⟨m1, m2, m3, m4, m5, m6⟩ := id m
  have hn := m1.1
  have k4 := kC_lt f n a
  have we := wd_eq (f := f) m4 (tx_g hp)
  have hb := en_bd (f := f) m4
  have no : (kd f n a ≠ 1 ∨ en f n a - a ≠ w.length ∨ ∃ i, i < w.length ∧ f (a + i) ≠ 96 + w.getD i 0) → Qi 0 gi gl := fun q => by
    rw [decide_eq_false (fun e => by
      obtain ⟨e1, e2, e3⟩ := we.1 e
      rcases q with q | q | ⟨i, i1, i2⟩
      · exact q e1
      · exact q e2
      · exact i2 (e3 i i1))] at h
    exact h
  refine v_X8_isWord t1 ?_
  unfold f_X8_isWord
  rw [m5]
  refine c_ne (kC f n a) 1 rfl rfl (by omega) (by omega) (fun q => no (Or.inl (fun e => q (kC_1.2 e)))) (fun q => ?_)
  have hk := kC_1.1 q
  have han : a < n := by
    rcases Nat.lt_or_ge a n with z | z
    · exact z
    · have := (kd_0 (f := f) (n := n) (a := a)).2 z; omega
  refine s_length t1 ?_
  rw [t2, m6 han, m3]
  refine c_ne (en f n a - a) w.length (pk_sub hb.1) rfl (by omega) (by omega) (fun q2 => no (Or.inr (Or.inl q2))) (fun q2 => ?_)
  refine ifT (by rw [show (1200 : Int32) = nI 1200 by rfl, nI_leI (by omega) (by omega)]; omega) ?_
  refine dn (P := fun i => (∀ i', i' < i → f (a + i') = 96 + w.getD i' 0) → p_X8_isWord_40 p (nI i) gi gl Qi) (N := w.length) ?_ ?_ 0 (by omega) (fun i hi => by omega)
  · intro hall
    refine v_X8_isWord_40 t1 ?_
    unfold f_X8_isWord_40
    refine s_length t1 ?_
    rw [t2]
    refine ifT (by rw [nI_leI (by omega) (by omega)]; omega) ?_
    rw [decide_eq_true (we.2 ⟨hk, q2, hall⟩)] at h
    exact h
  · intro i hi ih hall
    refine v_X8_isWord_40 t1 ?_
    unfold f_X8_isWord_40
    refine s_length t1 ?_
    rw [t2]
    refine c_le w.length i rfl rfl (by omega) (by omega) (fun y => by omega) (fun _ => ?_)
    rw [m3, nI_add]
    refine ⟨vp_nI (by omega) (by omega), ?_⟩
    refine s_charAt t1 (by rw [t2]; exact hi) ?_
    rw [t3 i hi, nI_cl (by omega)]
    obtain ⟨z, z1, z2, z3, z4⟩ := m1.2 (a + i) (by omega)
    have wr := t6 i hi
    rw [z1]
    refine d_eq z ((96 + w.getD i 0 : Nat) : Int) rfl (iI_n _).symm (by omega) (by omega) (fun q3 => ?_) (fun q3 => ?_)
    · rw [nI_1]
      refine ih (fun i' hi' => ?_)
      by_cases e : i' = i
      · subst e; omega
      · exact hall i' (by omega)
    · exact no (Or.inr (Or.inr ⟨i, hi, by omega⟩))
theorem s_X8_takes {p : Nat} {w : List Nat} (hp : txI p w) (m : SC f n a gi) (h1 : wd f n a = w → ∀ g, F22 gi g → SC f n (nx f n a) g → Qi 1 g gl) (h0 : wd f n a ≠ w → Qi 0 gi gl) : p_X8_takes p gi gl Qi := by
  refine v_X8_takes hp.1 ?_
  unfold f_X8_takes
  refine s_X8_isWord hp m ?_
  refine c_nb (fun q => ?_) (fun q => h0 (of_decide_eq_false q))
  have q := of_decide_eq_true q
  have hk := ((wd_eq (f := f) m.2.2.2.1 (tx_g hp)).1 q).1
  have han : a < n := by
    rcases Nat.lt_or_ge a n with z | z
    · exact z
    · have := (kd_0 (f := f) (n := n) (a := a)).2 z; omega
  exact m.step han (h1 q)
theorem kC_3 : kC f n a = 3 ↔ kd f n a = 59 := by
  unfold kC kd
  split
  · omega
  · split
    · omega
    · split
      · split <;> omega
      · split <;> omega
theorem s_X8_takesSemicolon (m : SC f n a gi) (h1 : kd f n a = 59 → ∀ g, F22 gi g → SC f n (nx f n a) g → Qi 1 g gl) (h0 : kd f n a ≠ 59 → Qi 0 gi gl) : p_X8_takesSemicolon gi gl Qi := by
  have k4 := kC_lt f n a
  refine v_X8_takesSemicolon ?_
  unfold f_X8_takesSemicolon
  rw [m.2.2.2.2.1]
  refine c_eq (kC f n a) 3 rfl rfl (by omega) (by omega) (fun q => ?_) (fun q => h0 (fun e => q (kC_3.2 e)))
  have hk := kC_3.1 q
  have han : a < n := by
    rcases Nat.lt_or_ge a n with z | z
    · exact z
    · have := (kd_0 (f := f) (n := n) (a := a)).2 z; omega
  exact m.step han (h1 hk)
theorem kC_2 : kd f n a = 2 ↔ kC f n a = 2 ∧ en f n a - a ≤ 4 := by
  unfold kC kd en
  by_cases h0 : n ≤ a
  · rw [if_pos h0, if_pos h0]; omega
  · rw [if_neg h0, if_neg h0, if_neg h0]
    by_cases h1 : cL (f a) = true
    · rw [if_pos h1, if_pos h1]; omega
    · rw [if_neg h1, if_neg h1, if_neg h1]
      by_cases h2 : cD (f a) = true
      · rw [if_pos h2, if_pos h2, if_pos h2]
        split <;> omega
      · rw [if_neg h2, if_neg h2, if_neg h2]
        split <;> omega
theorem s_X8_numberHere (m : SC f n a gi) (h1 : kd f n a = 2 → Qi (nI (vl f n a)) gi gl) (h0 : kd f n a ≠ 2 → Qi (-1) gi gl) : p_X8_numberHere gi gl Qi := by
  obtain ⟨m1, m2, m3, m4, m5, m6⟩ := id m
  have hn := m1.1
  have k4 := kC_lt f n a
  have hb := en_bd (f := f) m4
  refine v_X8_numberHere ?_
  unfold f_X8_numberHere
  rw [m5]
  refine c_ne (kC f n a) 2 rfl rfl (by omega) (by omega) (fun q => h0 (fun e => q (kC_2.1 e).1)) (fun q => ?_)
  have han : a < n := by
    rcases Nat.lt_or_ge a n with z | z
    · exact z
    · have : kC f n a = 0 := by unfold kC; rw [if_pos z]
      omega
  have hd : ∀ i, a + i < en f n a → cD (f (a + i)) = true := fun i hi => by
    unfold kC at q
    rw [if_neg (by omega)] at q
    by_cases h1 : cL (f a) = true
    · rw [if_pos h1] at q; omega
    · rw [if_neg h1] at q
      by_cases h2 : cD (f a) = true
      · have e : en f n a = enP cD f n a := by unfold en; rw [if_neg (by omega), if_neg h1, if_pos h2]
        exact (enP_bd (c := cD) (f := f) m4).2.2.1 (a + i) (by omega) (by omega)
      · rw [if_neg h2] at q; split at q <;> omega
  rw [m6 han, m3]
  refine c_le (en f n a - a) 4 (pk_sub hb.1) rfl (by omega) (by omega) (fun q2 => ?_) (fun q2 => h0 (fun e => by have := (kC_2.1 e).2; omega))
  have h1 := h1 (kC_2.2 ⟨q, q2⟩)
  rintro z1 rfl
  have hv : ∀ k, k ≤ en f n a - a → val f a k ≤ 9999 := fun k hk => by
    have := val_lt (f := f) (a := a) k (fun i hi => hd i (by omega))
    have p : 10 ^ k ≤ 10 ^ 4 := Nat.pow_le_pow_right (by omega) (by omega)
    omega
  refine dn (P := fun k => p_X8_numberHere_30 (nI (val f a k)) (nI (a + k)) gi gl Qi) (N := en f n a - a) ?_ ?_ 0 (by omega)
  · refine v_X8_numberHere_30 ?_
    unfold f_X8_numberHere_30
    rw [m6 han]
    exact ifT (by rw [nI_leI (by omega) (by omega)]; omega) h1
  · intro k hk ih
    obtain ⟨z, z1, z2, z3, z4⟩ := m1.2 (a + k) (by omega)
    have hdk := cD_iff.1 (hd k (by omega))
    have hvk := hv k (by omega)
    refine v_X8_numberHere_30 ?_
    unfold f_X8_numberHere_30
    rw [m6 han]
    refine c_le (en f n a) (a + k) rfl rfl (by omega) (by omega) (fun y => by omega) (fun _ => ?_)
    refine c_le 1200 (a + k) rfl rfl (by omega) (by omega) (fun y => by omega) (fun _ => ⟨vp_nI (by omega) (by omega), ?_⟩)
    rw [nI_cl (by omega), z1]
    rintro w rfl
    have e : nI (val f a k) * 10 + iI z - 48 = nI (val f a (k + 1)) := by
      rw [← iI_n, show (10 : Int32) = iI 10 by rfl, show (48 : Int32) = iI 48 by rfl, iI_mul, iI_add, iI_sub, ← iI_n]
      have : ((val f a k : Nat) : Int) * 10 + z - 48 = ((val f a (k + 1) : Nat) : Int) := by
        show _ = ((val f a k * 10 + (f (a + k) - 48) : Nat) : Int)
        omega
      rw [this]
    rw [e, nI_1]
    exact ih
theorem s_X8_takeNumber {lo hi : Int} (hl : 0 ≤ lo ∧ lo ≤ 10000) (hh : 0 ≤ hi ∧ hi ≤ 10000) (m : SC f n a gi) (h1 : nuO f n lo hi (.inr a) = true → ∀ g, F22 gi g → SC f n (nx f n a) g → Qi (nI (vl f n a)) g gl) (h0 : nuO f n lo hi (.inr a) = false → Qi (-1) gi gl) : p_X8_takeNumber (iI lo) (iI hi) gi gl Qi := by
  have e : nuO f n lo hi (.inr a) = (decide (kd f n a = 2) && (decide (lo ≤ vl f n a) && decide ((vl f n a : Int) ≤ hi))) := rfl
  rw [e] at h1 h0
  refine v_X8_takeNumber ?_
  unfold f_X8_takeNumber
  refine s_X8_numberHere m (fun hk => ?_) (fun hk => ifT rfl (h0 (by rw [decide_eq_false hk]; rfl)))
  have hv := vl_bd hk
  have han : a < n := by
    rcases Nat.lt_or_ge a n with z | z
    · exact z
    · have := (kd_0 (f := f) (n := n) (a := a)).2 z; omega
  rw [decide_eq_true hk, Bool.true_and] at h1 h0
  refine d_eq (vl f n a : Int) (-1) (iI_n _).symm rfl (by omega) (by omega) (fun q => by omega) (fun _ => ?_)
  refine d_lt (vl f n a : Int) lo (iI_n _).symm rfl (by omega) (by omega) (fun q => h0 (by rw [decide_eq_false (by omega)]; rfl)) (fun q => ?_)
  refine d_le (vl f n a : Int) hi (iI_n _).symm rfl (by omega) (by omega) (fun q2 => ?_) (fun q2 => h0 (by rw [decide_eq_false (show ¬ (vl f n a : Int) ≤ hi by omega), Bool.and_false]))
  exact m.step han (h1 (by rw [decide_eq_true q, decide_eq_true q2]; rfl))
theorem s_X8_wordHere (m : SC f n a gi) (h : Ql (iL (pk 32 (wd f n a) : Nat)) gi gl) : p_X8_wordHere gi gl Ql := by
  obtain ⟨m1, m2, m3, m4, m5, m6⟩ := id m
  have hn := m1.1
  have k4 := kC_lt f n a
  have hb := en_bd (f := f) m4
  refine v_X8_wordHere ?_
  unfold f_X8_wordHere
  rw [m5]
  have none' : ¬ (kd f n a = 1 ∧ en f n a - a ≤ 8) → Ql 0 gi gl := fun q => by
    unfold wd at h
    rw [if_neg q] at h
    exact h
  refine c_ne (kC f n a) 1 rfl rfl (by omega) (by omega) (fun q => none' (fun e => q (kC_1.2 e.1))) (fun q => ?_)
  have hk := kC_1.1 q
  have han : a < n := by
    rcases Nat.lt_or_ge a n with z | z
    · exact z
    · have := (kd_0 (f := f) (n := n) (a := a)).2 z; omega
  have hd : ∀ i, a + i < en f n a → cL (f (a + i)) = true := fun i hi => by
    unfold kC at q
    rw [if_neg (by omega)] at q
    by_cases h1 : cL (f a) = true
    · have e : en f n a = enP cL f n a := by unfold en; rw [if_neg (by omega), if_pos h1]
      exact (enP_bd (c := cL) (f := f) m4).2.2.1 (a + i) (by omega) (by omega)
    · rw [if_neg h1] at q
      split at q
      · omega
      · split at q <;> omega
  rw [m6 han, m3]
  refine c_le (en f n a - a) 8 (pk_sub hb.1) rfl (by omega) (by omega) (fun q2 => ?_) (fun q2 => none' (fun e => by omega))
  have ew : wd f n a = ltrs f a (en f n a - a) := by unfold wd; rw [if_pos ⟨hk, q2⟩]
  rw [ew] at h
  rintro z1 rfl
  have hv : ∀ k, k ≤ en f n a - a → pk 32 (ltrs f a k) ≤ 1099511627776 := fun k hk => by
    rcases pkW_lt (b := 32) (ltrs f a k) (okL_32 (ltrs_ok k (fun i hi => hd i (by omega)))) with z | z
    · rw [ltrs_len] at z
      have p : 32 ^ k ≤ 32 ^ 8 := Nat.pow_le_pow_right (by omega) (by omega)
      have : (32 : Nat) ^ 8 = 1099511627776 := by decide
      omega
    · rw [z]; decide
  refine dn (P := fun k => p_X8_wordHere_31 (iL (pk 32 (ltrs f a k) : Nat)) (nI (a + k)) gi gl Ql) (N := en f n a - a) ?_ ?_ 0 (by omega)
  · refine v_X8_wordHere_31 ?_
    unfold f_X8_wordHere_31
    rw [m6 han]
    exact ifT (by rw [nI_leI (by omega) (by omega)]; omega) h
  · intro k hk2 ih
    obtain ⟨z, z1, z2, z3, z4⟩ := m1.2 (a + k) (by omega)
    have hdk := cL_iff.1 (hd k (by omega))
    have hvk := hv k (by omega)
    refine v_X8_wordHere_31 ?_
    unfold f_X8_wordHere_31
    rw [m6 han]
    refine c_le (en f n a) (a + k) rfl rfl (by omega) (by omega) (fun y => by omega) (fun _ => ?_)
    refine c_le 1200 (a + k) rfl rfl (by omega) (by omega) (fun y => by omega) (fun _ => ⟨vp_nI (by omega) (by omega), ?_⟩)
    rw [nI_cl (by omega), z1, iI_toL (by omega) (by omega)]
    rintro w rfl
    have e : iL (pk 32 (ltrs f a k) : Nat) * 32 + iL z - 97 + 1 = iL (pk 32 (ltrs f a (k + 1)) : Nat) := by
      rw [show (32 : Int64) = iL 32 by rfl, show (97 : Int64) = iL 97 by rfl, show (1 : Int64) = iL 1 by rfl, iL_mul, iL_add, iL_sub, iL_add]
      have : ((pk 32 (ltrs f a k) : Nat) : Int) * 32 + z - 97 + 1 = ((pk 32 (ltrs f a (k + 1)) : Nat) : Int) := by
        have e2 : pk 32 (ltrs f a (k + 1)) = pk 32 (ltrs f a k) * 32 + (f (a + k) - 96) := pk_app 32 _ _
        rw [e2]; omega
      rw [this]
    rw [e, nI_1]
    exact ih
end CT
