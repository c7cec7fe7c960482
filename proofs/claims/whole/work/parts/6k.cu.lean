/-! THE CLASS, twenty-one: reserved words; give -/
def okSB : List (List Nat) → Nat → Bool
  | [], off => decide (off = 125)
  | w :: l, off => decide (∀ j, j < w.length → chJ 1 (off + j) = nI (96 + w.getD j 0) ∧ 1 ≤ w.getD j 0 ∧ w.getD j 0 < 27) && (decide (chJ 1 (off + w.length) = 32) && (decide (off + w.length < 125 ∧ w.length ≤ 8 ∧ w ≠ []) && okSB l (off + w.length + 1)))
theorem okS_res : okSB resW 0 = true := by decide +kernel
theorem len_1 : lenJt.getD 1 0 = 125 := by decide +kernel
section CU
variable {f : Nat → Nat} {n a : Nat} {gi : Gi} {gl : Gl} {Q : Gi → Gl → Prop} {Qi : Int32 → Gi → Gl → Prop}
theorem res_row (m : SC f n a gi) (hk : kd f n a = 1) {x : Int} {j : Nat} {ch : Int32} (hx : x = -1 ∨ (0 ≤ x ∧ x ≤ 100)) (hj : j < 125) (hch : chJ 1 j = ch) (h : p_X8_isReserved_57 (iI x) (nI j) ch (b2i (decide (0 ≤ x ∧ (a : Int) + x < en f n a))) gi gl Qi) : p_X8_isReserved_4 (iI x) (nI j) gi gl Qi := by
  obtain ⟨m1, m2, m3, m4, m5, m6⟩ := id m
  have hn := m1.1
  have hb := en_bd (f := f) m4
  have han : a < n := by
    rcases Nat.lt_or_ge a n with z | z
    · exact z
    · have := (kd_0 (f := f) (n := n) (a := a)).2 z; omega
  refine v_X8_isReserved_4 ?_
  unfold f_X8_isReserved_4
  refine s_length (a := 1) (by decide) ?_
  rw [len_1]
  refine c_le 125 j rfl rfl (by omega) (by omega) (fun y => by omega) (fun _ => ?_)
  refine s_charAt (a := 1) (by decide) (by rw [len_1]; exact hj) ?_
  rw [hch]
  refine d_eq x (-1) rfl rfl (by omega) (by omega) (fun q => ?_) (fun q => ?_)
  · rw [decide_eq_false (by omega)] at h; exact h
  · rw [m6 han, m3, ← iI_n a, iI_add]
    refine d_le (en f n a : Int) (a + x) (iI_n _).symm rfl (by omega) (by omega) (fun q2 => ?_) (fun q2 => ?_)
    · rw [decide_eq_false (by omega)] at h; exact h
    · refine d_le 1200 (a + x) rfl rfl (by omega) (by omega) (fun y => by omega) (fun _ => ?_)
      rw [decide_eq_true (by omega)] at h; exact h
theorem s_X8_isReserved (m : SC f n a gi) (hw : wd f n a ≠ []) (h : Qi (b2i (decide (wd f n a ∈ resW))) gi gl) : p_X8_isReserved gi gl Qi := by
  obtain ⟨m1, m2, m3, m4, m5, m6⟩ := id m
  have hn := m1.1
  have hb := en_bd (f := f) m4
  have hk : kd f n a = 1 ∧ en f n a - a ≤ 8 := by
    unfold wd at hw
    by_cases q : kd f n a = 1 ∧ en f n a - a ≤ 8
    · exact q
    · rw [if_neg q] at hw; exact absurd rfl hw
  have han : a < n := by
    rcases Nat.lt_or_ge a n with z | z
    · exact z
    · have := (kd_0 (f := f) (n := n) (a := a)).2 z; omega
  have main : ∀ l off, okSB l off = true → (wd f n a ∈ l → Qi 1 gi gl) → (wd f n a ∉ l → Qi 0 gi gl) → p_X8_isReserved_4 0 (nI off) gi gl Qi := by
    intro l
    induction l with
    | nil =>
      intro off ho _ h0
      have ho : off = 125 := of_decide_eq_true ho
      subst ho
      refine v_X8_isReserved_4 ?_
      unfold f_X8_isReserved_4
      refine s_length (a := 1) (by decide) ?_
      rw [len_1]
      exact ifT (by decide) (h0 (by simp))
    | cons w l ih =>
      intro off ho h1 h0
      unfold okSB at ho
      simp only [Bool.and_eq_true, decide_eq_true_eq] at ho
      obtain ⟨o1, o2, ⟨o3, o4, o5⟩, o6⟩ := ho
      have gw : goodW w := ⟨fun c hc => by
        obtain ⟨i, hi, e⟩ := List.mem_iff_getElem.1 hc
        have := (o1 i hi).2
        rw [List.getD_eq_getElem?_getD, List.getElem?_eq_getElem hi] at this
        have : 1 ≤ w[i] ∧ w[i] < 27 := this
        rw [e] at this
        exact this, o4, o5⟩
      have we := wd_eq (f := f) m4 gw
      have next : wd f n a ≠ w → p_X8_isReserved_4 0 (nI (off + w.length + 1)) gi gl Qi := fun hne => ih _ o6 (fun q => h1 (List.mem_cons_of_mem _ q)) (fun q => h0 (fun q2 => by
        rcases List.mem_cons.1 q2 with z | z
        · exact hne z
        · exact q z))
      -- mismatched
      have bad : ∀ k j, j + k = w.length → wd f n a ≠ w → p_X8_isReserved_4 (-1) (nI (off + j)) gi gl Qi := by
        intro k
        induction k with
        | zero =>
          intro j hj hne
          have : j = w.length := by omega
          subst this
          refine res_row (x := -1) m hk.1 (Or.inl rfl) o3 o2 ?_
          refine v_X8_isReserved_57 ?_
          unfold f_X8_isReserved_57
          refine ifT rfl (ifT rfl ?_)
          rw [nI_1]
          exact next hne
        | succ k ihk =>
          intro j hj hne
          obtain ⟨c1, c2, c3⟩ := o1 j (by omega)
          refine res_row (x := -1) m hk.1 (Or.inl rfl) (by omega) c1 ?_
          refine v_X8_isReserved_57 ?_
          unfold f_X8_isReserved_57
          refine c_eq (96 + w.getD j 0) 32 rfl rfl (by omega) (by omega) (fun q => by omega) (fun _ => ?_)
          refine ifT (by rw [decide_eq_false (by omega)]; rfl) ?_
          rw [nI_1]
          exact ihk (j + 1) (by omega) hne
      have good : ∀ k j, j + k = w.length → (∀ i, i < j → a + i < en f n a ∧ f (a + i) = 96 + w.getD i 0) → p_X8_isReserved_4 (nI j) (nI (off + j)) gi gl Qi := by
        intro k
        induction k with
        | zero =>
          intro j hj hall
          have ej : j = w.length := by omega
          rw [ej] at hall ⊢
          rw [← iI_n w.length]
          refine res_row m hk.1 (Or.inr (by omega)) o3 o2 ?_
          refine v_X8_isReserved_57 ?_
          unfold f_X8_isReserved_57
          refine ifT rfl ?_
          refine d_eq (w.length : Int) (-1) rfl rfl (by omega) (by omega) (fun q => by omega) (fun _ => ?_)
          refine c_nb (fun q => ?_) (fun q => ?_)
          · have q := of_decide_eq_true q
            rw [nI_1]
            exact next (fun e => by have := (we.1 e).2.1; omega)
          · have q := of_decide_eq_false q
            refine h1 (List.mem_cons.2 (Or.inl (we.2 ⟨hk.1, ?_, fun i hi => (hall i hi).2⟩)))
            rcases Nat.eq_zero_or_pos w.length with z | z
            · exact absurd (List.length_eq_zero_iff.1 z) o5
            · have := (hall (w.length - 1) (by omega)).1
              omega
        | succ k ihk =>
          intro j hj hall
          obtain ⟨c1, c2, c3⟩ := o1 j (by omega)
          rw [← iI_n j]
          refine res_row m hk.1 (Or.inr (by omega)) (by omega) c1 ?_
          refine v_X8_isReserved_57 ?_
          unfold f_X8_isReserved_57
          refine c_eq (96 + w.getD j 0) 32 rfl rfl (by omega) (by omega) (fun q => by omega) (fun _ => ?_)
          refine c_b (fun q => ?_) (fun q => ?_)
          · have q := of_decide_eq_false q
            rw [nI_1]
            exact bad k (j + 1) (by omega) (fun e => by have := (we.1 e).2.1; omega)
          · have q := of_decide_eq_true q
            rw [m3, iI_n, nI_add, nI_cl (by omega), nI_1, nI_1]
            refine ⟨vp_nI (by omega) (by omega), ?_⟩
            obtain ⟨z, z1, z2, z3, z4⟩ := m1.2 (a + j) (by omega)
            rw [z1]
            refine d_ne z ((96 + w.getD j 0 : Nat) : Int) rfl (iI_n _).symm (by omega) (by omega) (fun q3 => ?_) (fun q3 => ?_)
            · exact bad k (j + 1) (by omega) (fun e => by have := (we.1 e).2.2 j (by omega); omega)
            · rintro z1 rfl
              refine ihk (j + 1) (by omega) (fun i hi => ?_)
              by_cases e : i = j
              · subst e; exact ⟨by omega, by omega⟩
              · exact hall i (by omega)
      exact good w.length 0 (by omega) (fun i hi => by omega)
  refine v_X8_isReserved ?_
  unfold f_X8_isReserved
  refine main resW 0 okS_res (fun q => ?_) (fun q => ?_)
  · rw [decide_eq_true q] at h; exact h
  · rw [decide_eq_false q] at h; exact h
/-- where the scanner stands: past a token, or still at a fault -/
def SP (f : Nat → Nat) (n : Nat) (s : Ps) (g : Gi) : Prop := match s with
  | .inl e => tpC f n g ∧ g 22 2 = nI e ∧ e ≤ 1200
  | .inr a => SC f n a g
theorem s_X8_takeGive (m : SC f n a gi) (h1 : ∀ g b, F22 gi g → giS f n (.inr a) = .inr b → SC f n b g → Qi (iI (giV f n (.inr a))) g gl) (h0 : ∀ g e, F22 gi g → giS f n (.inr a) = .inl e → SC f n e g → Qi (-1) g gl) : p_X8_takeGive gi gl Qi := by
  have ew : isW f n wGive (.inr a) = decide (wd f n a = wGive) := rfl
  refine v_X8_takeGive ?_
  unfold f_X8_takeGive
  refine s_X8_takes tx_3 m (fun q g fg mg => ?_) (fun q => ?_)
  · have e1 : giS f n (.inr a) = nuS f n 0 99 (.inr (nx f n a)) := by unfold giS; rw [ew, decide_eq_true q]; rfl
    have e2 : giV f n (.inr a) = nuV f n 0 99 (.inr (nx f n a)) := by unfold giV; rw [ew, decide_eq_true q]; rfl
    refine ifF (by decide) ?_
    refine s_X8_takeNumber (lo := 0) (hi := 99) (by omega) (by omega) mg (fun q2 g2 fg2 mg2 => ?_) (fun q2 => ?_)
    · have := h1 g2 (nx f n (nx f n a)) (fg.tr fg2) (by rw [e1]; unfold nuS; rw [q2]; rfl) mg2
      rw [e2] at this
      have e3 : nuV f n 0 99 (.inr (nx f n a)) = (vl f n (nx f n a) : Int) := if_pos q2
      rw [e3, iI_n] at this
      exact this
    · exact h0 g (nx f n a) fg (by rw [e1]; unfold nuS; rw [q2]; rfl) mg
  · refine ifT rfl ?_
    have := h1 gi a F22.rf (by unfold giS; rw [ew, decide_eq_false q]; rfl) m
    have e2 : giV f n (.inr a) = 0 := by unfold giV; rw [ew, decide_eq_false q]; rfl
    rw [e2] at this
    exact this
end CU
