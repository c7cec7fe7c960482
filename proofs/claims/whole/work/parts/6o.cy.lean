/-! THE CLASS, twenty-five: the sun, as it is read -/
section CY
variable {f : Nat → Nat} {n a : Nat} {gi : Gi} {gl : Gl} {Q : Gi → Gl → Prop} {Qi : Int32 → Gi → Gl → Prop} {T : Twn}
theorem s_takeLong {p q : Nat} {u w : List Nat} (hp : txI p u) (hq : txI q w) (m : SC f n a gi) (h1 : ∀ b g, faS f n u w (.inr a) = .inr b → F22 gi g → SC f n b g → -99 ≤ faV f n u w (.inr a) → faV f n u w (.inr a) ≤ 99 → Qi (iI (faV f n u w (.inr a))) g gl) (h0 : ∀ e g, faS f n u w (.inr a) = .inl e → F22 gi g → SC f n e g → Qi 100 g gl) : p_X7_takeLong p q gi gl Qi := by
  have eu : isW f n u (.inr a) = decide (wd f n a = u) := rfl
  have ew : isW f n w (.inr a) = decide (wd f n a = w) := rfl
  unfold faS faV at h1
  unfold faS at h0
  rw [eu, ew] at h1 h0
  have hpN : p < nJt := hp.1
  have hqN : q < nJt := hq.1
  refine v_X7_takeLong hpN hqN ?_
  unfold f_X7_takeLong
  have num : ∀ (x3 : Bool) g, F22 gi g → SC f n (nx f n a) g → (∀ b g', nuS f n 0 99 (.inr (nx f n a)) = .inr b → F22 gi g' → SC f n b g' → -99 ≤ (if x3 then nuV f n 0 99 (.inr (nx f n a)) else -(nuV f n 0 99 (.inr (nx f n a)))) → (if x3 then nuV f n 0 99 (.inr (nx f n a)) else -(nuV f n 0 99 (.inr (nx f n a)))) ≤ 99 → Qi (iI (if x3 then nuV f n 0 99 (.inr (nx f n a)) else -(nuV f n 0 99 (.inr (nx f n a))))) g' gl) → (∀ e g', nuS f n 0 99 (.inr (nx f n a)) = .inl e → F22 gi g' → SC f n e g' → Qi 100 g' gl) → p_X7_takeLong_27 p q (b2i x3) g gl Qi := by
    intro x3 g fg mg k1 k0
    refine v_X7_takeLong_27 hpN hqN ?_
    unfold f_X7_takeLong_27
    refine s_X8_takeNumber (lo := 0) (hi := 99) (by omega) (by omega) mg (fun w2 g2 f2 m2 => ?_) (fun w2 => ?_)
    · have hv := nuO_hi w2
      have k1 := k1 _ g2 (nu_t w2).1 (fg.tr f2) m2
      rw [(nu_t w2).2] at k1
      refine c_ne' _ (by omega) ?_
      refine c_b (fun y => ?_) (fun y => ?_)
      · rw [y] at k1
        simp only [Bool.false_eq_true, if_false] at k1
        rw [← iI_n, iI_neg]
        exact k1 (by omega) (by omega)
      · rw [y] at k1
        simp only [if_true] at k1
        rw [← iI_n]
        exact k1 (by omega) (by omega)
    · exact ifF (by decide) (k0 _ g (nu_f w2) fg mg)
  refine s_X8_takes hp m (fun q1 g fg mg => ?_) (fun q1 => ?_)
  · rw [decide_eq_true q1] at h1 h0
    refine ifT (by decide) ?_
    exact num true g fg mg (fun b g' e => h1 b g' e) (fun e g' k => h0 e g' k)
  · rw [decide_eq_false q1] at h1 h0
    refine ifF (by decide) ?_
    refine s_X8_takes hq m (fun q2 g fg mg => ?_) (fun q2 => ?_)
    · rw [decide_eq_true q2] at h1 h0
      refine ifT (by decide) ?_
      exact num false g fg mg (fun b g' e => h1 b g' e) (fun e g' k => h0 e g' k)
    · rw [decide_eq_false q2] at h0
      exact ifF (by decide) (h0 a gi rfl F22.rf m)
theorem s_takesSun (D : cTown T gi gl 8) (vt : vTown T) (h : Qi (b2i (decide (tCnt T 4 ≠ 40))) gi gl) : p_X10_takesMore 8 4 gi gl Qi := by
  have hc : tCnt T 4 ≤ 40 := vt.1 4 (by omega)
  refine v_X10_takesMore zl_8 zk_8 ?_
  unfold f_X10_takesMore
  refine ifF (by decide) ?_
  rw [show (4 : Int32).toNatClampNeg = 4 by rfl, D.1 4 (by omega)]
  refine c_le 40 (tCnt T 4) rfl rfl (by omega) (by omega) (fun y => ?_) (fun y => ?_)
  · rw [decide_eq_false (by omega)] at h; exact h
  · rw [decide_eq_true (by omega)] at h; exact h
theorem s_lastMin (D : cTown T gi gl 8) (vt : vTown T) {mo : Nat} (hm : mo < 12) (h : Qi (iI (lastMin T mo)) gi gl) : p_X10_sunRowsIn 8 (nI mo) gi gl (fun r9 gi7 gl8 => p_X10_sunNumber 8 (nI mo) (r9 - 1) 0 gi7 gl8 Qi) := by
  have hl := rows_len (mo := mo) vt
  have d12 : gi (8 + 4) mo = nI (rowsOf T mo).length := (D.2.2 mo hm).1
  refine v_X10_sunRowsIn zl_8 zk_8 ?_
  unfold f_X10_sunRowsIn
  refine c_lt mo 0 rfl rfl (by omega) (by omega) (fun y => by omega) (fun _ => ?_)
  refine c_lt mo 12 rfl rfl (by omega) (by omega) (fun _ => ⟨vp_nI (by omega) (by omega), ?_⟩) (fun y => by omega)
  rw [nI_cl (by omega), d12]
  have e1 : nI (rowsOf T mo).length - 1 = iI (((rowsOf T mo).length : Int) - 1) := by rw [← iI_n, show (1 : Int32) = iI 1 by rfl, iI_sub]
  show p_X10_sunNumber 8 (nI mo) (nI (rowsOf T mo).length - 1) 0 gi gl Qi
  rw [e1]
  refine v_X10_sunNumber zl_8 zk_8 ?_
  unfold f_X10_sunNumber
  refine c_lt mo 0 rfl rfl (by omega) (by omega) (fun y => by omega) (fun _ => ?_)
  refine c_le 12 mo rfl rfl (by omega) (by omega) (fun y => by omega) (fun _ => ?_)
  refine d_lt (((rowsOf T mo).length : Int) - 1) 0 rfl rfl (by omega) (by omega) (fun y => ?_) (fun y => ?_)
  · have e0 : rowsOf T mo = [] := List.length_eq_zero_iff.1 (by omega)
    have : lastMin T mo = -1 := by unfold lastMin; rw [e0]; rfl
    rw [this] at h; exact h
  · refine ⟨vp_nI (by omega) (by omega), ?_⟩
    rw [nI_cl (by omega), d12]
    obtain ⟨r, hr⟩ := nat_of y
    have hr2 : r < (rowsOf T mo).length := by omega
    rw [hr, iI_n]
    refine c_le (rowsOf T mo).length r rfl rfl (by omega) (by omega) (fun y => by omega) (fun _ => ?_)
    refine ifF (by decide) (ifT (by decide) ?_)
    rw [show (40 : Int32) = nI 40 by rfl, mulN, nI_add, show (3 : Int32) = nI 3 by rfl, mulN, show nI ((mo * 40 + r) * 3) + 0 = nI ((mo * 40 + r) * 3) from nI_add _ 0, nI_cl (by omega)]
    refine ⟨vp_nI (by omega) (by omega), ?_⟩
    have hq : (rowsOf T mo)[r]? = some ((rowsOf T mo)[r]) := List.getElem?_eq_getElem hr2
    have d13 := ((D.2.2 mo hm).2 r _ hq).1
    have el : lastMin T mo = (((rowsOf T mo)[r]).2.1 : Nat) := by
      unfold lastMin
      rw [List.getLast?_eq_getElem?, show (rowsOf T mo).length - 1 = r by omega, hq]
    rw [el, iI_n] at h
    have d13 : gi (8 + 5) ((mo * 40 + r) * 3) = nI ((rowsOf T mo)[r]).2.1 := d13
    rw [d13]; exact h
theorem s_X10_tellSun (D : cTown T gi gl 8) (vt : vTown T) (hc : tCnt T 4 ≠ 40) {mo t : Nat} (hm : mo < 12) {x y : Int} (h : ∀ g, cTown (addSun T (mo, t, x, y)) g gl 8 → (∀ z, z ≠ 9 → z ≠ 12 → z ≠ 13 → g z = gi z) → Q g gl) : p_X10_tellSun 8 (nI mo) (nI t) (iI x) (iI y) gi gl Q := by
  have h40 : tCnt T 4 ≤ 40 := vt.1 4 (by omega)
  have hl : (rowsOf T mo).length ≤ (tSun T).length := List.length_filter_le _ _
  have hs := vt.2.2.1
  have d12 : gi (8 + 4) mo = nI (rowsOf T mo).length := (D.2.2 mo hm).1
  have d9 : gi (8 + 1) 4 = nI (tCnt T 4) := D.1 4 (by omega)
  refine v_X10_tellSun zl_8 zk_8 ?_
  unfold f_X10_tellSun
  refine c_lt mo 0 rfl rfl (by omega) (by omega) (fun y => by omega) (fun _ => ?_)
  refine c_le 12 mo rfl rfl (by omega) (by omega) (fun y => by omega) (fun _ => ?_)
  refine s_takesSun D vt ?_
  rw [decide_eq_true hc]
  refine ifT (by decide) ⟨vp_nI (by omega) (by omega), ?_⟩
  rintro z4 rfl
  rw [nI_cl (by omega), d12, show (40 : Int32) = nI 40 by rfl, mulN, nI_add, show (3 : Int32) = nI 3 by rfl, mulN, show (1 : Int32) = nI 1 by rfl, show (2 : Int32) = nI 2 by rfl, nI_add, nI_add, nI_cl (by omega), nI_cl (by omega), nI_cl (by omega), show (4 : Int32).toNatClampNeg = 4 by rfl]
  refine ⟨vp_nI (by omega) (by omega), ?_⟩
  intro g5 e5
  refine ⟨vp_nI (by omega) (by omega), ?_⟩
  intro g6 e6
  refine ⟨vp_nI (by omega) (by omega), ?_⟩
  intro g7 e7
  refine ⟨vp_nI (by omega) (by omega), vp_nI (by omega) (by omega), ?_⟩
  intro g8 e8 g9 e9
  have f13 : ∀ z, z ≠ 13 → g7 z = gi z := fun z hz => by rw [e7, uI_n hz, e6, uI_n hz, e5, uI_n hz]
  have v12 : ∀ j, g9 12 j = if j = mo then nI ((rowsOf T mo).length + 1) else gi 12 j := fun j => by
    rw [e9, uI_n (by omega), e8, uI_s, updA]
    by_cases e : j = mo
    · rw [if_pos e, if_pos e]
      show g7 12 mo + nI 1 = _
      rw [f13 12 (by omega), show gi 12 mo = nI (rowsOf T mo).length from d12, nI_add]
    · rw [if_neg e, if_neg e]
      show g7 12 j = _
      rw [f13 12 (by omega)]
  have v9 : ∀ j, g9 9 j = if j = 4 then nI (tCnt T 4 + 1) else gi 9 j := fun j => by
    rw [e9, uI_s, updA]
    by_cases e : j = 4
    · rw [if_pos e, if_pos e]
      show g8 9 4 + nI 1 = _
      rw [e8, uI_n (by omega), f13 9 (by omega), show gi 9 4 = nI (tCnt T 4) from d9, nI_add]
    · rw [if_neg e, if_neg e]
      show g8 9 j = _
      rw [e8, uI_n (by omega), f13 9 (by omega)]
  have v13 : ∀ j, g9 13 j = if j = (mo * 40 + (rowsOf T mo).length) * 3 + 2 then iI y else if j = (mo * 40 + (rowsOf T mo).length) * 3 + 1 then iI x else if j = (mo * 40 + (rowsOf T mo).length) * 3 then nI t else gi 13 j := fun j => by
    rw [e9, uI_n (by omega), e8, uI_n (by omega), e7, uI_s, updA, e6, uI_s, updA, e5, uI_s, updA]
  have oth : ∀ z, z ≠ 9 → z ≠ 12 → z ≠ 13 → g9 z = gi z := fun z a1 a2 a3 => by rw [e9, uI_n a1, e8, uI_n a2, f13 z a3]
  refine h g9 ⟨fun c hc => ?_, fun c hc i hi => ⟨(D.2.1 c hc i (by
      have hi : i < (if c = 4 then T.1 c + 1 else T.1 c) := hi
      rw [if_neg (by omega)] at hi; exact hi)).1, fun j hj => ?_⟩, fun m hm2 => ?_⟩ oth
  · show g9 9 c = nI (if c = 4 then T.1 c + 1 else T.1 c)
    rw [v9]
    by_cases e : c = 4
    · rw [if_pos e, if_pos e, e]
    · rw [if_neg e, if_neg e]; exact D.1 c hc
  · show g9 11 _ = _
    rw [oth 11 (by omega) (by omega) (by omega)]
    exact (D.2.1 c hc i (by
      have hi : i < (if c = 4 then T.1 c + 1 else T.1 c) := hi
      rw [if_neg (by omega)] at hi; exact hi)).2 j hj
  · show g9 12 m = nI (rowsOf (addSun T (mo, t, x, y)) m).length ∧ _
    rw [v12, rowsOf_add]
    have hlm : (rowsOf T m).length ≤ (tSun T).length := List.length_filter_le _ _
    by_cases e : m = mo
    · subst e
      rw [if_pos rfl, if_pos rfl, List.length_append, List.length_singleton]
      refine ⟨rfl, fun r q hq => ?_⟩
      show g9 13 _ = _ ∧ g9 13 _ = _ ∧ g9 13 _ = _
      by_cases er : r < (rowsOf T m).length
      · rw [List.getElem?_append_left er] at hq
        rw [v13, v13, v13, if_neg (by omega), if_neg (by omega), if_neg (by omega), if_neg (by omega), if_neg (by omega), if_neg (by omega), if_neg (by omega), if_neg (by omega), if_neg (by omega)]
        exact (D.2.2 m hm).2 r q hq
      · rw [List.getElem?_append_right (by omega)] at hq
        have er2 : r = (rowsOf T m).length := by
          rcases Nat.eq_zero_or_pos (r - (rowsOf T m).length) with z | z
          · omega
          · rw [List.getElem?_eq_none (by simp; omega)] at hq; cases hq
        rw [er2, Nat.sub_self] at hq
        have hq : q = (m, t, x, y) := by
          have : some (m, t, x, y) = some q := hq
          cases this; rfl
        subst hq
        rw [er2, v13, v13, v13, if_neg (by omega), if_neg (by omega), if_pos rfl, if_neg (by omega), if_pos rfl, if_pos rfl]
        exact ⟨rfl, rfl, rfl⟩
    · have e2 : ¬ (mo, t, x, y).1 = m := fun w => e w.symm
      rw [if_neg e, if_neg e2, List.append_nil]
      refine ⟨(D.2.2 m hm2).1, fun r q hq => ?_⟩
      have hr : r < (rowsOf T m).length := by
        rcases Nat.lt_or_ge r (rowsOf T m).length with z | z
        · exact z
        · rw [List.getElem?_eq_none z] at hq; cases hq
      show g9 13 _ = _ ∧ g9 13 _ = _ ∧ g9 13 _ = _
      rw [v13, v13, v13, if_neg (by omega), if_neg (by omega), if_neg (by omega), if_neg (by omega), if_neg (by omega), if_neg (by omega), if_neg (by omega), if_neg (by omega), if_neg (by omega)]
      exact (D.2.2 m hm2).2 r q hq
end CY
