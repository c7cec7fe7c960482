/-! TEXTS: what a text that is read well tells is a town -/
section VT
variable {f : Nat → Nat} {n : Nat} {s : Ps} {T : Twn}
theorem giV_bd : 0 ≤ giV f n s ∧ giV f n s ≤ 99 := by
  unfold giV
  split
  · exact nuV_bd (by omega) (by omega)
  · omega
theorem nmO_ok {k : Nat} (h : nmO f n T k s = true) : wordOk (wdS f n s) := by
  obtain ⟨a, rfl⟩ := nmO_r h
  rw [nmO_ir] at h
  simp at h
  exact wd_ok8 h.1
theorem vTown_add {k : Nat} {nm : List Nat} {nu : Nat → Int} (vt : vTown T) (hk : k < 4) (hc : tCnt T k < most k) (hn : wordOk nm)
    (h0 : k = 0 → 0 ≤ nu 0 ∧ nu 0 ≤ 3599 ∧ 0 ≤ nu 1 ∧ nu 1 ≤ 99 ∧ (nu 2 = -1 ∨ (nu 0 ≤ nu 2 ∧ nu 2 ≤ 3599)) ∧ 0 ≤ nu 3 ∧ nu 3 ≤ 99) (h1 : k = 1 → 0 ≤ nu 0 ∧ nu 0 ≤ 359 ∧ 0 ≤ nu 1 ∧ nu 1 ≤ 359 ∧ nu 0 ≠ nu 1)
    (h2 : k = 2 → 0 ≤ nu 0 ∧ nu 0 ≤ 31 ∧ 0 ≤ nu 1 ∧ nu 1 ≤ 31 ∧ 1 ≤ nu 2 ∧ nu 2 ≤ 20) (h3 : k = 3 → 0 ≤ nu 0 ∧ nu 0 ≤ 99 ∧ 0 ≤ nu 1 ∧ nu 1 ≤ 99) : vTown (addK T k nm nu) := by
  obtain ⟨v1, v2, v3, v4, v5, v6, v7, v8, v9⟩ := vt
  have ec : ∀ c, tCnt (addK T k nm nu) c = if c = k then tCnt T c + 1 else tCnt T c := fun c => rfl
  have en' : ∀ c i, tName (addK T k nm nu) c i = if c = k ∧ i = tCnt T k then nm else tName T c i := fun c i => rfl
  have eu : ∀ c i j, tNum (addK T k nm nu) c i j = if c = k ∧ i = tCnt T k then nu j else tNum T c i j := fun c i j => rfl
  have split : ∀ c i, i < tCnt (addK T k nm nu) c → (c = k ∧ i = tCnt T k) ∨ (i < tCnt T c ∧ ¬ (c = k ∧ i = tCnt T k)) := by
    intro c i hi
    rw [ec] at hi
    by_cases z : c = k
    · subst z; rw [if_pos rfl] at hi
      by_cases y : i = tCnt T c
      · exact Or.inl ⟨rfl, y⟩
      · exact Or.inr ⟨by omega, fun w => y w.2⟩
    · rw [if_neg z] at hi; exact Or.inr ⟨hi, fun w => z w.1⟩
  refine ⟨fun c hc6 => ?_, fun c hc4 i hi => ?_, ?_, fun i hi => ?_, fun i hi => ?_, fun i hi => ?_, fun i hi => ?_, v8, v9⟩
  · rw [ec]
    have := v1 c hc6
    by_cases z : c = k
    · subst z; rw [if_pos rfl]; omega
    · rw [if_neg z]; exact this
  · rw [en']
    rcases split c i hi with z | z
    · rw [if_pos z]; exact hn
    · rw [if_neg z.2]; exact v2 c hc4 i z.1
  · rw [ec, if_neg (by omega)]; exact v3
  · simp only [eu]
    rcases split 0 i hi with z | z
    · simp only [if_pos z]; exact h0 z.1.symm
    · simp only [if_neg z.2]; exact v4 i z.1
  · simp only [eu]
    rcases split 1 i hi with z | z
    · simp only [if_pos z]; exact h1 z.1.symm
    · simp only [if_neg z.2]; exact v5 i z.1
  · simp only [eu]
    rcases split 2 i hi with z | z
    · simp only [if_pos z]; exact h2 z.1.symm
    · simp only [if_neg z.2]; exact v6 i z.1
  · simp only [eu]
    rcases split 3 i hi with z | z
    · simp only [if_pos z]; exact h3 z.1.symm
    · simp only [if_neg z.2]; exact v7 i z.1
theorem v_rdThing (vt : vTown T) (h : isR (rdThing f n T s).2 = true) : vTown (rdThing f n T s).1 := by
  unfold rdThing at h ⊢
  cases hO : nmO f n T 0 s with
  | false => rw [hO] at h; simp only [Bool.false_eq_true, if_false, isR_er] at h
  | true =>
    simp only [hO, if_true] at h ⊢
    have b0 := nuV_bd (f := f) (n := n) (s := th1 f n s) (lo := 0) (hi := 3599) (by omega) (by omega)
    have b1 := giV_bd (f := f) (n := n) (s := th2 f n s)
    cases hw : isW f n wTill (th3 f n s) with
    | false =>
      simp only [hw, Bool.false_eq_true, if_false] at h ⊢
      exact vTown_add vt (by omega) (nmO_lt hO) (nmO_ok hO) (fun _ => ⟨b0.1, b0.2, b1.1, b1.2, Or.inl rfl, Int.le_refl 0, (by decide : (0 : Int) ≤ 99)⟩) (fun q => by omega) (fun q => by omega) (fun q => by omega)
    | true =>
      simp only [hw, if_true] at h ⊢
      have b3 := giV_bd (f := f) (n := n) (s := th4 f n s)
      have b2 := isR_nu (isR_gi h)
      exact vTown_add vt (by omega) (nmO_lt hO) (nmO_ok hO) (fun _ => ⟨b0.1, b0.2, b1.1, b1.2, Or.inr b2.2, b3.1, b3.2⟩) (fun q => by omega) (fun q => by omega) (fun q => by omega)
theorem v_rdTree (vt : vTown T) (h : isR (rdTree f n T s).2 = true) : vTown (rdTree f n T s).1 := by
  unfold rdTree at h ⊢
  cases hO : nmO f n T 1 s with
  | false => rw [hO] at h; simp only [Bool.false_eq_true, if_false, isR_er] at h
  | true =>
    simp only [hO, if_true] at h ⊢
    have b0 := nuV_bd (f := f) (n := n) (s := tr1 f n s) (lo := 0) (hi := 359) (by omega) (by omega)
    have b1 := nuV_bd (f := f) (n := n) (s := tr3 f n s) (lo := 0) (hi := 359) (by omega) (by omega)
    have ne : trV0 f n s ≠ trV1 f n s := by
      have r3 := (isR_nu h).1
      have e3 : eqO f n (trV0 f n s) (tr2 f n s) = false ∧ tr3 f n s = tr2 f n s := by
        cases he : eqO f n (trV0 f n s) (tr2 f n s) with
        | true => unfold tr3 at r3; rw [he, if_pos rfl, isR_er] at r3; cases r3
        | false => exact ⟨rfl, by unfold tr3; rw [he]; rfl⟩
      have hb : isR (nuS f n 0 359 (tr2 f n s)) = true := by rw [← e3.2]; exact h
      have hv : trV1 f n s = nuV f n 0 359 (tr2 f n s) := by unfold trV1; rw [e3.2]
      rw [hv]
      have e1 := e3.1
      generalize tr2 f n s = s2 at *
      cases s2 with
      | inl e => cases hb
      | inr a =>
        have hO2 : nuO f n 0 359 (.inr a) = true := by
          cases y : nuO f n 0 359 (.inr a) with
          | true => rfl
          | false => unfold nuS at hb; rw [y] at hb; cases hb
        rw [nuV_r, if_pos hO2]
        have hk : kd f n a = 2 := by
          unfold nuO at hO2; simp at hO2; exact hO2.1
        intro y
        have : eqO f n (trV0 f n s) (.inr a) = true := by
          show (decide (kd f n a = 2) && decide ((vl f n a : Int) = trV0 f n s)) = true
          rw [decide_eq_true hk, decide_eq_true y.symm]; rfl
        rw [this] at e1; cases e1
    exact vTown_add vt (by omega) (nmO_lt hO) (nmO_ok hO) (fun q => by omega) (fun _ => ⟨b0.1, b0.2, b1.1, b1.2, ne⟩) (fun q => by omega) (fun q => by omega)
theorem v_rdPost (vt : vTown T) (h : isR (rdPost f n T s).2 = true) : vTown (rdPost f n T s).1 := by
  unfold rdPost at h ⊢
  cases hO : nmO f n T 2 s with
  | false => rw [hO] at h; simp only [Bool.false_eq_true, if_false, isR_er] at h
  | true =>
    simp only [hO, if_true] at h ⊢
    have b0 := nuV_bd (f := f) (n := n) (s := nxS f n s) (lo := 0) (hi := 31) (by omega) (by omega)
    have b1 := nuV_bd (f := f) (n := n) (s := po1 f n s) (lo := 0) (hi := 31) (by omega) (by omega)
    have b2 := (isR_nu h).2
    exact vTown_add vt (by omega) (nmO_lt hO) (nmO_ok hO) (fun q => by omega) (fun q => by omega) (fun _ => ⟨b0.1, b0.2, b1.1, b1.2, b2.1, b2.2⟩) (fun q => by omega)
theorem v_rdClock (vt : vTown T) (h : isR (rdClock f n T s).2 = true) : vTown (rdClock f n T s).1 := by
  unfold rdClock at h ⊢
  cases hO : nmO f n T 3 s with
  | false => rw [hO] at h; simp only [Bool.false_eq_true, if_false, isR_er] at h
  | true =>
    simp only [hO, if_true] at h ⊢
    have b0 := nuV_bd (f := f) (n := n) (s := ck1 f n s) (lo := 0) (hi := 99) (by omega) (by omega)
    have b1 := nuV_bd (f := f) (n := n) (s := ck2 f n s) (lo := 0) (hi := 99) (by omega) (by omega)
    exact vTown_add vt (by omega) (nmO_lt hO) (nmO_ok hO) (fun q => by omega) (fun q => by omega) (fun q => by omega) (fun _ => ⟨b0.1, b0.2, b1.1, b1.2⟩)
theorem su_lt (h : isR (su4 f n T s) = true) : tCnt T 4 ≠ 40 := by
  intro y
  have z := (isR_nu (isR_nu (isR_fa (isR_fa h))).1).1
  unfold su0 at z
  rw [if_pos y, isR_er] at z
  cases z
theorem v_rdSun (vt : vTown T) (h : isR (rdSun f n T s).2 = true) : vTown (rdSun f n T s).1 := by
  have h : isR (su4 f n T s) = true := h
  unfold rdSun
  simp only [h, if_true]
  obtain ⟨v1, v2, v3, v4, v5, v6, v7, v8, v9⟩ := id vt
  have hne := su_lt h
  have mb := nuV_bd (f := f) (n := n) (s := su0 T s) (lo := 0) (hi := 11) (by omega) (by omega)
  have mb : 0 ≤ suM f n T s ∧ suM f n T s ≤ 11 := mb
  have tb := (isR_nu (isR_fa (isR_fa h))).2
  have tb : lastMin T (suM f n T s).toNat + 1 ≤ suT f n T s ∧ suT f n T s ≤ 719 := tb
  have x1 := faV_bd (f := f) (n := n) (u := wEast) (w := wWest) (s := su2 f n T s)
  have x2 := faV_bd (f := f) (n := n) (u := wNorth) (w := wSouth) (s := su3 f n T s)
  have lb := lastMin_bd vt (m := (suM f n T s).toNat)
  generalize hr : ((suM f n T s).toNat, (suT f n T s).toNat, faV f n wEast wWest (su2 f n T s), faV f n wNorth wSouth (su3 f n T s)) = r
  have r1 : r.1 = (suM f n T s).toNat := by rw [← hr]
  have r2 : r.2.1 = (suT f n T s).toNat := by rw [← hr]
  have r3 : r.2.2.1 = faV f n wEast wWest (su2 f n T s) := by rw [← hr]
  have r4 : r.2.2.2 = faV f n wNorth wSouth (su3 f n T s) := by rw [← hr]
  have ec : ∀ c, tCnt (addSun T r) c = if c = 4 then tCnt T c + 1 else tCnt T c := fun c => rfl
  have c40 : tCnt T 4 ≤ 40 := v1 4 (by omega)
  refine ⟨fun c hc => ?_, fun c hc i hi => ?_, ?_, v4, v5, v6, v7, fun w hw => ?_, fun m => ?_⟩
  · rw [ec]
    have := v1 c hc
    by_cases y : c = 4
    · subst y; rw [if_pos rfl]; show _ ≤ 40; omega
    · rw [if_neg y]; exact this
  · rw [ec, if_neg (by omega)] at hi
    exact v2 c hc i hi
  · show (tSun T ++ [r]).length = _
    rw [List.length_append, ec, if_pos rfl, v3]; rfl
  · have hw : w ∈ tSun T ++ [r] := hw
    rcases List.mem_append.1 hw with y | y
    · exact v8 w y
    · rw [List.mem_singleton.1 y]; omega
  · rw [rowsOf_add]
    by_cases y : r.1 = m
    · rw [if_pos y, List.pairwise_append]
      refine ⟨v9 m, List.pairwise_singleton _ _, fun a ha b hb => ?_⟩
      rw [List.mem_singleton.1 hb, r2]
      have lm : (a.2.1 : Int) ≤ lastMin T m := by
        have pw := v9 m
        unfold lastMin
        rcases List.eq_nil_or_concat (rowsOf T m) with z | ⟨l, c, z⟩
        · rw [z] at ha; cases ha
        · have z : rowsOf T m = l ++ [c] := by rw [z]; simp
          rw [z, List.getLast?_append]
          show (a.2.1 : Int) ≤ ((c.2.1 : Nat) : Int)
          rw [z] at ha pw
          rcases List.mem_append.1 ha with u | u
          · have := (List.pairwise_append.1 pw).2.2 a u c (List.mem_singleton.2 rfl)
            omega
          · rw [List.mem_singleton.1 u]; exact Int.le_refl _
      rw [← y, r1] at lm
      omega
    · rw [if_neg y, List.append_nil]; exact v9 m
theorem v_rdStat (vt : vTown T) (h : isR (rdStat f n T s).2 = true) : vTown (rdStat f n T s).1 := by
  unfold rdStat at h ⊢
  cases y1 : isW f n wThing s with
  | true => simp only [y1, if_true] at h ⊢; exact v_rdThing vt (isR_sm h)
  | false =>
    simp only [y1, Bool.false_eq_true, if_false] at h ⊢
    cases y2 : isW f n wTree s with
    | true => simp only [y2, if_true] at h ⊢; exact v_rdTree vt (isR_sm h)
    | false =>
      simp only [y2, Bool.false_eq_true, if_false] at h ⊢
      cases y3 : isW f n wPost s with
      | true => simp only [y3, if_true] at h ⊢; exact v_rdPost vt (isR_sm h)
      | false =>
        simp only [y3, Bool.false_eq_true, if_false] at h ⊢
        cases y4 : isW f n wClock s with
        | true => simp only [y4, if_true] at h ⊢; exact v_rdClock vt (isR_sm h)
        | false =>
          simp only [y4, Bool.false_eq_true, if_false] at h ⊢
          cases y5 : isW f n wSun s with
          | true => simp only [y5, if_true] at h ⊢; exact v_rdSun vt (isR_sm h)
          | false => simp only [y5, Bool.false_eq_true, if_false, isR_er] at h
theorem rdStat_5 : tCnt (rdStat f n T s).1 5 = tCnt T 5 := by
  have ak : ∀ k nm nu, k < 4 → tCnt (addK T k nm nu) 5 = tCnt T 5 := fun k nm nu hk => by
    show (if 5 = k then _ else _) = _
    rw [if_neg (by omega)]
  have as : ∀ r, tCnt (addSun T r) 5 = tCnt T 5 := fun r => rfl
  unfold rdStat smR rdThing rdTree rdPost rdClock rdSun
  repeat' split
  all_goals first | exact ak _ _ _ (by omega) | exact as _ | rfl
theorem v_addSt (vt : vTown T) (h : tCnt T 5 < 60) : vTown (addSt T) := by
  obtain ⟨v1, v2, v3, v4, v5, v6, v7, v8, v9⟩ := vt
  refine ⟨fun c hc => ?_, fun c hc i hi => ?_, v3, v4, v5, v6, v7, v8, v9⟩
  · show (if c = 5 then T.1 c + 1 else T.1 c) ≤ _
    have := v1 c hc
    by_cases y : c = 5
    · subst y; rw [if_pos rfl]; show _ ≤ 60; have h : T.1 5 < 60 := h; omega
    · rw [if_neg y]; exact this
  · have hi : i < (if c = 5 then T.1 c + 1 else T.1 c) := hi
    rw [if_neg (by omega)] at hi
    exact v2 c hc i hi
theorem v_T0 : vTown T0 := ⟨fun _ _ => Nat.zero_le _, fun _ _ i hi => absurd hi (Nat.not_lt_zero i), rfl, fun i hi => absurd hi (Nat.not_lt_zero i), fun i hi => absurd hi (Nat.not_lt_zero i), fun i hi => absurd hi (Nat.not_lt_zero i), fun i hi => absurd hi (Nat.not_lt_zero i), fun r hr => (by cases hr), fun m => List.Pairwise.nil⟩
theorem v_tnL : ∀ k T s, (isR s = true → vTown T) → tCnt T 5 + k ≤ 61 → isR (tnL f n k T s).2 = true → vTown (tnL f n k T s).1
  | 0, T, s, hv, _, h => hv h
  | k + 1, T, s, hv, hc, h => by
    have e : tnL f n (k + 1) T s = if enS n s then (T, s) else if k = 0 then (T, erS s) else tnL f n k (addSt (rdStat f n T s).1) (rdStat f n T s).2 := rfl
    rw [e] at h ⊢
    cases y : enS n s with
    | true => simp only [y, if_true] at h ⊢; exact hv h
    | false =>
      simp only [y, Bool.false_eq_true, if_false] at h ⊢
      by_cases z : k = 0
      · rw [if_pos z] at h
        have h : isR (erS s) = true := h
        rw [isR_er] at h; cases h
      · rw [if_neg z] at h ⊢
        refine v_tnL k _ _ (fun hr => ?_) ?_ h
        · have hs : isR s = true := by
            cases s with
            | inl e => cases y
            | inr a => rfl
          refine v_addSt (v_rdStat (hv hs) hr) ?_
          rw [rdStat_5]; omega
        · show (rdStat f n T s).1.1 5 + 1 + k ≤ 61
          have := rdStat_5 (f := f) (n := n) (s := s) (T := T)
          have this : (rdStat f n T s).1.1 5 = T.1 5 := this
          rw [this]
          have hc : T.1 5 + (k + 1) ≤ 61 := hc
          omega
theorem v_rdTown (h : isR (rdTown f n).2 = true) : vTown (rdTown f n).1 := v_tnL 61 T0 _ (fun _ => v_T0) (Nat.le_refl _) h
end VT
