/-! TEXTS: signs -/
def sg5 (w a b c d : Int) (j : Nat) : Int := if j = 0 then w else if j = 1 then a else if j = 2 then b else if j = 3 then c else d
def kdW (l : List Nat) : Int := if l = wStands then 0 else if l = wLacks then 1 else if l = wLeaf then 2 else if l = wBare then 3 else if l = wShadow then 4 else if l = wClock then 5 else if l = wWeek then 6 else if l = wYear then 7 else if l = wBefore then 8 else if l = wLeft then 9 else -1
section SGN
variable (f : Nat → Nat) (n : Nat)
def kiS : Ps → Int
  | .inl _ => -1
  | .inr a => kdW (wd f n a)
def naI (T : Twn) (k : Nat) : Ps → Int
  | .inl _ => -1
  | .inr a => if wd f n a = [] then -1 else lowN (fun i => decide (tName T k i = wd f n a)) (tCnt T k)
def naO (T : Twn) (k : Nat) (but : Int) (s : Ps) : Bool := decide (0 ≤ naI f n T k s) && decide (naI f n T k s ≠ but)
def naS (T : Twn) (k : Nat) (but : Int) (s : Ps) : Ps := if naO f n T k but s then nxS f n s else erS s
def naV (T : Twn) (k : Nat) (but : Int) (s : Ps) : Int := if naO f n T k but s then naI f n T k s else 0
def sh1 (T : Twn) (s : Ps) : Ps := naS f n T 2 (-1) s
def sh2 (T : Twn) (s : Ps) : Ps := nuS f n 0 31 (sh1 f n T s)
def sh3 (T : Twn) (s : Ps) : Ps := nuS f n 0 31 (sh2 f n T s)
def sgB (T : Twn) (w : Int) (s : Ps) : (Nat → Int) × Ps :=
  if w ≤ 1 then (sg5 w (naV f n T 0 (-1) s) (-1) (-1) (-1), naS f n T 0 (-1) s)
  else if w ≤ 3 then (sg5 w (naV f n T 1 (-1) s) (-1) (-1) (-1), naS f n T 1 (-1) s)
  else if w = 4 then (sg5 w (naV f n T 2 (-1) s) (nuV f n 0 31 (sh1 f n T s)) (nuV f n 0 31 (sh2 f n T s)) (giV f n (sh3 f n T s)), giS f n (sh3 f n T s))
  else if w = 5 then (sg5 w (naV f n T 3 (-1) s) (nuV f n 0 719 (naS f n T 3 (-1) s)) (-1) (-1), nuS f n 0 719 (naS f n T 3 (-1) s))
  else if w = 6 then (sg5 w (nuV f n 0 6 s) (-1) (-1) (-1), nuS f n 0 6 s)
  else if w = 7 then (sg5 w (nuV f n 0 9 s) (-1) (-1) (-1), nuS f n 0 9 s)
  else (sg5 w (naV f n T 2 (-1) s) (naV f n T 2 (naV f n T 2 (-1) s) (sh1 f n T s)) (-1) (-1), naS f n T 2 (naV f n T 2 (-1) s) (sh1 f n T s))
def rdSign (T : Twn) (k : Nat) (s : Ps) : (Nat → Int) × Ps :=
  if kiS f n s < 0 ∨ k = 12 then (fun _ => 0, erS s) else ((sgB f n T (kiS f n s) (nxS f n s)).1, smS f n (sgB f n T (kiS f n s) (nxS f n s)).2)
def sgA (T : Twn) (P : Pic) (s : Ps) : Pic := (P.1 + 1, fun k => if k = P.1 then (rdSign f n T P.1 s).1 else P.2 k)
def sgL (T : Twn) : Nat → Pic → Ps → Pic × Ps
  | 0, P, s => (P, s)
  | m + 1, P, s => if enS n s then (P, s) else sgL T m (sgA f n T P s) (rdSign f n T P.1 s).2
def rdSigns (T : Twn) (P : Pic) : Pic × Ps := sgL f n T (13 - P.1) P (if enS n (.inr (skp f n 0)) then erS (.inr (skp f n 0)) else .inr (skp f n 0))
end SGN
theorem kdW_bd (l : List Nat) : -1 ≤ kdW l ∧ kdW l ≤ 9 := by
  unfold kdW
  repeat' split
  all_goals omega
section VS
variable {f : Nat → Nat} {n : Nat} {s : Ps} {T : Twn}
theorem kiS_bd : -1 ≤ kiS f n s ∧ kiS f n s ≤ 9 := by
  cases s with
  | inl e => exact ⟨Int.le_refl _, (by decide : (-1 : Int) ≤ 9)⟩
  | inr a => exact kdW_bd _
theorem naI_bd {k : Nat} : -1 ≤ naI f n T k s ∧ naI f n T k s < tCnt T k ∨ naI f n T k s = -1 := by
  cases s with
  | inl e => exact Or.inr rfl
  | inr a =>
    unfold naI
    show -1 ≤ (if wd f n a = [] then (-1 : Int) else _) ∧ (if wd f n a = [] then (-1 : Int) else _) < _ ∨ (if wd f n a = [] then (-1 : Int) else _) = -1
    by_cases y : wd f n a = []
    · rw [if_pos y]; exact Or.inr rfl
    · rw [if_neg y]; exact Or.inl (lowN_bd _)
theorem naV_bd {k : Nat} {but : Int} : 0 ≤ naV f n T k but s ∧ (naV f n T k but s < tCnt T k ∨ naV f n T k but s = 0) := by
  have := naI_bd (f := f) (n := n) (s := s) (T := T) (k := k)
  unfold naV
  cases h : naO f n T k but s with
  | false => simp
  | true =>
    unfold naO at h
    simp at h
    simp only [if_true]
    omega
theorem isR_na {k : Nat} {but : Int} (h : isR (naS f n T k but s) = true) : isR s = true ∧ 0 ≤ naV f n T k but s ∧ naV f n T k but s < tCnt T k ∧ naV f n T k but s ≠ but := by
  have hb := naI_bd (f := f) (n := n) (s := s) (T := T) (k := k)
  unfold naS at h
  unfold naV
  cases hO : naO f n T k but s with
  | false => rw [hO] at h; simp only [Bool.false_eq_true, if_false, isR_er] at h
  | true =>
    rw [hO] at h
    simp only [if_true] at h ⊢
    have hs : isR s = true := by cases s <;> first | rfl | cases h
    unfold naO at hO
    simp at hO
    exact ⟨hs, hO.1, by omega, hO.2⟩
theorem v_sgB {w : Int} (hw : 0 ≤ w ∧ w ≤ 9) (h : isR (sgB f n T w s).2 = true) : vSign T (sgB f n T w s).1 := by
  unfold sgB at h ⊢
  by_cases h1 : w ≤ 1
  · rw [if_pos h1] at h ⊢
    have := isR_na h
    exact Or.inl ⟨by show w = 0 ∨ w = 1; omega, this.2.1, this.2.2.1, rfl, rfl, rfl⟩
  rw [if_neg h1] at h ⊢
  by_cases h2 : w ≤ 3
  · rw [if_pos h2] at h ⊢
    have := isR_na h
    exact Or.inr (Or.inl ⟨by show w = 2 ∨ w = 3; omega, this.2.1, this.2.2.1, rfl, rfl, rfl⟩)
  rw [if_neg h2] at h ⊢
  by_cases h4 : w = 4
  · rw [if_pos h4] at h ⊢
    have g := giV_bd (f := f) (n := n) (s := sh3 f n T s)
    have a3 := isR_nu (isR_gi h)
    have a2 := isR_nu a3.1
    have a1 := isR_na a2.1
    exact Or.inr (Or.inr (Or.inl ⟨h4, a1.2.1, a1.2.2.1, a2.2.1, a2.2.2, a3.2.1, a3.2.2, g.1, g.2⟩))
  rw [if_neg h4] at h ⊢
  by_cases h5 : w = 5
  · rw [if_pos h5] at h ⊢
    have a2 := isR_nu h
    have a1 := isR_na a2.1
    exact Or.inr (Or.inr (Or.inr (Or.inl ⟨h5, a1.2.1, a1.2.2.1, a2.2.1, a2.2.2, rfl, rfl⟩)))
  rw [if_neg h5] at h ⊢
  by_cases h6 : w = 6
  · rw [if_pos h6] at h ⊢
    have a2 := isR_nu h
    exact Or.inr (Or.inr (Or.inr (Or.inr (Or.inl ⟨h6, a2.2.1, a2.2.2, rfl, rfl, rfl⟩))))
  rw [if_neg h6] at h ⊢
  by_cases h7 : w = 7
  · rw [if_pos h7] at h ⊢
    have a2 := isR_nu h
    exact Or.inr (Or.inr (Or.inr (Or.inr (Or.inr (Or.inl ⟨h7, a2.2.1, a2.2.2, rfl, rfl, rfl⟩)))))
  rw [if_neg h7] at h ⊢
  have a2 := isR_na h
  have a1 := isR_na a2.1
  exact Or.inr (Or.inr (Or.inr (Or.inr (Or.inr (Or.inr ⟨by show w = 8 ∨ w = 9; omega, a1.2.1, a1.2.2.1, a2.2.1, a2.2.2.1, fun y => a2.2.2.2 y.symm, rfl, rfl⟩)))))
theorem v_rdSign {k : Nat} (h : isR (rdSign f n T k s).2 = true) : vSign T (rdSign f n T k s).1 ∧ k ≠ 12 := by
  unfold rdSign at h ⊢
  by_cases y : kiS f n s < 0 ∨ k = 12
  · rw [if_pos y] at h
    have h : isR (erS s) = true := h
    rw [isR_er] at h; cases h
  · rw [if_neg y] at h ⊢
    have := kiS_bd (f := f) (n := n) (s := s)
    exact ⟨v_sgB (by omega) (isR_sm h), by omega⟩
theorem v_sgL : ∀ m P s, P.1 + m ≤ 13 → P.1 ≤ 12 → (∀ k, k < P.1 → vSign T (P.2 k)) → isR (sgL f n T m P s).2 = true → (∀ k, k < (sgL f n T m P s).1.1 → vSign T ((sgL f n T m P s).1.2 k)) ∧ (sgL f n T m P s).1.1 ≤ 12 ∧ P.1 ≤ (sgL f n T m P s).1.1 ∧ (enS n s = false → 1 ≤ m → P.1 < (sgL f n T m P s).1.1) ∧ ∀ k, k < P.1 → (sgL f n T m P s).1.2 k = P.2 k
  | 0, P, s, _, hP, hv, h => ⟨hv, hP, Nat.le_refl _, fun _ q => by omega, fun _ _ => rfl⟩
  | m + 1, P, s, hm, hP, hv, h => by
    have e : sgL f n T (m + 1) P s = if enS n s then (P, s) else sgL f n T m (sgA f n T P s) (rdSign f n T P.1 s).2 := rfl
    rw [e] at h ⊢
    cases y : enS n s with
    | true => simp only [y, if_true] at h ⊢; exact ⟨hv, hP, Nat.le_refl _, fun q => (by cases q), fun _ _ => trivial⟩
    | false =>
      simp only [y, Bool.false_eq_true, if_false] at h ⊢
      have hr : isR (rdSign f n T P.1 s).2 = true := by
        cases hz : (rdSign f n T P.1 s).2 with
        | inr a => rfl
        | inl e0 =>
          rw [hz] at h
          cases m with
          | zero => cases h
          | succ m => cases h
      have vs := v_rdSign hr
      have e1 : (sgA f n T P s).1 = P.1 + 1 := rfl
      have rc := v_sgL m (sgA f n T P s) _ (by rw [e1]; omega) (by rw [e1]; omega) (fun k hk => by
        rw [e1] at hk
        show vSign T (if k = P.1 then _ else _)
        by_cases z : k = P.1
        · rw [if_pos z]; exact vs.1
        · rw [if_neg z]; exact hv k (by omega)) h
      refine ⟨rc.1, rc.2.1, by have := rc.2.2.1; rw [e1] at this; omega, fun _ _ => by have := rc.2.2.1; rw [e1] at this; omega, fun k hk => ?_⟩
      rw [rc.2.2.2.2 k (by rw [e1]; omega)]
      show (if k = P.1 then _ else _) = _
      rw [if_neg (by omega)]
theorem v_rdSigns {P : Pic} (hP : P.1 ≤ 12) (hv : ∀ k, k < P.1 → vSign T (P.2 k)) (h : isR (rdSigns f n T P).2 = true) : vPic T (rdSigns f n T P).1 ∧ P.1 < (rdSigns f n T P).1.1 ∧ ∀ k, k < P.1 → (rdSigns f n T P).1.2 k = P.2 k := by
  unfold rdSigns at h ⊢
  cases y : enS n (.inr (skp f n 0)) with
  | true =>
    rw [y] at h
    obtain ⟨m, hm⟩ : ∃ m, 13 - P.1 = m + 1 := ⟨12 - P.1, by omega⟩
    rw [hm] at h
    cases h
  | false =>
    rw [y] at h
    simp only [Bool.false_eq_true, if_false] at h ⊢
    have := v_sgL (13 - P.1) P _ (by omega) hP hv h
    exact ⟨⟨by have := this.2.2.2.1 y (by omega); omega, this.2.1, this.1⟩, this.2.2.2.1 y (by omega), this.2.2.2.2⟩
end VS
