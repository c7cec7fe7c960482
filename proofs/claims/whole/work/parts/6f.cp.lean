/-! THE CLASS, sixteen: look, next; the mathematics -/
def nmK (P : Pic) (i k : Nat) : Bool := decide (P.2 k 0 ≤ 1) && decide (P.2 k 1 = i)
/-- a day that the signs of no such thing bar -/
def bsD (T : Twn) (P : Pic) (i d : Nat) : Bool := allK (fun k => nmK P i k || sD T 0 nosu (P.2 k) d) P.1
def wD (T : Twn) (P : Pic) (i d : Nat) : Nat := if bsD T P i d then pCnt T P (mth d) else 0
def fSt (P : Pic) (i : Nat) : Nat → Bool := fun n => !allK (fun k => !(nmK P i k && decide (P.2 k 0 = 0))) n
def fLa (P : Pic) (i : Nat) : Nat → Bool := fun n => !allK (fun k => !(nmK P i k && decide (P.2 k 0 = 1))) n
theorem allK_or {A : Nat → Bool} {C : Bool} : ∀ n, allK (fun k => !A k || C) n = (allK (fun k => !A k) n || C)
  | 0 => rfl
  | n + 1 => by
    rw [allK_s, allK_s, allK_or n]
    cases allK (fun k => !A k) n <;> cases A n <;> cases C <;> rfl
theorem sD_su {T : Twn} {P : Pic} {i k : Nat} {z d : Int} (vs : vSign T (P.2 k)) : sD T 0 ((i : Int), z) (P.2 k) d = ((nmK P i k || sD T 0 nosu (P.2 k) d) && ((!(nmK P i k && decide (P.2 k 0 = 0)) || dSt T 0 ((i : Int), z) i d) && (!(nmK P i k && decide (P.2 k 0 = 1)) || dLa T 0 ((i : Int), z) i d))) := by
  have r0 := vSign_r0 vs
  have r1 : P.2 k 0 ≤ 1 → 0 ≤ P.2 k 1 := fun h => by
    rcases vs with ⟨q | q, a, -⟩ | ⟨q | q, -⟩ | ⟨q, -⟩ | ⟨q, -⟩ | ⟨q, -⟩ | ⟨q, -⟩ | ⟨q | q, -⟩ <;> omega
  unfold nmK
  by_cases h1 : P.2 k 0 ≤ 1
  · have r1 := r1 h1
    by_cases e : P.2 k 1 = i
    · rw [decide_eq_true h1, decide_eq_true e]
      rcases (show P.2 k 0 = 0 ∨ P.2 k 0 = 1 by omega) with h | h
      · unfold sD
        simp [h, e]
      · unfold sD
        simp [h, e]
    · rw [decide_eq_false e]
      have n1 : ¬ P.2 k 1 = ((i : Int), z).1 := e
      have n2 : ¬ P.2 k 1 = nosu.1 := fun q => by
        have : nosu.1 = -1 := rfl
        omega
      unfold sD dSt dLa
      rw [if_neg n1, if_neg n1, if_neg n2, if_neg n2]
      simp
  · rw [decide_eq_false h1]
    have h0 : ¬ P.2 k 0 = 0 := by omega
    have h2 : ¬ P.2 k 0 = 1 := by omega
    unfold sD
    rw [if_neg h0, if_neg h2, if_neg h0, if_neg h2]
    simp
theorem pD_su {T : Twn} {P : Pic} {i d : Nat} {z : Int} (vP : ∀ k, k < P.1 → vSign T (P.2 k)) : pD T 0 ((i : Int), z) P d = (bsD T P i d && ((!fSt P i P.1 || dSt T 0 ((i : Int), z) i d) && (!fLa P i P.1 || dLa T 0 ((i : Int), z) i d))) := by
  unfold pD bsD fSt fLa
  rw [allK_cg P.1 (fun k hk => sD_su (i := i) (z := z) (d := (d : Int)) (vP k hk)), allK_and (f := fun k => nmK P i k || sD T 0 nosu (P.2 k) d) (g := fun k => (!(nmK P i k && decide (P.2 k 0 = 0)) || dSt T 0 ((i : Int), z) i d) && (!(nmK P i k && decide (P.2 k 0 = 1)) || dLa T 0 ((i : Int), z) i d)) (fun k => rfl), allK_and (f := fun k => !(nmK P i k && decide (P.2 k 0 = 0)) || dSt T 0 ((i : Int), z) i d) (g := fun k => !(nmK P i k && decide (P.2 k 0 = 1)) || dLa T 0 ((i : Int), z) i d) (fun k => rfl), allK_or, allK_or, Bool.not_not, Bool.not_not]
/-- those of an interval -/
def ivD (w : Nat → Nat) (lo hi : Int) : Nat := sumN (fun d => if lo ≤ (d : Int) ∧ (d : Int) ≤ hi then w d else 0) 3600
theorem ivN {w : Nat → Nat} {a b : Nat} (hab : a ≤ b) : ∀ N, sumN (fun d => if a ≤ d ∧ d < b then w d else 0) N + sumN w (if a ≤ N then a else N) = sumN w (if b ≤ N then b else N)
  | 0 => by
    rw [show (if a ≤ 0 then a else 0) = 0 by split <;> omega, show (if b ≤ 0 then b else 0) = 0 by split <;> omega]; rfl
  | N + 1 => by
    have ih := ivN (w := w) hab N
    rw [sumN_s]
    by_cases h1 : a ≤ N
    · rw [if_pos h1] at ih
      rw [if_pos (by omega : a ≤ N + 1)]
      by_cases h2 : b ≤ N
      · rw [if_pos h2] at ih
        rw [if_pos (by omega : b ≤ N + 1), if_neg (by omega)]; omega
      · rw [if_neg h2] at ih
        have e : (if b ≤ N + 1 then b else N + 1) = N + 1 := by split <;> omega
        rw [e, sumN_s, if_pos ⟨h1, by omega⟩]; omega
    · rw [if_neg h1] at ih
      have e2 : (if b ≤ N then b else N) = N := by split <;> omega
      rw [e2] at ih
      have e : (if b ≤ N + 1 then b else N + 1) = N + 1 := by split <;> omega
      have e3 : (if a ≤ N + 1 then a else N + 1) = N + 1 := by split <;> omega
      rw [e, e3, if_neg (by omega), sumN_s]; omega
theorem ivD_eq {w : Nat → Nat} {lo hi : Int} {a b : Nat} (ha : (a : Int) = if lo < 0 then 0 else lo) (hb : (b : Int) = if hi < 3599 then hi + 1 else 3600) (hab : a ≤ b) : ivD w lo hi + sumN w a = sumN w b := by
  have hb2 : b ≤ 3600 := by split at hb <;> omega
  have h := ivN (w := w) hab 3600
  rw [if_pos (by omega), if_pos hb2] at h
  have e : ivD w lo hi = sumN (fun d => if a ≤ d ∧ d < b then w d else 0) 3600 := by
    unfold ivD
    refine sumN_congr (fun d hd => ?_)
    have : (lo ≤ (d : Int) ∧ (d : Int) ≤ hi) ↔ (a ≤ d ∧ d < b) := by
      constructor
      · rintro ⟨h1, h2⟩
        split at ha <;> split at hb <;> omega
      · rintro ⟨h1, h2⟩
        split at ha <;> split at hb <;> omega
    by_cases q : a ≤ d ∧ d < b
    · rw [if_pos (this.2 q), if_pos q]
    · rw [if_neg (fun z => q (this.1 z)), if_neg q]
  rw [e]; exact h
theorem ivD_0 {w : Nat → Nat} {lo hi : Int} (h : ¬ (if lo < 0 then 0 else lo) ≤ if hi < 3599 then hi else 3599) : ivD w lo hi = 0 := by
  unfold ivD
  refine sumN_0 _ (fun d hd => ?_)
  rw [if_neg]
  rintro ⟨h1, h2⟩
  split at h <;> split at h <;> omega
theorem sum2 {w : Nat → Nat} {A B C : Nat → Prop} [DecidablePred A] [DecidablePred B] [DecidablePred C] : ∀ n, (∀ d, d < n → (C d ↔ A d ∨ B d) ∧ ¬ (A d ∧ B d)) → sumN (fun d => if C d then w d else 0) n = sumN (fun d => if A d then w d else 0) n + sumN (fun d => if B d then w d else 0) n
  | 0, _ => rfl
  | n + 1, h => by
    rw [sumN_s, sumN_s, sumN_s, sum2 n (fun d hd => h d (by omega))]
    obtain ⟨h1, h2⟩ := h n (by omega)
    by_cases a : A n
    · rw [if_pos a, if_pos (h1.2 (Or.inl a)), if_neg (fun b => h2 ⟨a, b⟩)]; omega
    · by_cases b : B n
      · rw [if_neg a, if_pos (h1.2 (Or.inr b)), if_pos b]; omega
      · rw [if_neg a, if_neg b, if_neg (fun q => by
          rcases h1.1 q with z | z
          · exact a z
          · exact b z)]
        omega
/-- the days on which a thing's signs let, its first day told -/
def luC (T : Twn) (P : Pic) (i : Nat) (z d : Int) : Prop := (fSt P i P.1 = true → z ≤ d ∧ (tNum T 0 i 2 < 0 ∨ d ≤ tNum T 0 i 2 + tNum T 0 i 3)) ∧ (fLa P i P.1 = true → d < z ∨ (0 ≤ tNum T 0 i 2 ∧ tNum T 0 i 2 - tNum T 0 i 3 < d))
theorem lkD_sum {T : Twn} {P : Pic} {i z : Nat} (vP : ∀ k, k < P.1 → vSign T (P.2 k)) : lkD T P i z = sumN (fun d => @ite _ (luC T P i z d) (Classical.propDecidable _) (wD T P i d) 0) 3600 := by
  unfold lkD
  refine sumN_congr (fun d hd => ?_)
  unfold mOn wD
  rw [pD_su vP]
  have e1 : dSt T 0 ((i : Int), (z : Int)) i d = (decide ((z : Int) ≤ d) && (decide (tNum T 0 i 2 < 0) || decide ((d : Int) ≤ tNum T 0 i 2 + tNum T 0 i 3))) := by
    unfold dSt
    rw [if_pos rfl, Int.toNat_natCast, Int.add_zero]
  have e2 : dLa T 0 ((i : Int), (z : Int)) i d = (decide ((d : Int) < z) || (decide (0 ≤ tNum T 0 i 2) && decide (tNum T 0 i 2 - tNum T 0 i 3 < (d : Int)))) := by
    unfold dLa
    rw [if_pos rfl, Int.toNat_natCast, Int.add_zero]
  rw [e1, e2]
  by_cases hc : luC T P i z d
  · rw [if_pos hc]
    unfold luC at hc
    cases hb : bsD T P i d with
    | false => simp
    | true =>
      rw [if_pos, if_pos rfl]
      cases hs : fSt P i P.1 <;> cases hl : fLa P i P.1 <;> simp [hs, hl] at hc ⊢ <;> first | omega | exact hc
  · rw [if_neg hc]
    rw [if_neg]
    intro q
    apply hc
    unfold luC
    cases hs : fSt P i P.1 <;> cases hl : fLa P i P.1 <;> simp [hs, hl] at q ⊢ <;> first | omega | exact q.2
