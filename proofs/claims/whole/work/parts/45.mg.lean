/-! THE REFERENCE, fifteen: quarrel, doubt -/
noncomputable def canB (T : Twn) (P : Pic) (s : Nat) : Bool := @decide (canP T P s) (Classical.propDecidable _)
theorem canB_iff {T : Twn} {P : Pic} {s : Nat} : canB T P s = true ↔ canP T P s := by unfold canB; exact @decide_eq_true_iff _ (Classical.propDecidable _)
theorem canB_f {T : Twn} {P : Pic} {s : Nat} : canB T P s = false ↔ ¬ canP T P s := by
  rw [← canB_iff]; cases canB T P s <;> simp
/-- the least set without a moment -/
noncomputable def qB (T : Twn) (P : Pic) : Nat → Nat
  | 0 => 0
  | s + 1 => if canB T P s = false ∧ (qB T P s = 0 ∨ pcN s < pcN (qB T P s)) then s else qB T P s
theorem qB_s (T : Twn) (P : Pic) (s : Nat) : qB T P (s + 1) = if canB T P s = false ∧ (qB T P s = 0 ∨ pcN s < pcN (qB T P s)) then s else qB T P s := rfl
theorem qB_le {T : Twn} {P : Pic} : ∀ s, qB T P s ≤ s
  | 0 => Nat.le_refl _
  | s + 1 => by
    rw [qB_s]
    have := qB_le (T := T) (P := P) s
    split <;> omega
/-- the least set without which there is a moment -/
noncomputable def vB (T : Twn) (P : Pic) (s : Nat) : Bool := canB T P (2 ^ P.1 - 1 - s)
noncomputable def dbB (T : Twn) (P : Pic) : Nat → Nat
  | 0 => 2 ^ P.1 - 1
  | s + 1 => if vB T P s = true ∧ pcN s < pcN (dbB T P s) then s else dbB T P s
theorem dbB_s (T : Twn) (P : Pic) (s : Nat) : dbB T P (s + 1) = if vB T P s = true ∧ pcN s < pcN (dbB T P s) then s else dbB T P s := rfl
noncomputable def rvB (T : Twn) (P : Pic) : Nat := cntN (fun s => vB T P s && decide (pcN s = pcN (dbB T P (2 ^ P.1)))) (2 ^ P.1)
theorem can_0 {T : Twn} {P : Pic} : canP T P 0 := ⟨0, 0, by omega, by omega, Nat.zero_and _⟩
theorem v_all {T : Twn} {P : Pic} : vB T P (2 ^ P.1 - 1) = true := by
  unfold vB
  rw [Nat.sub_self]; exact canB_iff.2 can_0
theorem pc_lt {n s : Nat} (hn : n ≤ 32) (h : s < 2 ^ n) (hs : s ≠ 2 ^ n - 1) : pcN s < n := by
  have e : s = bN (fun i => s.testBit i) n := bN_ext h (fun i _ => rfl)
  have hc : pcN s = cntN (fun i => s.testBit i) n := by rw [show pcN s = pcN (bN (fun i => s.testBit i) n) by rw [← e], pc_bN hn]
  rw [hc]
  have : ∃ i, i < n ∧ s.testBit i = false := by
    apply Classical.byContradiction
    intro hno
    apply hs
    rw [e, ← bN_full n]
    refine bN_congr (fun i hi => ?_)
    cases hb : s.testBit i with
    | true => rfl
    | false => exact absurd ⟨i, hi, hb⟩ hno
  obtain ⟨i, hi, hb⟩ := this
  clear hc e hs h hn
  induction n with
  | zero => omega
  | succ n ih =>
    rw [cntN_s]
    by_cases q : i = n
    · subst q
      rw [hb]
      have := cntN_le (f := fun i => s.testBit i) (n := i)
      simp; omega
    · have := ih (by omega)
      split <;> omega
theorem pc_full {n : Nat} (hn : n ≤ 32) : pcN (2 ^ n - 1) = n := by
  rw [← bN_full, pc_bN hn]
  have : ∀ m, cntN (fun _ => true) m = m := by
    intro m
    induction m with
    | zero => rfl
    | succ m ih => rw [cntN_s, ih]; rfl
  exact this n
/-- b is the best of those from lo on below hi -/
def bst (T : Twn) (P : Pic) (b : Nat) (r : Nat → Prop) : Prop := b < 2 ^ P.1 ∧ vB T P b = true ∧ ∀ u, u < 2 ^ P.1 → r u → vB T P u = true → pcN b < pcN u ∨ (pcN b = pcN u ∧ b ≤ u)
theorem dbB_bst {T : Twn} {P : Pic} (hn : P.1 ≤ 12) : ∀ s, s ≤ 2 ^ P.1 → bst T P (dbB T P s) (fun u => u < s) ∧ (dbB T P s < s ∨ dbB T P s = 2 ^ P.1 - 1)
  | 0, _ => ⟨⟨by show 2 ^ P.1 - 1 < _; have := pw_pos (n := P.1); omega, v_all, fun u _ q => by omega⟩, Or.inr rfl⟩
  | s + 1, hs => by
    obtain ⟨⟨h1, h2, h3⟩, h4⟩ := dbB_bst hn s (by omega)
    rw [dbB_s]
    by_cases q : vB T P s = true ∧ pcN s < pcN (dbB T P s)
    · rw [if_pos q]
      refine ⟨⟨by omega, q.1, fun u hu hr hv => ?_⟩, Or.inl (by omega)⟩
      by_cases e : u = s
      · subst e; exact Or.inr ⟨rfl, Nat.le_refl _⟩
      · rcases h3 u hu (by omega) hv with z | z
        · exact Or.inl (by omega)
        · exact Or.inl (by omega)
    · rw [if_neg q]
      refine ⟨⟨h1, h2, fun u hu hr hv => ?_⟩, by omega⟩
      by_cases e : u = s
      · subst e
        have hp : pcN (dbB T P u) ≤ pcN u := by
          rcases Nat.lt_or_ge (pcN u) (pcN (dbB T P u)) with z | z
          · exact absurd ⟨hv, z⟩ q
          · exact z
        rcases h4 with z | z
        · omega
        · by_cases e2 : u = 2 ^ P.1 - 1
          · omega
          · have := pc_lt (n := P.1) (by omega) hu e2
            have f := pc_full (n := P.1) (by omega)
            rw [z, f] at hp
            omega
      · exact h3 u hu (by omega) hv
theorem bst_uq {T : Twn} {P : Pic} {a b : Nat} (ha : bst T P a (fun _ => True)) (hb : bst T P b (fun _ => True)) : a = b := by
  have h1 := ha.2.2 b hb.1 trivial hb.2.1
  have h2 := hb.2.2 a ha.1 trivial ha.2.1
  omega
theorem dbB_uq {T : Twn} {P : Pic} (hn : P.1 ≤ 12) {b : Nat} (hb : bst T P b (fun _ => True)) : b = dbB T P (2 ^ P.1) := by
  obtain ⟨⟨h1, h2, h3⟩, -⟩ := dbB_bst (T := T) hn _ (Nat.le_refl (2 ^ P.1))
  exact bst_uq hb ⟨h1, h2, fun u hu _ hv => h3 u hu hu hv⟩
noncomputable def aQuarrel (T : Twn) (A : Alb) (x : Int32) : Int32 := if isP A x = true then nI (qB T (A.2.1 x.toInt.toNat) (2 ^ (A.2.1 x.toInt.toNat).1)) else -1
noncomputable def aDoubt (T : Twn) (A : Alb) (x w : Int32) : Int32 :=
  if isP A x = true ∧ 0 ≤ w.toInt ∧ w.toInt ≤ 1 then (let P := A.2.1 x.toInt.toNat
    if w.toInt = 0 then nI (dbB T P (2 ^ P.1)) else nI (rvB T P)) else -1
section DG
variable {T : Twn} {gi : Gi} {gl : Gl} {P : Pic} {x : Nat}
theorem m_quarrel {σ : Sta} {x : Int32} {Q : Int32 → Gi → Gl → Prop} (V : vSta σ) (m : MI σ gi gl) (h : ∀ gi', Sc gi gi' → Q (aQuarrel (sTown σ) (sShown σ) x) gi' gl) : p_X12_quarrel x gi gl Q := by
  have hA8 : (sShown σ).1 ≤ 8 := V.2.2.2.1.1
  refine v_X12_quarrel ?_
  unfold f_X12_quarrel
  refine s_X12_isPicture hA8 m.np ?_
  unfold aQuarrel at h
  refine c_nb (fun hp => ?_) (fun hp => ?_)
  · obtain ⟨i, hi, hxi, e⟩ := isP_of hp hA8
    rw [if_pos hp, e] at h
    obtain ⟨p, hE⟩ := m.E V
    rw [hxi]
    have hP := m.mP V hi
    have vP := (V.2.2.2.1.2.1 i hi).2.2
    generalize (sShown σ).2.1 i = P at *
    generalize sTown σ = T at *
    have hc := hP.2.1
    have hN := pw12 hc
    refine s_X12_findSets hE hP vP (fun g h0 h1 => ?_)
    have h := h g h0.Sc
    rw [nI_cl (by omega), h0.1 356 (by omega) (by omega) (by omega) (by omega), hP.2.2.1, jl_1 (by omega)]
    refine ⟨vp_nI (by omega) (by omega), ?_⟩
    rintro z6 rfl
    refine dn (P := fun s => p_X12_quarrel_29 (nI (2 ^ P.1)) (nI (qB T P s)) (nI s) g gl Q) (N := 2 ^ P.1) ?_ ?_ 0 (Nat.zero_le _)
    · refine v_X12_quarrel_29 ?_
      unfold f_X12_quarrel_29
      exact ifT (by rw [nI_leI (by omega) (by omega)]; omega) h
    · intro s hs ih
      have hq := qB_le (T := T) (P := P) s
      rw [qB_s] at ih
      refine v_X12_quarrel_29 ?_
      unfold f_X12_quarrel_29
      refine c_le (2 ^ P.1) s rfl rfl (by omega) (by omega) (fun q => by omega) (fun _ => ?_)
      rw [nI_cl (by omega), nI_1]
      refine ⟨vp_nI (by omega) (by omega), ?_⟩
      refine h1.rdn hs (fun q => ?_) (fun q => ?_)
      · rw [if_neg (by rintro ⟨z, -⟩; exact (canB_f.1 z) q)] at ih; exact ih
      · have qf := canB_f.2 q
        refine c_eq (qB T P s) 0 rfl rfl (by omega) (by omega) (fun q0 => ?_) (fun q0 => ?_)
        · rw [if_pos ⟨qf, Or.inl q0⟩] at ih; exact ih
        · refine s_X12_bitsOf (by omega) ?_
          refine s_X12_bitsOf (by omega) ?_
          have l1 := pcN_le (v := s)
          have l2 := pcN_le (v := qB T P s)
          refine c_le (pcN (qB T P s)) (pcN s) rfl rfl (by omega) (by omega) (fun z => ?_) (fun z => ?_)
          · rw [if_neg (by rintro ⟨-, w | w⟩ <;> omega)] at ih; exact ih
          · rw [if_pos ⟨qf, Or.inr z⟩] at ih; exact ih
  · rw [if_neg (by rw [hp]; simp)] at h; exact h gi Sc.rf
theorem doubt_91 {Q : Int32 → Gi → Gl → Prop} (hc : P.1 ≤ 12) (h1 : Mk gi 368 (2 ^ P.1) (canP T P)) {w : Int} (hw : 0 ≤ w ∧ w ≤ 1) (h : Q (if w = 0 then nI (dbB T P (2 ^ P.1)) else nI (rvB T P)) gi gl) : p_X12_doubt_91 (iI w) (nI (2 ^ P.1)) (nI (dbB T P (2 ^ P.1))) 0 0 gi gl Q := by
  have hN := pw12 hc
  have hd := (dbB_bst (T := T) hc _ (Nat.le_refl (2 ^ P.1))).1.1
  unfold rvB at h
  refine dn (P := fun s => p_X12_doubt_91 (iI w) (nI (2 ^ P.1)) (nI (dbB T P (2 ^ P.1))) (nI (cntN (fun s => vB T P s && decide (pcN s = pcN (dbB T P (2 ^ P.1)))) s)) (nI s) gi gl Q) (N := 2 ^ P.1) ?_ ?_ 0 (Nat.zero_le _)
  · refine v_X12_doubt_91 ?_
    unfold f_X12_doubt_91
    refine ifT (by rw [nI_leI (by omega) (by omega)]; omega) ?_
    refine d_ne w 0 rfl rfl (by omega) (by omega) (fun q => ?_) (fun q => ?_)
    · rw [if_neg q] at h; exact h
    · rw [if_pos q] at h; exact h
  · intro s hs ih
    rw [cntN_s] at ih
    refine v_X12_doubt_91 ?_
    unfold f_X12_doubt_91
    refine c_le (2 ^ P.1) s rfl rfl (by omega) (by omega) (fun q => by omega) (fun _ => ?_)
    rw [sub1 (by omega), pk_sub (show s ≤ 2 ^ P.1 - 1 by omega), nI_cl (by omega), nI_1]
    refine ⟨vp_nI (by omega) (by omega), ?_⟩
    have z0 : ∀ c : Nat, nI c + 0 = nI c := fun c => nI_add c 0
    refine h1.rd (by omega) (fun q => ?_) (fun q => ?_)
    · have e : vB T P s = false := canB_f.2 q
      rintro z1 rfl
      rw [z0]
      simp only [e, Bool.false_and, Bool.false_eq_true, if_false] at ih
      exact ih
    · have e : vB T P s = true := canB_iff.2 q
      refine s_X12_bitsOf (by omega) ?_
      refine s_X12_bitsOf (by omega) ?_
      have l1 := pcN_le (v := s)
      have l2 := pcN_le (v := dbB T P (2 ^ P.1))
      refine c_ne (pcN s) (pcN (dbB T P (2 ^ P.1))) rfl rfl (by omega) (by omega) (fun z => ?_) (fun z => ?_)
      · rintro z1 rfl
        rw [z0]
        simp only [e, Bool.true_and, decide_eq_true_eq, z, if_false] at ih
        exact ih
      · rintro z1 rfl
        rw [nI_1]
        simp only [e, Bool.true_and, decide_eq_true_eq, z, if_true] at ih
        exact ih
theorem m_doubt {σ : Sta} {x w : Int32} {Q : Int32 → Gi → Gl → Prop} (V : vSta σ) (m : MI σ gi gl) (h : ∀ gi', Sc gi gi' → Q (aDoubt (sTown σ) (sShown σ) x w) gi' gl) : p_X12_doubt x w gi gl Q := by
  have hA8 : (sShown σ).1 ≤ 8 := V.2.2.2.1.1
  refine v_X12_doubt ?_
  unfold f_X12_doubt
  refine s_X12_isPicture hA8 m.np ?_
  unfold aDoubt at h
  refine c_b (fun hp => ?_) (fun hp => ?_)
  · rw [if_neg (by rw [hp]; simp)] at h; exact h gi Sc.rf
  · have ew := iI_of w
    refine s_X12_within ?_
    rw [show ((0 : Int32).toInt) = 0 by rfl, show ((1 : Int32).toInt) = 1 by rfl]
    generalize w.toInt = w' at *
    subst ew
    refine c_nb (fun hw => ?_) (fun hw => ?_)
    · simp at hw
      obtain ⟨i, hi, hxi, e⟩ := isP_of hp hA8
      rw [if_pos ⟨hp, hw⟩, e] at h
      obtain ⟨p, hE⟩ := m.E V
      rw [hxi]
      have hP := m.mP V hi
      have vP := (V.2.2.2.1.2.1 i hi).2.2
      generalize (sShown σ).2.1 i = P at *
      generalize sTown σ = T at *
      have hc := hP.2.1
      have hN := pw12 hc
      have h0N := pw_pos (n := P.1)
      refine s_X12_findSets hE hP vP (fun g h0 h1 => ?_)
      have h := h g h0.Sc
      rw [nI_cl (by omega), h0.1 356 (by omega) (by omega) (by omega) (by omega), hP.2.2.1, jl_1 (by omega)]
      refine ⟨vp_nI (by omega) (by omega), ?_⟩
      rintro z9 rfl z10 rfl z11 rfl
      rw [sub1 (by omega)]
      have fin : ∀ b, bst T P b (fun _ => True) → p_X12_doubt_91 (iI w') (nI (2 ^ P.1)) (nI b) 0 0 g gl Q := by
        intro b hb
        rw [dbB_uq hc hb]
        exact doubt_91 hc h1 hw h
      have lp : ∀ k b, k ≤ 2 ^ P.1 → bst T P b (fun u => k ≤ u) → p_X12_doubt_43 (iI w') (nI (2 ^ P.1)) (nI b) (iI ((k : Int) - 1)) g gl Q := by
        intro k
        induction k with
        | zero =>
          intro b hk hb
          refine v_X12_doubt_43 ?_
          unfold f_X12_doubt_43
          refine ifT (by decide) ?_
          exact fin b ⟨hb.1, hb.2.1, fun u hu _ => hb.2.2 u hu (Nat.zero_le _)⟩
        | succ k ih =>
          intro b hk hb
          have hb1 := hb.1
          refine v_X12_doubt_43 ?_
          unfold f_X12_doubt_43
          rw [show (((k + 1 : Nat) : Int) - 1) = (k : Int) by omega, iI_n]
          refine c_lt k 0 rfl rfl (by omega) (by omega) (fun q => by omega) (fun _ => ?_)
          rw [sub1 (by omega), pk_sub (show k ≤ 2 ^ P.1 - 1 by omega), nI_cl (by omega)]
          have ed : nI k + (-1) = iI ((k : Int) - 1) := by rw [← iI_n, show (-1 : Int32) = iI (-1) by rfl, iI_add]; rfl
          rw [ed]
          refine ⟨vp_nI (by omega) (by omega), ?_⟩
          refine h1.rd (by omega) (fun q => ?_) (fun q => ?_)
          · have e : vB T P k = false := canB_f.2 q
            refine ih b (by omega) ⟨hb.1, hb.2.1, fun u hu hr hv => ?_⟩
            by_cases z : u = k
            · subst z; rw [e] at hv; cases hv
            · exact hb.2.2 u hu (show k + 1 ≤ u by omega) hv
          · have e : vB T P k = true := canB_iff.2 q
            refine s_X12_bitsOf (by omega) ?_
            refine s_X12_bitsOf (by omega) ?_
            have l1 := pcN_le (v := k)
            have l2 := pcN_le (v := b)
            refine c_lt (pcN b) (pcN k) rfl rfl (by omega) (by omega) (fun z => ?_) (fun z => ?_)
            · refine ih b (by omega) ⟨hb.1, hb.2.1, fun u hu hr hv => ?_⟩
              by_cases y : u = k
              · subst y; exact Or.inl z
              · exact hb.2.2 u hu (show k + 1 ≤ u by omega) hv
            · refine ih k (by omega) ⟨by omega, e, fun u hu hr hv => ?_⟩
              by_cases y : u = k
              · subst y; exact Or.inr ⟨rfl, Nat.le_refl _⟩
              · have hr : k ≤ u := hr
                rcases hb.2.2 u hu (show k + 1 ≤ u by omega) hv with t | t <;> omega
      have := lp (2 ^ P.1) (2 ^ P.1 - 1) (Nat.le_refl _) ⟨by omega, v_all, fun u hu hr => absurd hu (by have hr : 2 ^ P.1 ≤ u := hr; omega)⟩
      rw [show (((2 ^ P.1 : Nat) : Int) - 1) = ((2 ^ P.1 - 1 : Nat) : Int) by omega, iI_n] at this
      exact this
    · rw [if_neg (by rintro ⟨-, q1, q2⟩; simp at hw; omega)] at h; exact h gi Sc.rf
end DG
