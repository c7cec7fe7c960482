/-! TEXTS: tokens -/
def skF (f : Nat → Nat) (n : Nat) : Nat → Nat → Nat
  | 0, p => p
  | k + 1, p => if p < n ∧ (f p = 32 ∨ f p = 10) then skF f n k (p + 1) else p
/-- blanks passed -/
def skp (f : Nat → Nat) (n p : Nat) : Nat := skF f n (n - p) p
def enF (c : Nat → Bool) (f : Nat → Nat) (n : Nat) : Nat → Nat → Nat
  | 0, p => p
  | k + 1, p => if p < n ∧ c (f p) = true then enF c f n k (p + 1) else p
/-- those alike passed -/
def enP (c : Nat → Bool) (f : Nat → Nat) (n p : Nat) : Nat := enF c f n (n - p) p
def cL (c : Nat) : Bool := decide (97 ≤ c) && decide (c ≤ 122)
def cD (c : Nat) : Bool := decide (48 ≤ c) && decide (c ≤ 57)
theorem cL_iff {c : Nat} : cL c = true ↔ 97 ≤ c ∧ c ≤ 122 := by simp [cL]
theorem cD_iff {c : Nat} : cD c = true ↔ 48 ≤ c ∧ c ≤ 57 := by simp [cD]
def ltrs (f : Nat → Nat) (a : Nat) : Nat → List Nat
  | 0 => []
  | k + 1 => ltrs f a k ++ [f (a + k) - 96]
def val (f : Nat → Nat) (a : Nat) : Nat → Nat
  | 0 => 0
  | k + 1 => val f a k * 10 + (f (a + k) - 48)
/-- which kind of token begins at a: 0 none, 1 a word, 2 a number, 59, 3 a strange one -/
def kd (f : Nat → Nat) (n a : Nat) : Nat := if n ≤ a then 0 else if cL (f a) then 1 else if cD (f a) then (if enP cD f n a - a ≤ 4 then 2 else 3) else if f a = 59 then 59 else 3
def en (f : Nat → Nat) (n a : Nat) : Nat := if n ≤ a then a else if cL (f a) then enP cL f n a else if cD (f a) then enP cD f n a else a + 1
def nx (f : Nat → Nat) (n a : Nat) : Nat := skp f n (en f n a)
def wd (f : Nat → Nat) (n a : Nat) : List Nat := if kd f n a = 1 ∧ en f n a - a ≤ 8 then ltrs f a (en f n a - a) else []
def vl (f : Nat → Nat) (n a : Nat) : Nat := val f a (en f n a - a)
theorem skp_s {f : Nat → Nat} {n p : Nat} (h : p < n) (hb : f p = 32 ∨ f p = 10) : skp f n p = skp f n (p + 1) := by
  unfold skp
  rw [show n - p = (n - (p + 1)) + 1 by omega]
  show (if p < n ∧ (f p = 32 ∨ f p = 10) then _ else _) = _
  rw [if_pos ⟨h, hb⟩]
theorem skp_e {f : Nat → Nat} {n p : Nat} (h : ¬ (p < n ∧ (f p = 32 ∨ f p = 10))) : skp f n p = p := by
  unfold skp
  cases hk : n - p with
  | zero => rfl
  | succ k => show (if p < n ∧ (f p = 32 ∨ f p = 10) then _ else _) = _; rw [if_neg h]
theorem enP_s {c : Nat → Bool} {f : Nat → Nat} {n p : Nat} (h : p < n) (hb : c (f p) = true) : enP c f n p = enP c f n (p + 1) := by
  unfold enP
  rw [show n - p = (n - (p + 1)) + 1 by omega]
  show (if p < n ∧ c (f p) = true then _ else _) = _
  rw [if_pos ⟨h, hb⟩]
theorem enP_e {c : Nat → Bool} {f : Nat → Nat} {n p : Nat} (h : ¬ (p < n ∧ c (f p) = true)) : enP c f n p = p := by
  unfold enP
  cases hk : n - p with
  | zero => rfl
  | succ k => show (if p < n ∧ c (f p) = true then _ else _) = _; rw [if_neg h]
theorem skF_bd {f : Nat → Nat} {n : Nat} : ∀ k p, p ≤ n → p ≤ skF f n k p ∧ skF f n k p ≤ n ∧ (n ≤ p + k → ¬ (skF f n k p < n ∧ (f (skF f n k p) = 32 ∨ f (skF f n k p) = 10)))
  | 0, p, h => ⟨Nat.le_refl _, h, fun q => by show ¬ (p < n ∧ _); omega⟩
  | k + 1, p, h => by
    have e : skF f n (k + 1) p = if p < n ∧ (f p = 32 ∨ f p = 10) then skF f n k (p + 1) else p := rfl
    rw [e]
    clear e
    by_cases q : p < n ∧ (f p = 32 ∨ f p = 10)
    · rw [if_pos q]
      have := skF_bd (f := f) (n := n) k (p + 1) (by omega)
      exact ⟨by omega, this.2.1, fun z => this.2.2 (by omega)⟩
    · rw [if_neg q]
      exact ⟨Nat.le_refl _, h, fun _ => q⟩
theorem skp_bd {f : Nat → Nat} {n p : Nat} (h : p ≤ n) : p ≤ skp f n p ∧ skp f n p ≤ n ∧ ¬ (skp f n p < n ∧ (f (skp f n p) = 32 ∨ f (skp f n p) = 10)) := by
  have := skF_bd (f := f) (n - p) p h
  exact ⟨this.1, this.2.1, this.2.2 (by omega)⟩
theorem enF_bd {c : Nat → Bool} {f : Nat → Nat} {n : Nat} : ∀ k p, p ≤ n → p ≤ enF c f n k p ∧ enF c f n k p ≤ n ∧ (∀ i, p ≤ i → i < enF c f n k p → c (f i) = true) ∧ (n ≤ p + k → ¬ (enF c f n k p < n ∧ c (f (enF c f n k p)) = true))
  | 0, p, h => ⟨Nat.le_refl _, h, fun i h1 h2 => by have h2 : i < p := h2; omega, fun q => by show ¬ (p < n ∧ _); omega⟩
  | k + 1, p, h => by
    have e : enF c f n (k + 1) p = if p < n ∧ c (f p) = true then enF c f n k (p + 1) else p := rfl
    rw [e]
    clear e
    by_cases q : p < n ∧ c (f p) = true
    · rw [if_pos q]
      have := enF_bd (c := c) (f := f) (n := n) k (p + 1) (by omega)
      refine ⟨by omega, this.2.1, fun i h1 h2 => ?_, fun z => this.2.2.2 (by omega)⟩
      by_cases e : i = p
      · subst e; exact q.2
      · exact this.2.2.1 i (by omega) h2
    · rw [if_neg q]
      exact ⟨Nat.le_refl _, h, fun i h1 h2 => by omega, fun _ => q⟩
theorem enP_bd {c : Nat → Bool} {f : Nat → Nat} {n p : Nat} (h : p ≤ n) : p ≤ enP c f n p ∧ enP c f n p ≤ n ∧ (∀ i, p ≤ i → i < enP c f n p → c (f i) = true) ∧ ¬ (enP c f n p < n ∧ c (f (enP c f n p)) = true) := by
  have := enF_bd (c := c) (f := f) (n - p) p h
  exact ⟨this.1, this.2.1, this.2.2.1, this.2.2.2 (by omega)⟩
/-- the middle of a run of those alike -/
theorem enP_mid {c : Nat → Bool} {f : Nat → Nat} {n a : Nat} (ha : a ≤ n) : ∀ k, a + k ≤ enP c f n a → enP c f n (a + k) = enP c f n a
  | 0, _ => rfl
  | k + 1, h => by
    have := enP_bd (c := c) (f := f) ha
    rw [← enP_mid ha k (by omega), show a + (k + 1) = a + k + 1 by omega]
    exact (enP_s (by omega) (this.2.2.1 _ (by omega) (by omega))).symm
theorem en_bd {f : Nat → Nat} {n a : Nat} (h : a ≤ n) : a ≤ en f n a ∧ en f n a ≤ n ∧ (a < n → a < en f n a) := by
  have b1 := enP_bd (c := cL) (f := f) h
  have b2 := enP_bd (c := cD) (f := f) h
  unfold en
  by_cases h0 : n ≤ a
  · rw [if_pos h0]; omega
  · rw [if_neg h0]
    by_cases h1 : cL (f a) = true
    · rw [if_pos h1]
      have h3 := enP_bd (c := cL) (f := f) (n := n) (p := a + 1) (by omega)
      rw [← enP_s (by omega) h1] at h3
      omega
    · rw [if_neg h1]
      by_cases h2 : cD (f a) = true
      · rw [if_pos h2]
        have h3 := enP_bd (c := cD) (f := f) (n := n) (p := a + 1) (by omega)
        rw [← enP_s (by omega) h2] at h3
        omega
      · rw [if_neg h2]; omega
theorem nx_bd {f : Nat → Nat} {n a : Nat} (h : a ≤ n) : a ≤ nx f n a ∧ nx f n a ≤ n ∧ (a < n → a < nx f n a) := by
  have h1 := en_bd (f := f) h
  have h2 := skp_bd (f := f) h1.2.1
  unfold nx; omega
theorem kd_cases (f : Nat → Nat) (n a : Nat) : kd f n a = 0 ∨ kd f n a = 1 ∨ kd f n a = 2 ∨ kd f n a = 59 ∨ kd f n a = 3 := by
  unfold kd
  split
  · omega
  · split
    · omega
    · split
      · split <;> omega
      · split <;> omega
theorem kd_0 {f : Nat → Nat} {n a : Nat} : kd f n a = 0 ↔ n ≤ a := by
  unfold kd
  by_cases h : n ≤ a
  · rw [if_pos h]; simp [h]
  · rw [if_neg h]
    constructor
    · intro q
      split at q
      · omega
      · split at q
        · split at q <;> omega
        · split at q <;> omega
    · intro q; exact absurd q h
/-! words as numbers -/
theorem pk_fold (b : Nat) (l : List Nat) : pk b l = l.foldl (fun a c => a * b + c) 0 := by cases l <;> rfl
theorem pk_app (b : Nat) (l : List Nat) (c : Nat) : pk b (l ++ [c]) = pk b l * b + c := by rw [pk_fold, pk_fold, List.foldl_append]; rfl
theorem pk_nil (b : Nat) : pk b [] = 0 := rfl
def okL (b : Nat) (l : List Nat) : Prop := ∀ c ∈ l, 1 ≤ c ∧ c < b
theorem okL_app {b : Nat} {l : List Nat} {c : Nat} : okL b (l ++ [c]) ↔ okL b l ∧ 1 ≤ c ∧ c < b := by
  unfold okL
  constructor
  · intro h
    exact ⟨fun d hd => h d (List.mem_append_left _ hd), h c (List.mem_append_right _ (List.mem_singleton.2 rfl))⟩
  · rintro ⟨h1, h2⟩ d hd
    rcases List.mem_append.1 hd with q | q
    · exact h1 d q
    · rw [List.mem_singleton.1 q]; exact h2
theorem snoc_cases (l : List Nat) : l = [] ∨ ∃ m c, l = m ++ [c] := by
  rcases List.eq_nil_or_concat l with h | ⟨m, c, h⟩
  · exact Or.inl h
  · exact Or.inr ⟨m, c, by rw [h]; simp⟩
theorem pk_inj {b : Nat} : ∀ (k : Nat) {l l' : List Nat}, l.length ≤ k → okL b l → okL b l' → pk b l = pk b l' → l = l' := by
  intro k
  induction k with
  | zero =>
    intro l l' hk h h' e
    have : l = [] := List.length_eq_zero_iff.1 (by omega)
    subst this
    rcases snoc_cases l' with q | ⟨m, c, q⟩
    · exact q.symm
    · subst q
      rw [pk_app, pk_nil] at e
      have := (okL_app.1 h').2.1
      omega
  | succ k ih =>
    intro l l' hk h h' e
    rcases snoc_cases l with q | ⟨m, c, q⟩
    · subst q
      rcases snoc_cases l' with q | ⟨m, c, q⟩
      · exact q.symm
      · subst q
        rw [pk_app, pk_nil] at e
        have := (okL_app.1 h').2.1
        omega
    · subst q
      rcases snoc_cases l' with q | ⟨m', c', q⟩
      · subst q
        rw [pk_app, pk_nil] at e
        have := (okL_app.1 h).2.1
        omega
      · subst q
        rw [pk_app, pk_app] at e
        have g := okL_app.1 h
        have g' := okL_app.1 h'
        have e1 := dvm (k := b) (X := pk b m) (r := c) (w := pk b m * b + c) (by rw [Nat.mul_comm]) g.2.2
        have e2 := dvm (k := b) (X := pk b m') (r := c') (w := pk b m' * b + c') (by rw [Nat.mul_comm]) g'.2.2
        rw [e] at e1
        have hm : pk b m = pk b m' := by rw [← e1.1, e2.1]
        have hc : c = c' := by rw [← e1.2, e2.2]
        rw [hc, ih (by simp at hk; omega) g.1 g'.1 hm]
theorem pkW_lt {b : Nat} : ∀ (l : List Nat), okL b l → pk b l < b ^ l.length ∨ l = [] := by
  intro l
  obtain ⟨k, hk⟩ : ∃ k, l.length = k := ⟨_, rfl⟩
  induction k generalizing l with
  | zero => intro _; exact Or.inr (List.length_eq_zero_iff.1 hk)
  | succ k ih =>
    intro h
    rcases snoc_cases l with q | ⟨m, c, q⟩
    · exact Or.inr q
    · subst q
      have g := okL_app.1 h
      simp at hk
      refine Or.inl ?_
      rw [pk_app, List.length_append, List.length_singleton, Nat.pow_succ]
      rcases ih m hk g.1 with z | z
      · have : (pk b m + 1) * b ≤ b ^ m.length * b := Nat.mul_le_mul_right b z
        rw [Nat.add_mul] at this
        omega
      · subst z
        rw [pk_nil]; simp; omega
theorem ltrs_len {f : Nat → Nat} {a : Nat} : ∀ k, (ltrs f a k).length = k
  | 0 => rfl
  | k + 1 => by show (ltrs f a k ++ [_]).length = _; rw [List.length_append, ltrs_len k]; rfl
theorem ltrs_ok {f : Nat → Nat} {a : Nat} : ∀ k, (∀ i, i < k → cL (f (a + i)) = true) → okL 27 (ltrs f a k)
  | 0, _ => fun c h => by cases h
  | k + 1, h => by
    refine okL_app.2 ⟨ltrs_ok k (fun i hi => h i (by omega)), ?_⟩
    have := cL_iff.1 (h k (by omega))
    omega
theorem okL_32 {l : List Nat} (h : okL 27 l) : okL 32 l := fun c hc => by have := h c hc; omega
theorem val_lt {f : Nat → Nat} {a : Nat} : ∀ k, (∀ i, i < k → cD (f (a + i)) = true) → val f a k < 10 ^ k
  | 0, _ => by show 0 < 1; omega
  | k + 1, h => by
    have h1 := val_lt (f := f) (a := a) k (fun i hi => h i (by omega))
    have h2 := cD_iff.1 (h k (by omega))
    show val f a k * 10 + _ < 10 ^ (k + 1)
    rw [Nat.pow_succ]; omega
theorem wd_ok {f : Nat → Nat} {n a : Nat} : okL 27 (wd f n a) ∧ (wd f n a).length ≤ 8 := by
  unfold wd
  by_cases h : kd f n a = 1 ∧ en f n a - a ≤ 8
  · rw [if_pos h]
    refine ⟨ltrs_ok _ (fun i hi => ?_), by rw [ltrs_len]; exact h.2⟩
    have hk := h.1
    unfold kd at hk
    unfold en at hi
    by_cases h0 : n ≤ a
    · rw [if_pos h0] at hk; omega
    · rw [if_neg h0] at hk hi
      by_cases h1 : cL (f a) = true
      · rw [if_pos h1] at hi
        exact (enP_bd (c := cL) (f := f) (n := n) (p := a) (by omega)).2.2.1 _ (by omega) (by omega)
      · rw [if_neg h1] at hk
        split at hk
        · split at hk <;> omega
        · split at hk <;> omega
  · rw [if_neg h]
    exact ⟨fun c hc => (by cases hc), Nat.zero_le _⟩
theorem wd_kd {f : Nat → Nat} {n a : Nat} (h : wd f n a ≠ []) : kd f n a = 1 := by
  unfold wd at h
  by_cases q : kd f n a = 1 ∧ en f n a - a ≤ 8
  · exact q.1
  · rw [if_neg q] at h; exact absurd rfl h
theorem wd_ne {f : Nat → Nat} {n a : Nat} (h : a < n) (h1 : kd f n a = 1) (h8 : en f n a - a ≤ 8) : wd f n a = ltrs f a (en f n a - a) ∧ wd f n a ≠ [] := by
  have e : wd f n a = ltrs f a (en f n a - a) := by unfold wd; rw [if_pos ⟨h1, h8⟩]
  refine ⟨e, ?_⟩
  rw [e]
  intro q
  have := ltrs_len (f := f) (a := a) (en f n a - a)
  rw [q] at this
  have b := (en_bd (f := f) (n := n) (a := a) (by omega)).2.2 h
  simp at this
  omega
theorem wd_ok8 {f : Nat → Nat} {n a : Nat} (h : wd f n a ≠ []) : wordOk (wd f n a) := by
  have := wd_ok (f := f) (n := n) (a := a)
  exact ⟨h, this.2, fun c hc => by have := this.1 c hc; omega⟩
theorem vl_bd {f : Nat → Nat} {n a : Nat} (h : kd f n a = 2) : vl f n a < 10000 := by
  unfold kd at h
  unfold vl en
  by_cases h0 : n ≤ a
  · rw [if_pos h0] at h; omega
  · rw [if_neg h0] at h ⊢
    by_cases h1 : cL (f a) = true
    · rw [if_pos h1] at h; omega
    · rw [if_neg h1] at h ⊢
      by_cases h2 : cD (f a) = true
      · rw [if_pos h2] at h ⊢
        by_cases h3 : enP cD f n a - a ≤ 4
        · have := val_lt (f := f) (a := a) (enP cD f n a - a) (fun i hi => (enP_bd (c := cD) (f := f) (n := n) (p := a) (by omega)).2.2.1 _ (by omega) (by omega))
          have p : 10 ^ (enP cD f n a - a) ≤ 10 ^ 4 := Nat.pow_le_pow_right (by omega) h3
          omega
        · rw [if_neg h3] at h; omega
      · rw [if_neg h2] at h
        split at h <;> omega
/-! a reading's place: right of a fault, or at the token that begins at .. -/
abbrev Ps : Type := Sum Nat Nat
def wThing : List Nat := [20, 8, 9, 14, 7]
def wFrom : List Nat := [6, 18, 15, 13]
def wGive : List Nat := [7, 9, 22, 5]
def wTill : List Nat := [20, 9, 12, 12]
def wTree : List Nat := [20, 18, 5, 5]
def wLeaf : List Nat := [12, 5, 1, 6]
def wBare : List Nat := [2, 1, 18, 5]
def wPost : List Nat := [16, 15, 19, 20]
def wClock : List Nat := [3, 12, 15, 3, 11]
def wSlow : List Nat := [19, 12, 15, 23]
def wFast : List Nat := [6, 1, 19, 20]
def wSun : List Nat := [19, 21, 14]
def wEast : List Nat := [5, 1, 19, 20]
def wWest : List Nat := [23, 5, 19, 20]
def wNorth : List Nat := [14, 15, 18, 20, 8]
def wSouth : List Nat := [19, 15, 21, 20, 8]
def wStands : List Nat := [19, 20, 1, 14, 4, 19]
def wLacks : List Nat := [12, 1, 3, 11, 19]
def wShadow : List Nat := [19, 8, 1, 4, 15, 23]
def wWeek : List Nat := [23, 5, 5, 11]
def wYear : List Nat := [25, 5, 1, 18]
def wBefore : List Nat := [2, 5, 6, 15, 18, 5]
def wLeft : List Nat := [12, 5, 6, 20]
def resW : List (List Nat) := [wThing, wFrom, wGive, wTill, wTree, wLeaf, wBare, wPost, wClock, wSlow, wFast, wSun, wEast, wWest, wNorth, wSouth, wStands, wLacks, wShadow, wWeek, wYear, wBefore, wLeft]
section RD
variable (f : Nat → Nat) (n : Nat)
def isW (w : List Nat) : Ps → Bool
  | .inl _ => false
  | .inr a => decide (wd f n a = w)
def nxS : Ps → Ps
  | .inl e => .inl e
  | .inr a => .inr (nx f n a)
def erS : Ps → Ps
  | .inl e => .inl e
  | .inr a => .inl a
def muS (w : List Nat) (s : Ps) : Ps := if isW f n w s then nxS f n s else erS s
def nuO (lo hi : Int) : Ps → Bool
  | .inl _ => false
  | .inr a => decide (kd f n a = 2) && (decide (lo ≤ vl f n a) && decide ((vl f n a : Int) ≤ hi))
def nuS (lo hi : Int) (s : Ps) : Ps := if nuO f n lo hi s then nxS f n s else erS s
def nuV (lo hi : Int) (s : Ps) : Int := match s with
  | .inl _ => 0
  | .inr a => if nuO f n lo hi (.inr a) then (vl f n a : Int) else 0
def smO : Ps → Bool
  | .inl _ => false
  | .inr a => decide (kd f n a = 59)
def smS (s : Ps) : Ps := if smO f n s then nxS f n s else erS s
def giS (s : Ps) : Ps := if isW f n wGive s then nuS f n 0 99 (nxS f n s) else s
def giV (s : Ps) : Int := if isW f n wGive s then nuV f n 0 99 (nxS f n s) else 0
def wdS : Ps → List Nat
  | .inl _ => []
  | .inr a => wd f n a
end RD
