/-! ROWS OF THE MACHINE BETWEEN, one an instruction -/
def lsO (f : Value → Value) (ls : List (Option Value)) : List (Nat × Value) := (List.range ls.length).filterMap (fun i => ((ls[i]?).getD none).map (fun v => (i, f v)))
theorem lsO_mem {f : Value → Value} {ls : List (Option Value)} {q : Nat × Value} : q ∈ lsO f ls ↔ ∃ v, ls[q.1]? = some (some v) ∧ q.2 = f v := by
  unfold lsO
  rw [List.mem_filterMap]
  constructor
  · rintro ⟨i, hi, h⟩
    cases hx : (ls[i]?).getD none with
    | none => rw [hx] at h; cases h
    | some v =>
      rw [hx] at h
      cases h
      refine ⟨v, ?_, rfl⟩
      cases hy : ls[i]? with
      | none => rw [hy] at hx; cases hx
      | some w => rw [hy] at hx; simp at hx; rw [hx]
  · rintro ⟨v, h, e⟩
    refine ⟨q.1, List.mem_range.mpr (List.getElem?_eq_some_iff.mp h).1, ?_⟩
    rw [h]
    obtain ⟨a, b⟩ := q
    cases e
    rfl
theorem LHas.has {f : Value → Value} {lsA : Array Slot} {n : Nat} {ls : List (Option Value)} (h : LHas f lsA n ls) : lv_has lsA n (lsO f ls) := by
  refine ⟨h.1, h.2.1, fun q hq => ?_⟩
  obtain ⟨v, h1, h2⟩ := lsO_mem.mp hq
  rw [h2]
  exact h.2.2 q.1 v h1
/-- what a list holds at i is a long -/
def lgAt (ls : List (Option Value)) (i : Nat) : Bool := match ls[i]? with
  | some (some v) => v.category == 2
  | _ => false
def clr (ls : List (Option Value)) : Nat → List (Option Value)
  | 0 => ls
  | i + 1 => if lgAt ls i then ls.set i none else ls
/-- a value of one slot is stored -/
def lsto (ls : List (Option Value)) (i : Nat) (v : Value) : List (Option Value) := (clr ls i).set i (some v)
/-- a value of two slots -/
def lsto2 (ls : List (Option Value)) (i : Nat) (v : Value) : List (Option Value) := ((clr ls i).set i (some v)).set (i + 1) none
theorem clr_at {ls : List (Option Value)} {i j : Nat} {w : Value} (h : (clr ls i)[j]? = some (some w)) : ls[j]? = some (some w) ∧ ¬ (j + 1 = i ∧ w.category = 2) := by
  cases i with
  | zero => exact ⟨h, fun q => by omega⟩
  | succ i =>
    have h : (if lgAt ls i then ls.set i none else ls)[j]? = some (some w) := h
    split at h
    · by_cases hj : j = i
      · subst hj
        rw [List.getElem?_set] at h
        simp at h
      · rw [List.getElem?_set_ne (Ne.symm hj)] at h
        exact ⟨h, fun q => hj (by omega)⟩
    · rename_i hg
      refine ⟨h, fun q => hg ?_⟩
      have : j = i := by omega
      subst this
      unfold lgAt
      rename_i h0
      first | rw [h] | rw [h0]
      simp [q.2]
theorem clr_len {ls : List (Option Value)} {i : Nat} : (clr ls i).length = ls.length := by
  cases i with
  | zero => rfl
  | succ i => show (if lgAt ls i then ls.set i none else ls).length = _; split <;> simp
theorem LHas.sto {f : Value → Value} (hf : ∀ v, (f v).category = v.category) {lsA' lsA : Array Slot} {n i : Nat} {ls : List (Option Value)} {v : Value} (h : lv_has lsA' n ((i, f v) :: (lsO f ls).filter (fun q => !(q.1 == i) && !(q.1 + 1 == i && q.2.category == 2)))) : LHas f lsA' n (lsto ls i v) := by
  refine ⟨h.1, h.2.1, fun j w hj => ?_⟩
  unfold lsto at hj
  by_cases hji : j = i
  · subst hji
    rw [List.getElem?_set] at hj
    split at hj
    · split at hj
      · cases hj; exact h.2.2 (j, f v) List.mem_cons_self
      · cases hj
    · exact absurd rfl ‹_›
  · rw [List.getElem?_set_ne (Ne.symm hji)] at hj
    obtain ⟨h1, h2⟩ := clr_at hj
    refine h.2.2 (j, f w) (List.mem_cons_of_mem _ (List.mem_filter.mpr ⟨lsO_mem.mpr ⟨w, h1, rfl⟩, ?_⟩))
    have h3 : ¬ (j + 1 = i ∧ (f w).category = 2) := by rw [hf]; exact h2
    simp only [Bool.and_eq_true, Bool.not_eq_true', beq_eq_false_iff_ne, ne_eq, Bool.and_eq_false_iff, beq_iff_eq]
    refine ⟨hji, ?_⟩
    by_cases q : j + 1 = i
    · exact Or.inr fun z => h3 ⟨q, z⟩
    · exact Or.inl q
theorem LHas.sto2 {f : Value → Value} (hf : ∀ v, (f v).category = v.category) {lsA' lsA : Array Slot} {n i : Nat} {ls : List (Option Value)} {v : Value} (h : lv_has lsA' n ((i, f v) :: (lsO f ls).filter (fun q => !(q.1 == i) && (!(q.1 == i + 1) && !(q.1 + 1 == i && q.2.category == 2))))) : LHas f lsA' n (lsto2 ls i v) := by
  refine ⟨h.1, h.2.1, fun j w hj => ?_⟩
  unfold lsto2 at hj
  by_cases hj1 : j = i + 1
  · subst hj1
    rw [List.getElem?_set] at hj
    simp at hj
  · rw [List.getElem?_set_ne (Ne.symm hj1)] at hj
    by_cases hji : j = i
    · subst hji
      rw [List.getElem?_set] at hj
      split at hj
      · split at hj
        · cases hj; exact h.2.2 (j, f v) List.mem_cons_self
        · cases hj
      · exact absurd rfl ‹_›
    · rw [List.getElem?_set_ne (Ne.symm hji)] at hj
      obtain ⟨h1, h2⟩ := clr_at hj
      refine h.2.2 (j, f w) (List.mem_cons_of_mem _ (List.mem_filter.mpr ⟨lsO_mem.mpr ⟨w, h1, rfl⟩, ?_⟩))
      have h3 : ¬ (j + 1 = i ∧ (f w).category = 2) := by rw [hf]; exact h2
      simp only [Bool.and_eq_true, Bool.not_eq_true', beq_eq_false_iff_ne, ne_eq, Bool.and_eq_false_iff, beq_iff_eq]
      refine ⟨hji, hj1, ?_⟩
      by_cases q : j + 1 = i
      · exact Or.inr fun z => h3 ⟨q, z⟩
      · exact Or.inl q
theorem cv_cat {base : Nat} {ro : Nat → Nat} (v : Value) : (cv base ro v).category = v.category := by cases v <;> rfl
section PR
variable {M : MD} {nE nX : Nat} {κ : Kp} {pc : Nat} {ls : List (Option Value)} {st : List Value} {gi : Gi} {gl : Gl} {Q : Value → Kp → Gi → Gl → Prop}
theorem px_iconst {n : Int} {v : Int32} (hd : decode (mC M) pc = .ok (.iconst n, 1)) (hv : Int32.ofInt n = v) (k : PAt M nE nX κ (pc + 1) ls (.int v :: st) gi gl Q) : PAt M nE nX κ pc ls (st) gi gl Q := by
  intro p l e R s m args below meth c base D cA ro Z C F H locs lsA hW hS hL
  exact lv_iconst C.1 C.2.1 hd hv (k p l e R s m args below meth c base D cA ro Z C F H locs lsA hW hS hL)
theorem px_bipush {n : Int} {v : Int32} (hd : decode (mC M) pc = .ok (.bipush n, 2)) (hv : (Int8.ofInt n).toInt32 = v) (k : PAt M nE nX κ (pc + 2) ls (.int v :: st) gi gl Q) : PAt M nE nX κ pc ls (st) gi gl Q := by
  intro p l e R s m args below meth c base D cA ro Z C F H locs lsA hW hS hL
  exact lv_bipush C.1 C.2.1 hd hv (k p l e R s m args below meth c base D cA ro Z C F H locs lsA hW hS hL)
theorem px_sipush {n : Int} {v : Int32} (hd : decode (mC M) pc = .ok (.sipush n, 3)) (hv : (Int16.ofInt n).toInt32 = v) (k : PAt M nE nX κ (pc + 3) ls (.int v :: st) gi gl Q) : PAt M nE nX κ pc ls (st) gi gl Q := by
  intro p l e R s m args below meth c base D cA ro Z C F H locs lsA hW hS hL
  exact lv_sipush C.1 C.2.1 hd hv (k p l e R s m args below meth c base D cA ro Z C F H locs lsA hW hS hL)
theorem px_lconst {n : Fin 2} {v : Int64} (hd : decode (mC M) pc = .ok (.lconst n, 1)) (hv : Int64.ofNat (n : Nat) = v) (k : PAt M nE nX κ (pc + 1) ls (.long v :: st) gi gl Q) : PAt M nE nX κ pc ls (st) gi gl Q := by
  intro p l e R s m args below meth c base D cA ro Z C F H locs lsA hW hS hL
  exact lv_lconst C.1 C.2.1 hd hv (k p l e R s m args below meth c base D cA ro Z C F H locs lsA hW hS hL)
theorem px_iload_n {n : Fin 4} {i : Nat} {x : Int32} (hd : decode (mC M) pc = .ok (.iload_n n, 1)) (hi : (n : Nat) = i) (hl : ls[i]? = some (some (.int x))) (k : PAt M nE nX κ (pc + 1) ls (.int x :: st) gi gl Q) : PAt M nE nX κ pc ls (st) gi gl Q := by
  intro p l e R s m args below meth c base D cA ro Z C F H locs lsA hW hS hL
  exact lv_iload_n C.1 C.2.1 hd hi (hL.2.2 i _ hl) (k p l e R s m args below meth c base D cA ro Z C F H locs lsA hW hS hL)
theorem px_iload {i : Nat} {x : Int32} (hd : decode (mC M) pc = .ok (.iload i, 2)) (hl : ls[i]? = some (some (.int x))) (k : PAt M nE nX κ (pc + 2) ls (.int x :: st) gi gl Q) : PAt M nE nX κ pc ls (st) gi gl Q := by
  intro p l e R s m args below meth c base D cA ro Z C F H locs lsA hW hS hL
  exact lv_iload C.1 C.2.1 hd (hL.2.2 i _ hl) (k p l e R s m args below meth c base D cA ro Z C F H locs lsA hW hS hL)
theorem px_lload_n {n : Fin 4} {i : Nat} {x : Int64} (hd : decode (mC M) pc = .ok (.lload_n n, 1)) (hi : (n : Nat) = i) (hl : ls[i]? = some (some (.long x))) (k : PAt M nE nX κ (pc + 1) ls (.long x :: st) gi gl Q) : PAt M nE nX κ pc ls (st) gi gl Q := by
  intro p l e R s m args below meth c base D cA ro Z C F H locs lsA hW hS hL
  exact lv_lload_n C.1 C.2.1 hd hi (hL.2.2 i _ hl) (k p l e R s m args below meth c base D cA ro Z C F H locs lsA hW hS hL)
theorem px_lload {i : Nat} {x : Int64} (hd : decode (mC M) pc = .ok (.lload i, 2)) (hl : ls[i]? = some (some (.long x))) (k : PAt M nE nX κ (pc + 2) ls (.long x :: st) gi gl Q) : PAt M nE nX κ pc ls (st) gi gl Q := by
  intro p l e R s m args below meth c base D cA ro Z C F H locs lsA hW hS hL
  exact lv_lload C.1 C.2.1 hd (hL.2.2 i _ hl) (k p l e R s m args below meth c base D cA ro Z C F H locs lsA hW hS hL)
theorem px_aload_n {n : Fin 4} {i : Nat} {x : Nat} (hd : decode (mC M) pc = .ok (.aload_n n, 1)) (hi : (n : Nat) = i) (hl : ls[i]? = some (some (.ref x))) (k : PAt M nE nX κ (pc + 1) ls (.ref x :: st) gi gl Q) : PAt M nE nX κ pc ls (st) gi gl Q := by
  intro p l e R s m args below meth c base D cA ro Z C F H locs lsA hW hS hL
  exact lv_aload_n C.1 C.2.1 hd hi (hL.2.2 i _ hl) (k p l e R s m args below meth c base D cA ro Z C F H locs lsA hW hS hL)
theorem px_aload {i : Nat} {x : Nat} (hd : decode (mC M) pc = .ok (.aload i, 2)) (hl : ls[i]? = some (some (.ref x))) (k : PAt M nE nX κ (pc + 2) ls (.ref x :: st) gi gl Q) : PAt M nE nX κ pc ls (st) gi gl Q := by
  intro p l e R s m args below meth c base D cA ro Z C F H locs lsA hW hS hL
  exact lv_aload C.1 C.2.1 hd (hL.2.2 i _ hl) (k p l e R s m args below meth c base D cA ro Z C F H locs lsA hW hS hL)
theorem px_aload_nN {n : Fin 4} {i : Nat} (hd : decode (mC M) pc = .ok (.aload_n n, 1)) (hi : (n : Nat) = i) (hl : ls[i]? = some (some .null)) (k : PAt M nE nX κ (pc + 1) ls (.null :: st) gi gl Q) : PAt M nE nX κ pc ls (st) gi gl Q := by
  intro p l e R s m args below meth c base D cA ro Z C F H locs lsA hW hS hL
  exact lv_aload_nN C.1 C.2.1 hd hi (hL.2.2 i _ hl) (k p l e R s m args below meth c base D cA ro Z C F H locs lsA hW hS hL)
theorem px_aloadN {i : Nat} (hd : decode (mC M) pc = .ok (.aload i, 2)) (hl : ls[i]? = some (some .null)) (k : PAt M nE nX κ (pc + 2) ls (.null :: st) gi gl Q) : PAt M nE nX κ pc ls (st) gi gl Q := by
  intro p l e R s m args below meth c base D cA ro Z C F H locs lsA hW hS hL
  exact lv_aloadN C.1 C.2.1 hd (hL.2.2 i _ hl) (k p l e R s m args below meth c base D cA ro Z C F H locs lsA hW hS hL)
theorem px_istore_n {n : Fin 4} {i : Nat} (hi : (n : Nat) = i) {x : Int32} {ls2 : List (Option Value)} (hd : decode (mC M) pc = .ok (.istore_n n, 1)) (hn : i < mL M) (hl : lsto ls i (.int x) = ls2) (k : PAt M nE nX κ (pc + 1) ls2 st gi gl Q) : PAt M nE nX κ pc ls ((.int x) :: st) gi gl Q := by
  intro p l e R s m args below meth c base D cA ro Z C F H locs lsA hW hS hL
  subst hl
  exact lv_istore_n C.1 C.2.1 hd hi hL.has hn rfl (fun ls9 h9 => k p l e R s m args below meth c base D cA ro Z C F H locs ls9 hW hS (LHas.sto cv_cat (v := (.int x)) (lsA := lsA) h9))
theorem px_istore {i : Nat} {x : Int32} {ls2 : List (Option Value)} (hd : decode (mC M) pc = .ok (.istore i, 2)) (hn : i < mL M) (hl : lsto ls i (.int x) = ls2) (k : PAt M nE nX κ (pc + 2) ls2 st gi gl Q) : PAt M nE nX κ pc ls ((.int x) :: st) gi gl Q := by
  intro p l e R s m args below meth c base D cA ro Z C F H locs lsA hW hS hL
  subst hl
  exact lv_istore C.1 C.2.1 hd hL.has hn rfl (fun ls9 h9 => k p l e R s m args below meth c base D cA ro Z C F H locs ls9 hW hS (LHas.sto cv_cat (v := (.int x)) (lsA := lsA) h9))
theorem px_astore_n {n : Fin 4} {i : Nat} (hi : (n : Nat) = i) {x : Nat} {ls2 : List (Option Value)} (hd : decode (mC M) pc = .ok (.astore_n n, 1)) (hn : i < mL M) (hl : lsto ls i (.ref x) = ls2) (k : PAt M nE nX κ (pc + 1) ls2 st gi gl Q) : PAt M nE nX κ pc ls ((.ref x) :: st) gi gl Q := by
  intro p l e R s m args below meth c base D cA ro Z C F H locs lsA hW hS hL
  subst hl
  exact lv_astore_n C.1 C.2.1 hd hi hL.has hn rfl (fun ls9 h9 => k p l e R s m args below meth c base D cA ro Z C F H locs ls9 hW hS (LHas.sto cv_cat (v := (.ref x)) (lsA := lsA) h9))
theorem px_astore {i : Nat} {x : Nat} {ls2 : List (Option Value)} (hd : decode (mC M) pc = .ok (.astore i, 2)) (hn : i < mL M) (hl : lsto ls i (.ref x) = ls2) (k : PAt M nE nX κ (pc + 2) ls2 st gi gl Q) : PAt M nE nX κ pc ls ((.ref x) :: st) gi gl Q := by
  intro p l e R s m args below meth c base D cA ro Z C F H locs lsA hW hS hL
  subst hl
  exact lv_astore C.1 C.2.1 hd hL.has hn rfl (fun ls9 h9 => k p l e R s m args below meth c base D cA ro Z C F H locs ls9 hW hS (LHas.sto cv_cat (v := (.ref x)) (lsA := lsA) h9))
theorem px_lstore_n {n : Fin 4} {i : Nat} (hi : (n : Nat) = i) {x : Int64} {ls2 : List (Option Value)} (hd : decode (mC M) pc = .ok (.lstore_n n, 1)) (hn : i + 1 < mL M) (hl : lsto2 ls i (.long x) = ls2) (k : PAt M nE nX κ (pc + 1) ls2 st gi gl Q) : PAt M nE nX κ pc ls ((.long x) :: st) gi gl Q := by
  intro p l e R s m args below meth c base D cA ro Z C F H locs lsA hW hS hL
  subst hl
  exact lv_lstore_n C.1 C.2.1 hd hi hL.has hn rfl (fun ls9 h9 => k p l e R s m args below meth c base D cA ro Z C F H locs ls9 hW hS (LHas.sto2 cv_cat (v := (.long x)) (lsA := lsA) h9))
theorem px_lstore {i : Nat} {x : Int64} {ls2 : List (Option Value)} (hd : decode (mC M) pc = .ok (.lstore i, 2)) (hn : i + 1 < mL M) (hl : lsto2 ls i (.long x) = ls2) (k : PAt M nE nX κ (pc + 2) ls2 st gi gl Q) : PAt M nE nX κ pc ls ((.long x) :: st) gi gl Q := by
  intro p l e R s m args below meth c base D cA ro Z C F H locs lsA hW hS hL
  subst hl
  exact lv_lstore C.1 C.2.1 hd hL.has hn rfl (fun ls9 h9 => k p l e R s m args below meth c base D cA ro Z C F H locs ls9 hW hS (LHas.sto2 cv_cat (v := (.long x)) (lsA := lsA) h9))
theorem px_astore_nN {n : Fin 4} {i : Nat} (hi : (n : Nat) = i) {ls2 : List (Option Value)} (hd : decode (mC M) pc = .ok (.astore_n n, 1)) (hn : i < mL M) (hl : lsto ls i Value.null = ls2) (k : PAt M nE nX κ (pc + 1) ls2 st gi gl Q) : PAt M nE nX κ pc ls (Value.null :: st) gi gl Q := by
  intro p l e R s m args below meth c base D cA ro Z C F H locs lsA hW hS hL
  subst hl
  exact lv_astore_nN C.1 C.2.1 hd hi hL.has hn rfl (fun ls9 h9 => k p l e R s m args below meth c base D cA ro Z C F H locs ls9 hW hS (LHas.sto cv_cat (v := Value.null) (lsA := lsA) h9))
theorem px_astoreN {i : Nat} {ls2 : List (Option Value)} (hd : decode (mC M) pc = .ok (.astore i, 2)) (hn : i < mL M) (hl : lsto ls i Value.null = ls2) (k : PAt M nE nX κ (pc + 2) ls2 st gi gl Q) : PAt M nE nX κ pc ls (Value.null :: st) gi gl Q := by
  intro p l e R s m args below meth c base D cA ro Z C F H locs lsA hW hS hL
  subst hl
  exact lv_astoreN C.1 C.2.1 hd hL.has hn rfl (fun ls9 h9 => k p l e R s m args below meth c base D cA ro Z C F H locs ls9 hW hS (LHas.sto cv_cat (v := Value.null) (lsA := lsA) h9))
theorem px_iinc {i : Nat} {n : Int} {x v : Int32} {ls2 : List (Option Value)} (hd : decode (mC M) pc = .ok (.iinc i n, 3)) (hx : ls[i]? = some (some (.int x))) (hv : x + Int32.ofInt n = v) (hn : i < mL M) (hl : lsto ls i (.int v) = ls2) (k : PAt M nE nX κ (pc + 3) ls2 st gi gl Q) : PAt M nE nX κ pc ls st gi gl Q := by
  intro p l e R s m args below meth c base D cA ro Z C F H locs lsA hW hS hL
  subst hl
  have hm : (i, Value.int x) ∈ lsO (cv base ro) ls := lsO_mem.mpr ⟨.int x, hx, rfl⟩
  obtain ⟨k9, hk9⟩ := List.getElem?_of_mem hm
  exact lv_iinc C.1 C.2.1 hd hL.has hk9 hv hn rfl (fun ls9 h9 => k p l e R s m args below meth c base D cA ro Z C F H locs ls9 hW hS (LHas.sto cv_cat (v := .int v) (lsA := lsA) h9))
theorem px_iadd {x y : Int32} (hd : decode (mC M) pc = .ok (.iadd, 1)) (k : PAt M nE nX κ (pc + 1) ls (.int (x + y) :: st) gi gl Q) : PAt M nE nX κ pc ls (.int y :: .int x :: st) gi gl Q := by
  intro p l e R s m args below meth c base D cA ro Z C F H locs lsA hW hS hL
  exact lv_iadd C.1 C.2.1 hd (k p l e R s m args below meth c base D cA ro Z C F H locs lsA hW hS hL)
theorem px_isub {x y : Int32} (hd : decode (mC M) pc = .ok (.isub, 1)) (k : PAt M nE nX κ (pc + 1) ls (.int (x - y) :: st) gi gl Q) : PAt M nE nX κ pc ls (.int y :: .int x :: st) gi gl Q := by
  intro p l e R s m args below meth c base D cA ro Z C F H locs lsA hW hS hL
  exact lv_isub C.1 C.2.1 hd (k p l e R s m args below meth c base D cA ro Z C F H locs lsA hW hS hL)
theorem px_imul {x y : Int32} (hd : decode (mC M) pc = .ok (.imul, 1)) (k : PAt M nE nX κ (pc + 1) ls (.int (x * y) :: st) gi gl Q) : PAt M nE nX κ pc ls (.int y :: .int x :: st) gi gl Q := by
  intro p l e R s m args below meth c base D cA ro Z C F H locs lsA hW hS hL
  exact lv_imul C.1 C.2.1 hd (k p l e R s m args below meth c base D cA ro Z C F H locs lsA hW hS hL)
theorem px_iand {x y : Int32} (hd : decode (mC M) pc = .ok (.iand, 1)) (k : PAt M nE nX κ (pc + 1) ls (.int (x &&& y) :: st) gi gl Q) : PAt M nE nX κ pc ls (.int y :: .int x :: st) gi gl Q := by
  intro p l e R s m args below meth c base D cA ro Z C F H locs lsA hW hS hL
  exact lv_iand C.1 C.2.1 hd (k p l e R s m args below meth c base D cA ro Z C F H locs lsA hW hS hL)
theorem px_ior {x y : Int32} (hd : decode (mC M) pc = .ok (.ior, 1)) (k : PAt M nE nX κ (pc + 1) ls (.int (x ||| y) :: st) gi gl Q) : PAt M nE nX κ pc ls (.int y :: .int x :: st) gi gl Q := by
  intro p l e R s m args below meth c base D cA ro Z C F H locs lsA hW hS hL
  exact lv_ior C.1 C.2.1 hd (k p l e R s m args below meth c base D cA ro Z C F H locs lsA hW hS hL)
theorem px_ixor {x y : Int32} (hd : decode (mC M) pc = .ok (.ixor, 1)) (k : PAt M nE nX κ (pc + 1) ls (.int (x ^^^ y) :: st) gi gl Q) : PAt M nE nX κ pc ls (.int y :: .int x :: st) gi gl Q := by
  intro p l e R s m args below meth c base D cA ro Z C F H locs lsA hW hS hL
  exact lv_ixor C.1 C.2.1 hd (k p l e R s m args below meth c base D cA ro Z C F H locs lsA hW hS hL)
theorem px_idiv {x y : Int32} (hd : decode (mC M) pc = .ok (.idiv, 1)) (hne : ¬ y = 0) (k : PAt M nE nX κ (pc + 1) ls (.int (x / y) :: st) gi gl Q) : PAt M nE nX κ pc ls (.int y :: .int x :: st) gi gl Q := by
  intro p l e R s m args below meth c base D cA ro Z C F H locs lsA hW hS hL
  exact lv_idiv C.1 C.2.1 hd hne (k p l e R s m args below meth c base D cA ro Z C F H locs lsA hW hS hL)
theorem px_irem {x y : Int32} (hd : decode (mC M) pc = .ok (.irem, 1)) (hne : ¬ y = 0) (k : PAt M nE nX κ (pc + 1) ls (.int (x - x / y * y) :: st) gi gl Q) : PAt M nE nX κ pc ls (.int y :: .int x :: st) gi gl Q := by
  intro p l e R s m args below meth c base D cA ro Z C F H locs lsA hW hS hL
  exact lv_irem C.1 C.2.1 hd hne (k p l e R s m args below meth c base D cA ro Z C F H locs lsA hW hS hL)
theorem px_ineg {x : Int32} (hd : decode (mC M) pc = .ok (.ineg, 1)) (k : PAt M nE nX κ (pc + 1) ls (.int (-x) :: st) gi gl Q) : PAt M nE nX κ pc ls (.int x :: st) gi gl Q := by
  intro p l e R s m args below meth c base D cA ro Z C F H locs lsA hW hS hL
  exact lv_ineg C.1 C.2.1 hd (k p l e R s m args below meth c base D cA ro Z C F H locs lsA hW hS hL)
theorem px_ishl {x y : Int32} (hd : decode (mC M) pc = .ok (.ishl, 1)) (k : PAt M nE nX κ (pc + 1) ls (.int (x <<< (y &&& 31)) :: st) gi gl Q) : PAt M nE nX κ pc ls (.int y :: .int x :: st) gi gl Q := by
  intro p l e R s m args below meth c base D cA ro Z C F H locs lsA hW hS hL
  exact lv_ishl C.1 C.2.1 hd (k p l e R s m args below meth c base D cA ro Z C F H locs lsA hW hS hL)
theorem px_ishr {x y : Int32} (hd : decode (mC M) pc = .ok (.ishr, 1)) (k : PAt M nE nX κ (pc + 1) ls (.int (x >>> (y &&& 31)) :: st) gi gl Q) : PAt M nE nX κ pc ls (.int y :: .int x :: st) gi gl Q := by
  intro p l e R s m args below meth c base D cA ro Z C F H locs lsA hW hS hL
  exact lv_ishr C.1 C.2.1 hd (k p l e R s m args below meth c base D cA ro Z C F H locs lsA hW hS hL)
theorem px_iushr {x y : Int32} (hd : decode (mC M) pc = .ok (.iushr, 1)) (k : PAt M nE nX κ (pc + 1) ls (.int ((x.toUInt32 >>> (y.toUInt32 &&& Int32.toUInt32 31)).toInt32) :: st) gi gl Q) : PAt M nE nX κ pc ls (.int y :: .int x :: st) gi gl Q := by
  intro p l e R s m args below meth c base D cA ro Z C F H locs lsA hW hS hL
  exact lv_iushr C.1 C.2.1 hd rfl (k p l e R s m args below meth c base D cA ro Z C F H locs lsA hW hS hL)
theorem px_ladd {x y : Int64} (hd : decode (mC M) pc = .ok (.ladd, 1)) (k : PAt M nE nX κ (pc + 1) ls (.long (x + y) :: st) gi gl Q) : PAt M nE nX κ pc ls (.long y :: .long x :: st) gi gl Q := by
  intro p l e R s m args below meth c base D cA ro Z C F H locs lsA hW hS hL
  exact lv_ladd C.1 C.2.1 hd (k p l e R s m args below meth c base D cA ro Z C F H locs lsA hW hS hL)
theorem px_lsub {x y : Int64} (hd : decode (mC M) pc = .ok (.lsub, 1)) (k : PAt M nE nX κ (pc + 1) ls (.long (x - y) :: st) gi gl Q) : PAt M nE nX κ pc ls (.long y :: .long x :: st) gi gl Q := by
  intro p l e R s m args below meth c base D cA ro Z C F H locs lsA hW hS hL
  exact lv_lsub C.1 C.2.1 hd (k p l e R s m args below meth c base D cA ro Z C F H locs lsA hW hS hL)
theorem px_lmul {x y : Int64} (hd : decode (mC M) pc = .ok (.lmul, 1)) (k : PAt M nE nX κ (pc + 1) ls (.long (x * y) :: st) gi gl Q) : PAt M nE nX κ pc ls (.long y :: .long x :: st) gi gl Q := by
  intro p l e R s m args below meth c base D cA ro Z C F H locs lsA hW hS hL
  exact lv_lmul C.1 C.2.1 hd (k p l e R s m args below meth c base D cA ro Z C F H locs lsA hW hS hL)
theorem px_ldiv {x y : Int64} (hd : decode (mC M) pc = .ok (.ldiv, 1)) (hne : ¬ y = 0) (k : PAt M nE nX κ (pc + 1) ls (.long (x / y) :: st) gi gl Q) : PAt M nE nX κ pc ls (.long y :: .long x :: st) gi gl Q := by
  intro p l e R s m args below meth c base D cA ro Z C F H locs lsA hW hS hL
  exact lv_ldiv C.1 C.2.1 hd hne (k p l e R s m args below meth c base D cA ro Z C F H locs lsA hW hS hL)
theorem px_lrem {x y : Int64} (hd : decode (mC M) pc = .ok (.lrem, 1)) (hne : ¬ y = 0) (k : PAt M nE nX κ (pc + 1) ls (.long (x - x / y * y) :: st) gi gl Q) : PAt M nE nX κ pc ls (.long y :: .long x :: st) gi gl Q := by
  intro p l e R s m args below meth c base D cA ro Z C F H locs lsA hW hS hL
  exact lv_lrem C.1 C.2.1 hd hne (k p l e R s m args below meth c base D cA ro Z C F H locs lsA hW hS hL)
theorem px_lneg {x : Int64} (hd : decode (mC M) pc = .ok (.lneg, 1)) (k : PAt M nE nX κ (pc + 1) ls (.long (-x) :: st) gi gl Q) : PAt M nE nX κ pc ls (.long x :: st) gi gl Q := by
  intro p l e R s m args below meth c base D cA ro Z C F H locs lsA hW hS hL
  exact lv_lneg C.1 C.2.1 hd (k p l e R s m args below meth c base D cA ro Z C F H locs lsA hW hS hL)
theorem px_lcmp {x y : Int64} (hd : decode (mC M) pc = .ok (.lcmp, 1)) (k : PAt M nE nX κ (pc + 1) ls (.int (lg_cmp x y) :: st) gi gl Q) : PAt M nE nX κ pc ls (.long y :: .long x :: st) gi gl Q := by
  intro p l e R s m args below meth c base D cA ro Z C F H locs lsA hW hS hL
  exact W.lcmp C.1 C.2.1 hd (k p l e R s m args below meth c base D cA ro Z C F H locs lsA hW hS hL)
theorem px_i2l {x : Int32} (hd : decode (mC M) pc = .ok (.i2l, 1)) (k : PAt M nE nX κ (pc + 1) ls (.long x.toInt64 :: st) gi gl Q) : PAt M nE nX κ pc ls (.int x :: st) gi gl Q := by
  intro p l e R s m args below meth c base D cA ro Z C F H locs lsA hW hS hL
  exact lv_i2l C.1 C.2.1 hd rfl (k p l e R s m args below meth c base D cA ro Z C F H locs lsA hW hS hL)
theorem px_l2i {x : Int64} (hd : decode (mC M) pc = .ok (.l2i, 1)) (k : PAt M nE nX κ (pc + 1) ls (.int x.toInt32 :: st) gi gl Q) : PAt M nE nX κ pc ls (.long x :: st) gi gl Q := by
  intro p l e R s m args below meth c base D cA ro Z C F H locs lsA hW hS hL
  exact lv_l2i C.1 C.2.1 hd rfl (k p l e R s m args below meth c base D cA ro Z C F H locs lsA hW hS hL)
theorem px_i2b {x : Int32} (hd : decode (mC M) pc = .ok (.i2b, 1)) (k : PAt M nE nX κ (pc + 1) ls (.int x.toInt8.toInt32 :: st) gi gl Q) : PAt M nE nX κ pc ls (.int x :: st) gi gl Q := by
  intro p l e R s m args below meth c base D cA ro Z C F H locs lsA hW hS hL
  exact lv_i2b C.1 C.2.1 hd rfl (k p l e R s m args below meth c base D cA ro Z C F H locs lsA hW hS hL)
theorem px_i2c {x : Int32} (hd : decode (mC M) pc = .ok (.i2c, 1)) (k : PAt M nE nX κ (pc + 1) ls (.int ((x.toUInt32 % 65536).toInt32) :: st) gi gl Q) : PAt M nE nX κ pc ls (.int x :: st) gi gl Q := by
  intro p l e R s m args below meth c base D cA ro Z C F H locs lsA hW hS hL
  exact lv_i2c C.1 C.2.1 hd rfl (k p l e R s m args below meth c base D cA ro Z C F H locs lsA hW hS hL)
theorem px_dup {v : Value} (hd : decode (mC M) pc = .ok (.dup, 1)) (hv : v.category = 1) (k : PAt M nE nX κ (pc + 1) ls (v :: v :: st) gi gl Q) : PAt M nE nX κ pc ls (v :: st) gi gl Q := by
  intro p l e R s m args below meth c base D cA ro Z C F H locs lsA hW hS hL
  exact lv_dup C.1 C.2.1 hd (by rw [cv_cat]; exact hv) (k p l e R s m args below meth c base D cA ro Z C F H locs lsA hW hS hL)
theorem px_pop {v : Value} (hd : decode (mC M) pc = .ok (.pop, 1)) (hv : v.category = 1) (k : PAt M nE nX κ (pc + 1) ls (st) gi gl Q) : PAt M nE nX κ pc ls (v :: st) gi gl Q := by
  intro p l e R s m args below meth c base D cA ro Z C F H locs lsA hW hS hL
  exact lv_pop C.1 C.2.1 hd (by rw [cv_cat]; exact hv) (k p l e R s m args below meth c base D cA ro Z C F H locs lsA hW hS hL)
theorem px_dup2 {v w : Value} (hd : decode (mC M) pc = .ok (.dup2, 1)) (hv : v.category = 1) (hw : w.category = 1) (k : PAt M nE nX κ (pc + 1) ls (v :: w :: v :: w :: st) gi gl Q) : PAt M nE nX κ pc ls (v :: w :: st) gi gl Q := by
  intro p l e R s m args below meth c base D cA ro Z C F H locs lsA hW hS hL
  exact lv_dup2_11 C.1 C.2.1 hd (by rw [cv_cat]; exact hv) (by rw [cv_cat]; exact hw) (k p l e R s m args below meth c base D cA ro Z C F H locs lsA hW hS hL)
theorem px_aconst_null (hd : decode (mC M) pc = .ok (.aconst_null, 1)) (k : PAt M nE nX κ (pc + 1) ls (Value.null :: st) gi gl Q) : PAt M nE nX κ pc ls (st) gi gl Q := by
  intro p l e R s m args below meth c base D cA ro Z C F H locs lsA hW hS hL
  exact lv_null C.1 C.2.1 hd (k p l e R s m args below meth c base D cA ro Z C F H locs lsA hW hS hL)
theorem px_if_eq {x : Int32} {off : Int} {tgt : Nat} (hd : decode (mC M) pc = .ok (.ifCond .eq off, 3)) (ht : (pc : Int) + off = (tgt : Int)) (k : if x = 0 then PAt M nE nX κ tgt ls st gi gl Q else PAt M nE nX κ (pc + 3) ls st gi gl Q) : PAt M nE nX κ pc ls (.int x :: st) gi gl Q := by
  intro p l e R s m args below meth c base D cA ro Z C F H locs lsA hW hS hL
  refine lv_if_eq C.1 C.2.1 hd ht (fun h => ?_) (fun h => ?_)
  · rw [if_pos h] at k; exact k p l e R s m args below meth c base D cA ro Z C F H locs lsA hW hS hL
  · rw [if_neg h] at k; exact k p l e R s m args below meth c base D cA ro Z C F H locs lsA hW hS hL
theorem px_if_eq_t {x : Int32} {off : Int} {tgt : Nat} (hd : decode (mC M) pc = .ok (.ifCond .eq off, 3)) (ht : (pc : Int) + off = (tgt : Int)) (h : (x = 0)) (k : PAt M nE nX κ tgt ls st gi gl Q) : PAt M nE nX κ pc ls (.int x :: st) gi gl Q := px_if_eq hd ht (by rw [if_pos h]; exact k)
theorem px_if_eq_f {x : Int32} {off : Int} {tgt : Nat} (hd : decode (mC M) pc = .ok (.ifCond .eq off, 3)) (ht : (pc : Int) + off = (tgt : Int)) (h : ¬ (x = 0)) (k : PAt M nE nX κ (pc + 3) ls st gi gl Q) : PAt M nE nX κ pc ls (.int x :: st) gi gl Q := px_if_eq hd ht (by rw [if_neg h]; exact k)
theorem px_icmp_eq {x y : Int32} {off : Int} {tgt : Nat} (hd : decode (mC M) pc = .ok (.if_icmp .eq off, 3)) (ht : (pc : Int) + off = (tgt : Int)) (k : if x = y then PAt M nE nX κ tgt ls st gi gl Q else PAt M nE nX κ (pc + 3) ls st gi gl Q) : PAt M nE nX κ pc ls (.int y :: .int x :: st) gi gl Q := by
  intro p l e R s m args below meth c base D cA ro Z C F H locs lsA hW hS hL
  refine lv_icmp_eq C.1 C.2.1 hd ht (fun h => ?_) (fun h => ?_)
  · rw [if_pos h] at k; exact k p l e R s m args below meth c base D cA ro Z C F H locs lsA hW hS hL
  · rw [if_neg h] at k; exact k p l e R s m args below meth c base D cA ro Z C F H locs lsA hW hS hL
theorem px_icmp_eq_t {x y : Int32} {off : Int} {tgt : Nat} (hd : decode (mC M) pc = .ok (.if_icmp .eq off, 3)) (ht : (pc : Int) + off = (tgt : Int)) (h : (x = y)) (k : PAt M nE nX κ tgt ls st gi gl Q) : PAt M nE nX κ pc ls (.int y :: .int x :: st) gi gl Q := px_icmp_eq hd ht (by rw [if_pos h]; exact k)
theorem px_icmp_eq_f {x y : Int32} {off : Int} {tgt : Nat} (hd : decode (mC M) pc = .ok (.if_icmp .eq off, 3)) (ht : (pc : Int) + off = (tgt : Int)) (h : ¬ (x = y)) (k : PAt M nE nX κ (pc + 3) ls st gi gl Q) : PAt M nE nX κ pc ls (.int y :: .int x :: st) gi gl Q := px_icmp_eq hd ht (by rw [if_neg h]; exact k)
theorem px_if_ne {x : Int32} {off : Int} {tgt : Nat} (hd : decode (mC M) pc = .ok (.ifCond .ne off, 3)) (ht : (pc : Int) + off = (tgt : Int)) (k : if ¬ x = 0 then PAt M nE nX κ tgt ls st gi gl Q else PAt M nE nX κ (pc + 3) ls st gi gl Q) : PAt M nE nX κ pc ls (.int x :: st) gi gl Q := by
  intro p l e R s m args below meth c base D cA ro Z C F H locs lsA hW hS hL
  refine lv_if_ne C.1 C.2.1 hd ht (fun h => ?_) (fun h => ?_)
  · rw [if_pos h] at k; exact k p l e R s m args below meth c base D cA ro Z C F H locs lsA hW hS hL
  · rw [if_neg (not_not_intro h)] at k; exact k p l e R s m args below meth c base D cA ro Z C F H locs lsA hW hS hL
theorem px_if_ne_t {x : Int32} {off : Int} {tgt : Nat} (hd : decode (mC M) pc = .ok (.ifCond .ne off, 3)) (ht : (pc : Int) + off = (tgt : Int)) (h : (¬ x = 0)) (k : PAt M nE nX κ tgt ls st gi gl Q) : PAt M nE nX κ pc ls (.int x :: st) gi gl Q := px_if_ne hd ht (by rw [if_pos h]; exact k)
theorem px_if_ne_f {x : Int32} {off : Int} {tgt : Nat} (hd : decode (mC M) pc = .ok (.ifCond .ne off, 3)) (ht : (pc : Int) + off = (tgt : Int)) (h : ¬ (¬ x = 0)) (k : PAt M nE nX κ (pc + 3) ls st gi gl Q) : PAt M nE nX κ pc ls (.int x :: st) gi gl Q := px_if_ne hd ht (by rw [if_neg h]; exact k)
theorem px_icmp_ne {x y : Int32} {off : Int} {tgt : Nat} (hd : decode (mC M) pc = .ok (.if_icmp .ne off, 3)) (ht : (pc : Int) + off = (tgt : Int)) (k : if ¬ x = y then PAt M nE nX κ tgt ls st gi gl Q else PAt M nE nX κ (pc + 3) ls st gi gl Q) : PAt M nE nX κ pc ls (.int y :: .int x :: st) gi gl Q := by
  intro p l e R s m args below meth c base D cA ro Z C F H locs lsA hW hS hL
  refine lv_icmp_ne C.1 C.2.1 hd ht (fun h => ?_) (fun h => ?_)
  · rw [if_pos h] at k; exact k p l e R s m args below meth c base D cA ro Z C F H locs lsA hW hS hL
  · rw [if_neg (not_not_intro h)] at k; exact k p l e R s m args below meth c base D cA ro Z C F H locs lsA hW hS hL
theorem px_icmp_ne_t {x y : Int32} {off : Int} {tgt : Nat} (hd : decode (mC M) pc = .ok (.if_icmp .ne off, 3)) (ht : (pc : Int) + off = (tgt : Int)) (h : (¬ x = y)) (k : PAt M nE nX κ tgt ls st gi gl Q) : PAt M nE nX κ pc ls (.int y :: .int x :: st) gi gl Q := px_icmp_ne hd ht (by rw [if_pos h]; exact k)
theorem px_icmp_ne_f {x y : Int32} {off : Int} {tgt : Nat} (hd : decode (mC M) pc = .ok (.if_icmp .ne off, 3)) (ht : (pc : Int) + off = (tgt : Int)) (h : ¬ (¬ x = y)) (k : PAt M nE nX κ (pc + 3) ls st gi gl Q) : PAt M nE nX κ pc ls (.int y :: .int x :: st) gi gl Q := px_icmp_ne hd ht (by rw [if_neg h]; exact k)
theorem px_if_lt {x : Int32} {off : Int} {tgt : Nat} (hd : decode (mC M) pc = .ok (.ifCond .lt off, 3)) (ht : (pc : Int) + off = (tgt : Int)) (k : if x < 0 then PAt M nE nX κ tgt ls st gi gl Q else PAt M nE nX κ (pc + 3) ls st gi gl Q) : PAt M nE nX κ pc ls (.int x :: st) gi gl Q := by
  intro p l e R s m args below meth c base D cA ro Z C F H locs lsA hW hS hL
  refine lv_if_lt C.1 C.2.1 hd ht (fun h => ?_) (fun h => ?_)
  · rw [if_pos h] at k; exact k p l e R s m args below meth c base D cA ro Z C F H locs lsA hW hS hL
  · rw [if_neg h] at k; exact k p l e R s m args below meth c base D cA ro Z C F H locs lsA hW hS hL
theorem px_if_lt_t {x : Int32} {off : Int} {tgt : Nat} (hd : decode (mC M) pc = .ok (.ifCond .lt off, 3)) (ht : (pc : Int) + off = (tgt : Int)) (h : (x < 0)) (k : PAt M nE nX κ tgt ls st gi gl Q) : PAt M nE nX κ pc ls (.int x :: st) gi gl Q := px_if_lt hd ht (by rw [if_pos h]; exact k)
theorem px_if_lt_f {x : Int32} {off : Int} {tgt : Nat} (hd : decode (mC M) pc = .ok (.ifCond .lt off, 3)) (ht : (pc : Int) + off = (tgt : Int)) (h : ¬ (x < 0)) (k : PAt M nE nX κ (pc + 3) ls st gi gl Q) : PAt M nE nX κ pc ls (.int x :: st) gi gl Q := px_if_lt hd ht (by rw [if_neg h]; exact k)
theorem px_icmp_lt {x y : Int32} {off : Int} {tgt : Nat} (hd : decode (mC M) pc = .ok (.if_icmp .lt off, 3)) (ht : (pc : Int) + off = (tgt : Int)) (k : if x < y then PAt M nE nX κ tgt ls st gi gl Q else PAt M nE nX κ (pc + 3) ls st gi gl Q) : PAt M nE nX κ pc ls (.int y :: .int x :: st) gi gl Q := by
  intro p l e R s m args below meth c base D cA ro Z C F H locs lsA hW hS hL
  refine lv_icmp_lt C.1 C.2.1 hd ht (fun h => ?_) (fun h => ?_)
  · rw [if_pos h] at k; exact k p l e R s m args below meth c base D cA ro Z C F H locs lsA hW hS hL
  · rw [if_neg h] at k; exact k p l e R s m args below meth c base D cA ro Z C F H locs lsA hW hS hL
theorem px_icmp_lt_t {x y : Int32} {off : Int} {tgt : Nat} (hd : decode (mC M) pc = .ok (.if_icmp .lt off, 3)) (ht : (pc : Int) + off = (tgt : Int)) (h : (x < y)) (k : PAt M nE nX κ tgt ls st gi gl Q) : PAt M nE nX κ pc ls (.int y :: .int x :: st) gi gl Q := px_icmp_lt hd ht (by rw [if_pos h]; exact k)
theorem px_icmp_lt_f {x y : Int32} {off : Int} {tgt : Nat} (hd : decode (mC M) pc = .ok (.if_icmp .lt off, 3)) (ht : (pc : Int) + off = (tgt : Int)) (h : ¬ (x < y)) (k : PAt M nE nX κ (pc + 3) ls st gi gl Q) : PAt M nE nX κ pc ls (.int y :: .int x :: st) gi gl Q := px_icmp_lt hd ht (by rw [if_neg h]; exact k)
theorem px_if_ge {x : Int32} {off : Int} {tgt : Nat} (hd : decode (mC M) pc = .ok (.ifCond .ge off, 3)) (ht : (pc : Int) + off = (tgt : Int)) (k : if 0 ≤ x then PAt M nE nX κ tgt ls st gi gl Q else PAt M nE nX κ (pc + 3) ls st gi gl Q) : PAt M nE nX κ pc ls (.int x :: st) gi gl Q := by
  intro p l e R s m args below meth c base D cA ro Z C F H locs lsA hW hS hL
  refine lv_if_ge C.1 C.2.1 hd ht (fun h => ?_) (fun h => ?_)
  · rw [if_pos h] at k; exact k p l e R s m args below meth c base D cA ro Z C F H locs lsA hW hS hL
  · rw [if_neg h] at k; exact k p l e R s m args below meth c base D cA ro Z C F H locs lsA hW hS hL
theorem px_if_ge_t {x : Int32} {off : Int} {tgt : Nat} (hd : decode (mC M) pc = .ok (.ifCond .ge off, 3)) (ht : (pc : Int) + off = (tgt : Int)) (h : (0 ≤ x)) (k : PAt M nE nX κ tgt ls st gi gl Q) : PAt M nE nX κ pc ls (.int x :: st) gi gl Q := px_if_ge hd ht (by rw [if_pos h]; exact k)
theorem px_if_ge_f {x : Int32} {off : Int} {tgt : Nat} (hd : decode (mC M) pc = .ok (.ifCond .ge off, 3)) (ht : (pc : Int) + off = (tgt : Int)) (h : ¬ (0 ≤ x)) (k : PAt M nE nX κ (pc + 3) ls st gi gl Q) : PAt M nE nX κ pc ls (.int x :: st) gi gl Q := px_if_ge hd ht (by rw [if_neg h]; exact k)
theorem px_icmp_ge {x y : Int32} {off : Int} {tgt : Nat} (hd : decode (mC M) pc = .ok (.if_icmp .ge off, 3)) (ht : (pc : Int) + off = (tgt : Int)) (k : if y ≤ x then PAt M nE nX κ tgt ls st gi gl Q else PAt M nE nX κ (pc + 3) ls st gi gl Q) : PAt M nE nX κ pc ls (.int y :: .int x :: st) gi gl Q := by
  intro p l e R s m args below meth c base D cA ro Z C F H locs lsA hW hS hL
  refine lv_icmp_ge C.1 C.2.1 hd ht (fun h => ?_) (fun h => ?_)
  · rw [if_pos h] at k; exact k p l e R s m args below meth c base D cA ro Z C F H locs lsA hW hS hL
  · rw [if_neg h] at k; exact k p l e R s m args below meth c base D cA ro Z C F H locs lsA hW hS hL
theorem px_icmp_ge_t {x y : Int32} {off : Int} {tgt : Nat} (hd : decode (mC M) pc = .ok (.if_icmp .ge off, 3)) (ht : (pc : Int) + off = (tgt : Int)) (h : (y ≤ x)) (k : PAt M nE nX κ tgt ls st gi gl Q) : PAt M nE nX κ pc ls (.int y :: .int x :: st) gi gl Q := px_icmp_ge hd ht (by rw [if_pos h]; exact k)
theorem px_icmp_ge_f {x y : Int32} {off : Int} {tgt : Nat} (hd : decode (mC M) pc = .ok (.if_icmp .ge off, 3)) (ht : (pc : Int) + off = (tgt : Int)) (h : ¬ (y ≤ x)) (k : PAt M nE nX κ (pc + 3) ls st gi gl Q) : PAt M nE nX κ pc ls (.int y :: .int x :: st) gi gl Q := px_icmp_ge hd ht (by rw [if_neg h]; exact k)
theorem px_if_gt {x : Int32} {off : Int} {tgt : Nat} (hd : decode (mC M) pc = .ok (.ifCond .gt off, 3)) (ht : (pc : Int) + off = (tgt : Int)) (k : if 0 < x then PAt M nE nX κ tgt ls st gi gl Q else PAt M nE nX κ (pc + 3) ls st gi gl Q) : PAt M nE nX κ pc ls (.int x :: st) gi gl Q := by
  intro p l e R s m args below meth c base D cA ro Z C F H locs lsA hW hS hL
  refine lv_if_gt C.1 C.2.1 hd ht (fun h => ?_) (fun h => ?_)
  · rw [if_pos h] at k; exact k p l e R s m args below meth c base D cA ro Z C F H locs lsA hW hS hL
  · rw [if_neg h] at k; exact k p l e R s m args below meth c base D cA ro Z C F H locs lsA hW hS hL
theorem px_if_gt_t {x : Int32} {off : Int} {tgt : Nat} (hd : decode (mC M) pc = .ok (.ifCond .gt off, 3)) (ht : (pc : Int) + off = (tgt : Int)) (h : (0 < x)) (k : PAt M nE nX κ tgt ls st gi gl Q) : PAt M nE nX κ pc ls (.int x :: st) gi gl Q := px_if_gt hd ht (by rw [if_pos h]; exact k)
theorem px_if_gt_f {x : Int32} {off : Int} {tgt : Nat} (hd : decode (mC M) pc = .ok (.ifCond .gt off, 3)) (ht : (pc : Int) + off = (tgt : Int)) (h : ¬ (0 < x)) (k : PAt M nE nX κ (pc + 3) ls st gi gl Q) : PAt M nE nX κ pc ls (.int x :: st) gi gl Q := px_if_gt hd ht (by rw [if_neg h]; exact k)
theorem px_icmp_gt {x y : Int32} {off : Int} {tgt : Nat} (hd : decode (mC M) pc = .ok (.if_icmp .gt off, 3)) (ht : (pc : Int) + off = (tgt : Int)) (k : if y < x then PAt M nE nX κ tgt ls st gi gl Q else PAt M nE nX κ (pc + 3) ls st gi gl Q) : PAt M nE nX κ pc ls (.int y :: .int x :: st) gi gl Q := by
  intro p l e R s m args below meth c base D cA ro Z C F H locs lsA hW hS hL
  refine lv_icmp_gt C.1 C.2.1 hd ht (fun h => ?_) (fun h => ?_)
  · rw [if_pos h] at k; exact k p l e R s m args below meth c base D cA ro Z C F H locs lsA hW hS hL
  · rw [if_neg h] at k; exact k p l e R s m args below meth c base D cA ro Z C F H locs lsA hW hS hL
theorem px_icmp_gt_t {x y : Int32} {off : Int} {tgt : Nat} (hd : decode (mC M) pc = .ok (.if_icmp .gt off, 3)) (ht : (pc : Int) + off = (tgt : Int)) (h : (y < x)) (k : PAt M nE nX κ tgt ls st gi gl Q) : PAt M nE nX κ pc ls (.int y :: .int x :: st) gi gl Q := px_icmp_gt hd ht (by rw [if_pos h]; exact k)
theorem px_icmp_gt_f {x y : Int32} {off : Int} {tgt : Nat} (hd : decode (mC M) pc = .ok (.if_icmp .gt off, 3)) (ht : (pc : Int) + off = (tgt : Int)) (h : ¬ (y < x)) (k : PAt M nE nX κ (pc + 3) ls st gi gl Q) : PAt M nE nX κ pc ls (.int y :: .int x :: st) gi gl Q := px_icmp_gt hd ht (by rw [if_neg h]; exact k)
theorem px_if_le {x : Int32} {off : Int} {tgt : Nat} (hd : decode (mC M) pc = .ok (.ifCond .le off, 3)) (ht : (pc : Int) + off = (tgt : Int)) (k : if x ≤ 0 then PAt M nE nX κ tgt ls st gi gl Q else PAt M nE nX κ (pc + 3) ls st gi gl Q) : PAt M nE nX κ pc ls (.int x :: st) gi gl Q := by
  intro p l e R s m args below meth c base D cA ro Z C F H locs lsA hW hS hL
  refine lv_if_le C.1 C.2.1 hd ht (fun h => ?_) (fun h => ?_)
  · rw [if_pos h] at k; exact k p l e R s m args below meth c base D cA ro Z C F H locs lsA hW hS hL
  · rw [if_neg h] at k; exact k p l e R s m args below meth c base D cA ro Z C F H locs lsA hW hS hL
theorem px_if_le_t {x : Int32} {off : Int} {tgt : Nat} (hd : decode (mC M) pc = .ok (.ifCond .le off, 3)) (ht : (pc : Int) + off = (tgt : Int)) (h : (x ≤ 0)) (k : PAt M nE nX κ tgt ls st gi gl Q) : PAt M nE nX κ pc ls (.int x :: st) gi gl Q := px_if_le hd ht (by rw [if_pos h]; exact k)
theorem px_if_le_f {x : Int32} {off : Int} {tgt : Nat} (hd : decode (mC M) pc = .ok (.ifCond .le off, 3)) (ht : (pc : Int) + off = (tgt : Int)) (h : ¬ (x ≤ 0)) (k : PAt M nE nX κ (pc + 3) ls st gi gl Q) : PAt M nE nX κ pc ls (.int x :: st) gi gl Q := px_if_le hd ht (by rw [if_neg h]; exact k)
theorem px_icmp_le {x y : Int32} {off : Int} {tgt : Nat} (hd : decode (mC M) pc = .ok (.if_icmp .le off, 3)) (ht : (pc : Int) + off = (tgt : Int)) (k : if x ≤ y then PAt M nE nX κ tgt ls st gi gl Q else PAt M nE nX κ (pc + 3) ls st gi gl Q) : PAt M nE nX κ pc ls (.int y :: .int x :: st) gi gl Q := by
  intro p l e R s m args below meth c base D cA ro Z C F H locs lsA hW hS hL
  refine lv_icmp_le C.1 C.2.1 hd ht (fun h => ?_) (fun h => ?_)
  · rw [if_pos h] at k; exact k p l e R s m args below meth c base D cA ro Z C F H locs lsA hW hS hL
  · rw [if_neg h] at k; exact k p l e R s m args below meth c base D cA ro Z C F H locs lsA hW hS hL
theorem px_icmp_le_t {x y : Int32} {off : Int} {tgt : Nat} (hd : decode (mC M) pc = .ok (.if_icmp .le off, 3)) (ht : (pc : Int) + off = (tgt : Int)) (h : (x ≤ y)) (k : PAt M nE nX κ tgt ls st gi gl Q) : PAt M nE nX κ pc ls (.int y :: .int x :: st) gi gl Q := px_icmp_le hd ht (by rw [if_pos h]; exact k)
theorem px_icmp_le_f {x y : Int32} {off : Int} {tgt : Nat} (hd : decode (mC M) pc = .ok (.if_icmp .le off, 3)) (ht : (pc : Int) + off = (tgt : Int)) (h : ¬ (x ≤ y)) (k : PAt M nE nX κ (pc + 3) ls st gi gl Q) : PAt M nE nX κ pc ls (.int y :: .int x :: st) gi gl Q := px_icmp_le hd ht (by rw [if_neg h]; exact k)
theorem px_goto {off : Int} {tgt : Nat} (hd : decode (mC M) pc = .ok (.goto off, 3)) (ht : (pc : Int) + off = (tgt : Int)) (k : PAt M nE nX κ tgt ls st gi gl Q) : PAt M nE nX κ pc ls st gi gl Q := by
  intro p l e R s m args below meth c base D cA ro Z C F H locs lsA hW hS hL
  exact lv_goto C.1 C.2.1 hd ht (k p l e R s m args below meth c base D cA ro Z C F H locs lsA hW hS hL)
theorem px_ifnull {x : Nat} {off : Int} {tgt : Nat} (hd : decode (mC M) pc = .ok (.ifnull off, 3)) (ht : (pc : Int) + off = (tgt : Int)) (k : PAt M nE nX κ (pc + 3) ls st gi gl Q) : PAt M nE nX κ pc ls (.ref x :: st) gi gl Q := by
  intro p l e R s m args below meth c base D cA ro Z C F H locs lsA hW hS hL
  exact lv_ifnull C.1 C.2.1 hd (k p l e R s m args below meth c base D cA ro Z C F H locs lsA hW hS hL)
theorem px_ifnullN {off : Int} {tgt : Nat} (hd : decode (mC M) pc = .ok (.ifnull off, 3)) (ht : (pc : Int) + off = (tgt : Int)) (k : PAt M nE nX κ tgt ls st gi gl Q) : PAt M nE nX κ pc ls (.null :: st) gi gl Q := by
  intro p l e R s m args below meth c base D cA ro Z C F H locs lsA hW hS hL
  exact lv_ifnullN C.1 C.2.1 hd ht (k p l e R s m args below meth c base D cA ro Z C F H locs lsA hW hS hL)
theorem px_ifnonnull {x : Nat} {off : Int} {tgt : Nat} (hd : decode (mC M) pc = .ok (.ifnonnull off, 3)) (ht : (pc : Int) + off = (tgt : Int)) (k : PAt M nE nX κ tgt ls st gi gl Q) : PAt M nE nX κ pc ls (.ref x :: st) gi gl Q := by
  intro p l e R s m args below meth c base D cA ro Z C F H locs lsA hW hS hL
  exact lv_ifnonnull C.1 C.2.1 hd ht (k p l e R s m args below meth c base D cA ro Z C F H locs lsA hW hS hL)
theorem px_ifnonnullN {off : Int} {tgt : Nat} (hd : decode (mC M) pc = .ok (.ifnonnull off, 3)) (ht : (pc : Int) + off = (tgt : Int)) (k : PAt M nE nX κ (pc + 3) ls st gi gl Q) : PAt M nE nX κ pc ls (.null :: st) gi gl Q := by
  intro p l e R s m args below meth c base D cA ro Z C F H locs lsA hW hS hL
  exact lv_ifnonnullN C.1 C.2.1 hd (k p l e R s m args below meth c base D cA ro Z C F H locs lsA hW hS hL)
theorem px_tblIn {dflt lo hi : Int} {offs : Array Int} {len : Nat} {x : Int32} {off : Int} {tgt : Nat} (hd : decode (mC M) pc = .ok (.tableswitch dflt lo hi offs, len)) (h1 : ¬ x.toInt < lo) (h2 : ¬ hi < x.toInt) (ho : offs[(x.toInt - lo).toNat]? = some off) (ht : (pc : Int) + off = (tgt : Int)) (k : PAt M nE nX κ tgt ls st gi gl Q) : PAt M nE nX κ pc ls (.int x :: st) gi gl Q := by
  intro p l e R s m args below meth c base D cA ro Z C F H locs lsA hW hS hL
  exact lv_tableIn C.1 C.2.1 hd h1 h2 ho ht (k p l e R s m args below meth c base D cA ro Z C F H locs lsA hW hS hL)
theorem px_tblOut {dflt lo hi : Int} {offs : Array Int} {len : Nat} {x : Int32} {tgt : Nat} (hd : decode (mC M) pc = .ok (.tableswitch dflt lo hi offs, len)) (h : x.toInt < lo ∨ hi < x.toInt) (ht : (pc : Int) + dflt = (tgt : Int)) (k : PAt M nE nX κ tgt ls st gi gl Q) : PAt M nE nX κ pc ls (.int x :: st) gi gl Q := by
  intro p l e R s m args below meth c base D cA ro Z C F H locs lsA hW hS hL
  exact lv_tableOut C.1 C.2.1 hd h ht (k p l e R s m args below meth c base D cA ro Z C F H locs lsA hW hS hL)
theorem Cx.hts {M : MD} {p : Program} {R : Room} {s : State} {m : MethodId} {args : Array Value} {meth : Method} {c : Code} {base : Nat} {D : va_G} {cA : Nat → ClassId} {ro : Nat → Nat} (C : Cx M nE nX p R s m args meth c base D cA ro) : ∀ w ∈ gtb, w.before args s = true := C.2.2.2.2.2.2.2.1
theorem Cx.own {M : MD} {p : Program} {R : Room} {s : State} {m : MethodId} {args : Array Value} {meth : Method} {c : Code} {base : Nat} {D : va_G} {cA : Nat → ClassId} {ro : Nat → Nat} (C : Cx M nE nX p R s m args meth c base D cA ro) : s.vm.findClass (mY M).cls = some m.cls := C.2.2.2.2.2.2.1
theorem Cx.K {M : MD} {p : Program} {R : Room} {s : State} {m : MethodId} {args : Array Value} {meth : Method} {c : Code} {base : Nat} {D : va_G} {cA : Nat → ClassId} {ro : Nat → Nat} (C : Cx M nE nX p R s m args meth c base D cA ro) : va_K D vwCl (tysE cA) s := C.2.2.2.2.2.2.2.2.1
theorem Cx.ro {M : MD} {p : Program} {R : Room} {s : State} {m : MethodId} {args : Array Value} {meth : Method} {c : Code} {base : Nat} {D : va_G} {cA : Nat → ClassId} {ro : Nat → Nat} (C : Cx M nE nX p R s m args meth c base D cA ro) : ROk base ro s s.heap := C.2.2.2.2.2.2.2.2.2.2.2.2.2.2
theorem px_ldc {ix : Nat} {v : Int32} (hd : decode (mC M) pc = .ok (.ldc ix, 2)) (hw : Cond.constant (mY M).cls ix v ∈ gtb) (k : PAt M nE nX κ (pc + 2) ls (.int v :: st) gi gl Q) : PAt M nE nX κ pc ls (st) gi gl Q := by
  intro p l e R s m args below meth c base D cA ro Z C F H locs lsA hW hS hL
  exact lv_ldc C.1 C.2.1 C.own (C.hts _ hw) hd (k p l e R s m args below meth c base D cA ro Z C F H locs lsA hW hS hL)
theorem px_ldcw {ix : Nat} {v : Int32} (hd : decode (mC M) pc = .ok (.ldc_w ix, 3)) (hw : Cond.constant (mY M).cls ix v ∈ gtb) (k : PAt M nE nX κ (pc + 3) ls (.int v :: st) gi gl Q) : PAt M nE nX κ pc ls (st) gi gl Q := by
  intro p l e R s m args below meth c base D cA ro Z C F H locs lsA hW hS hL
  exact lv_ldcw C.1 C.2.1 C.own (C.hts _ hw) hd (k p l e R s m args below meth c base D cA ro Z C F H locs lsA hW hS hL)
theorem px_ldc2 {ix : Nat} {v : Int64} (hd : decode (mC M) pc = .ok (.ldc2_w ix, 3)) (hw : Cond.constantLong (mY M).cls ix v ∈ gtb) (k : PAt M nE nX κ (pc + 3) ls (.long v :: st) gi gl Q) : PAt M nE nX κ pc ls (st) gi gl Q := by
  intro p l e R s m args below meth c base D cA ro Z C F H locs lsA hW hS hL
  exact lv_ldc2 C.1 C.2.1 C.own (C.hts _ hw) hd (k p l e R s m args below meth c base D cA ro Z C F H locs lsA hW hS hL)
theorem px_ireturn {r : Int32} (hd : decode (mC M) pc = .ok (.ireturn, 1)) (hn : κ.1 = nX) (hr : ∃ ty, mR M = some ty ∧ rI (some ty) = true ∧ narrow ty (.int r) = .int r) (k : Q (.int r) κ gi gl) : PAt M nE nX κ pc ls [.int r] gi gl Q := by
  intro p l e R s m args below meth c base D cA ro Z C F H locs lsA hW hS hL
  rw [hn]
  exact F.1 r κ gi gl H locs pc lsA k hn hW hS hd hr
theorem px_lreturn {r : Int64} (hd : decode (mC M) pc = .ok (.lreturn, 1)) (hn : κ.1 = nX) (hr : mR M = some .long) (k : Q (.long r) κ gi gl) : PAt M nE nX κ pc ls [.long r] gi gl Q := by
  intro p l e R s m args below meth c base D cA ro Z C F H locs lsA hW hS hL
  rw [hn]
  exact F.2.1 r κ gi gl H locs pc lsA k hn hW hS hd hr
theorem px_areturn {v : Value} (hd : decode (mC M) pc = .ok (.areturn, 1)) (hn : κ.1 = nX) (hv : v = .null ∨ ∃ a, v = .ref a) (hr : ∃ n, mR M = some (.object n)) (k : Q v κ gi gl) : PAt M nE nX κ pc ls [v] gi gl Q := by
  intro p l e R s m args below meth c base D cA ro Z C F H locs lsA hW hS hL
  rw [hn]
  exact F.2.2.1 v κ gi gl H locs pc lsA k hv hn hW hS hd hr
theorem px_return (hd : decode (mC M) pc = .ok (.return_, 1)) (hn : κ.1 = nX) (hr : mR M = none) (k : Q .null κ gi gl) : PAt M nE nX κ pc ls [] gi gl Q := by
  intro p l e R s m args below meth c base D cA ro Z C F H locs lsA hW hS hL
  rw [hn]
  exact F.2.2.2 κ gi gl H locs pc lsA k hn hW hS hd hr
end PR
