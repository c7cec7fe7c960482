/-! ROWS OF THE MACHINE BETWEEN: calls -/
def eLs : List Value → List (Option Value)
  | [] => []
  | v :: r => if v.category = 2 then some v :: none :: eLs r else some v :: eLs r
def ent (n : Nat) (As : List Value) : List (Option Value) := eLs As ++ List.replicate (n - (eLs As).length) none
theorem eLs_at {f : Value → Value} (hf : ∀ v, (f v).category = v.category) : ∀ (As : List Value) (o i : Nat) (v : Value), (eLs As)[i]? = some (some v) → (o + i, f v) ∈ lv_args o (As.map f)
  | [], _, _, _, h => by simp [eLs] at h
  | a :: r, o, i, v, h => by
    rw [List.map_cons]
    unfold lv_args
    rw [hf]
    by_cases hc : a.category = 2
    · rw [if_pos hc]
      unfold eLs at h
      rw [if_pos hc] at h
      match i, h with
      | 0, h => cases (Option.some.inj (Option.some.inj h)); exact List.mem_cons_self
      | 1, h => simp at h
      | i + 2, h =>
        have := eLs_at hf r (o + 2) i v (by simpa using h)
        rw [show o + (i + 2) = o + 2 + i by omega]
        exact List.mem_cons_of_mem _ this
    · rw [if_neg hc]
      unfold eLs at h
      rw [if_neg hc] at h
      match i, h with
      | 0, h => cases (Option.some.inj (Option.some.inj h)); exact List.mem_cons_self
      | i + 1, h =>
        have := eLs_at hf r (o + 1) i v (by simpa using h)
        rw [show o + (i + 1) = o + 1 + i by omega]
        exact List.mem_cons_of_mem _ this
theorem ent_at {f : Value → Value} (hf : ∀ v, (f v).category = v.category) {n : Nat} {As : List Value} {i : Nat} {v : Value} (h : (ent n As)[i]? = some (some v)) : (i, f v) ∈ lv_args 0 (As.map f) := by
  have h1 : (eLs As)[i]? = some (some v) := by
    unfold ent at h
    by_cases hi : i < (eLs As).length
    · rwa [List.getElem?_append_left hi] at h
    · rw [List.getElem?_append_right (by omega)] at h
      have := List.mem_of_getElem? h
      rw [List.mem_replicate] at this
      exact absurd this.2 (by simp)
  simpa using eLs_at hf As 0 i v h1
theorem lg_len {f : Value → Value} (hf : ∀ v, (f v).category = v.category) (As : List Value) : (lg_sl (As.map f)).length = (eLs As).length := by
  induction As with
  | nil => rfl
  | cons a r ih =>
    rw [List.map_cons]
    unfold eLs
    have e : lg_sl (f a :: r.map f) = (if (f a).category = 2 then [Slot.val (f a), Slot.second] else [Slot.val (f a)]) ++ lg_sl (r.map f) := by simp [lg_sl]
    rw [e, hf]
    by_cases hc : a.category = 2
    · rw [if_pos hc, if_pos hc]; simp [ih]
    · rw [if_neg hc, if_neg hc]; simp [ih]
/-- what a callee starts from -/
def Bst (base : Nat) (D : va_G) (cA : Nat → ClassId) (ro : Nat → Nat) (κ : Kp) (gi : Gi) (gl : Gl) (U : State) : Prop := Wd base D cA κ gi gl U.heap ∧ va_K D vwCl (tysE cA) U ∧ ROk base ro U U.heap ∧ base ≤ U.heap.size
theorem Bst.blind {base : Nat} {D : va_G} {cA : Nat → ClassId} {ro : Nat → Nat} {κ : Kp} {gi : Gi} {gl : Gl} {av : List Value} : FrameBlind (va_Pc av (Bst base D cA ro κ gi gl)) := fun a U g mk q => ⟨q.1, q.2.1, va_K.moved (u := U) (U := U.calling g mk a) (Vm.Alike.refl U.vm) q.2.2.1, ROk.same (u := U) rfl q.2.2.2.1, q.2.2.2.2⟩
abbrev Sg : Type := Kp × Gi × Gl
abbrev Bt (base : Nat) (D : va_G) (cA : Nat → ClassId) : Sg → State → Prop := fun u t => Wd base D cA u.1 u.2.1 u.2.2 t.heap
abbrev rmN (N : MD) (nE nX : Nat) : Room := { frames := mV N, cells := nX - nE, slots := sl nX - sl nE, locals := 34 * mV N }
abbrev wsN (N : MD) : List Cond := .code (mY N) (mC N) (mL N) (mR N) :: gtb
section PM
variable {N : MD} {l : Launch} {nE nX : Nat} {κ : Kp} {As : List Value} {gi : Gi} {gl : Gl} {Q : Value → Kp → Gi → Gl → Prop} {base : Nat} {D : va_G} {cA : Nat → ClassId} {ro : Nat → Nat}
/-- a contract out of the machine between -/
theorem met_of {Qc : Array Value → State → Outcome → State → Prop} (hpl : plainName (mY N).cls = true) (hnE : κ.1 = nE) (hlen : (eLs As).length ≤ mL N) (k : PAt N nE nX κ 0 (ent (mL N) As) [] gi gl Q)
    (hF : ∀ (p : Program) (e : Env) (s : State) (m : MethodId) (args : Array Value) (below : List Frame) (meth : Method) (c : Code), p.tables.exec = Jvm.exec → c.code = mC N → meth.sig.returnType = mR N → meth.locks = false → PFin N nE nX Q p l e (rmN N nE nX) s m args below meth c base D cA ro (MQ below Qc args s (nX - nE) (sl nX - sl nE) (Ab base))) :
    Met l (mY N) (wsN N) (rmN N nE nX) (va_Pc (As.map (cv base ro)) (Bst base D cA ro κ gi gl)) Qc (nX - nE) (sl nX - sl nE) (Ab base) := by
  refine Met.ofW (cc := mC N) (maxL := mL N) (ret := mR N) hpl rfl ?_
  intro p e s m args below meth c s₁ B hml hv
  obtain ⟨rfl, hW, hK, hRO, hbs⟩ := hv
  have hts := atoms_spec (ws := wsN N) B.pre
  have hle := lv_entry (As.map (cv base ro)) (n := mL N) (by rw [lg_len cv_cat]; exact hlen)
  rw [lg_entry_eq]
  generalize (lg_sl (As.map (cv base ro)) ++ List.replicate (mL N - (lg_sl (As.map (cv base ro))).length) Slot.unset).toArray = ls at hle ⊢
  have h := k p l e (rmN N nE nX) s m (As.map (cv base ro)).toArray below meth c base D cA ro _ ⟨B.exec, B.bytes, hml, B.returns, B.notSynchronized, (name_of_methodNamed B.named B.method).1, findClass_of_methodNamed B.named, fun w hw => hts w (List.mem_cons_of_mem _ hw), hK, hbs, Nat.le_refl _, Nat.le_refl _, Nat.le_refl _, Nat.le_refl _, hRO⟩
    (hF p e s m _ below meth c B.exec B.bytes B.returns B.notSynchronized) s.heap [] ls hW va_S.rf ⟨hle.1, hle.2.1, fun i v hi => hle.2.2 (i, cv base ro v) (ent_at cv_cat hi)⟩
  rw [hnE, Nat.sub_self, Nat.sub_self] at h
  exact h
theorem met_I (hpl : plainName (mY N).cls = true) (hnE : κ.1 = nE) (hlen : (eLs As).length ≤ mL N) (hr : rI (mR N) = true) (k : PAt N nE nX κ 0 (ent (mL N) As) [] gi gl Q) :
    Met l (mY N) (wsN N) (rmN N nE nX) (va_Pc (As.map (cv base ro)) (Bst base D cA ro κ gi gl)) (va_Qi (S := Sg) (fun r u => Q (.int r) u.1 u.2.1 u.2.2 ∧ u.1.1 = nX) (Bt base D cA) (Ab base)) (nX - nE) (sl nX - sl nE) (Ab base) := by
  refine met_of hpl hnE hlen k (fun p e s m args below meth c hx hb hrt hlk => ⟨?_, ?_, ?_, ?_⟩)
  · intro r κ gi gl H locs pc lsA q hn hW hS hd hty
    obtain ⟨ty, h1, -, h2⟩ := hty
    exact W.zret (ty := ty) hx hb (hrt.trans h1) h2 (fun t ht _ => ⟨⟨r, (κ, gi, gl), rfl, ⟨q, hn⟩, by rw [Bt, ht]; exact hW⟩, hS.F ht⟩) hS.2.2 hd hlk
  · intro r κ gi gl H locs pc lsA q hn hW hS hd h1
    rw [h1] at hr; cases hr
  · intro v κ gi gl H locs pc lsA q hv hn hW hS hd h1
    obtain ⟨n, h1⟩ := h1
    rw [h1] at hr; cases hr
  · intro κ gi gl H locs pc lsA q hn hW hS hd h1
    rw [h1] at hr; cases hr
theorem met_L (hpl : plainName (mY N).cls = true) (hnE : κ.1 = nE) (hlen : (eLs As).length ≤ mL N) (hr : mR N = some .long) (k : PAt N nE nX κ 0 (ent (mL N) As) [] gi gl Q) :
    Met l (mY N) (wsN N) (rmN N nE nX) (va_Pc (As.map (cv base ro)) (Bst base D cA ro κ gi gl)) (va_Ql (S := Sg) (fun r u => Q (.long r) u.1 u.2.1 u.2.2 ∧ u.1.1 = nX) (Bt base D cA) (Ab base)) (nX - nE) (sl nX - sl nE) (Ab base) := by
  refine met_of hpl hnE hlen k (fun p e s m args below meth c hx hb hrt hlk => ⟨?_, ?_, ?_, ?_⟩)
  · intro r κ gi gl H locs pc lsA q hn hW hS hd hty
    obtain ⟨ty, h1, h2, -⟩ := hty
    rw [hr] at h1; cases h1; cases h2
  · intro r κ gi gl H locs pc lsA q hn hW hS hd h1
    exact W.lret hx hb (hrt.trans h1) (fun t ht _ => ⟨⟨r, (κ, gi, gl), rfl, ⟨q, hn⟩, by rw [Bt, ht]; exact hW⟩, hS.F ht⟩) hS.2.2 hd hlk
  · intro v κ gi gl H locs pc lsA q hv hn hW hS hd h1
    obtain ⟨n, h1⟩ := h1
    rw [h1] at hr; cases hr
  · intro κ gi gl H locs pc lsA q hn hW hS hd h1
    rw [h1] at hr; cases hr
theorem met_A {n : String} (hpl : plainName (mY N).cls = true) (hnE : κ.1 = nE) (hlen : (eLs As).length ≤ mL N) (hr : mR N = some (.object n)) (k : PAt N nE nX κ 0 (ent (mL N) As) [] gi gl Q) :
    Met l (mY N) (wsN N) (rmN N nE nX) (va_Pc (As.map (cv base ro)) (Bst base D cA ro κ gi gl)) (va_Qq (S := Sg) (fun r u => (∃ v, cv base ro v = va_rf r ∧ Q v u.1 u.2.1 u.2.2) ∧ u.1.1 = nX) (Bt base D cA) (Ab base)) (nX - nE) (sl nX - sl nE) (Ab base) := by
  refine met_of hpl hnE hlen k (fun p e s m args below meth c hx hb hrt hlk => ⟨?_, ?_, ?_, ?_⟩)
  · intro r κ gi gl H locs pc lsA q hn hW hS hd hty
    obtain ⟨ty, h1, h2, -⟩ := hty
    rw [hr] at h1; cases h1; cases h2
  · intro r κ gi gl H locs pc lsA q hn hW hS hd h1
    rw [h1] at hr; cases hr
  · intro v κ gi gl H locs pc lsA q hv hn hW hS hd h1
    have hvr : ∃ r : Option Nat, cv base ro v = va_rf r := by
      rcases hv with rfl | ⟨a, rfl⟩
      · exact ⟨none, rfl⟩
      · exact ⟨some (if a < ROB then base + a else ro a), rfl⟩
    obtain ⟨r, er⟩ := hvr
    rw [er]
    exact W.aret (rt := .object n) hx hb (hrt.trans hr) (Or.inl ⟨n, rfl⟩) (by cases r with | none => exact Or.inl rfl | some a => exact Or.inr ⟨a, rfl⟩) (fun t ht _ => ⟨⟨r, (κ, gi, gl), rfl, ⟨⟨v, er, q⟩, hn⟩, by rw [Bt, ht]; exact hW⟩, hS.F ht⟩) hS.2.2 hd hlk
  · intro κ gi gl H locs pc lsA q hn hW hS hd h1
    rw [h1] at hr; cases hr
theorem met_V (hpl : plainName (mY N).cls = true) (hnE : κ.1 = nE) (hlen : (eLs As).length ≤ mL N) (hr : mR N = none) (k : PAt N nE nX κ 0 (ent (mL N) As) [] gi gl Q) :
    Met l (mY N) (wsN N) (rmN N nE nX) (va_Pc (As.map (cv base ro)) (Bst base D cA ro κ gi gl)) (va_Qv (S := Sg) (fun u => Q .null u.1 u.2.1 u.2.2 ∧ u.1.1 = nX) (Bt base D cA) (Ab base)) (nX - nE) (sl nX - sl nE) (Ab base) := by
  refine met_of hpl hnE hlen k (fun p e s m args below meth c hx hb hrt hlk => ⟨?_, ?_, ?_, ?_⟩)
  · intro r κ gi gl H locs pc lsA q hn hW hS hd hty
    obtain ⟨ty, h1, h2⟩ := hty
    rw [hr] at h1; cases h1
  · intro r κ gi gl H locs pc lsA q hn hW hS hd h1
    rw [h1] at hr; cases hr
  · intro v κ gi gl H locs pc lsA q hv hn hW hS hd h1
    obtain ⟨n, h1⟩ := h1
    rw [h1] at hr; cases hr
  · intro κ gi gl H locs pc lsA q hn hW hS hd h1
    exact W.vret hx hb (hrt.trans hr) (fun t ht _ => ⟨⟨(κ, gi, gl), rfl, ⟨q, hn⟩, by rw [Bt, ht]; exact hW⟩, hS.F ht⟩) hS.2.2 hd hlk
end PM
