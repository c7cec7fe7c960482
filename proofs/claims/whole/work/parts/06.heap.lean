/-! ROWS OF THE MACHINE BETWEEN: fields, arrays, calls -/
theorem fits_bool {x : Int32} (h : narrow .boolean (.int x) = .int x) : fits .boolean (.int x) = true := by
  have h : x &&& 1 = x := by simpa [narrow] using h
  have h2 : x = 0 ∨ x = 1 := by
    rw [← h]
    have := pk_and x (m := 1) 1 (by decide +kernel)
    rw [this]
    rcases (show x.toBitVec.toNat % 2 ^ 1 = 0 ∨ x.toBitVec.toNat % 2 ^ 1 = 1 by omega) with q | q <;> rw [q]
    · exact Or.inl rfl
    · exact Or.inr rfl
  rcases h2 with rfl | rfl <;> rfl
section PH
variable {M : MD} {nE nX : Nat} {κ : Kp} {pc : Nat} {ls : List (Option Value)} {st : List Value} {gi : Gi} {gl : Gl} {Q : Value → Kp → Gi → Gl → Prop}
theorem cv_low {base : Nat} {ro : Nat → Nat} {a : Nat} (h : a < NN) : cv base ro (.ref a) = .ref (base + a) := by
  have : a < ROB := Nat.lt_trans h (by decide)
  simp [cv, this]
theorem cv_map_ref {base : Nat} {ro : Nat → Nat} {a : Nat} (h : a < NN) (st : List Value) : (Value.ref a :: st).map (cv base ro) = .ref (base + a) :: st.map (cv base ro) := by rw [List.map_cons, cv_low h]
theorem mkE_o {base : Nat} {cA : Nat → ClassId} {nul : Nat → Nat → Bool} {a ci : Nat} (hk : sK a = ci) (hc : ci < 100) : mkE base cA nul gi gl a = .inr (ci, (List.range (sN a)).map (fv base nul gi gl a ci)) := by
  unfold mkE
  rw [hk, if_pos hc]
theorem mkE_i {base : Nat} {cA : Nat → ClassId} {nul : Nat → Nat → Bool} {a k : Nat} (hk : sK a = k) (h : k = 100 ∨ k = 102 ∨ k = 103) : mkE base cA nul gi gl a = .inl (cA k, sN a, .inl (gi a)) := by
  unfold mkE
  rw [hk, if_neg (by omega), if_neg (by omega), if_neg (by omega)]
theorem mkE_l {base : Nat} {cA : Nat → ClassId} {nul : Nat → Nat → Bool} {a : Nat} (hk : sK a = 101) : mkE base cA nul gi gl a = .inl (cA 101, sN a, .inr (.inl (gl a))) := by
  unfold mkE
  rw [hk, if_neg (by omega), if_pos rfl]
theorem mkE_q {base : Nat} {cA : Nat → ClassId} {nul : Nat → Nat → Bool} {a k : Nat} (hk : sK a = k) (h : k = 104 ∨ k = 105) : mkE base cA nul gi gl a = .inl (cA k, sN a, .inr (.inr (.inr (.inr (fun j => if nul a j then none else some (base + sR a j)))))) := by
  unfold mkE
  rw [hk, if_neg (by omega), if_neg (by omega), if_pos (by omega)]
theorem fs_at {base : Nat} {nul : Nat → Nat → Bool} {a ci k n : Nat} (h : k < n) : ((List.range n).map (fv base nul gi gl a ci))[k]? = some (fv base nul gi gl a ci k) := by
  rw [List.getElem?_map, List.getElem?_range h]; rfl
/-- getfield: the row's v is what the cell holds -/
theorem px_getfield {a ci k ix : Nat} {C0 : String} {T : u_T} {N : Nat} {v : Value} (hd : decode (mC M) pc = .ok (.getfield ix, 3)) (ha : a < κ.1) (hk : sK a = ci) (hci : ci < 100) (hN : sN a = N) (hc : vwCl[ci]? = some (C0, T, N)) (hu : ∀ w ∈ u_ws C0 T N, w ∈ gtb) (hkN : k < N)
    (hw : Cond.fieldLink (mY M).cls ix (T k).1 (T k).2.1 (T k).2.2.1 ∈ gtb) (hv : ∀ (base : Nat) (ro : Nat → Nat), cv base ro v = fv base κ.2 gi gl a ci k) (kk : PAt M nE nX κ (pc + 3) ls (v :: st) gi gl Q) : PAt M nE nX κ pc ls (.ref a :: st) gi gl Q := by
  intro p l e R s m args below meth c base D cA ro Z C F H locs lsA hW hS hL
  have haN : a < NN := Nat.lt_of_lt_of_le ha hW.2.2
  rw [cv_map_ref haN]
  have h := kk p l e R s m args below meth c base D cA ro Z C F H locs lsA hW hS hL
  rw [List.map_cons, hv] at h
  exact va_get (ref := (T k).1) C.1 C.2.1 C.hts hu C.own C.K hW.1 a (fs := (List.range (sN a)).map (fv base κ.2 gi gl a ci)) (by rw [we_get ha, mkE_o hk hci]) hc k hkN (C.hts _ hw) (fun x h => h) (fs_at (by rw [hN]; exact hkN)) hd h
theorem Wd.put {base : Nat} {D : va_G} {cA : Nat → ClassId} {κ κ' : Kp} {gi gi' : Gi} {gl gl' : Gl} {H H1 : Heap} {a : Nat} (hW : Wd base D cA κ gi gl H) (ha : a < κ.1) (hn : κ'.1 = κ.1) (he : va_at D vwCl (base + a, mkE base cA κ'.2 gi' gl' a) H1) (ho : ∀ b, b ≠ a → mkE base cA κ'.2 gi' gl' b = mkE base cA κ.2 gi gl b) (z : H1.size = H.size) (oq : ∀ q : Nat, q ≠ base + a → H1[q]? = H[q]?) : Wd base D cA κ' gi' gl' H1 := by
  have h := hW.1.set we_D (we_get ha) he oq
  rw [we_set hn rfl ho] at h
  exact ⟨h, fun q => by rw [z, hn]; exact hW.2.1 (by rw [← hn]; exact q), by rw [hn]; exact hW.2.2⟩
theorem upd_eq {f : Nat → Int32} {k : Nat} {x : Int32} : (fun j => Value.int (upd f k x j)) = updV (fun j => .int (f j)) k (.int x) := by
  funext j
  by_cases h : j = k
  · subst h; simp [upd, updV]
  · simp [upd, updV, h]
theorem updL_eq {f : Nat → Int64} {k : Nat} {x : Int64} : (fun j => Value.long (vp_updL f k x j)) = updV (fun j => .long (f j)) k (.long x) := by
  funext j
  by_cases h : j = k
  · subst h; simp [vp_updL, updV]
  · simp [vp_updL, updV, h]
/-- a field of a cell changes: what the heap holds then -/
theorem ob_put {base : Nat} {D : va_G} {cA : Nat → ClassId} {κ' : Kp} {gi' : Gi} {gl' : Gl} {H1 : Heap} {a ci k N : Nat} {C0 : String} {T : u_T} {v : Value} {nul : Nat → Nat → Bool} {cell : Cell} (hk : sK a = ci) (hci : ci < 100) (hN : sN a = N) (hc : vwCl[ci]? = some (C0, T, N)) (hkN : k < N) (q2 : cell.cls = D.1 ci) (q3 : cell.vm = .none) (q4 : ∀ j, j < N → cell.slots[D.2 ci j]? = some (fv base nul gi gl a ci j)) (hap : ∀ x y, x < N → y < N → x ≠ y → (D.2 ci) x ≠ (D.2 ci) y) (e1 : H1[base + a]? = some (cell.setSlot (D.2 ci k) v)) (hv : fv base κ'.2 gi' gl' a ci k = v) (ho : ∀ j, j ≠ k → fv base κ'.2 gi' gl' a ci j = fv base nul gi gl a ci j) : va_at D vwCl (base + a, mkE base cA κ'.2 gi' gl' a) H1 := by
  rw [mkE_o hk hci, hN]
  refine ⟨_, hc, _, e1, q2, q3, fun j hj => ?_⟩
  have h1 := t_set (V := fun j => fv base nul gi gl a ci j) q4 hap hkN v j hj
  rw [h1]
  unfold vp_V
  rw [List.getD_eq_getElem?_getD, fs_at hj]
  by_cases hjk : j = k
  · subst hjk; simp [updV, hv]
  · simp [updV, hjk, ho j hjk]
theorem ob_at {base : Nat} {D : va_G} {cA : Nat → ClassId} {H : Heap} {a ci N : Nat} {C0 : String} {T : u_T} (hW : Wd base D cA κ gi gl H) (ha : a < κ.1) (hk : sK a = ci) (hci : ci < 100) (hN : sN a = N) (hc : vwCl[ci]? = some (C0, T, N)) : ∃ cell : Cell, H[base + a]? = some cell ∧ cell.cls = D.1 ci ∧ cell.vm = .none ∧ ∀ j, j < N → cell.slots[D.2 ci j]? = some (fv base κ.2 gi gl a ci j) := by
  have h := hW.1 a _ (we_get ha)
  rw [mkE_o hk hci, hN] at h
  obtain ⟨r, h1, cell, q1, q2, q3, q4⟩ := h
  have hr : r = (C0, T, N) := Option.some.inj (h1.symm.trans hc)
  subst hr
  refine ⟨cell, q1, q2, q3, fun j hj => ?_⟩
  rw [q4 j hj]
  unfold vp_V
  rw [List.getD_eq_getElem?_getD, fs_at hj]; rfl
/-- putfield of a field that isn't final -/
theorem px_put {a ci k ix : Nat} {C0 : String} {T : u_T} {N : Nat} {v : Value} {ty : FieldType} {gi' : Gi} {gl' : Gl} (ty0 : Nat → FieldType) (hd : decode (mC M) pc = .ok (.putfield ix, 3)) (ha : a < κ.1) (hk : sK a = ci) (hci : ci < 100) (hN : sN a = N) (hc : vwCl[ci]? = some (C0, T, N)) (hu : ∀ w ∈ u_ws C0 T N, w ∈ gtb) (hkN : k < N)
    (hty : ∀ k, k < N → parseFieldDescriptor (T k).2.2.1 = some (ty0 k)) (hnm : ∀ a, a < N → ∀ b, b < N → a ≠ b → (T a).2.1 ≠ (T b).2.1) (hw : Cond.fieldLink (mY M).cls ix (T k).1 (T k).2.1 (T k).2.2.1 ∈ gtb) (hfin : (T k).2.2.2 = false) (ht0 : ty0 k = ty) (hn : ∀ (base : Nat) (ro : Nat → Nat), narrow ty (cv base ro v) = cv base ro v) (hf : ∀ (base : Nat) (ro : Nat → Nat), fits ty (cv base ro v) = true)
    (hv : ∀ (base : Nat) (ro : Nat → Nat), fv base κ.2 gi' gl' a ci k = cv base ro v) (ho : ∀ base j, j ≠ k → fv base κ.2 gi' gl' a ci j = fv base κ.2 gi gl a ci j) (hb : ∀ b, b ≠ a → gi' b = gi b ∧ gl' b = gl b)
    (kk : PAt M nE nX κ (pc + 3) ls st gi' gl' Q) : PAt M nE nX κ pc ls (v :: .ref a :: st) gi gl Q := by
  intro p l e R s m args below meth c base D cA ro Z C F H locs lsA hW hS hL
  have haN : a < NN := Nat.lt_of_lt_of_le ha hW.2.2
  rw [List.map_cons, cv_map_ref haN]
  have hap := va_apart (own := (mY M).cls) C.hts hu ty0 hty hnm C.K hc
  obtain ⟨cell, q1, q2, q3, q4⟩ := ob_at hW ha hk hci hN hc
  obtain ⟨hSl, hfc, kC, hkC, hkind⟩ := C.K.1 ci _ hc
  obtain ⟨cf, kf, fi, f, hi, hsl⟩ := hSl k hkN
  have hlay := C.hts _ (hu _ (u_in_lay hkN))
  unfold u_lay at hlay
  rw [if_neg (by rw [hfin]; decide)] at hlay
  have hst := (u_facts hfc hkC (u_lays C.hts hu hkN) hi).1
  have h6 := u_store hfc hkC hkind hlay hi (by rw [hty k hkN, ht0]) (hn base ro) (hf base ro)
  refine W.putK C.1 C.2.1 (f := f) ⟨C.own, C.hts _ hw, ⟨_, _, _, hi⟩, hst⟩ (by rw [q2]; exact h6) q1 q3 (by rw [hsl]; exact k2_hasslot (q4 k hkN)) rfl rfl hd fun H' e1 e2 e3 => ?_
  rw [hsl] at e1 ⊢
  exact kk p l e R s m args below meth c base D cA ro Z C F H' _ lsA (hW.put ha rfl (ob_put hk hci hN hc hkN q2 q3 q4 hap e1 (hv base ro) (ho base)) (fun b h => mkE_n (hb b h).1 (hb b h).2 rfl) e2 e3) (hS.put e2 e3 (Nat.le_add_right _ _)) hL
theorem px_putI {a ci k ix : Nat} {C0 : String} {T : u_T} {N : Nat} {x : Int32} {ty : FieldType} (ty0 : Nat → FieldType) (hd : decode (mC M) pc = .ok (.putfield ix, 3)) (ha : a < κ.1) (hk : sK a = ci) (hci : ci < 100) (hN : sN a = N) (hc : vwCl[ci]? = some (C0, T, N)) (hu : ∀ w ∈ u_ws C0 T N, w ∈ gtb) (hkN : k < N)
    (hty : ∀ k, k < N → parseFieldDescriptor (T k).2.2.1 = some (ty0 k)) (hnm : ∀ a, a < N → ∀ b, b < N → a ≠ b → (T a).2.1 ≠ (T b).2.1) (hw : Cond.fieldLink (mY M).cls ix (T k).1 (T k).2.1 (T k).2.2.1 ∈ gtb) (hfin : (T k).2.2.2 = false) (ht0 : ty0 k = ty) (htc : tyC ci k = ty) (hti : ty = .int ∨ ty = .boolean) (hn : narrow ty (.int x) = .int x)
    (kk : PAt M nE nX κ (pc + 3) ls st (uI gi a (upd (gi a) k x)) gl Q) : PAt M nE nX κ pc ls (.int x :: .ref a :: st) gi gl Q := by
  refine px_put (v := .int x) (gi' := uI gi a (upd (gi a) k x)) (gl' := gl) ty0 hd ha hk hci hN hc hu hkN hty hnm hw hfin ht0 (fun _ _ => hn) (fun _ _ => ?_) (fun base ro => ?_) (fun base j hj => ?_) (fun b h => ⟨uI_n h, rfl⟩) kk
  · rcases hti with rfl | rfl
    · rfl
    · show fits .boolean (.int x) = true
      exact fits_bool hn
  · unfold fv; rw [htc, uI_s]
    rcases hti with rfl | rfl <;> simp [upd, cv]
  · unfold fv; rw [uI_s]
    simp [upd, hj]
theorem px_putL {a ci k ix : Nat} {C0 : String} {T : u_T} {N : Nat} {x : Int64} (ty0 : Nat → FieldType) (hd : decode (mC M) pc = .ok (.putfield ix, 3)) (ha : a < κ.1) (hk : sK a = ci) (hci : ci < 100) (hN : sN a = N) (hc : vwCl[ci]? = some (C0, T, N)) (hu : ∀ w ∈ u_ws C0 T N, w ∈ gtb) (hkN : k < N)
    (hty : ∀ k, k < N → parseFieldDescriptor (T k).2.2.1 = some (ty0 k)) (hnm : ∀ a, a < N → ∀ b, b < N → a ≠ b → (T a).2.1 ≠ (T b).2.1) (hw : Cond.fieldLink (mY M).cls ix (T k).1 (T k).2.1 (T k).2.2.1 ∈ gtb) (hfin : (T k).2.2.2 = false) (ht0 : ty0 k = .long) (htc : tyC ci k = .long)
    (kk : PAt M nE nX κ (pc + 3) ls st gi (uL gl a (vp_updL (gl a) k x)) Q) : PAt M nE nX κ pc ls (.long x :: .ref a :: st) gi gl Q := by
  refine px_put (v := .long x) (gi' := gi) (gl' := uL gl a (vp_updL (gl a) k x)) ty0 hd ha hk hci hN hc hu hkN hty hnm hw hfin ht0 (fun _ _ => rfl) (fun _ _ => rfl) (fun base ro => ?_) (fun base j hj => ?_) (fun b h => ⟨rfl, uL_n h⟩) kk
  · unfold fv; rw [htc, uL_s]; simp [vp_updL, cv]
  · unfold fv; rw [uL_s]; simp [vp_updL, hj]
theorem px_iaload {a n : Nat} {i : Int32} (hd : decode (mC M) pc = .ok (.iaload, 1)) (ha : a < κ.1) (hk : sK a = 100) (hn : sN a = n) (hi : vp_in i n) (kk : PAt M nE nX κ (pc + 1) ls (.int (gi a i.toNatClampNeg) :: st) gi gl Q) : PAt M nE nX κ pc ls (.int i :: .ref a :: st) gi gl Q := by
  intro p l e R s m args below meth c base D cA ro Z C F H locs lsA hW hS hL
  rw [List.map_cons, cv_map_ref (Nat.lt_of_lt_of_le ha hW.2.2)]
  exact va_iald C.1 C.2.1 C.K hW.1 a 0 (f := gi a) (cA := cA 100) (n := n) (by rw [we_get ha, mkE_i hk (by decide), hn]) rfl hi hd (kk p l e R s m args below meth c base D cA ro Z C F H locs lsA hW hS hL)
theorem px_baload {a n : Nat} {i : Int32} (hd : decode (mC M) pc = .ok (.baload, 1)) (ha : a < κ.1) (hk : sK a = 102) (hn : sN a = n) (hi : vp_in i n) (kk : PAt M nE nX κ (pc + 1) ls (.int (gi a i.toNatClampNeg) :: st) gi gl Q) : PAt M nE nX κ pc ls (.int i :: .ref a :: st) gi gl Q := by
  intro p l e R s m args below meth c base D cA ro Z C F H locs lsA hW hS hL
  rw [List.map_cons, cv_map_ref (Nat.lt_of_lt_of_le ha hW.2.2)]
  exact va_bald C.1 C.2.1 C.K hW.1 a 2 (f := gi a) (cA := cA 102) (n := n) (by rw [we_get ha, mkE_i hk (by decide), hn]) rfl hi hd (kk p l e R s m args below meth c base D cA ro Z C F H locs lsA hW hS hL)
theorem px_zaload {a n : Nat} {i : Int32} (hd : decode (mC M) pc = .ok (.baload, 1)) (ha : a < κ.1) (hk : sK a = 103) (hn : sN a = n) (hi : vp_in i n) (kk : PAt M nE nX κ (pc + 1) ls (.int (gi a i.toNatClampNeg) :: st) gi gl Q) : PAt M nE nX κ pc ls (.int i :: .ref a :: st) gi gl Q := by
  intro p l e R s m args below meth c base D cA ro Z C F H locs lsA hW hS hL
  rw [List.map_cons, cv_map_ref (Nat.lt_of_lt_of_le ha hW.2.2)]
  exact va_zald C.1 C.2.1 C.K hW.1 a 3 (f := gi a) (cA := cA 103) (n := n) (by rw [we_get ha, mkE_i hk (by decide), hn]) rfl hi hd (kk p l e R s m args below meth c base D cA ro Z C F H locs lsA hW hS hL)
theorem px_laload {a n : Nat} {i : Int32} (hd : decode (mC M) pc = .ok (.laload, 1)) (ha : a < κ.1) (hk : sK a = 101) (hn : sN a = n) (hi : vp_in i n) (kk : PAt M nE nX κ (pc + 1) ls (.long (gl a i.toNatClampNeg) :: st) gi gl Q) : PAt M nE nX κ pc ls (.int i :: .ref a :: st) gi gl Q := by
  intro p l e R s m args below meth c base D cA ro Z C F H locs lsA hW hS hL
  rw [List.map_cons, cv_map_ref (Nat.lt_of_lt_of_le ha hW.2.2)]
  exact va_lald C.1 C.2.1 C.K hW.1 a 1 (f := gl a) (cA := cA 101) (n := n) (by rw [we_get ha, mkE_l hk, hn]) rfl hi hd (kk p l e R s m args below meth c base D cA ro Z C F H locs lsA hW hS hL)
theorem px_iastore {a n : Nat} {i : Int32} {x : Int32} (hd : decode (mC M) pc = .ok (.iastore, 1)) (ha : a < κ.1) (hk : sK a = 100) (hn : sN a = n) (hi : vp_in i n) (kk : PAt M nE nX κ (pc + 1) ls st (uI gi a (upd (gi a) i.toNatClampNeg x)) gl Q) : PAt M nE nX κ pc ls (.int x :: .int i :: .ref a :: st) gi gl Q := by
  intro p l e R s m args below meth c base D cA ro Z C F H locs lsA hW hS hL
  rw [List.map_cons, List.map_cons, cv_map_ref (Nat.lt_of_lt_of_le ha hW.2.2)]
  have hP : va_at D vwCl (base + a, mkE base cA κ.2 gi gl a) H := hW.1 a _ (we_get ha)
  rw [mkE_i hk (by decide), hn] at hP
  refine W.iast C.1 C.2.1 hP ((C.K.2 0 _ rfl).1 n (fun j => .int (gi a j))) (fun q => by cases q) (by show ¬ (i < 0 ∨ (arrV _ _ _).slots.size ≤ _); rw [arrV_size]; exact hi) rfl rfl hd fun H1 e1 z oq => ?_
  refine kk p l e R s m args below meth c base D cA ro Z C F H1 _ lsA (hW.put ha rfl ?_ (fun b h => mkE_n (uI_n h) (rfl) rfl) z oq) (hS.put z oq (Nat.le_add_right _ _)) hL
  rw [mkE_i hk (by decide), hn]
  show H1[base + a]? = some (vp_cell _ _)
  rw [e1]
  show some ((vp_cell (cA 100) (n, .inl (gi a))).setSlot _ _) = some (vp_cell (cA 100) (n, .inl _))
  rw [vp_cell_i, vp_cell_i, arrV_store, uI_s, upd_eq]
theorem px_bastore {a n : Nat} {i : Int32} {x : Int32} (hd : decode (mC M) pc = .ok (.bastore, 1)) (ha : a < κ.1) (hk : sK a = 102) (hn : sN a = n) (hi : vp_in i n) (kk : PAt M nE nX κ (pc + 1) ls st (uI gi a (upd (gi a) i.toNatClampNeg (vp_nar .byte x))) gl Q) : PAt M nE nX κ pc ls (.int x :: .int i :: .ref a :: st) gi gl Q := by
  intro p l e R s m args below meth c base D cA ro Z C F H locs lsA hW hS hL
  rw [List.map_cons, List.map_cons, cv_map_ref (Nat.lt_of_lt_of_le ha hW.2.2)]
  have hP : va_at D vwCl (base + a, mkE base cA κ.2 gi gl a) H := hW.1 a _ (we_get ha)
  rw [mkE_i hk (by decide), hn] at hP
  refine W.bast C.1 C.2.1 hP ((C.K.2 2 _ rfl).1 n (fun j => .int (gi a j))) (fun q => by cases q) (by show ¬ (i < 0 ∨ (arrV _ _ _).slots.size ≤ _); rw [arrV_size]; exact hi) rfl rfl hd fun H1 e1 z oq => ?_
  refine kk p l e R s m args below meth c base D cA ro Z C F H1 _ lsA (hW.put ha rfl ?_ (fun b h => mkE_n (uI_n h) (rfl) rfl) z oq) (hS.put z oq (Nat.le_add_right _ _)) hL
  rw [mkE_i hk (by decide), hn]
  show H1[base + a]? = some (vp_cell _ _)
  rw [e1]
  show some ((vp_cell (cA 102) (n, .inl (gi a))).setSlot _ _) = some (vp_cell (cA 102) (n, .inl _))
  rw [vp_cell_i, vp_cell_i, arrV_store, uI_s, upd_eq]
  rfl
theorem px_zastore {a n : Nat} {i : Int32} {x : Int32} (hd : decode (mC M) pc = .ok (.bastore, 1)) (ha : a < κ.1) (hk : sK a = 103) (hn : sN a = n) (hi : vp_in i n) (kk : PAt M nE nX κ (pc + 1) ls st (uI gi a (upd (gi a) i.toNatClampNeg (vp_nar .boolean x))) gl Q) : PAt M nE nX κ pc ls (.int x :: .int i :: .ref a :: st) gi gl Q := by
  intro p l e R s m args below meth c base D cA ro Z C F H locs lsA hW hS hL
  rw [List.map_cons, List.map_cons, cv_map_ref (Nat.lt_of_lt_of_le ha hW.2.2)]
  have hP : va_at D vwCl (base + a, mkE base cA κ.2 gi gl a) H := hW.1 a _ (we_get ha)
  rw [mkE_i hk (by decide), hn] at hP
  refine W.zast C.1 C.2.1 hP ((C.K.2 3 _ rfl).1 n (fun j => .int (gi a j))) (fun q => by cases q) (by show ¬ (i < 0 ∨ (arrV _ _ _).slots.size ≤ _); rw [arrV_size]; exact hi) rfl rfl hd fun H1 e1 z oq => ?_
  refine kk p l e R s m args below meth c base D cA ro Z C F H1 _ lsA (hW.put ha rfl ?_ (fun b h => mkE_n (uI_n h) (rfl) rfl) z oq) (hS.put z oq (Nat.le_add_right _ _)) hL
  rw [mkE_i hk (by decide), hn]
  show H1[base + a]? = some (vp_cell _ _)
  rw [e1]
  show some ((vp_cell (cA 103) (n, .inl (gi a))).setSlot _ _) = some (vp_cell (cA 103) (n, .inl _))
  rw [vp_cell_i, vp_cell_i, arrV_store, uI_s, upd_eq]
  rfl
theorem px_lastore {a n : Nat} {i : Int32} {x : Int64} (hd : decode (mC M) pc = .ok (.lastore, 1)) (ha : a < κ.1) (hk : sK a = 101) (hn : sN a = n) (hi : vp_in i n) (kk : PAt M nE nX κ (pc + 1) ls st gi (uL gl a (vp_updL (gl a) i.toNatClampNeg x)) Q) : PAt M nE nX κ pc ls (.long x :: .int i :: .ref a :: st) gi gl Q := by
  intro p l e R s m args below meth c base D cA ro Z C F H locs lsA hW hS hL
  rw [List.map_cons, List.map_cons, cv_map_ref (Nat.lt_of_lt_of_le ha hW.2.2)]
  have hP : va_at D vwCl (base + a, mkE base cA κ.2 gi gl a) H := hW.1 a _ (we_get ha)
  rw [mkE_l hk, hn] at hP
  refine W.last C.1 C.2.1 hP ((C.K.2 1 _ rfl).1 n (fun j => .long (gl a j))) (fun q => by cases q) (by show ¬ (i < 0 ∨ (arrV _ _ _).slots.size ≤ _); rw [arrV_size]; exact hi) rfl rfl hd fun H1 e1 z oq => ?_
  refine kk p l e R s m args below meth c base D cA ro Z C F H1 _ lsA (hW.put ha rfl ?_ (fun b h => mkE_n (rfl) (uL_n h) rfl) z oq) (hS.put z oq (Nat.le_add_right _ _)) hL
  rw [mkE_l hk, hn]
  show H1[base + a]? = some (vp_cell _ _)
  rw [e1]
  show some ((vp_cell (cA 101) (n, .inr (.inl (gl a)))).setSlot _ _) = some (vp_cell (cA 101) (n, .inr (.inl _)))
  rw [vp_cell_l, vp_cell_l, arrV_store, uL_s, updL_eq]
theorem px_alen {a n k t0 : Nat} {ty : FieldType} {v : Int32} (hd : decode (mC M) pc = .ok (.arraylength, 1)) (ha : a < κ.1) (hk : sK a = k) (hn : sN a = n) (hk2 : 100 ≤ k) (ht : ∀ cA : Nat → ClassId, (tysE cA)[t0]? = some (cA k, ty)) (hv : Int32.ofNat n = v) (kk : PAt M nE nX κ (pc + 1) ls (.int v :: st) gi gl Q) : PAt M nE nX κ pc ls (.ref a :: st) gi gl Q := by
  intro p l e R s m args below meth c base D cA ro Z C F H locs lsA hW hS hL
  rw [cv_map_ref (Nat.lt_of_lt_of_le ha hW.2.2)]
  have kk := kk p l e R s m args below meth c base D cA ro Z C F H locs lsA hW hS hL
  by_cases h1 : k = 101
  · subst h1
    exact va_alen C.1 C.2.1 C.K hW.1 a t0 (cA := cA 101) (x := (n, .inr (.inl (gl a)))) (by rw [we_get ha, mkE_l hk, hn]) (ht cA) hv hd kk
  · by_cases h2 : 104 ≤ k
    · have e : mkE base cA κ.2 gi gl a = .inl (cA k, sN a, .inr (.inr (.inr (.inr (fun j => if κ.2 a j then none else some (base + sR a j)))))) := by
        unfold mkE; rw [hk, if_neg (by omega), if_neg h1, if_pos h2]
      exact va_alen C.1 C.2.1 C.K hW.1 a t0 (cA := cA k) (x := (n, .inr (.inr (.inr (.inr (fun j => if κ.2 a j then none else some (base + sR a j))))))) (by rw [we_get ha, e, hn]) (ht cA) hv hd kk
    · have e : mkE base cA κ.2 gi gl a = .inl (cA k, sN a, .inl (gi a)) := by
        unfold mkE; rw [hk, if_neg (by omega), if_neg h1, if_neg h2]
      exact va_alen C.1 C.2.1 C.K hW.1 a t0 (cA := cA k) (x := (n, .inl (gi a))) (by rw [we_get ha, e, hn]) (ht cA) hv hd kk
theorem px_aaload {a n k t0 b : Nat} {Cn : String} {i : Int32} (hd : decode (mC M) pc = .ok (.aaload, 1)) (ha : a < κ.1) (hk : sK a = k) (hn : sN a = n) (hk2 : k = 104 ∨ k = 105) (ht : ∀ cA : Nat → ClassId, (tysE cA)[t0]? = some (cA k, .object Cn)) (hi : vp_in i n) (hnu : κ.2 a i.toNatClampNeg = false) (hb : sR a i.toNatClampNeg = b) (hbN : b < NN) (kk : PAt M nE nX κ (pc + 1) ls (.ref b :: st) gi gl Q) : PAt M nE nX κ pc ls (.int i :: .ref a :: st) gi gl Q := by
  intro p l e R s m args below meth c base D cA ro Z C F H locs lsA hW hS hL
  rw [List.map_cons, cv_map_ref (Nat.lt_of_lt_of_le ha hW.2.2)]
  have kk := kk p l e R s m args below meth c base D cA ro Z C F H locs lsA hW hS hL
  rw [cv_map_ref hbN] at kk
  refine va_aldq C.1 C.2.1 C.K hW.1 a t0 (f := fun j => if κ.2 a j then none else some (base + sR a j)) (cA := cA k) (n := n) (by rw [we_get ha, mkE_q hk hk2, hn]) (ht cA) hi hd ?_
  show W p l e R s m args below meth c H locs _ _ Z (F0 m (pc + 1) lsA (va_rf (if κ.2 a i.toNatClampNeg then none else some (base + sR a i.toNatClampNeg)) :: _))
  rw [hnu, hb]
  exact kk
end PH
