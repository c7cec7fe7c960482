/-! ROWS OF THE MACHINE BETWEEN: the instructions that call -/
def LkB (own : String) (ix n : Nat) (N : MD) : Prop := Cond.code (mY N) (mC N) (mL N) (mR N) ∈ gtb ∧ Cond.initialized (mY N).cls ∈ gtb ∧ Cond.methodLink own ix (mY N) ∈ gtb ∧ ((mY N).cls ≠ "java/lang/invoke/MethodHandle" ∧ (mY N).cls ≠ "java/lang/invoke/VarHandle" ∧ (parseMethodDescriptor (mY N).desc).map (fun d => d.parameters.length) = some n) ∧ plainName (mY N).cls = true
def LkN (own : String) (ix n : Nat) (N : MD) (host : String) : Prop := Cond.code (mY N) (mC N) (mL N) (mR N) ∈ gtb ∧ Cond.initialized (mY N).cls ∈ gtb ∧ Cond.methodLinkNest own ix (mY N) host ∈ nst ∧ ((mY N).cls ≠ "java/lang/invoke/MethodHandle" ∧ (mY N).cls ≠ "java/lang/invoke/VarHandle" ∧ (parseMethodDescriptor (mY N).desc).map (fun d => d.parameters.length) = some n) ∧ plainName (mY N).cls = true
theorem ws_good {N : MD} (h : Cond.code (mY N) (mC N) (mL N) (mR N) ∈ gtb) : GoodIn gtb (wsN N) := gtb_cons h gtb_self
theorem room_ok {M N : MD} {nE nX nY : Nat} {κ : Kp} {R : Room} (h : mV N + 1 ≤ mV M ∧ mL N ≤ 15) (h1 : mV M ≤ R.frames) (h2 : 34 * mV M ≤ R.locals) : (rmN N nE nX).frames + 1 ≤ R.frames ∧ 8 + (mL N + 11) + (rmN N nE nX).locals ≤ R.locals := by
  show mV N + 1 ≤ R.frames ∧ 8 + (mL N + 11) + 34 * mV N ≤ R.locals
  omega
theorem st_sum {base : Nat} {ro : Nat → Nat} {st : List Value} : ((st.map (cv base ro)).map fun v => v.category).sum = (st.map fun v => v.category).sum := by
  rw [List.map_map]
  congr 1
  apply List.map_congr_left
  intro v _
  exact cv_cat v
theorem va_S_str {base : Nat} {s : State} {H : Heap} {locs : List Loc} (h : va_S (Ab base) s.heap H locs) : va_S (Ab base) s.heap H locs := h
section PC
variable {M : MD} {nE nX : Nat} {κ : Kp} {pc : Nat} {ls : List (Option Value)} {st st0 : List Value} {gi : Gi} {gl : Gl} {Q : Value → Kp → Gi → Gl → Prop}
theorem cells_eq {nY : Nat} {κ' : Kp} (hx : nE ≤ κ.1 ∧ κ.1 ≤ nY ∧ nY ≤ nX) (h : κ'.1 = nY) : κ.1 - nE + (nY - κ.1) = κ'.1 - nE ∧ sl κ.1 - sl nE + (sl nY - sl κ.1) = sl κ'.1 - sl nE := by
  have h1 := sl_le hx.1
  have h2 := sl_le hx.2.1
  rw [h]
  omega
theorem cells_fit {nY : Nat} {R : Room} (hx : nE ≤ κ.1 ∧ κ.1 ≤ nY ∧ nY ≤ nX) (h1 : nX - nE ≤ R.cells) (h2 : sl nX - sl nE ≤ R.slots) : κ.1 - nE + (nY - κ.1) ≤ R.cells ∧ sl κ.1 - sl nE + (sl nY - sl κ.1) ≤ R.slots := by
  have a := sl_le hx.1
  have b := sl_le hx.2.1
  have c := sl_le hx.2.2
  omega
theorem px_callV_I {N : MD} {ix n nY : Nat} {As : List Value} (hd : decode (mC M) pc = .ok (.invokevirtual ix, 3)) (hlk : LkB (mY M).cls ix n N) (hlk2 : Cond.instanceMethod (mY N) ∈ gtb ∧ Cond.selects (mY N).cls (mY N) (mY N) ∈ gtb) {b ci N0 : Nat} {T : u_T} (hb : b < κ.1) (hbk : sK b = ci) (hci : ci < 100) (hc : vwCl[ci]? = some ((mY N).cls, T, N0)) (hlev : mV N + 1 ≤ mV M ∧ mL N ≤ 15) (hn : As.length = n) (hlen : (eLs (.ref b :: As)).length ≤ mL N) (hr : rI (mR N) = true) (hst : st0 = As.reverse ++ .ref b :: st) (hroom : (st.map fun v => v.category).sum ≤ 8) (hx : nE ≤ κ.1 ∧ κ.1 ≤ nY ∧ nY ≤ nX)
    (k : PAt N κ.1 nY κ 0 (ent (mL N) (.ref b :: As)) [] gi gl (fun v κ gi gl => PAt M nE nX κ (pc + 3) ls (v :: st) gi gl Q)) : PAt M nE nX κ pc ls st0 gi gl Q := by
  intro p l e R s m args below meth c base D cA ro Z C F H locs lsA hW hS hL
  obtain ⟨h1, h2, h3, h4, h5⟩ := hlk
  have hts := C.hts
  obtain ⟨hx0, hb0, hml0, hr0, hlk0, hin0, hown0, -, hK0, hbs0, hf0, hl0, hc0, hs0, hRO0⟩ := id C
  subst hst
  have ecv : cv base ro (.ref b) = .ref (base + b) := cv_low (Nat.lt_of_lt_of_le hb hW.2.2)
  have est : (As.reverse ++ .ref b :: st).map (cv base ro) = (As.map (cv base ro)).reverse ++ .ref (base + b) :: st.map (cv base ro) := by rw [List.map_append, List.map_reverse, List.map_cons, ecv]
  have eas : (.ref b :: As).map (cv base ro) = .ref (base + b) :: As.map (cv base ro) := by rw [List.map_cons, ecv]
  rw [est]
  have hM := met_I (l := l) (N := N) (nE := κ.1) (nX := nY) (As := (.ref b :: As)) (base := base) (D := D) (cA := cA) (ro := ro) h5 rfl hlen hr k
  rw [eas] at hM
  refine va_calli (va_runV (As := As.map (cv base ro)) (rest := st.map (cv base ro)) (C := (mY N).cls) ⟨hx0, hb0, hml0, hown0, hts⟩ hM ⟨callB_of n hts (ws_good h1) rfl rfl rfl (hts _ h2) (hts _ h3) h4 (room_ok (nY := nY) (κ := κ) hlev hf0 hl0), hts _ hlk2.1, hts _ hlk2.2⟩ ⟨Bst.blind, va_recv hK0 hW.1 hc (q0 := b) (by rw [we_get hb, mkE_o hbk hci]), fun U hU hW2 => ⟨rfl, by rw [hU]; exact hW, va_K.moved hW2.alike hK0, by rw [hU]; exact ROk.warm hW2 hS hRO0, by rw [hU]; exact Nat.le_trans hbs0 hS.1⟩⟩ rfl (by rw [List.length_map]; exact hn) hL.1 rfl (lv_room (by rw [st_sum]; exact hroom)) hd (cells_fit hx hc0 hs0)) hS (fun q _ h => h) (fun q h => h) (fun r u t H1 locs1 ht hvm hpost hB hz hk hS1 => ?_)
  obtain ⟨κ2, gi2, gl2⟩ := u
  obtain ⟨hQ, hn2⟩ := hpost
  have hB : Wd base D cA κ2 gi2 gl2 H1 := by rw [← ht]; exact hB
  have e9 := cells_eq (nX := nX) (κ := κ) (κ' := κ2) hx hn2
  rw [e9.1, e9.2]
  have hQ := hQ p l e R s m args below meth c base D cA ro Z C F H1 locs1 lsA hB hS1 hL
  exact hQ
theorem px_callV_L {N : MD} {ix n nY : Nat} {As : List Value} (hd : decode (mC M) pc = .ok (.invokevirtual ix, 3)) (hlk : LkB (mY M).cls ix n N) (hlk2 : Cond.instanceMethod (mY N) ∈ gtb ∧ Cond.selects (mY N).cls (mY N) (mY N) ∈ gtb) {b ci N0 : Nat} {T : u_T} (hb : b < κ.1) (hbk : sK b = ci) (hci : ci < 100) (hc : vwCl[ci]? = some ((mY N).cls, T, N0)) (hlev : mV N + 1 ≤ mV M ∧ mL N ≤ 15) (hn : As.length = n) (hlen : (eLs (.ref b :: As)).length ≤ mL N) (hr : mR N = some .long) (hst : st0 = As.reverse ++ .ref b :: st) (hroom : (st.map fun v => v.category).sum ≤ 8) (hx : nE ≤ κ.1 ∧ κ.1 ≤ nY ∧ nY ≤ nX)
    (k : PAt N κ.1 nY κ 0 (ent (mL N) (.ref b :: As)) [] gi gl (fun v κ gi gl => PAt M nE nX κ (pc + 3) ls (v :: st) gi gl Q)) : PAt M nE nX κ pc ls st0 gi gl Q := by
  intro p l e R s m args below meth c base D cA ro Z C F H locs lsA hW hS hL
  obtain ⟨h1, h2, h3, h4, h5⟩ := hlk
  have hts := C.hts
  obtain ⟨hx0, hb0, hml0, hr0, hlk0, hin0, hown0, -, hK0, hbs0, hf0, hl0, hc0, hs0, hRO0⟩ := id C
  subst hst
  have ecv : cv base ro (.ref b) = .ref (base + b) := cv_low (Nat.lt_of_lt_of_le hb hW.2.2)
  have est : (As.reverse ++ .ref b :: st).map (cv base ro) = (As.map (cv base ro)).reverse ++ .ref (base + b) :: st.map (cv base ro) := by rw [List.map_append, List.map_reverse, List.map_cons, ecv]
  have eas : (.ref b :: As).map (cv base ro) = .ref (base + b) :: As.map (cv base ro) := by rw [List.map_cons, ecv]
  rw [est]
  have hM := met_L (l := l) (N := N) (nE := κ.1) (nX := nY) (As := (.ref b :: As)) (base := base) (D := D) (cA := cA) (ro := ro) h5 rfl hlen hr k
  rw [eas] at hM
  refine va_calll (va_runV (As := As.map (cv base ro)) (rest := st.map (cv base ro)) (C := (mY N).cls) ⟨hx0, hb0, hml0, hown0, hts⟩ hM ⟨callB_of n hts (ws_good h1) rfl rfl rfl (hts _ h2) (hts _ h3) h4 (room_ok (nY := nY) (κ := κ) hlev hf0 hl0), hts _ hlk2.1, hts _ hlk2.2⟩ ⟨Bst.blind, va_recv hK0 hW.1 hc (q0 := b) (by rw [we_get hb, mkE_o hbk hci]), fun U hU hW2 => ⟨rfl, by rw [hU]; exact hW, va_K.moved hW2.alike hK0, by rw [hU]; exact ROk.warm hW2 hS hRO0, by rw [hU]; exact Nat.le_trans hbs0 hS.1⟩⟩ rfl (by rw [List.length_map]; exact hn) hL.1 rfl (lv_room (by rw [st_sum]; exact hroom)) hd (cells_fit hx hc0 hs0)) hS (fun q _ h => h) (fun q h => h) (fun r u t H1 locs1 ht hvm hpost hB hz hk hS1 => ?_)
  obtain ⟨κ2, gi2, gl2⟩ := u
  obtain ⟨hQ, hn2⟩ := hpost
  have hB : Wd base D cA κ2 gi2 gl2 H1 := by rw [← ht]; exact hB
  have e9 := cells_eq (nX := nX) (κ := κ) (κ' := κ2) hx hn2
  rw [e9.1, e9.2]
  have hQ := hQ p l e R s m args below meth c base D cA ro Z C F H1 locs1 lsA hB hS1 hL
  exact hQ
theorem px_callV_A {N : MD} {ix n nY : Nat} {As : List Value} (hd : decode (mC M) pc = .ok (.invokevirtual ix, 3)) (hlk : LkB (mY M).cls ix n N) (hlk2 : Cond.instanceMethod (mY N) ∈ gtb ∧ Cond.selects (mY N).cls (mY N) (mY N) ∈ gtb) {b ci N0 : Nat} {T : u_T} (hb : b < κ.1) (hbk : sK b = ci) (hci : ci < 100) (hc : vwCl[ci]? = some ((mY N).cls, T, N0)) (hlev : mV N + 1 ≤ mV M ∧ mL N ≤ 15) (hn : As.length = n) (hlen : (eLs (.ref b :: As)).length ≤ mL N) (hr : ∃ n, mR N = some (.object n)) (hst : st0 = As.reverse ++ .ref b :: st) (hroom : (st.map fun v => v.category).sum ≤ 8) (hx : nE ≤ κ.1 ∧ κ.1 ≤ nY ∧ nY ≤ nX)
    (k : PAt N κ.1 nY κ 0 (ent (mL N) (.ref b :: As)) [] gi gl (fun v κ gi gl => PAt M nE nX κ (pc + 3) ls (v :: st) gi gl Q)) : PAt M nE nX κ pc ls st0 gi gl Q := by
  intro p l e R s m args below meth c base D cA ro Z C F H locs lsA hW hS hL
  obtain ⟨h1, h2, h3, h4, h5⟩ := hlk
  have hts := C.hts
  obtain ⟨hx0, hb0, hml0, hr0, hlk0, hin0, hown0, -, hK0, hbs0, hf0, hl0, hc0, hs0, hRO0⟩ := id C
  subst hst
  obtain ⟨rn, hr⟩ := hr
  have ecv : cv base ro (.ref b) = .ref (base + b) := cv_low (Nat.lt_of_lt_of_le hb hW.2.2)
  have est : (As.reverse ++ .ref b :: st).map (cv base ro) = (As.map (cv base ro)).reverse ++ .ref (base + b) :: st.map (cv base ro) := by rw [List.map_append, List.map_reverse, List.map_cons, ecv]
  have eas : (.ref b :: As).map (cv base ro) = .ref (base + b) :: As.map (cv base ro) := by rw [List.map_cons, ecv]
  rw [est]
  have hM := met_A (l := l) (N := N) (nE := κ.1) (nX := nY) (As := (.ref b :: As)) (base := base) (D := D) (cA := cA) (ro := ro) h5 rfl hlen hr k
  rw [eas] at hM
  refine va_callq (va_runV (As := As.map (cv base ro)) (rest := st.map (cv base ro)) (C := (mY N).cls) ⟨hx0, hb0, hml0, hown0, hts⟩ hM ⟨callB_of n hts (ws_good h1) rfl rfl rfl (hts _ h2) (hts _ h3) h4 (room_ok (nY := nY) (κ := κ) hlev hf0 hl0), hts _ hlk2.1, hts _ hlk2.2⟩ ⟨Bst.blind, va_recv hK0 hW.1 hc (q0 := b) (by rw [we_get hb, mkE_o hbk hci]), fun U hU hW2 => ⟨rfl, by rw [hU]; exact hW, va_K.moved hW2.alike hK0, by rw [hU]; exact ROk.warm hW2 hS hRO0, by rw [hU]; exact Nat.le_trans hbs0 hS.1⟩⟩ rfl (by rw [List.length_map]; exact hn) hL.1 rfl (lv_room (by rw [st_sum]; exact hroom)) hd (cells_fit hx hc0 hs0)) hS (fun q _ h => h) (fun q h => h) (fun r u t H1 locs1 ht hvm hpost hB hz hk hS1 => ?_)
  obtain ⟨κ2, gi2, gl2⟩ := u
  obtain ⟨⟨v, ev, hQ⟩, hn2⟩ := hpost
  have hB : Wd base D cA κ2 gi2 gl2 H1 := by rw [← ht]; exact hB
  have e9 := cells_eq (nX := nX) (κ := κ) (κ' := κ2) hx hn2
  rw [e9.1, e9.2]
  have hQ := hQ p l e R s m args below meth c base D cA ro Z C F H1 locs1 lsA hB hS1 hL
  rw [List.map_cons, ev] at hQ
  exact hQ
theorem px_callV_V {N : MD} {ix n nY : Nat} {As : List Value} (hd : decode (mC M) pc = .ok (.invokevirtual ix, 3)) (hlk : LkB (mY M).cls ix n N) (hlk2 : Cond.instanceMethod (mY N) ∈ gtb ∧ Cond.selects (mY N).cls (mY N) (mY N) ∈ gtb) {b ci N0 : Nat} {T : u_T} (hb : b < κ.1) (hbk : sK b = ci) (hci : ci < 100) (hc : vwCl[ci]? = some ((mY N).cls, T, N0)) (hlev : mV N + 1 ≤ mV M ∧ mL N ≤ 15) (hn : As.length = n) (hlen : (eLs (.ref b :: As)).length ≤ mL N) (hr : mR N = none) (hst : st0 = As.reverse ++ .ref b :: st) (hroom : (st.map fun v => v.category).sum ≤ 8) (hx : nE ≤ κ.1 ∧ κ.1 ≤ nY ∧ nY ≤ nX)
    (k : PAt N κ.1 nY κ 0 (ent (mL N) (.ref b :: As)) [] gi gl (fun _ κ gi gl => PAt M nE nX κ (pc + 3) ls (st) gi gl Q)) : PAt M nE nX κ pc ls st0 gi gl Q := by
  intro p l e R s m args below meth c base D cA ro Z C F H locs lsA hW hS hL
  obtain ⟨h1, h2, h3, h4, h5⟩ := hlk
  have hts := C.hts
  obtain ⟨hx0, hb0, hml0, hr0, hlk0, hin0, hown0, -, hK0, hbs0, hf0, hl0, hc0, hs0, hRO0⟩ := id C
  subst hst
  have ecv : cv base ro (.ref b) = .ref (base + b) := cv_low (Nat.lt_of_lt_of_le hb hW.2.2)
  have est : (As.reverse ++ .ref b :: st).map (cv base ro) = (As.map (cv base ro)).reverse ++ .ref (base + b) :: st.map (cv base ro) := by rw [List.map_append, List.map_reverse, List.map_cons, ecv]
  have eas : (.ref b :: As).map (cv base ro) = .ref (base + b) :: As.map (cv base ro) := by rw [List.map_cons, ecv]
  rw [est]
  have hM := met_V (l := l) (N := N) (nE := κ.1) (nX := nY) (As := (.ref b :: As)) (base := base) (D := D) (cA := cA) (ro := ro) h5 rfl hlen hr k
  rw [eas] at hM
  refine va_callv (va_runV (As := As.map (cv base ro)) (rest := st.map (cv base ro)) (C := (mY N).cls) ⟨hx0, hb0, hml0, hown0, hts⟩ hM ⟨callB_of n hts (ws_good h1) rfl rfl rfl (hts _ h2) (hts _ h3) h4 (room_ok (nY := nY) (κ := κ) hlev hf0 hl0), hts _ hlk2.1, hts _ hlk2.2⟩ ⟨Bst.blind, va_recv hK0 hW.1 hc (q0 := b) (by rw [we_get hb, mkE_o hbk hci]), fun U hU hW2 => ⟨rfl, by rw [hU]; exact hW, va_K.moved hW2.alike hK0, by rw [hU]; exact ROk.warm hW2 hS hRO0, by rw [hU]; exact Nat.le_trans hbs0 hS.1⟩⟩ rfl (by rw [List.length_map]; exact hn) hL.1 rfl (lv_room (by rw [st_sum]; exact hroom)) hd (cells_fit hx hc0 hs0)) hS (fun q _ h => h) (fun q h => h) (fun u t H1 locs1 ht hvm hpost hB hz hk hS1 => ?_)
  obtain ⟨κ2, gi2, gl2⟩ := u
  obtain ⟨hQ, hn2⟩ := hpost
  have hB : Wd base D cA κ2 gi2 gl2 H1 := by rw [← ht]; exact hB
  have e9 := cells_eq (nX := nX) (κ := κ) (κ' := κ2) hx hn2
  rw [e9.1, e9.2]
  have hQ := hQ p l e R s m args below meth c base D cA ro Z C F H1 locs1 lsA hB hS1 hL
  exact hQ
theorem px_callVS_I {N : MD} {ix n nY : Nat} {As : List Value} (hd : decode (mC M) pc = .ok (.invokevirtual ix, 3)) (hlk : LkB (mY M).cls ix n N) (hlk2 : Cond.instanceMethod (mY N) ∈ gtb ∧ Cond.selects (mY N).cls (mY N) (mY N) ∈ gtb) {b : Nat} (hb : b < nJt) (hcl : (mY N).cls = "java/lang/String") (hlev : mV N + 1 ≤ mV M ∧ mL N ≤ 15) (hn : As.length = n) (hlen : (eLs (.ref (ROB + b) :: As)).length ≤ mL N) (hr : rI (mR N) = true) (hst : st0 = As.reverse ++ .ref (ROB + b) :: st) (hroom : (st.map fun v => v.category).sum ≤ 8) (hx : nE ≤ κ.1 ∧ κ.1 ≤ nY ∧ nY ≤ nX)
    (k : PAt N κ.1 nY κ 0 (ent (mL N) (.ref (ROB + b) :: As)) [] gi gl (fun v κ gi gl => PAt M nE nX κ (pc + 3) ls (v :: st) gi gl Q)) : PAt M nE nX κ pc ls st0 gi gl Q := by
  intro p l e R s m args below meth c base D cA ro Z C F H locs lsA hW hS hL
  obtain ⟨h1, h2, h3, h4, h5⟩ := hlk
  have hts := C.hts
  obtain ⟨hx0, hb0, hml0, hr0, hlk0, hin0, hown0, -, hK0, hbs0, hf0, hl0, hc0, hs0, hRO0⟩ := id C
  subst hst
  have ecv : cv base ro (.ref (ROB + b)) = .ref (ro (ROB + b)) := by
    have : ¬ (ROB + b < ROB) := by omega
    simp [cv, this]
  have est : (As.reverse ++ .ref (ROB + b) :: st).map (cv base ro) = (As.map (cv base ro)).reverse ++ .ref (ro (ROB + b)) :: st.map (cv base ro) := by rw [List.map_append, List.map_reverse, List.map_cons, ecv]
  have eas : (.ref (ROB + b) :: As).map (cv base ro) = .ref (ro (ROB + b)) :: As.map (cv base ro) := by rw [List.map_cons, ecv]
  rw [est]
  have hM := met_I (l := l) (N := N) (nE := κ.1) (nX := nY) (As := (.ref (ROB + b) :: As)) (base := base) (D := D) (cA := cA) (ro := ro) h5 rfl hlen hr k
  rw [eas] at hM
  refine va_calli (va_runV (As := As.map (cv base ro)) (rest := st.map (cv base ro)) (C := (mY N).cls) ⟨hx0, hb0, hml0, hown0, hts⟩ hM ⟨callB_of n hts (ws_good h1) rfl rfl rfl (hts _ h2) (hts _ h3) h4 (room_ok (nY := nY) (κ := κ) hlev hf0 hl0), hts _ hlk2.1, hts _ hlk2.2⟩ ⟨Bst.blind, by rw [hcl]; exact vk_recv (adK := fun i => ro (ROB + i)) (i := b) hRO0.1 hb hS, fun U hU hW2 => ⟨rfl, by rw [hU]; exact hW, va_K.moved hW2.alike hK0, by rw [hU]; exact ROk.warm hW2 hS hRO0, by rw [hU]; exact Nat.le_trans hbs0 hS.1⟩⟩ rfl (by rw [List.length_map]; exact hn) hL.1 rfl (lv_room (by rw [st_sum]; exact hroom)) hd (cells_fit hx hc0 hs0)) hS (fun q _ h => h) (fun q h => h) (fun r u t H1 locs1 ht hvm hpost hB hz hk hS1 => ?_)
  obtain ⟨κ2, gi2, gl2⟩ := u
  obtain ⟨hQ, hn2⟩ := hpost
  have hB : Wd base D cA κ2 gi2 gl2 H1 := by rw [← ht]; exact hB
  have e9 := cells_eq (nX := nX) (κ := κ) (κ' := κ2) hx hn2
  rw [e9.1, e9.2]
  have hQ := hQ p l e R s m args below meth c base D cA ro Z C F H1 locs1 lsA hB hS1 hL
  exact hQ
theorem px_callS_I {N : MD} {ix n nY : Nat} {As : List Value} (hd : decode (mC M) pc = .ok (.invokestatic ix, 3)) (hlk : LkB (mY M).cls ix n N) (hlk2 : Cond.static (mY N) ∈ gtb) (hlev : mV N + 1 ≤ mV M ∧ mL N ≤ 15) (hn : As.length = n) (hlen : (eLs As).length ≤ mL N) (hr : rI (mR N) = true) (hst : st0 = As.reverse ++ st) (hroom : (st.map fun v => v.category).sum ≤ 8) (hx : nE ≤ κ.1 ∧ κ.1 ≤ nY ∧ nY ≤ nX)
    (k : PAt N κ.1 nY κ 0 (ent (mL N) As) [] gi gl (fun v κ gi gl => PAt M nE nX κ (pc + 3) ls (v :: st) gi gl Q)) : PAt M nE nX κ pc ls st0 gi gl Q := by
  intro p l e R s m args below meth c base D cA ro Z C F H locs lsA hW hS hL
  obtain ⟨h1, h2, h3, h4, h5⟩ := hlk
  have hts := C.hts
  obtain ⟨hx0, hb0, hml0, hr0, hlk0, hin0, hown0, -, hK0, hbs0, hf0, hl0, hc0, hs0, hRO0⟩ := id C
  subst hst
  have est : (As.reverse ++ st).map (cv base ro) = (As.map (cv base ro)).reverse ++ st.map (cv base ro) := by rw [List.map_append, List.map_reverse]
  rw [est]
  have hM := met_I (l := l) (N := N) (nE := κ.1) (nX := nY) (As := As) (base := base) (D := D) (cA := cA) (ro := ro) h5 rfl hlen hr k
  refine va_calli (va_runS (As := As.map (cv base ro)) (rest := st.map (cv base ro)) ⟨hx0, hb0, hml0, hown0, hts⟩ hM ⟨callB_of n hts (ws_good h1) rfl rfl rfl (hts _ h2) (hts _ h3) h4 (room_ok (nY := nY) (κ := κ) hlev hf0 hl0), hts _ hlk2⟩ ⟨Bst.blind, fun U hU hW2 => ⟨rfl, by rw [hU]; exact hW, va_K.moved hW2.alike hK0, by rw [hU]; exact ROk.warm hW2 hS hRO0, by rw [hU]; exact Nat.le_trans hbs0 hS.1⟩⟩ rfl (by rw [List.length_map]; exact hn) hL.1 rfl (lv_room (by rw [st_sum]; exact hroom)) hd (cells_fit hx hc0 hs0)) hS (fun q _ h => h) (fun q h => h) (fun r u t H1 locs1 ht hvm hpost hB hz hk hS1 => ?_)
  obtain ⟨κ2, gi2, gl2⟩ := u
  obtain ⟨hQ, hn2⟩ := hpost
  have hB : Wd base D cA κ2 gi2 gl2 H1 := by rw [← ht]; exact hB
  have e9 := cells_eq (nX := nX) (κ := κ) (κ' := κ2) hx hn2
  rw [e9.1, e9.2]
  have hQ := hQ p l e R s m args below meth c base D cA ro Z C F H1 locs1 lsA hB hS1 hL
  exact hQ
theorem px_callS_L {N : MD} {ix n nY : Nat} {As : List Value} (hd : decode (mC M) pc = .ok (.invokestatic ix, 3)) (hlk : LkB (mY M).cls ix n N) (hlk2 : Cond.static (mY N) ∈ gtb) (hlev : mV N + 1 ≤ mV M ∧ mL N ≤ 15) (hn : As.length = n) (hlen : (eLs As).length ≤ mL N) (hr : mR N = some .long) (hst : st0 = As.reverse ++ st) (hroom : (st.map fun v => v.category).sum ≤ 8) (hx : nE ≤ κ.1 ∧ κ.1 ≤ nY ∧ nY ≤ nX)
    (k : PAt N κ.1 nY κ 0 (ent (mL N) As) [] gi gl (fun v κ gi gl => PAt M nE nX κ (pc + 3) ls (v :: st) gi gl Q)) : PAt M nE nX κ pc ls st0 gi gl Q := by
  intro p l e R s m args below meth c base D cA ro Z C F H locs lsA hW hS hL
  obtain ⟨h1, h2, h3, h4, h5⟩ := hlk
  have hts := C.hts
  obtain ⟨hx0, hb0, hml0, hr0, hlk0, hin0, hown0, -, hK0, hbs0, hf0, hl0, hc0, hs0, hRO0⟩ := id C
  subst hst
  have est : (As.reverse ++ st).map (cv base ro) = (As.map (cv base ro)).reverse ++ st.map (cv base ro) := by rw [List.map_append, List.map_reverse]
  rw [est]
  have hM := met_L (l := l) (N := N) (nE := κ.1) (nX := nY) (As := As) (base := base) (D := D) (cA := cA) (ro := ro) h5 rfl hlen hr k
  refine va_calll (va_runS (As := As.map (cv base ro)) (rest := st.map (cv base ro)) ⟨hx0, hb0, hml0, hown0, hts⟩ hM ⟨callB_of n hts (ws_good h1) rfl rfl rfl (hts _ h2) (hts _ h3) h4 (room_ok (nY := nY) (κ := κ) hlev hf0 hl0), hts _ hlk2⟩ ⟨Bst.blind, fun U hU hW2 => ⟨rfl, by rw [hU]; exact hW, va_K.moved hW2.alike hK0, by rw [hU]; exact ROk.warm hW2 hS hRO0, by rw [hU]; exact Nat.le_trans hbs0 hS.1⟩⟩ rfl (by rw [List.length_map]; exact hn) hL.1 rfl (lv_room (by rw [st_sum]; exact hroom)) hd (cells_fit hx hc0 hs0)) hS (fun q _ h => h) (fun q h => h) (fun r u t H1 locs1 ht hvm hpost hB hz hk hS1 => ?_)
  obtain ⟨κ2, gi2, gl2⟩ := u
  obtain ⟨hQ, hn2⟩ := hpost
  have hB : Wd base D cA κ2 gi2 gl2 H1 := by rw [← ht]; exact hB
  have e9 := cells_eq (nX := nX) (κ := κ) (κ' := κ2) hx hn2
  rw [e9.1, e9.2]
  have hQ := hQ p l e R s m args below meth c base D cA ro Z C F H1 locs1 lsA hB hS1 hL
  exact hQ
theorem px_callS_V {N : MD} {ix n nY : Nat} {As : List Value} (hd : decode (mC M) pc = .ok (.invokestatic ix, 3)) (hlk : LkB (mY M).cls ix n N) (hlk2 : Cond.static (mY N) ∈ gtb) (hlev : mV N + 1 ≤ mV M ∧ mL N ≤ 15) (hn : As.length = n) (hlen : (eLs As).length ≤ mL N) (hr : mR N = none) (hst : st0 = As.reverse ++ st) (hroom : (st.map fun v => v.category).sum ≤ 8) (hx : nE ≤ κ.1 ∧ κ.1 ≤ nY ∧ nY ≤ nX)
    (k : PAt N κ.1 nY κ 0 (ent (mL N) As) [] gi gl (fun _ κ gi gl => PAt M nE nX κ (pc + 3) ls (st) gi gl Q)) : PAt M nE nX κ pc ls st0 gi gl Q := by
  intro p l e R s m args below meth c base D cA ro Z C F H locs lsA hW hS hL
  obtain ⟨h1, h2, h3, h4, h5⟩ := hlk
  have hts := C.hts
  obtain ⟨hx0, hb0, hml0, hr0, hlk0, hin0, hown0, -, hK0, hbs0, hf0, hl0, hc0, hs0, hRO0⟩ := id C
  subst hst
  have est : (As.reverse ++ st).map (cv base ro) = (As.map (cv base ro)).reverse ++ st.map (cv base ro) := by rw [List.map_append, List.map_reverse]
  rw [est]
  have hM := met_V (l := l) (N := N) (nE := κ.1) (nX := nY) (As := As) (base := base) (D := D) (cA := cA) (ro := ro) h5 rfl hlen hr k
  refine va_callv (va_runS (As := As.map (cv base ro)) (rest := st.map (cv base ro)) ⟨hx0, hb0, hml0, hown0, hts⟩ hM ⟨callB_of n hts (ws_good h1) rfl rfl rfl (hts _ h2) (hts _ h3) h4 (room_ok (nY := nY) (κ := κ) hlev hf0 hl0), hts _ hlk2⟩ ⟨Bst.blind, fun U hU hW2 => ⟨rfl, by rw [hU]; exact hW, va_K.moved hW2.alike hK0, by rw [hU]; exact ROk.warm hW2 hS hRO0, by rw [hU]; exact Nat.le_trans hbs0 hS.1⟩⟩ rfl (by rw [List.length_map]; exact hn) hL.1 rfl (lv_room (by rw [st_sum]; exact hroom)) hd (cells_fit hx hc0 hs0)) hS (fun q _ h => h) (fun q h => h) (fun u t H1 locs1 ht hvm hpost hB hz hk hS1 => ?_)
  obtain ⟨κ2, gi2, gl2⟩ := u
  obtain ⟨hQ, hn2⟩ := hpost
  have hB : Wd base D cA κ2 gi2 gl2 H1 := by rw [← ht]; exact hB
  have e9 := cells_eq (nX := nX) (κ := κ) (κ' := κ2) hx hn2
  rw [e9.1, e9.2]
  have hQ := hQ p l e R s m args below meth c base D cA ro Z C F H1 locs1 lsA hB hS1 hL
  exact hQ
theorem px_callSN_I {N : MD} {ix n nY : Nat} {host : String} {As : List Value} (hd : decode (mC M) pc = .ok (.invokestatic ix, 3)) (hlk : LkN (mY M).cls ix n N host) (hlk2 : Cond.static (mY N) ∈ gtb) (hlev : mV N + 1 ≤ mV M ∧ mL N ≤ 15) (hn : As.length = n) (hlen : (eLs As).length ≤ mL N) (hr : rI (mR N) = true) (hst : st0 = As.reverse ++ st) (hroom : (st.map fun v => v.category).sum ≤ 8) (hx : nE ≤ κ.1 ∧ κ.1 ≤ nY ∧ nY ≤ nX)
    (k : PAt N κ.1 nY κ 0 (ent (mL N) As) [] gi gl (fun v κ gi gl => PAt M nE nX κ (pc + 3) ls (v :: st) gi gl Q)) : PAt M nE nX κ pc ls st0 gi gl Q := by
  intro p l e R s m args below meth c base D cA ro Z C F H locs lsA hW hS hL
  obtain ⟨h1, h2, h3, h4, h5⟩ := hlk
  have hts := C.hts
  obtain ⟨hx0, hb0, hml0, hr0, hlk0, hin0, hown0, -, hK0, hbs0, hf0, hl0, hc0, hs0, hRO0⟩ := id C
  subst hst
  have est : (As.reverse ++ st).map (cv base ro) = (As.map (cv base ro)).reverse ++ st.map (cv base ro) := by rw [List.map_append, List.map_reverse]
  rw [est]
  have hM := met_I (l := l) (N := N) (nE := κ.1) (nX := nY) (As := As) (base := base) (D := D) (cA := cA) (ro := ro) h5 rfl hlen hr k
  refine va_calli (va_runSN (As := As.map (cv base ro)) (rest := st.map (cv base ro)) ⟨hx0, hb0, hml0, hown0, hts⟩ hM ⟨va_cnB n hts (ws_good h1) rfl rfl rfl (C.ro.2.2.2.2.2.2 _ h3) (hts _ h2) h4 (room_ok (nY := nY) (κ := κ) hlev hf0 hl0), hts _ hlk2, trivial⟩ ⟨Bst.blind, fun U hU hW2 => ⟨rfl, by rw [hU]; exact hW, va_K.moved hW2.alike hK0, by rw [hU]; exact ROk.warm hW2 hS hRO0, by rw [hU]; exact Nat.le_trans hbs0 hS.1⟩⟩ rfl (by rw [List.length_map]; exact hn) hL.1 rfl (lv_room (by rw [st_sum]; exact hroom)) hd (cells_fit hx hc0 hs0)) hS (fun q _ h => h) (fun q h => h) (fun r u t H1 locs1 ht hvm hpost hB hz hk hS1 => ?_)
  obtain ⟨κ2, gi2, gl2⟩ := u
  obtain ⟨hQ, hn2⟩ := hpost
  have hB : Wd base D cA κ2 gi2 gl2 H1 := by rw [← ht]; exact hB
  have e9 := cells_eq (nX := nX) (κ := κ) (κ' := κ2) hx hn2
  rw [e9.1, e9.2]
  have hQ := hQ p l e R s m args below meth c base D cA ro Z C F H1 locs1 lsA hB hS1 hL
  exact hQ
theorem px_callI_V {N : MD} {ix n nY : Nat} {As : List Value} (hd : decode (mC M) pc = .ok (.invokespecial ix, 3)) (hlk : LkB (mY M).cls ix n N) (hlk2 : Cond.instanceMethod (mY N) ∈ gtb ∧ (mY N).name = "<init>") {b : Nat} (hb : b < NN) (hlev : mV N + 1 ≤ mV M ∧ mL N ≤ 15) (hn : As.length = n) (hlen : (eLs (.ref b :: As)).length ≤ mL N) (hr : mR N = none) (hst : st0 = As.reverse ++ .ref b :: st) (hroom : (st.map fun v => v.category).sum ≤ 8) (hx : nE ≤ κ.1 ∧ κ.1 ≤ nY ∧ nY ≤ nX)
    (k : PAt N κ.1 nY κ 0 (ent (mL N) (.ref b :: As)) [] gi gl (fun _ κ gi gl => PAt M nE nX κ (pc + 3) ls (st) gi gl Q)) : PAt M nE nX κ pc ls st0 gi gl Q := by
  intro p l e R s m args below meth c base D cA ro Z C F H locs lsA hW hS hL
  obtain ⟨h1, h2, h3, h4, h5⟩ := hlk
  have hts := C.hts
  obtain ⟨hx0, hb0, hml0, hr0, hlk0, hin0, hown0, -, hK0, hbs0, hf0, hl0, hc0, hs0, hRO0⟩ := id C
  subst hst
  have ecv : cv base ro (.ref b) = .ref (base + b) := cv_low hb
  have est : (As.reverse ++ .ref b :: st).map (cv base ro) = (As.map (cv base ro)).reverse ++ .ref (base + b) :: st.map (cv base ro) := by rw [List.map_append, List.map_reverse, List.map_cons, ecv]
  have eas : (.ref b :: As).map (cv base ro) = .ref (base + b) :: As.map (cv base ro) := by rw [List.map_cons, ecv]
  rw [est]
  have hM := met_V (l := l) (N := N) (nE := κ.1) (nX := nY) (As := (.ref b :: As)) (base := base) (D := D) (cA := cA) (ro := ro) h5 rfl hlen hr k
  rw [eas] at hM
  have ews : wsN N = Cond.code (mY N) (mC N) (mL N) none :: gtb := by show (Cond.code (mY N) (mC N) (mL N) (mR N) :: gtb) = _; rw [hr]
  rw [ews] at hM
  have hg := ws_good h1
  rw [ews] at hg
  have cb : CallB R s args (mY M).cls ix (mY N) (mC N) (mL N) none (Cond.code (mY N) (mC N) (mL N) none :: gtb) (rmN N κ.1 nY) (nY - κ.1) (sl nY - sl κ.1) n := callB_of n hts hg rfl rfl rfl (hts _ h2) (hts _ h3) h4 (room_ok (nY := nY) (κ := κ) hlev hf0 hl0)
  refine va_callv (va_runI (As := As.map (cv base ro)) (rest := st.map (cv base ro)) ⟨hx0, hb0, hml0, hown0, hts⟩ hM ⟨cb, hlk2.2, hts _ hlk2.1⟩ ⟨Bst.blind, fun U hU hW2 => ⟨rfl, by rw [hU]; exact hW, va_K.moved hW2.alike hK0, by rw [hU]; exact ROk.warm hW2 hS hRO0, by rw [hU]; exact Nat.le_trans hbs0 hS.1⟩⟩ rfl (by rw [List.length_map]; exact hn) hL.1 rfl (lv_room (by rw [st_sum]; exact hroom)) hd (cells_fit hx hc0 hs0)) hS (fun q _ h => h) (fun q h => h) (fun u t H1 locs1 ht hvm hpost hB hz hk hS1 => ?_)
  obtain ⟨κ2, gi2, gl2⟩ := u
  obtain ⟨hQ, hn2⟩ := hpost
  have hB : Wd base D cA κ2 gi2 gl2 H1 := by rw [← ht]; exact hB
  have e9 := cells_eq (nX := nX) (κ := κ) (κ' := κ2) hx hn2
  rw [e9.1, e9.2]
  have hQ := hQ p l e R s m args below meth c base D cA ro Z C F H1 locs1 lsA hB hS1 hL
  exact hQ
theorem px_callIN_V {N : MD} {ix n nY : Nat} {host : String} {As : List Value} (hd : decode (mC M) pc = .ok (.invokespecial ix, 3)) (hlk : LkN (mY M).cls ix n N host) (hlk2 : Cond.instanceMethod (mY N) ∈ gtb ∧ (mY N).name = "<init>") {b : Nat} (hb : b < NN) (hlev : mV N + 1 ≤ mV M ∧ mL N ≤ 15) (hn : As.length = n) (hlen : (eLs (.ref b :: As)).length ≤ mL N) (hr : mR N = none) (hst : st0 = As.reverse ++ .ref b :: st) (hroom : (st.map fun v => v.category).sum ≤ 8) (hx : nE ≤ κ.1 ∧ κ.1 ≤ nY ∧ nY ≤ nX)
    (k : PAt N κ.1 nY κ 0 (ent (mL N) (.ref b :: As)) [] gi gl (fun _ κ gi gl => PAt M nE nX κ (pc + 3) ls (st) gi gl Q)) : PAt M nE nX κ pc ls st0 gi gl Q := by
  intro p l e R s m args below meth c base D cA ro Z C F H locs lsA hW hS hL
  obtain ⟨h1, h2, h3, h4, h5⟩ := hlk
  have hts := C.hts
  obtain ⟨hx0, hb0, hml0, hr0, hlk0, hin0, hown0, -, hK0, hbs0, hf0, hl0, hc0, hs0, hRO0⟩ := id C
  subst hst
  have ecv : cv base ro (.ref b) = .ref (base + b) := cv_low hb
  have est : (As.reverse ++ .ref b :: st).map (cv base ro) = (As.map (cv base ro)).reverse ++ .ref (base + b) :: st.map (cv base ro) := by rw [List.map_append, List.map_reverse, List.map_cons, ecv]
  have eas : (.ref b :: As).map (cv base ro) = .ref (base + b) :: As.map (cv base ro) := by rw [List.map_cons, ecv]
  rw [est]
  have hM := met_V (l := l) (N := N) (nE := κ.1) (nX := nY) (As := (.ref b :: As)) (base := base) (D := D) (cA := cA) (ro := ro) h5 rfl hlen hr k
  rw [eas] at hM
  have ews : wsN N = Cond.code (mY N) (mC N) (mL N) none :: gtb := by show (Cond.code (mY N) (mC N) (mL N) (mR N) :: gtb) = _; rw [hr]
  rw [ews] at hM
  have hg := ws_good h1
  rw [ews] at hg
  have cb : va_CN R s args (mY M).cls ix (mY N) host (mC N) (mL N) none (Cond.code (mY N) (mC N) (mL N) none :: gtb) (rmN N κ.1 nY) (nY - κ.1) (sl nY - sl κ.1) n := va_cnB n hts hg rfl rfl rfl (C.ro.2.2.2.2.2.2 _ h3) (hts _ h2) h4 (room_ok (nY := nY) (κ := κ) hlev hf0 hl0)
  refine va_callv (va_runIN (As := As.map (cv base ro)) (rest := st.map (cv base ro)) ⟨hx0, hb0, hml0, hown0, hts⟩ hM ⟨cb, hlk2.2, hts _ hlk2.1⟩ ⟨Bst.blind, fun U hU hW2 => ⟨rfl, by rw [hU]; exact hW, va_K.moved hW2.alike hK0, by rw [hU]; exact ROk.warm hW2 hS hRO0, by rw [hU]; exact Nat.le_trans hbs0 hS.1⟩⟩ rfl (by rw [List.length_map]; exact hn) hL.1 rfl (lv_room (by rw [st_sum]; exact hroom)) hd (cells_fit hx hc0 hs0)) hS (fun q _ h => h) (fun q h => h) (fun u t H1 locs1 ht hvm hpost hB hz hk hS1 => ?_)
  obtain ⟨κ2, gi2, gl2⟩ := u
  obtain ⟨hQ, hn2⟩ := hpost
  have hB : Wd base D cA κ2 gi2 gl2 H1 := by rw [← ht]; exact hB
  have e9 := cells_eq (nX := nX) (κ := κ) (κ' := κ2) hx hn2
  rw [e9.1, e9.2]
  have hQ := hQ p l e R s m args below meth c base D cA ro Z C F H1 locs1 lsA hB hS1 hL
  exact hQ
end PC
