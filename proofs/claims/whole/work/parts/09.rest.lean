/-! ROWS OF THE MACHINE BETWEEN: Object's constructor, arraycopy, strings, statics -/
section PO
variable {M : MD} {nE nX : Nat} {κ : Kp} {pc : Nat} {ls : List (Option Value)} {st : List Value} {gi : Gi} {gl : Gl} {Q : Value → Kp → Gi → Gl → Prop}
theorem px_objInit {ix a : Nat} (hd : decode (mC M) pc = .ok (.invokespecial ix, 3)) (ha : a < NN) (hw : Cond.methodLink (mY M).cls ix objectInit ∈ gtb) (hw2 : Cond.instanceMethod objectInit ∈ gtb) (hw3 : Cond.code objectInit ⟨#[0xb1]⟩ 1 none ∈ gtb) (hlev : 1 ≤ mV M) (hroom : (st.map fun v => v.category).sum ≤ 8) (k : PAt M nE nX κ (pc + 3) ls st gi gl Q) : PAt M nE nX κ pc ls (.ref a :: st) gi gl Q := by
  intro p l e R s m args below meth c base D cA ro Z C F H locs lsA hW hS hL
  rw [cv_map_ref ha]
  obtain ⟨hx0, hb0, hml0, hr0, hlk0, hin0, hown0, hts, hK0, hbs0, hf0, hl0, hc0, hs0, hRO0⟩ := id C
  refine W.objInit hx0 hb0 hown0 (hts _ hw) (hts _ hw2) (hts _ hw3) rfl (by rw [hml0]; exact hL.1) rfl hd (Nat.le_trans hlev hf0) ?_ ?_
  · show 2 * 0 + _ + 12 ≤ _
    rw [st_sum]
    omega
  · exact k p l e R s m args below meth c base D cA ro Z C F H locs lsA hW hS hL
theorem px_copyi {ix a b na nb : Nat} {sp dp n : Int32} (hd : decode (mC M) pc = .ok (.invokestatic ix, 3)) (ha : a < κ.1) (hb : b < κ.1) (hκ : κ.1 = NN) (hk : sK a = 100) (hk2 : sK b = 100) (hna : sN a = na) (hnb : sN b = nb) (hw : Cond.methodLink (mY M).cls ix arraycopyName ∈ gtb) (hw2 : Cond.native arraycopyName ∈ gtb) (hw3 : Cond.static arraycopyName ∈ gtb) (hw4 : Cond.initialized "java/lang/System" ∈ gtb)
    (h1 : ¬ sp < 0) (h2 : ¬ dp < 0) (h3 : ¬ n < 0) (h4 : sp.toNatClampNeg + n.toNatClampNeg ≤ na) (h5 : dp.toNatClampNeg + n.toNatClampNeg ≤ nb) (hlev : 1 ≤ mV M) (hroom : (st.map fun v => v.category).sum ≤ 8) (k : PAt M nE nX κ (pc + 3) ls st (uI gi b (va_cpy (gi a) (gi b) sp.toNatClampNeg dp.toNatClampNeg n.toNatClampNeg)) gl Q) : PAt M nE nX κ pc ls (.int n :: .int dp :: .ref b :: .int sp :: .ref a :: st) gi gl Q := by
  intro p l e R s m args below meth c base D cA ro Z C F H locs lsA hW hS hL
  obtain ⟨hx0, hb0, hml0, hr0, hlk0, hin0, hown0, hts, hK0, hbs0, hf0, hl0, hc0, hs0, hRO0⟩ := id C
  have haN := Nat.lt_of_lt_of_le ha hW.2.2
  have hbN := Nat.lt_of_lt_of_le hb hW.2.2
  rw [show (Value.int n :: .int dp :: .ref b :: .int sp :: .ref a :: st).map (cv base ro) = .int n :: .int dp :: .ref (base + b) :: .int sp :: .ref (base + a) :: st.map (cv base ro) by rw [List.map_cons, List.map_cons, List.map_cons, List.map_cons, List.map_cons, cv_low haN, cv_low hbN]; rfl]
  refine va_copyi hx0 hb0 (hml0.trans hL.1.symm) hown0 (hts _ hw) (hts _ hw2) (hts _ hw3) (hts _ hw4) hK0 hW.1 we_D hS a b 0 0 (f := gi a) (g := gi b) (c0 := cA 100) (c1 := cA 100) (n0 := na) (n1 := nb) (by rw [we_get ha, (mkE_i hk (by decide)), hna]) (by rw [we_get hb, (mkE_i hk2 (by decide)), hnb]) rfl rfl rfl h1 h2 h3 h4 h5 (fun _ _ => rfl) (Nat.le_trans hlev hf0) ?_ hd (fun H1 locs1 hP hD hS1 => ?_)
  · rw [st_sum]
    have : nativeFrameWords "java/lang/System" "arraycopy" 5 ≤ 7 := by decide +kernel
    omega
  · rw [we_set (κ' := κ) (gi' := (uI gi b (va_cpy (gi a) (gi b) sp.toNatClampNeg dp.toNatClampNeg n.toNatClampNeg))) (gl' := gl) rfl (by rw [(mkE_i hk2 (by decide)), hnb, uI_s]) (fun q h => mkE_n (uI_n h) (rfl) rfl)] at hP
    exact k p l e R s m args below meth c base D cA ro Z C F H1 locs1 lsA ⟨hP, fun q => absurd q (by rw [hκ]; exact Nat.lt_irrefl _), hW.2.2⟩ hS1 hL
theorem px_copyl {ix a b na nb : Nat} {sp dp n : Int32} (hd : decode (mC M) pc = .ok (.invokestatic ix, 3)) (ha : a < κ.1) (hb : b < κ.1) (hκ : κ.1 = NN) (hk : sK a = 101) (hk2 : sK b = 101) (hna : sN a = na) (hnb : sN b = nb) (hw : Cond.methodLink (mY M).cls ix arraycopyName ∈ gtb) (hw2 : Cond.native arraycopyName ∈ gtb) (hw3 : Cond.static arraycopyName ∈ gtb) (hw4 : Cond.initialized "java/lang/System" ∈ gtb)
    (h1 : ¬ sp < 0) (h2 : ¬ dp < 0) (h3 : ¬ n < 0) (h4 : sp.toNatClampNeg + n.toNatClampNeg ≤ na) (h5 : dp.toNatClampNeg + n.toNatClampNeg ≤ nb) (hlev : 1 ≤ mV M) (hroom : (st.map fun v => v.category).sum ≤ 8) (k : PAt M nE nX κ (pc + 3) ls st gi (uL gl b (va_cpy (gl a) (gl b) sp.toNatClampNeg dp.toNatClampNeg n.toNatClampNeg)) Q) : PAt M nE nX κ pc ls (.int n :: .int dp :: .ref b :: .int sp :: .ref a :: st) gi gl Q := by
  intro p l e R s m args below meth c base D cA ro Z C F H locs lsA hW hS hL
  obtain ⟨hx0, hb0, hml0, hr0, hlk0, hin0, hown0, hts, hK0, hbs0, hf0, hl0, hc0, hs0, hRO0⟩ := id C
  have haN := Nat.lt_of_lt_of_le ha hW.2.2
  have hbN := Nat.lt_of_lt_of_le hb hW.2.2
  rw [show (Value.int n :: .int dp :: .ref b :: .int sp :: .ref a :: st).map (cv base ro) = .int n :: .int dp :: .ref (base + b) :: .int sp :: .ref (base + a) :: st.map (cv base ro) by rw [List.map_cons, List.map_cons, List.map_cons, List.map_cons, List.map_cons, cv_low haN, cv_low hbN]; rfl]
  refine va_copyl hx0 hb0 (hml0.trans hL.1.symm) hown0 (hts _ hw) (hts _ hw2) (hts _ hw3) (hts _ hw4) hK0 hW.1 we_D hS a b 1 1 (f := gl a) (g := gl b) (c0 := cA 101) (c1 := cA 101) (n0 := na) (n1 := nb) (by rw [we_get ha, (mkE_l hk), hna]) (by rw [we_get hb, (mkE_l hk2), hnb]) rfl rfl rfl h1 h2 h3 h4 h5 (fun _ _ => rfl) (Nat.le_trans hlev hf0) ?_ hd (fun H1 locs1 hP hD hS1 => ?_)
  · rw [st_sum]
    have : nativeFrameWords "java/lang/System" "arraycopy" 5 ≤ 7 := by decide +kernel
    omega
  · rw [we_set (κ' := κ) (gi' := gi) (gl' := (uL gl b (va_cpy (gl a) (gl b) sp.toNatClampNeg dp.toNatClampNeg n.toNatClampNeg))) rfl (by rw [(mkE_l hk2), hnb, uL_s]) (fun q h => mkE_n (rfl) (uL_n h) rfl)] at hP
    exact k p l e R s m args below meth c base D cA ro Z C F H1 locs1 lsA ⟨hP, fun q => absurd q (by rw [hκ]; exact Nat.lt_irrefl _), hW.2.2⟩ hS1 hL
theorem cv_ro {base : Nat} {ro : Nat → Nat} (k : Nat) : cv base ro (.ref (ROB + k)) = .ref (ro (ROB + k)) := by
  have : ¬ (ROB + k < ROB) := by omega
  simp [cv, this]
theorem cv_map_ro {base : Nat} {ro : Nat → Nat} (k : Nat) (st : List Value) : (Value.ref (ROB + k) :: st).map (cv base ro) = .ref (ro (ROB + k)) :: st.map (cv base ro) := by rw [List.map_cons, cv_ro]
/-- ldc of a string -/
theorem px_ldcS {ix i : Nat} (hd : decode (mC M) pc = .ok (.ldc ix, 2)) (hi : i < nJt) (ho : ownJt i = (mY M).cls) (hx : idxJt i = ix) (k : PAt M nE nX κ (pc + 2) ls (.ref (ROB + i) :: st) gi gl Q) : PAt M nE nX κ pc ls st gi gl Q := by
  intro p l e R s m args below meth c base D cA ro Z C F H locs lsA hW hS hL
  have h := k p l e R s m args below meth c base D cA ro Z C F H locs lsA hW hS hL
  rw [cv_map_ro] at h
  have hR := C.ro.2.1 i hi
  rw [ho, hx] at hR
  exact va_ldcS C.1 C.2.1 C.own hR hd h
theorem px_strV {ix i : Nat} (hd : decode (mC M) pc = .ok (.getfield ix, 3)) (hi : i < nJt) (hw : Cond.fieldLink (mY M).cls ix "java/lang/String" "value" "[B" ∈ gtb) (k : PAt M nE nX κ (pc + 3) ls (.ref (ROB + (100 + i)) :: st) gi gl Q) : PAt M nE nX κ pc ls (.ref (ROB + i) :: st) gi gl Q := by
  intro p l e R s m args below meth c base D cA ro Z C F H locs lsA hW hS hL
  have h := k p l e R s m args below meth c base D cA ro Z C F H locs lsA hW hS hL
  rw [cv_map_ro] at h ⊢
  have hV := (C.ro.1.1 i hi).2.2.1
  have hV : va_OF "java/lang/String" "value" "[B" (.ref (ro (ROB + 100 + i))) (ro (ROB + i)) (Ab base) s s.heap := hV
  rw [Nat.add_assoc] at hV
  exact vk_getf C.1 C.2.1 hV hS C.own (C.hts _ hw) (fun x h => h) hd h
theorem px_strC {ix i : Nat} (hd : decode (mC M) pc = .ok (.getfield ix, 3)) (hi : i < nJt) (hw : Cond.fieldLink (mY M).cls ix "java/lang/String" "coder" "B" ∈ gtb) (k : PAt M nE nX κ (pc + 3) ls (.int 0 :: st) gi gl Q) : PAt M nE nX κ pc ls (.ref (ROB + i) :: st) gi gl Q := by
  intro p l e R s m args below meth c base D cA ro Z C F H locs lsA hW hS hL
  have h := k p l e R s m args below meth c base D cA ro Z C F H locs lsA hW hS hL
  rw [cv_map_ro]
  exact vk_getf C.1 C.2.1 (C.ro.1.1 i hi).2.1 hS C.own (C.hts _ hw) (fun x h => h) hd h
theorem px_strL {i : Nat} {v : Int32} (hd : decode (mC M) pc = .ok (.arraylength, 1)) (hi : i < nJt) (hv : Int32.ofNat (lenJt.getD i 0) = v) (k : PAt M nE nX κ (pc + 1) ls (.int v :: st) gi gl Q) : PAt M nE nX κ pc ls (.ref (ROB + (100 + i)) :: st) gi gl Q := by
  intro p l e R s m args below meth c base D cA ro Z C F H locs lsA hW hS hL
  have h := k p l e R s m args below meth c base D cA ro Z C F H locs lsA hW hS hL
  rw [cv_map_ro]
  have hT := (C.ro.1.1 i hi).2.2.2
  have hT : va_T .byte (ro (ROB + 100 + i)) (lenJt.getD i 0) (fun j => .int ((bytJt.getD i []).getD j 0)) (Ab base) s s.heap := hT
  rw [Nat.add_assoc] at hT
  exact va_tlen C.1 C.2.1 hT hS hv hd h
theorem px_strB {i : Nat} {j v : Int32} (hd : decode (mC M) pc = .ok (.baload, 1)) (hi : i < nJt) (hj : vp_in j (lenJt.getD i 0)) (hv : (bytJt.getD i []).getD j.toNatClampNeg 0 = v) (k : PAt M nE nX κ (pc + 1) ls (.int v :: st) gi gl Q) : PAt M nE nX κ pc ls (.int j :: .ref (ROB + (100 + i)) :: st) gi gl Q := by
  intro p l e R s m args below meth c base D cA ro Z C F H locs lsA hW hS hL
  have h := k p l e R s m args below meth c base D cA ro Z C F H locs lsA hW hS hL
  rw [List.map_cons, cv_map_ro]
  have hT := (C.ro.1.1 i hi).2.2.2
  have hT : va_T .byte (ro (ROB + 100 + i)) (lenJt.getD i 0) (fun j => .int ((bytJt.getD i []).getD j 0)) (Ab base) s s.heap := hT
  rw [Nat.add_assoc] at hT
  exact va_tb C.1 C.2.1 hT hS hj (v := .int v) (by show Value.int _ = Value.int v; rw [hv]) hd h
theorem px_getsCS {ix : Nat} (hd : decode (mC M) pc = .ok (.getstatic ix, 3)) (hw : Cond.fieldLink (mY M).cls ix "java/lang/String" "COMPACT_STRINGS" "Z" ∈ gtb) (k : PAt M nE nX κ (pc + 3) ls (.int 1 :: st) gi gl Q) : PAt M nE nX κ pc ls st gi gl Q := by
  intro p l e R s m args below meth c base D cA ro Z C F H locs lsA hW hS hL
  exact va_gets C.1 C.2.1 C.ro.2.2.2.2.1 hS C.own (C.hts _ hw) (fun x h => h) hd (k p l e R s m args below meth c base D cA ro Z C F H locs lsA hW hS hL)
theorem px_getsFm {ix : Nat} (hd : decode (mC M) pc = .ok (.getstatic ix, 3)) (hw : Cond.fieldLink (mY M).cls ix "jdk/internal/util/Preconditions" "SIOOBE_FORMATTER" "Ljava/util/function/BiFunction;" ∈ gtb) (k1 : PAt M nE nX κ (pc + 3) ls (.null :: st) gi gl Q) (k2 : PAt M nE nX κ (pc + 3) ls (.ref (ROB + 300) :: st) gi gl Q) : PAt M nE nX κ pc ls st gi gl Q := by
  intro p l e R s m args below meth c base D cA ro Z C F H locs lsA hW hS hL
  rcases C.ro.2.2.2.2.2.1 with hz | hz
  · exact va_gets C.1 C.2.1 hz hS C.own (C.hts _ hw) (fun x h => h) hd (k1 p l e R s m args below meth c base D cA ro Z C F H locs lsA hW hS hL)
  · have h := k2 p l e R s m args below meth c base D cA ro Z C F H locs lsA hW hS hL
    rw [cv_map_ro] at h
    exact va_gets C.1 C.2.1 hz hS C.own (C.hts _ hw) (fun x h => h) hd h
theorem px_getsMo {ix : Nat} (hd : decode (mC M) pc = .ok (.getstatic ix, 3)) (hw : Cond.fieldLink (mY M).cls ix "PlateDay$Town" "MOST" "[I" ∈ gtb) (k : PAt M nE nX κ (pc + 3) ls (.ref (ROB + 200) :: st) gi gl Q) : PAt M nE nX κ pc ls st gi gl Q := by
  intro p l e R s m args below meth c base D cA ro Z C F H locs lsA hW hS hL
  have h := k p l e R s m args below meth c base D cA ro Z C F H locs lsA hW hS hL
  rw [cv_map_ro] at h
  exact va_gets C.1 C.2.1 C.ro.2.2.1 hS C.own (C.hts _ hw) (fun x h => h) hd h
theorem px_mostL (hd : decode (mC M) pc = .ok (.arraylength, 1)) (k : PAt M nE nX κ (pc + 1) ls (.int 4 :: st) gi gl Q) : PAt M nE nX κ pc ls (.ref (ROB + 200) :: st) gi gl Q := by
  intro p l e R s m args below meth c base D cA ro Z C F H locs lsA hW hS hL
  rw [cv_map_ro]
  exact va_tlen C.1 C.2.1 C.ro.2.2.2.1 hS (by decide) hd (k p l e R s m args below meth c base D cA ro Z C F H locs lsA hW hS hL)
theorem px_mostI {j : Int32} (hd : decode (mC M) pc = .ok (.iaload, 1)) (hj : vp_in j 4) (k : PAt M nE nX κ (pc + 1) ls (.int (([12, 6, 10, 4] : List Int32).getD j.toNatClampNeg 0) :: st) gi gl Q) : PAt M nE nX κ pc ls (.int j :: .ref (ROB + 200) :: st) gi gl Q := by
  intro p l e R s m args below meth c base D cA ro Z C F H locs lsA hW hS hL
  rw [List.map_cons, cv_map_ro]
  exact va_ti C.1 C.2.1 C.ro.2.2.2.1 hS hj rfl hd (k p l e R s m args below meth c base D cA ro Z C F H locs lsA hW hS hL)
theorem px_mmax {ix : Nat} {x y : Int32} (hd : decode (mC M) pc = .ok (.invokestatic ix, 3)) (hw : Cond.methodLink (mY M).cls ix Lib.Math.max.name ∈ gtb) (hw2 : Cond.static Lib.Math.max.name ∈ gtb) (hw3 : Cond.initialized "java/lang/Math" ∈ gtb) (hw4 : Cond.code Lib.Math.max.name Lib.Math.max.code 2 (some .int) ∈ gtb) (hlev : 1 ≤ mV M) (hroom : (st.map fun v => v.category).sum ≤ 8) (hx : nE ≤ κ.1 ∧ κ.1 ≤ nX) (k : PAt M nE nX κ (pc + 3) ls (.int (if x < y then y else x) :: st) gi gl Q) : PAt M nE nX κ pc ls (.int y :: .int x :: st) gi gl Q := by
  intro p l e R s m args below meth c base D cA ro Z C F H locs lsA hW hS hL
  obtain ⟨hx0, hb0, hml0, hr0, hlk0, hin0, hown0, hts, hK0, hbs0, hf0, hl0, hc0, hs0, hRO0⟩ := id C
  have s1 := sl_le hx.1
  have s2 := sl_le hx.2
  exact va_mmax hx0 hb0 (hml0.trans hL.1.symm) hown0 (hts _ hw) (hts _ hw2) (hts _ hw3) (hts _ hw4) (Nat.le_trans hlev hf0) (by rw [st_sum]; omega) (by omega) (by omega) hd (k p l e R s m args below meth c base D cA ro Z C F H locs lsA hW hS hL)
theorem px_mmin {ix : Nat} {x y : Int32} (hd : decode (mC M) pc = .ok (.invokestatic ix, 3)) (hw : Cond.methodLink (mY M).cls ix Lib.Math.min.name ∈ gtb) (hw2 : Cond.static Lib.Math.min.name ∈ gtb) (hw3 : Cond.initialized "java/lang/Math" ∈ gtb) (hw4 : Cond.code Lib.Math.min.name Lib.Math.min.code 2 (some .int) ∈ gtb) (hlev : 1 ≤ mV M) (hroom : (st.map fun v => v.category).sum ≤ 8) (hx : nE ≤ κ.1 ∧ κ.1 ≤ nX) (k : PAt M nE nX κ (pc + 3) ls (.int (if y < x then y else x) :: st) gi gl Q) : PAt M nE nX κ pc ls (.int y :: .int x :: st) gi gl Q := by
  intro p l e R s m args below meth c base D cA ro Z C F H locs lsA hW hS hL
  obtain ⟨hx0, hb0, hml0, hr0, hlk0, hin0, hown0, hts, hK0, hbs0, hf0, hl0, hc0, hs0, hRO0⟩ := id C
  have s1 := sl_le hx.1
  have s2 := sl_le hx.2
  exact va_mmin hx0 hb0 (hml0.trans hL.1.symm) hown0 (hts _ hw) (hts _ hw2) (hts _ hw3) (hts _ hw4) (Nat.le_trans hlev hf0) (by rw [st_sum]; omega) (by omega) (by omega) hd (k p l e R s m args below meth c base D cA ro Z C F H locs lsA hW hS hL)
theorem px_mabs {ix : Nat} {x : Int32} (hd : decode (mC M) pc = .ok (.invokestatic ix, 3)) (hw : Cond.methodLink (mY M).cls ix Lib.Math.abs.name ∈ gtb) (hw2 : Cond.static Lib.Math.abs.name ∈ gtb) (hw3 : Cond.initialized "java/lang/Math" ∈ gtb) (hw4 : Cond.code Lib.Math.abs.name Lib.Math.abs.code 1 (some .int) ∈ gtb) (hlev : 1 ≤ mV M) (hroom : (st.map fun v => v.category).sum ≤ 8) (hx : nE ≤ κ.1 ∧ κ.1 ≤ nX) (k : PAt M nE nX κ (pc + 3) ls (.int (if 0 ≤ x then x else 0 - x) :: st) gi gl Q) : PAt M nE nX κ pc ls (.int x :: st) gi gl Q := by
  intro p l e R s m args below meth c base D cA ro Z C F H locs lsA hW hS hL
  obtain ⟨hx0, hb0, hml0, hr0, hlk0, hin0, hown0, hts, hK0, hbs0, hf0, hl0, hc0, hs0, hRO0⟩ := id C
  have s1 := sl_le hx.1
  have s2 := sl_le hx.2
  exact va_mabs hx0 hb0 (hml0.trans hL.1.symm) hown0 (hts _ hw) (hts _ hw2) (hts _ hw3) (hts _ hw4) (Nat.le_trans hlev hf0) (by rw [st_sum]; omega) (by omega) (by omega) hd (k p l e R s m args below meth c base D cA ro Z C F H locs lsA hW hS hL)
theorem px_mabs_long {ix : Nat} {x : Int64} (hd : decode (mC M) pc = .ok (.invokestatic ix, 3)) (hw : Cond.methodLink (mY M).cls ix Lib.MathLoose.abs_long.x ∈ gtb) (hw2 : Cond.static Lib.MathLoose.abs_long.x ∈ gtb) (hw3 : Cond.initialized "java/lang/Math" ∈ gtb) (hw4 : Cond.code Lib.MathLoose.abs_long.x Lib.MathLoose.abs_long.code 2 (some .long) ∈ gtb) (hlev : 1 ≤ mV M) (hroom : (st.map fun v => v.category).sum ≤ 8) (hx : nE ≤ κ.1 ∧ κ.1 ≤ nX) (k : PAt M nE nX κ (pc + 3) ls (.long (if 0 < x then x else -x) :: st) gi gl Q) : PAt M nE nX κ pc ls (.long x :: st) gi gl Q := by
  intro p l e R s m args below meth c base D cA ro Z C F H locs lsA hW hS hL
  obtain ⟨hx0, hb0, hml0, hr0, hlk0, hin0, hown0, hts, hK0, hbs0, hf0, hl0, hc0, hs0, hRO0⟩ := id C
  have s1 := sl_le hx.1
  have s2 := sl_le hx.2
  exact va_mabs_long hx0 hb0 (hml0.trans hL.1.symm) hown0 (hts _ hw) (hts _ hw2) (hts _ hw3) (hts _ hw4) (Nat.le_trans hlev hf0) (by rw [st_sum]; omega) (by omega) (by omega) hd (k p l e R s m args below meth c base D cA ro Z C F H locs lsA hW hS hL)
end PO
