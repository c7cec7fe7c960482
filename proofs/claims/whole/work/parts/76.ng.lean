/-! THE LAW, one: what holds at the start -/
def nF : List Cond := flatC (Cond.and given_1 narrow_1)
def tmJ (i : Nat) : Term := Term.string (ownJt i) (idxJt i)
def bS (i : Nat) : Nat := [42, 51, 181, 191, 202, 214, 227, 241, 256, 272, 290, 308, 327, 346, 367, 389, 413, 438, 465, 492, 521, 549, 578, 610].getD i 0
def strW (i : Nat) : Nat := [453, 528, 549, 562, 565, 574, 579, 580, 582, 587, 592, 593, 594, 607, 608, 613, 614, 678, 692, 693, 702, 707, 708, 713].getD i 0
theorem nf_ex : ∀ i, i < 24 → nF[bS i]? = some (Cond.exactly (tmJ i) "java/lang/String") := by decide +kernel
theorem nf_co : ∀ i, i < 24 → nF[bS i + 1]? = some (Cond.eq (.field (tmJ i) "java/lang/String" "coder" "B") (.int 0)) := by decide +kernel
theorem nf_ar : ∀ i, i < 24 → nF[bS i + 2]? = some (Cond.arrayOf (.field (tmJ i) "java/lang/String" "value" "[B") .byte) := by decide +kernel
theorem nf_le : ∀ i, i < 24 → nF[bS i + 3]? = some (Cond.eq (.length (.field (tmJ i) "java/lang/String" "value" "[B")) (.int (Int32.ofNat (lenJt.getD i 0)))) := by decide +kernel
theorem nf_el : ∀ i, i < 24 → ∀ j, j < lenJt.getD i 0 → nF[bS i + 4 + j]? = some (Cond.eq (.elem (.field (tmJ i) "java/lang/String" "value" "[B") (.int (Int32.ofNat j))) (.int ((bytJt.getD i []).getD j 0))) := by decide +kernel
theorem nf_ne : ∀ j, j < 24 → ∀ i, i < j → nF[bS j + 4 + lenJt.getD j 0 + i]? = some (Cond.not (Cond.eq (tmJ i) (tmJ j))) := by decide +kernel
theorem nf_mo : nF[10]? = some (Cond.arrayOf (Term.static "PlateDay$Town" "MOST" "[I") .int) ∧ nF[11]? = some (Cond.eq (Term.length (Term.static "PlateDay$Town" "MOST" "[I")) (Term.int (Int32.ofNat 4))) ∧ ∀ j, j < 4 → nF[12 + j]? = some (Cond.eq (Term.elem (Term.static "PlateDay$Town" "MOST" "[I") (Term.int (Int32.ofNat j))) (Term.int (([12, 6, 10, 4] : List Int32).getD j 0))) := by decide +kernel
theorem nf_cs : nF[4]? = some (Cond.eq (Term.static "java/lang/String" "COMPACT_STRINGS" "Z") (Term.int 1)) ∧ nF[5]? = some (Cond.isRef (Term.static "jdk/internal/util/Preconditions" "SIOOBE_FORMATTER" "Ljava/util/function/BiFunction;")) := by decide +kernel
theorem lw_st : ∀ i, i < 24 → lw_tbl[strW i]? = some (Cond.stringRef (ownJt i) (idxJt i) (txtJt i)) := by decide +kernel
theorem lw_ls : lw_tbl[471]? = some (Cond.laysStatic "java/lang/String" "COMPACT_STRINGS" "Z") ∧ lw_tbl[487]? = some (Cond.laysStatic "jdk/internal/util/Preconditions" "SIOOBE_FORMATTER" "Ljava/util/function/BiFunction;") ∧ lw_tbl[534]? = some (Cond.laysStatic "PlateDay$Town" "MOST" "[I") ∧ lw_tbl[99]? = some (Cond.initialized "PlateDay$Town") ∧ lw_tbl[113]? = some (Cond.initialized "java/lang/String") ∧ lw_tbl[115]? = some (Cond.initialized "jdk/internal/util/Preconditions") := by decide +kernel
theorem lw_ar : lw_tbl[150]? = some (Cond.arrayClass .int) ∧ lw_tbl[151]? = some (Cond.arrayClass .long) ∧ lw_tbl[149]? = some (Cond.arrayClass .byte) ∧ lw_tbl[1387]? = some (Cond.arrayClass .boolean) ∧ lw_tbl[345]? = some (Cond.arrayOver (.object "PlateDay$Picture")) ∧ lw_tbl[360]? = some (Cond.arrayOver (.object "PlateDay$Album")) := by decide +kernel
section NG
variable {s : State} {A : Array Value}
theorem arr_P {ty : FieldType} (h : (Cond.arrayClass ty).before A s = true) : ∃ c, ArrOfT s c ty ∧ s.vm.findClass ("[" ++ ty.toString) = some c := by
  obtain ⟨c, k, comp, h1, h2, h3⟩ := Cond.arrayClass_spec h
  exact ⟨c, fun n z => ⟨fun k h => (by cases h), k, h2, comp, h3⟩, h1⟩
theorem arr_Q {n : String} (h : (Cond.arrayOver (.object n)).before A s = true) : ∃ c, ArrOfT s c (.object n) ∧ va_RA s c (.object n) := by
  obtain ⟨comp, c, k, h1, h2, h3, h4, h5⟩ := Cond.arrayOver_spec h
  exact ⟨c, fun N z => ⟨fun k h => (by cases h), k, h3, comp, h4⟩, k, comp, h3, h4, h1, h5⟩
theorem ro_start (hts : ∀ w ∈ lw_tbl, w.before A s = true) (hgv : (Cond.and given_1 narrow_1).before A s = true) : ∃ ro, ROk s.heap.size ro s s.heap := by
  have hs := flat_of_before _ hgv
  have nf : ∀ {w : Cond} {i : Nat}, nF[i]? = some w → w.before A s = true := fun h => hs _ (List.mem_of_getElem? h)
  have tb : ∀ {w : Cond} {i : Nat}, lw_tbl[i]? = some w → w.before A s = true := fun h => hts _ (List.mem_of_getElem? h)
  have hA : ∀ a : Nat, a < s.heap.size → ¬ Ab s.heap.size a := fun a h1 h2 => Nat.not_le.mpr h1 h2
  obtain ⟨adK, adV, hS, hev⟩ := vk_Sof (args := A) (s := s) (N := 24) (tm := tmJ) (len := lenJt) (byt := bytJt) (A := Ab s.heap.size) (by decide) (fun i hi => nf (nf_ex i hi)) (fun i hi => nf (nf_co i hi)) (fun i hi => nf (nf_ar i hi)) (fun i hi => nf (nf_le i hi)) (fun i hi j hj => nf (nf_el i hi j hj)) (fun i j hi hj hne => by
    rcases Nat.lt_or_ge i j with q | q
    · exact Or.inl (nf (nf_ne j hj i q))
    · exact Or.inr (nf (nf_ne i hi j (by omega)))) hA
  obtain ⟨t, ht, hT⟩ := va_Tof (args := A) (s := s) (tm := Term.static "PlateDay$Town" "MOST" "[I") (ty := .int) (N := 4) (f := mostF) (A := Ab s.heap.size) (by decide) (nf nf_mo.1) (va_eqt (nf nf_mo.2.1)) (fun j hj => va_eqt (nf (nf_mo.2.2 j hj))) hA
  have hZq := va_Zqof (args := A) (s := s) (C := "jdk/internal/util/Preconditions") (n := "SIOOBE_FORMATTER") (d := "Ljava/util/function/BiFunction;") (A := Ab s.heap.size) (tb lw_ls.2.1) (tb lw_ls.2.2.2.2.2) (nf nf_cs.2) hA
  obtain ⟨tF, hF⟩ : ∃ tF : Nat, va_Z "jdk/internal/util/Preconditions" "SIOOBE_FORMATTER" "Ljava/util/function/BiFunction;" .null (Ab s.heap.size) s s.heap ∨ va_Z "jdk/internal/util/Preconditions" "SIOOBE_FORMATTER" "Ljava/util/function/BiFunction;" (.ref tF) (Ab s.heap.size) s s.heap := by
    rcases hZq with h | ⟨t, h⟩
    · exact ⟨0, Or.inl h⟩
    · exact ⟨t, Or.inr h⟩
  refine ⟨fun q => if q < ROB + 100 then adK (q - ROB) else if q < ROB + 200 then adV (q - ROB - 100) else if q = ROB + 200 then t else tF, ?_⟩
  have eK : ∀ i, i < 24 → (if ROB + i < ROB + 100 then adK (ROB + i - ROB) else if ROB + i < ROB + 200 then adV (ROB + i - ROB - 100) else if ROB + i = ROB + 200 then t else tF) = adK i := fun i hi => by
    rw [if_pos (by omega), Nat.add_sub_cancel_left]
  have eV : ∀ i, i < 24 → (if ROB + 100 + i < ROB + 100 then adK (ROB + 100 + i - ROB) else if ROB + 100 + i < ROB + 200 then adV (ROB + 100 + i - ROB - 100) else if ROB + 100 + i = ROB + 200 then t else tF) = adV i := fun i hi => by
    rw [if_neg (by omega), if_pos (by omega), show ROB + 100 + i - ROB - 100 = i by omega]
  have eM : (if ROB + 200 < ROB + 100 then adK (ROB + 200 - ROB) else if ROB + 200 < ROB + 200 then adV (ROB + 200 - ROB - 100) else if ROB + 200 = ROB + 200 then t else tF) = t := by
    rw [if_neg (by omega), if_neg (by omega), if_pos rfl]
  have eF : (if ROB + 300 < ROB + 100 then adK (ROB + 300 - ROB) else if ROB + 300 < ROB + 200 then adV (ROB + 300 - ROB - 100) else if ROB + 300 = ROB + 200 then t else tF) = tF := by
    rw [if_neg (by omega), if_neg (by omega), if_neg (by omega)]
  have hv4 : va_Z "PlateDay$Town" "MOST" "[I" (.ref t) (Ab s.heap.size) s s.heap := va_Zof (tb lw_ls.2.2.1) (tb lw_ls.2.2.2.1) ht hA
  have hv5 : va_Z "java/lang/String" "COMPACT_STRINGS" "Z" (.int 1) (Ab s.heap.size) s s.heap := va_Zof (tb lw_ls.1) (tb lw_ls.2.2.2.2.1) (va_eqi (nf nf_cs.1)) hA
  refine ⟨⟨fun i hi => ?_, fun i j hi hj e => ?_⟩, fun i hi => ?_, ?_, ?_, hv5, ?_, fun w hw => ?_⟩
  · have := hS.1 i hi
    rw [← eK i hi, ← eV i hi] at this
    exact this
  · refine hS.2 i j hi hj ?_
    rw [← eK i hi, ← eK j hj]; exact e
  · have h2 : (Term.string (ownJt i) (idxJt i)).eval A s none [] s = some (.ref (adK i)) := hev i hi
    rw [← eK i hi] at h2
    exact ⟨tb (lw_st i hi), h2⟩
  · rw [← eM] at hv4; exact hv4
  · rw [← eM] at hT; exact hT
  · rw [← eF] at hF; exact hF
  · have g := (List.mem_filter.mp hw).2
    have h := hts w (List.mem_filter.mp hw).1
    cases w with
    | arrayOver ty => cases ty <;> first | exact va_AO.of h | cases g
    | _ => first | exact va_Nw.of rfl h | cases g
theorem K_start (hts : ∀ w ∈ lw_tbl, w.before A s = true) : ∃ (D : va_G) (cA : Nat → ClassId), va_K D vwCl (tysE cA) s := by
  have tg : ∀ w ∈ gtb, w.before A s = true := fun w h => hts w (gtb_lw h)
  have tb : ∀ {w : Cond} {i : Nat}, lw_tbl[i]? = some w → w.before A s = true := fun h => hts _ (List.mem_of_getElem? h)
  obtain ⟨c0, i0, k0⟩ := u_known (C := RX0) (T := TX0) (N := 3) (n := 3) tg hu_0 (tg _ w_339)
  obtain ⟨c1, i1, k1⟩ := u_known (C := RX1) (T := TX1) (N := 1) (n := 1) tg hu_1 (tg _ w_301)
  obtain ⟨c2, i2, k2⟩ := u_known (C := RX2) (T := TX2) (N := 2) (n := 2) tg hu_2 (tg _ w_257)
  obtain ⟨c3, i3, k3⟩ := u_known (C := RX3) (T := TX3) (N := 7) (n := 7) tg hu_3 (tg _ w_311)
  obtain ⟨c4, i4, k4⟩ := u_known (C := RX4) (T := TX4) (N := 4) (n := 4) tg hu_4 (tg _ w_159)
  obtain ⟨c5, i5, k5⟩ := u_known (C := RX5) (T := TX5) (N := 3) (n := 3) tg hu_5 (tg _ w_153)
  obtain ⟨c6, i6, k6⟩ := u_known (C := RX6) (T := TX6) (N := 8) (n := 8) tg hu_6 (tg _ w_270)
  obtain ⟨c7, i7, k7⟩ := u_known (C := RX7) (T := TX7) (N := 4) (n := 4) tg hu_7 (tg _ w_188)
  obtain ⟨c8, i8, k8⟩ := u_known (C := RX8) (T := TX8) (N := 5) (n := 5) tg hu_8 (tg _ w_194)
  obtain ⟨c9, i9, k9⟩ := u_known (C := RX9) (T := TX9) (N := 7) (n := 7) tg hu_9 (tg _ w_229)
  obtain ⟨c10, i10, k10⟩ := u_known (C := RX10) (T := TX10) (N := 5) (n := 5) tg hu_10 (tg _ w_128)
  obtain ⟨c11, i11, k11⟩ := u_known (C := RX11) (T := TX11) (N := 16) (n := 16) tg hu_11 (tg _ w_120)
  obtain ⟨c12, i12, k12⟩ := u_known (C := RX12) (T := TX12) (N := 68) (n := 68) tg hu_12 (tg _ w_1177)
  obtain ⟨a0, p0, q0⟩ := arr_P (tb lw_ar.1)
  obtain ⟨a1, p1, q1⟩ := arr_P (tb lw_ar.2.1)
  obtain ⟨a2, p2, q2⟩ := arr_P (tb lw_ar.2.2.1)
  obtain ⟨a3, p3, q3⟩ := arr_P (tb lw_ar.2.2.2.1)
  obtain ⟨a4, p4, q4⟩ := arr_Q (tb lw_ar.2.2.2.2.1)
  obtain ⟨a5, p5, q5⟩ := arr_Q (tb lw_ar.2.2.2.2.2)
  refine ⟨(fun k => [c0, c1, c2, c3, c4, c5, c6, c7, c8, c9, c10, c11, c12].getD k 0, fun k => [i0, i1, i2, i3, i4, i5, i6, i7, i8, i9, i10, i11, i12].getD k (fun _ => 0)), fun k => [a0, a1, a2, a3, a4, a5].getD (k - 100) 0, fun c q hq => ?_, fun k q hq => ?_⟩
  · have hc : c < 13 := (List.getElem?_eq_some_iff.mp hq).1
    rcases (show c = 0 ∨ c = 1 ∨ c = 2 ∨ c = 3 ∨ c = 4 ∨ c = 5 ∨ c = 6 ∨ c = 7 ∨ c = 8 ∨ c = 9 ∨ c = 10 ∨ c = 11 ∨ c = 12 by omega) with rfl | rfl | rfl | rfl | rfl | rfl | rfl | rfl | rfl | rfl | rfl | rfl | rfl
    · cases hq; exact k0
    · cases hq; exact k1
    · cases hq; exact k2
    · cases hq; exact k3
    · cases hq; exact k4
    · cases hq; exact k5
    · cases hq; exact k6
    · cases hq; exact k7
    · cases hq; exact k8
    · cases hq; exact k9
    · cases hq; exact k10
    · cases hq; exact k11
    · cases hq; exact k12
  · have hc : k < 6 := (List.getElem?_eq_some_iff.mp hq).1
    rcases (show k = 0 ∨ k = 1 ∨ k = 2 ∨ k = 3 ∨ k = 4 ∨ k = 5 by omega) with rfl | rfl | rfl | rfl | rfl | rfl
    · cases hq; exact ⟨p0, q0⟩
    · cases hq; exact ⟨p1, q1⟩
    · cases hq; exact ⟨p2, q2⟩
    · cases hq; exact ⟨p3, q3⟩
    · cases hq; exact ⟨p4, q4⟩
    · cases hq; exact ⟨p5, q5⟩
end NG
