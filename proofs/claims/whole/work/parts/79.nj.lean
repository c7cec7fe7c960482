/-! THE LAW, four: its loop, its start -/
section NJ
variable {p : Program} {l : Launch} {e : Env} {s : State} {m : MethodId} {below : List Frame} {meth : Method} {c : Code} {b L : Nat} {xs : Nat → Int32} {D : va_G} {cA : Nat → ClassId} {ro : Nat → Nat}
set_option maxRecDepth 100000 in
theorem lw_loop (X : LwC p s m meth c b L xs D cA ro) (hL : L ≤ 3072) : ∀ (q i n : Nat) (σ : Sta) (gi : Gi) (gl : Gl) (H : Heap) (locs : List Loc) (ls : Array Slot), L + 6 ≤ i + 6 * q → i ≤ L → 6 * n ≤ i → LwL s b i ls → J σ n gi gl → Wd s.heap.size D cA κF gi gl H → va_S (Ab s.heap.size) s.heap H locs → W p l e room_1 s m #[Value.ref b] below meth c H locs NN (sl NN) (lw_Z below #[Value.ref b] s) (F0 m 18 ls []) := by
  have hbl := X.1.2.2.2.2.2.2.2.1
  have hX := X.1.2.2.2.2.2.2.1
  have hA : ¬ Ab s.heap.size b := fun h => Nat.not_le.mpr hbl h
  intro q
  induction q with
  | zero => intro i n σ gi gl H locs ls h1 h2; omega
  | succ q ih =>
    intro i n σ gi gl H locs ls h1 h2 h3 hl j hW hS
    have hn : n ≤ 600 := by omega
    refine lv_iload_n X.hx X.hb dL_law_18 rfl (lv_at hl 0 rfl) ?_
    refine lv_aload_n X.hx X.hb dL_law_19 rfl (lv_at hl 1 rfl) ?_
    refine va_slen X.hx X.hb hX hbl hA hS dL_law_20 ?_
    refine lv_bipush (v := (6 : Int32)) X.hx X.hb dL_law_21 (by decide) ?_
    refine lv_isub X.hx X.hb dL_law_23 ?_
    have eL : Int32.ofNat L - 6 = iI ((L : Int) - 6) := by
      show nI L - 6 = _
      rw [← iI_n, show (6 : Int32) = iI 6 by rfl, iI_sub]
    have ei : nI i = iI (i : Int) := (iI_n i).symm
    rw [eL, ei]
    refine lv_icmp_gt (tgt := 1065) X.hx X.hb dL_law_24 (by decide) (fun _ => ?_) (fun hc => ?_)
    · refine lv_iconst (v := 1) X.hx X.hb dL_law_1065 (by decide) ?_
      refine va_forget hS.2.2 ?_
      refine W.widen (k := 600000) (n := 7302250) (by decide +kernel) sl_NN ?_
      exact lw_ret X.hx X.hb X.1.2.2.1 X.1.2.2.2.2.2.2.2.2.1 dL_law_1066
    · have h6 : i + 6 ≤ L := by
        apply Classical.byContradiction
        intro hq
        apply hc
        show iI ((L : Int) - 6) < iI (i : Int)
        rw [iI_lt (by omega) (by omega)]
        omega
      refine lv_aload_n X.hx X.hb dL_law_27 rfl (lv_at hl 1 rfl) ?_
      refine lv_iload_n X.hx X.hb dL_law_28 rfl (lv_at hl 0 rfl) ?_
      refine va_sld X.hx X.hb hX hbl hA hS (vp_nI (by omega) (by omega)) dL_law_29 ?_
      refine lv_bipush (v := (31 : Int32)) X.hx X.hb dL_law_30 (by decide) ?_
      refine lv_iand X.hx X.hb dL_law_32 ?_
      have nxt : ∀ (n2 : Nat), n2 = n → ∀ g l' H1 locs1, J1 n2 g l' → Wd s.heap.size D cA κF g l' H1 → va_S (Ab s.heap.size) s.heap H1 locs1 → W p l e room_1 s m #[Value.ref b] below meth c H1 locs1 NN (sl NN) (lw_Z below #[Value.ref b] s) (F0 m 1059 ls []) := by
        intro n2 en g l' H1 locs1 j1 hW1 hS1
        subst en
        obtain ⟨σ2, j2⟩ := j1
        refine lv_iinc (v := nI i + Int32.ofInt 6) (lv' := [(3, .int (nI i + Int32.ofInt 6)), (0, .ref b), (1, .ref (s.heap.size + 0)), (2, .ref (s.heap.size + 329))]) X.hx X.hb dL_law_1059 hl (k := 0) rfl rfl (by decide) rfl (fun ls2 hl2 => ?_)
        refine lv_goto (tgt := 18) X.hx X.hb dL_law_1062 (by decide) ?_
        rw [show nI i + Int32.ofInt 6 = nI (i + 6) from by rw [show Int32.ofInt 6 = nI 6 by rfl, nI_add]] at hl2
        exact ih (i + 6) (n2 + 1) σ2 g l' H1 locs1 ls2 (by omega) h6 (by omega) hl2 j2 hW1 hS1
      have nxt := nxt n rfl
      generalize xs (nI i).toNatClampNeg &&& 31 = w
      by_cases hw : w.toInt < 0 ∨ 25 < w.toInt
      · refine lv_tableOut (tgt := 1059) X.hx X.hb dL_law_33 hw (by decide) ?_
        exact nxt gi gl H locs j.same hW hS
      have ew := int_of (x := w) (by omega) rfl
      have hv : w.toInt.toNat < 26 := by omega
      generalize w.toInt.toNat = v at ew hv
      subst ew
      clear hw
      rcases (show v = 0 ∨ v = 1 ∨ v = 2 ∨ v = 3 ∨ v = 4 ∨ v = 5 ∨ v = 6 ∨ v = 7 ∨ v = 8 ∨ v = 9 ∨ v = 10 ∨ v = 11 ∨ v = 12 ∨ v = 13 ∨ v = 14 ∨ v = 15 ∨ v = 16 ∨ v = 17 ∨ v = 18 ∨ v = 19 ∨ v = 20 ∨ v = 21 ∨ v = 22 ∨ v = 23 ∨ v = 24 ∨ v = 25 by omega) with rfl | rfl | rfl | rfl | rfl | rfl | rfl | rfl | rfl | rfl | rfl | rfl | rfl | rfl | rfl | rfl | rfl | rfl | rfl | rfl | rfl | rfl | rfl | rfl | rfl | rfl
      · exact lv_tableIn (off := 119) (tgt := 152) X.hx X.hb dL_law_33 (by decide) (by decide) (by decide) (by decide) (lw_k0 X hl h6 hL j hn hW hS nxt)
      · exact lv_tableIn (off := 182) (tgt := 215) X.hx X.hb dL_law_33 (by decide) (by decide) (by decide) (by decide) (lw_k1 X hl h6 hL j hn hW hS nxt)
      · exact lv_tableIn (off := 205) (tgt := 238) X.hx X.hb dL_law_33 (by decide) (by decide) (by decide) (by decide) (lw_k2 X hl h6 hL j hn hW hS nxt)
      · exact lv_tableIn (off := 228) (tgt := 261) X.hx X.hb dL_law_33 (by decide) (by decide) (by decide) (by decide) (lw_k3 X hl h6 hL j hn hW hS nxt)
      · exact lv_tableIn (off := 261) (tgt := 294) X.hx X.hb dL_law_33 (by decide) (by decide) (by decide) (by decide) (lw_k4 X hl h6 hL j hn hW hS nxt)
      · exact lv_tableIn (off := 274) (tgt := 307) X.hx X.hb dL_law_33 (by decide) (by decide) (by decide) (by decide) (lw_k5 X hl h6 hL j hn hW hS nxt)
      · exact lv_tableIn (off := 297) (tgt := 330) X.hx X.hb dL_law_33 (by decide) (by decide) (by decide) (by decide) (lw_k6 X hl h6 hL j hn hW hS nxt)
      · exact lv_tableIn (off := 340) (tgt := 373) X.hx X.hb dL_law_33 (by decide) (by decide) (by decide) (by decide) (lw_k7 X hl h6 hL j hn hW hS nxt)
      · exact lv_tableIn (off := 393) (tgt := 426) X.hx X.hb dL_law_33 (by decide) (by decide) (by decide) (by decide) (lw_k8 X hl h6 hL j hn hW hS nxt)
      · exact lv_tableIn (off := 446) (tgt := 479) X.hx X.hb dL_law_33 (by decide) (by decide) (by decide) (by decide) (lw_k9 X hl h6 hL j hn hW hS nxt)
      · exact lv_tableIn (off := 469) (tgt := 502) X.hx X.hb dL_law_33 (by decide) (by decide) (by decide) (by decide) (lw_k10 X hl h6 hL j hn hW hS nxt)
      · exact lv_tableIn (off := 502) (tgt := 535) X.hx X.hb dL_law_33 (by decide) (by decide) (by decide) (by decide) (lw_k11 X hl h6 hL j hn hW hS nxt)
      · exact lv_tableIn (off := 545) (tgt := 578) X.hx X.hb dL_law_33 (by decide) (by decide) (by decide) (by decide) (lw_k12 X hl h6 hL j hn hW hS nxt)
      · exact lv_tableIn (off := 588) (tgt := 621) X.hx X.hb dL_law_33 (by decide) (by decide) (by decide) (by decide) (lw_k13 X hl h6 hL j hn hW hS nxt)
      · exact lv_tableIn (off := 611) (tgt := 644) X.hx X.hb dL_law_33 (by decide) (by decide) (by decide) (by decide) (lw_k14 X hl h6 hL j hn hW hS nxt)
      · exact lv_tableIn (off := 644) (tgt := 677) X.hx X.hb dL_law_33 (by decide) (by decide) (by decide) (by decide) (lw_k15 X hl h6 hL j hn hW hS nxt)
      · exact lv_tableIn (off := 703) (tgt := 736) X.hx X.hb dL_law_33 (by decide) (by decide) (by decide) (by decide) (lw_k16 X hl h6 hL j hn hW hS nxt)
      · exact lv_tableIn (off := 736) (tgt := 769) X.hx X.hb dL_law_33 (by decide) (by decide) (by decide) (by decide) (lw_k17 X hl h6 hL j hn hW hS nxt)
      · exact lv_tableIn (off := 800) (tgt := 833) X.hx X.hb dL_law_33 (by decide) (by decide) (by decide) (by decide) (lw_k18 X hl h6 hL j hn hW hS nxt)
      · exact lv_tableIn (off := 833) (tgt := 866) X.hx X.hb dL_law_33 (by decide) (by decide) (by decide) (by decide) (lw_k19 X hl h6 hL j hn hW hS nxt)
      · exact lv_tableIn (off := 867) (tgt := 900) X.hx X.hb dL_law_33 (by decide) (by decide) (by decide) (by decide) (lw_k20 X hl h6 hL j hn hW hS nxt)
      · exact lv_tableIn (off := 911) (tgt := 944) X.hx X.hb dL_law_33 (by decide) (by decide) (by decide) (by decide) (lw_k21 X hl h6 hL j hn hW hS nxt)
      · exact lv_tableIn (off := 934) (tgt := 967) X.hx X.hb dL_law_33 (by decide) (by decide) (by decide) (by decide) (lw_k22 X hl h6 hL j hn hW hS nxt)
      · exact lv_tableIn (off := 967) (tgt := 1000) X.hx X.hb dL_law_33 (by decide) (by decide) (by decide) (by decide) (lw_k23 X hl h6 hL j hn hW hS nxt)
      · exact lv_tableIn (off := 980) (tgt := 1013) X.hx X.hb dL_law_33 (by decide) (by decide) (by decide) (by decide) (lw_k24 X hl h6 hL j hn hW hS nxt)
      · exact lv_tableIn (off := 1003) (tgt := 1036) X.hx X.hb dL_law_33 (by decide) (by decide) (by decide) (by decide) (lw_k25 X hl h6 hL j hn hW hS nxt)
theorem v_0 : vSta (0, fun _ => 0, -1, 0, T0, (0, fun _ => (0, fun _ _ => 0), fun _ => 1), 0, fun _ => (0, fun _ => (0, fun _ _ => 0), fun _ => 1)) :=
  ⟨Nat.zero_le _, Nat.zero_le _, v_T0, ⟨Nat.zero_le _, fun i hi => absurd hi (Nat.not_lt_zero i), fun _ _ => (by decide : 1 ≤ 99)⟩, Nat.zero_le _, fun i hi => absurd hi (Nat.not_lt_zero i), (by decide : (-1 : Int) ≤ -1), (by decide : (-1 : Int) ≤ 1200)⟩
theorem j_0 {g g2 : Gi} {l l2 : Gl} (k1 : g 0 15 = -1) (k2 : ∀ j, j ≠ 15 → g 0 j = 0) (k3 : ∀ j, g 3 j = 0) (k4 : ∀ j, g 6 j = 0) (k5 : g 33 2 = 0) (k6 : ∀ mo, mo < 12 → g 35 mo = 1) (k7 : g 25 6 = 0) (k8 : ∀ j, g 27 j = 0) (fr : ∀ z, z < 329 → g2 z = g z)
    (a1 : g2 329 36 = 0) (a2 : g2 329 37 = -1) (a3 : g2 329 1 = 0) (a4 : g2 329 67 = 0) (a5 : g2 329 0 = 0) (a6 : g2 329 49 = 0) (a7 : g2 329 50 = -1) (a8 : ∀ k, k < 6 → g2 (330 + k) 0 = 0) (a9 : g2 355 0 = 0) (a10 : ∀ mo, mo < 12 → g2 362 mo = 1) :
    J (0, fun _ => 0, -1, 0, T0, (0, fun _ => (0, fun _ _ => 0), fun _ => 1), 0, fun _ => (0, fun _ => (0, fun _ _ => 0), fun _ => 1)) 0 g2 l2 := by
  have nl : ∀ {P : Prop} {i : Nat}, i < 0 → P := fun h => absurd h (Nat.not_lt_zero _)
  refine ⟨⟨?_, fun j hj => nl hj, ?_, ?_, ?_, ⟨fun k hk => ?_, fun k hk i hi => nl hi, fun mo hm => ⟨?_, fun r q hq => ?_⟩⟩, ⟨?_, fun i hi => nl hi, fun mo hm => ?_⟩, fun i hi => nl hi, ⟨0, Nat.zero_le _, ?_, fun r hr => ⟨0, Nat.le_refl _, ?_⟩⟩⟩, ⟨?_, fun j hj => nl hj, ?_, ?_, ?_, ⟨0, by omega, ?_, ⟨fun k hk => ?_, fun k hk i hi => nl hi, fun k hk i hi => nl hi, fun k hk i hi => nl hi, fun k hk i hi => nl hi, fun k hk i hi => nl hi, fun r q hq => ?_⟩⟩, ⟨?_, fun i hi => nl hi, fun mo hm => ?_⟩, fun i hi => nl hi, a6, a7⟩, v_0, fun j hj => nl hj, Nat.le_refl _⟩
  · rw [fr 0 (by omega), k2 13 (by omega)]; rfl
  · rw [fr 0 (by omega), k1]; rfl
  · rw [fr 0 (by omega), k2 14 (by omega)]; rfl
  · rw [fr 0 (by omega), k2 12 (by omega)]; rfl
  · show g2 3 k = nI 0
    rw [fr 3 (by omega), k3]; rfl
  · show g2 6 mo = nI 0
    rw [fr 6 (by omega), k4]; rfl
  · have : rowsOf T0 mo = [] := rfl
    have hq : (rowsOf T0 mo)[r]? = some q := hq
    rw [this] at hq
    cases hq
  · rw [fr 33 (by omega), k5]; rfl
  · show g2 35 mo = nI 1
    rw [fr 35 (by omega), k6 mo hm]; rfl
  · rw [fr 25 (by omega), k7]; rfl
  · rw [fr 27 (by omega), k8]; rfl
  · rw [a1]; rfl
  · rw [a2]; rfl
  · rw [a3]; rfl
  · rw [a4]; rfl
  · rw [a5]; rfl
  · show g2 (330 + k) 0 = nI 0
    rw [a8 k hk]; rfl
  · have : tSun T0 = [] := rfl
    have hq : (tSun T0)[r]? = some q := hq
    rw [this] at hq
    cases hq
  · rw [a9]; rfl
  · show g2 362 (12 * 0 + mo) = nI 1
    rw [Nat.mul_zero, Nat.zero_add, a10 mo hm]; rfl
end NJ
set_option maxHeartbeats 4000000 in
set_option maxRecDepth 100000 in
theorem whole_start {p : Program} {e : Env} {s : State} {m : MethodId} {below : List Frame} {meth : Method} {c : Code} (l : Launch) (hflags : l.flags = flags0) {b L : Nat} {xs : Nat → Int32} (hL : L ≤ 3072) (C0 : lw_At p s m meth c b L xs) : W p l e room_1 s m #[Value.ref b] below meth c s.heap [] 0 0 (lw_Z below #[Value.ref b] s) (entryFrame m ([Value.ref b] : List Value).toArray 4) := by
  obtain ⟨D, cA, hK⟩ := K_start C0.2.2.2.2.2.1
  obtain ⟨ro, hRO⟩ := ro_start C0.2.2.2.2.2.1 C0.2.2.2.2.2.2.2.2.2
  have X : LwC p s m meth c b L xs D cA ro := ⟨C0, hK, hRO⟩
  have hl := lv_entry ([.ref b]) (n := 4) (Nat.le_of_ble_eq_true rfl)
  rw [lg_entry_eq]
  generalize (lg_sl ([.ref b]) ++ List.replicate (4 - (lg_sl ([.ref b])).length) Slot.unset).toArray = ls at hl ⊢
  have hl : lv_has ls 4 [(0, .ref b)] := hl
  have hS0 : va_S (Ab s.heap.size) s.heap s.heap [] := va_S.rf
  have hW0 : Wd s.heap.size D cA (0, fun _ _ => false) (fun _ _ => 0) (fun _ _ => 0) s.heap := ⟨fun k q hq => by simp [wsE] at hq, fun _ => rfl, Nat.zero_le _⟩
  have hν0 : Fz 0 (fun _ _ => false) := fun _ _ _ => rfl
  refine lw_new (κ := (0, fun _ _ => false)) (a := 0) (ci := 11) (C0 := RX11) (T := TX11) (N := 16) X [0, 1, 2, 3, 4, 5, 6, 7, 8, 9, 10, 11] dL_law_0 rfl (by decide +kernel) (by decide +kernel) (by decide) (by decide +kernel) rfl hu_11 tyX11_ok (by decide +kernel) ⟨w_119, w_120, w_98⟩ hW0 hS0 (fun g1 l1 H1 e1 f1 z1 hW1 hS1 => ?_)
  refine lv_dup X.hx X.hb dL_law_3 rfl ?_
  refine lw_init (N := mX11_init) (nE := 1) (nY := 329) (a := 0) (Q := fun _ κ' g _ => κ' = (329, fun _ _ => false) ∧ g 0 15 = -1 ∧ (∀ j, j ≠ 15 → g 0 j = 0) ∧ (∀ j, g 3 j = 0) ∧ (∀ j, g 6 j = 0) ∧ g 33 2 = 0 ∧ (∀ mo, mo < 12 → g 35 mo = 1) ∧ g 25 6 = 0 ∧ ∀ j, g 27 j = 0) X dL_law_4 lk_L_9.1 lk_L_9.2 (by decide +kernel) (by decide) (Nat.le_of_ble_eq_true rfl) rfl (Nat.le_of_ble_eq_true rfl) rfl ⟨by omega, Nat.le_of_ble_eq_true rfl⟩ hl.1 hW1 hS1 (k_X11_init hν0 z1 (fun g l a1 a2 a3 a4 a5 a6 a7 a8 => ⟨rfl, a1, a2, a3, a4, a5, a6, a7, a8⟩)) (fun v2 κ2 g2 l2 H2 locs2 q2 n2 hW2 hS2 => ?_)
  obtain ⟨ek, b1, b2, b3, b4, b5, b6, b7, b8⟩ := q2
  subst ek
  refine lv_astore_n (lv' := [(1, .ref (s.heap.size + 0)), (0, .ref b)]) X.hx X.hb dL_law_7 rfl hl (by decide) rfl (fun ls hl => ?_)
  refine lw_new (κ := (329, fun _ _ => false)) (a := 329) (ci := 12) (C0 := RX12) (T := TX12) (N := 68) X [2, 3, 4, 5, 6, 7, 8, 9, 10, 11, 12, 13, 14, 15, 16, 17, 18, 19, 20, 21, 22, 23, 24, 25, 26, 27, 28, 29, 30, 31, 32, 33, 34, 35, 52, 53, 54, 55, 56, 57, 58, 59, 60, 61, 64, 65, 66] dL_law_8 rfl (by decide +kernel) (by decide +kernel) (by decide) (by decide +kernel) rfl hu_12 tyX12_ok (by decide +kernel) ⟨w_1176, w_1177, w_111⟩ hW2 hS2 (fun g3 l3 H3 e3 f3 z3 hW3 hS3 => ?_)
  refine lv_dup X.hx X.hb dL_law_11 rfl ?_
  refine lw_init (N := mX12_init) (nE := 330) (nY := 377) (a := 329) (Q := fun _ κ' g _ => κ' = κF ∧ (∀ z, z < 329 → g z = g3 z) ∧ g 329 36 = 0 ∧ g 329 37 = -1 ∧ g 329 1 = 0 ∧ g 329 67 = 0 ∧ g 329 0 = 0 ∧ g 329 49 = 0 ∧ g 329 50 = -1 ∧ (∀ k, k < 6 → g (330 + k) 0 = 0) ∧ g 355 0 = 0 ∧ ∀ mo, mo < 12 → g 362 mo = 1) X dL_law_12 lk_L_12.1 lk_L_12.2 (by decide +kernel) (by decide) (Nat.le_of_ble_eq_true rfl) rfl (Nat.le_of_ble_eq_true rfl) rfl ⟨by omega, Nat.le_of_ble_eq_true rfl⟩ hl.1 hW3 hS3 (k_X12_init (fun _ _ _ => rfl) z3 (fun g l fg fl a1 a2 a3 a4 a5 a6 a7 a8 a9 a10 => ⟨rfl, fg, a1, a2, a3, a4, a5, a6, a7, a8, a9, a10⟩)) (fun v4 κ4 g4 l4 H4 locs4 q4 n4 hW4 hS4 => ?_)
  obtain ⟨ek, d0, d1, d2, d3, d4, d5, d6, d7, d8, d9, d10⟩ := q4
  subst ek
  refine lv_astore_n (lv' := [(2, .ref (s.heap.size + 329)), (1, .ref (s.heap.size + 0)), (0, .ref b)]) X.hx X.hb dL_law_15 rfl hl (by decide) rfl (fun ls hl => ?_)
  refine lv_iconst (v := 0) X.hx X.hb dL_law_16 (by decide) ?_
  refine lv_istore_n (lv' := [(3, .int 0), (2, .ref (s.heap.size + 329)), (1, .ref (s.heap.size + 0)), (0, .ref b)]) X.hx X.hb dL_law_17 rfl hl (by decide) rfl (fun ls hl => ?_)
  exact lw_loop X hL (L + 6) 0 0 _ g4 l4 H4 locs4 ls (by omega) (Nat.zero_le _) (by omega) (lv_sub hl [0, 3, 2, 1] rfl) (j_0 (l := l2) b1 b2 b3 b4 b5 b6 b7 b8 (fun z hz => (d0 z hz).trans (e3 z (by omega))) d1 d2 d3 d4 d5 d6 d7 d8 d9 d10) hW4 hS4
