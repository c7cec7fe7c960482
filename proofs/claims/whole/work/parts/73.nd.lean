/-! THE CONSTRUCTORS, four: the class -/
theorem w_149 : Cond.arrayClass .byte ∈ gtb := gtb_in 149 (by decide +kernel) (by decide +kernel)
theorem w_360 : Cond.arrayOver (.object RX0) ∈ nst := nst_in 360 (by decide +kernel) rfl
theorem w_1387 : Cond.arrayClass .boolean ∈ gtb := gtb_in 1387 (by decide +kernel) (by decide +kernel)
theorem kept_r : ∀ i, i < 4 → sR 92 i = 93 + 59 * i := by
  have := (show ∀ i, i < 4 → sR 92 i = 93 + 59 * i by decide +kernel)
  exact this
set_option maxRecDepth 100000 in
theorem k_X11_lp {ν : Nat → Nat → Bool} (hν : Fz 0 ν) {Q : Value → Kp → Gi → Gl → Prop} : ∀ k i g l, i + k = 4 → (∀ g' l', (∀ b, b < 93 → g' b = g b) → Q .null (329, ν) g' l') → PAt mX11_init 1 329 (93 + 59 * i, nS ν 92 (List.range' i k)) 182 [some (.ref 0), some (.int (nI i))] [] g l Q := by
  intro k
  induction k with
  | zero =>
    intro i g l hi h
    obtain rfl : i = 4 := by omega
    rw [show nS ν 92 (List.range' 4 0) = ν from nS_0 (fun j => hν _ j (by omega))]
    refine px_iload_n dX11_init_182 rfl rfl ?_
    refine px_aload_n dX11_init_183 rfl rfl ?_
    refine gf_X11_89 rfl dX11_init_184 (show 0 < 93 + 59 * 4 by omega) (by decide +kernel) (hν _ _ (Nat.le_refl _)) (by decide +kernel) (show 92 < NN by decide +kernel) ?_
    refine px_alen (n := 4) (t0 := 5) (v := (4 : Int32)) dX11_init_187 (show 92 < 93 + 59 * 4 by omega) (show sK 92 = 105 by decide +kernel) (by decide +kernel) (by decide) (fun _ => rfl) (by decide) ?_
    refine px_icmp_ge (tgt := 210) dX11_init_188 (by decide) ?_
    rw [if_pos (by decide)]
    exact px_return dX11_init_210 rfl rfl (h g l (fun _ _ => rfl))
  | succ k ih =>
    intro i g l hi h
    have h4 : i < 4 := by omega
    obtain ⟨pN, pK⟩ := kept_k i h4
    have hnu : nS ν 92 (List.range' i (k + 1)) 0 11 = false := by rw [nS_n (by omega)]; exact hν _ _ (Nat.le_refl _)
    refine px_iload_n dX11_init_182 rfl rfl ?_
    refine px_aload_n dX11_init_183 rfl rfl ?_
    refine gf_X11_89 rfl dX11_init_184 (show 0 < 93 + 59 * i by omega) (by decide +kernel) hnu (by decide +kernel) (show 92 < NN by decide +kernel) ?_
    refine px_alen (n := 4) (t0 := 5) (v := (4 : Int32)) dX11_init_187 (show 92 < 93 + 59 * i by omega) (show sK 92 = 105 by decide +kernel) (by decide +kernel) (by decide) (fun _ => rfl) (by decide) ?_
    refine px_icmp_ge (tgt := 210) dX11_init_188 (by decide) ?_
    rw [if_neg (by rw [show (4 : Int32) = nI 4 by rfl, nI_leI (by omega) (by omega)]; omega)]
    refine px_aload_n dX11_init_191 rfl rfl ?_
    refine gf_X11_89 rfl dX11_init_192 (show 0 < 93 + 59 * i by omega) (by decide +kernel) hnu (by decide +kernel) (show 92 < NN by decide +kernel) ?_
    refine px_iload_n dX11_init_195 rfl rfl ?_
    refine px_new (a := 93 + 59 * i) (ci := 0) (C0 := RX0) (T := TX0) (N := 3) [0, 1] dX11_init_196 rfl ⟨pN, by omega, by omega⟩ pK (by decide) (so_0 pK) rfl hu_0 tyX0_ok (by decide +kernel) ⟨w_338, w_339, w_109⟩ (fun g1 l1 e1 f1 z1 => ?_)
    refine px_dup dX11_init_199 rfl ?_
    refine px_callI_V (nY := 93 + 59 * i + 59) (As := []) (st := [.ref (93 + 59 * i), .int (nI i), .ref 92]) dX11_init_200 lk_X11_84.1 lk_X11_84.2 (b := 93 + 59 * i) pN (by decide) rfl (Nat.le_of_ble_eq_true rfl) rfl rfl (Nat.le_of_ble_eq_true rfl) (show 1 ≤ 93 + 59 * i + 1 ∧ 93 + 59 * i + 1 ≤ 93 + 59 * i + 59 ∧ 93 + 59 * i + 59 ≤ 329 by omega) ?_
    refine k_X0_init (a := 93 + 59 * i) pN pK (Fz.S hν (by omega) (by omega)) (fun g2 l2 e2 f2 _ _ => ?_)
    show PAt mX11_init 1 329 (93 + 59 * i + 59, nS ν 92 (i :: List.range' (i + 1) k)) 203 [some (.ref 0), some (.int (nI i))] [.ref (93 + 59 * i), .int (nI i), .ref 92] g2 l2 Q
    refine px_aast (a := 92) (v := 93 + 59 * i) (n := 4) (i := i) (ci := 0) (k := 105) (t0 := 5) dX11_init_203 rfl (show 92 < 93 + 59 * i + 59 by omega) (by decide +kernel) (by decide) (by decide +kernel) (fun _ => rfl) (show 93 + 59 * i < 93 + 59 * i + 59 by omega) pK (by decide) rfl h4 rfl (by omega) (notin_range i k) (kept_r i h4) ?_
    refine px_iinc (v := nI i + (1 : Int32)) (ls2 := [some (.ref 0), some (.int (nI i + (1 : Int32)))]) dX11_init_204 rfl rfl (by decide) rfl ?_
    refine px_goto (tgt := 182) dX11_init_207 (by decide) ?_
    rw [nI_1]
    have := ih (i + 1) g2 l2 (by omega) (fun g' l' h1 => h g' l' (fun b hb => by rw [h1 b hb, e2 b (by omega), e1 b (by omega)]))
    rw [show 93 + 59 * (i + 1) = 93 + 59 * i + 59 by omega] at this
    exact this
section ND4
variable {ν : Nat → Nat → Bool} {gi : Gi} {gl : Gl} {Q : Value → Kp → Gi → Gl → Prop} {a : Nat}
set_option maxRecDepth 100000 in
theorem k_X11_init (hν : Fz 0 ν) (hz : ∀ j, gi 0 j = 0) (h : ∀ g l, g 0 15 = -1 → (∀ j, j ≠ 15 → g 0 j = 0) → (∀ j, g 3 j = 0) → (∀ j, g 6 j = 0) → g 33 2 = 0 → (∀ mo, mo < 12 → g 35 mo = 1) → g 25 6 = 0 → (∀ j, g 27 j = 0) → Q .null (329, ν) g l) : PAt mX11_init 1 329 (1, nS ν 0 [0, 1, 2, 3, 4, 5, 6, 7, 8, 9, 10, 11]) 0 (ent 2 [.ref 0]) [] gi gl Q := by
  show PAt mX11_init (1) (329) (1, (nS ν 0 [0, 1, 2, 3, 4, 5, 6, 7, 8, 9, 10, 11])) 0 [some (.ref 0), none] [] gi gl Q
  refine px_aload_n dX11_init_0 rfl rfl ?_
  refine px_objInit dX11_init_1 (by decide +kernel) w_124 w_125 w_126 (by decide) (by decide) ?_
  refine px_aload_n dX11_init_4 rfl rfl ?_
  refine px_sipush (v := (1200 : Int32)) dX11_init_5 (by decide) ?_
  refine px_newB (a := 1) (n := 1200) dX11_init_8 rfl ⟨(by decide +kernel), by omega, by omega⟩ (by decide +kernel) (by decide +kernel) (by decide) rfl (by decide) w_149 (fun g1 l1 e1 f1 z1 => ?_)
  show PAt mX11_init (1) (329) (2, (nS ν 0 [0, 1, 2, 3, 4, 5, 6, 7, 8, 9, 10, 11])) 10 [some (.ref 0), none] [.ref 1, .ref 0] g1 l1 Q
  refine px_putR (a := 0) (ci := 11) (k := 0) (t := 1) (N := 16) (L := [1, 2, 3, 4, 5, 6, 7, 8, 9, 10, 11]) dX11_init_10 rfl (show 0 < 2 by omega) (by decide +kernel) (by decide) (by decide +kernel) rfl hu_11 (by decide) tyX11_ok nmX11 w_361 rfl rfl rfl (by decide +kernel) (by decide +kernel) ⟨by decide +kernel, by decide +kernel⟩ (by decide +kernel) ?_
  show PAt mX11_init (1) (329) (2, (nS ν 0 [1, 2, 3, 4, 5, 6, 7, 8, 9, 10, 11])) 13 [some (.ref 0), none] [] g1 l1 Q
  refine px_aload_n dX11_init_13 rfl rfl ?_
  refine px_new (a := 2) (ci := 10) (C0 := RX10) (T := TX10) (N := 5) [0, 1, 2, 3, 4] dX11_init_14 rfl ⟨(by decide +kernel), by omega, by omega⟩ (by decide +kernel) (by decide) (by decide +kernel) rfl hu_10 tyX10_ok (by decide +kernel) ⟨w_127, w_128, w_99⟩ (fun g2 l2 e2 f2 z2 => ?_)
  refine px_dup dX11_init_17 rfl ?_
  refine px_callIN_V (nY := 8) (As := []) (st := [.ref 2, .ref 0]) dX11_init_18 lk_X11_15.1 lk_X11_15.2 (b := 2) (by decide +kernel) (by decide) rfl (Nat.le_of_ble_eq_true rfl) rfl rfl (Nat.le_of_ble_eq_true rfl) (show 1 ≤ 3 ∧ 3 ≤ 8 ∧ 8 ≤ 329 by omega) ?_
  refine k_X10_init (a := 2) (by decide +kernel) (by decide +kernel) (Fz.S hν (by omega) (by omega)) (fun g3 l3 e3 f3 c3 d3 => ?_)
  show PAt mX11_init (1) (329) (8, (nS ν 0 [1, 2, 3, 4, 5, 6, 7, 8, 9, 10, 11])) 21 [some (.ref 0), none] [.ref 2, .ref 0] g3 l3 Q
  refine px_putR (a := 0) (ci := 11) (k := 1) (t := 2) (N := 16) (L := [2, 3, 4, 5, 6, 7, 8, 9, 10, 11]) dX11_init_21 rfl (show 0 < 8 by omega) (by decide +kernel) (by decide) (by decide +kernel) rfl hu_11 (by decide) tyX11_ok nmX11 w_362 rfl rfl rfl (by decide +kernel) (by decide +kernel) ⟨by decide +kernel, by decide +kernel⟩ (by decide +kernel) ?_
  show PAt mX11_init (1) (329) (8, (nS ν 0 [2, 3, 4, 5, 6, 7, 8, 9, 10, 11])) 24 [some (.ref 0), none] [] g3 l3 Q
  refine px_aload_n dX11_init_24 rfl rfl ?_
  refine px_new (a := 8) (ci := 10) (C0 := RX10) (T := TX10) (N := 5) [0, 1, 2, 3, 4] dX11_init_25 rfl ⟨(by decide +kernel), by omega, by omega⟩ (by decide +kernel) (by decide) (by decide +kernel) rfl hu_10 tyX10_ok (by decide +kernel) ⟨w_127, w_128, w_99⟩ (fun g4 l4 e4 f4 z4 => ?_)
  refine px_dup dX11_init_28 rfl ?_
  refine px_callIN_V (nY := 14) (As := []) (st := [.ref 8, .ref 0]) dX11_init_29 lk_X11_15.1 lk_X11_15.2 (b := 8) (by decide +kernel) (by decide) rfl (Nat.le_of_ble_eq_true rfl) rfl rfl (Nat.le_of_ble_eq_true rfl) (show 1 ≤ 9 ∧ 9 ≤ 14 ∧ 14 ≤ 329 by omega) ?_
  refine k_X10_init (a := 8) (by decide +kernel) (by decide +kernel) (Fz.S hν (by omega) (by omega)) (fun g5 l5 e5 f5 c5 d5 => ?_)
  show PAt mX11_init (1) (329) (14, (nS ν 0 [2, 3, 4, 5, 6, 7, 8, 9, 10, 11])) 32 [some (.ref 0), none] [.ref 8, .ref 0] g5 l5 Q
  refine px_putR (a := 0) (ci := 11) (k := 2) (t := 8) (N := 16) (L := [3, 4, 5, 6, 7, 8, 9, 10, 11]) dX11_init_32 rfl (show 0 < 14 by omega) (by decide +kernel) (by decide) (by decide +kernel) rfl hu_11 (by decide) tyX11_ok nmX11 w_363 rfl rfl rfl (by decide +kernel) (by decide +kernel) ⟨by decide +kernel, by decide +kernel⟩ (by decide +kernel) ?_
  show PAt mX11_init (1) (329) (14, (nS ν 0 [3, 4, 5, 6, 7, 8, 9, 10, 11])) 35 [some (.ref 0), none] [] g5 l5 Q
  refine px_aload_n dX11_init_35 rfl rfl ?_
  refine px_new (a := 14) (ci := 5) (C0 := RX5) (T := TX5) (N := 3) [0, 1] dX11_init_36 rfl ⟨(by decide +kernel), by omega, by omega⟩ (by decide +kernel) (by decide) (by decide +kernel) rfl hu_5 tyX5_ok (by decide +kernel) ⟨w_152, w_153, w_100⟩ (fun g6 l6 e6 f6 z6 => ?_)
  refine px_dup dX11_init_39 rfl ?_
  refine px_callIN_V (nY := 21) (As := []) (st := [.ref 14, .ref 0]) dX11_init_40 lk_X11_25.1 lk_X11_25.2 (b := 14) (by decide +kernel) (by decide) rfl (Nat.le_of_ble_eq_true rfl) rfl rfl (Nat.le_of_ble_eq_true rfl) (show 1 ≤ 15 ∧ 15 ≤ 21 ∧ 21 ≤ 329 by omega) ?_
  refine k_X5_init (a := 14) (by decide +kernel) (by decide +kernel) (Fz.S hν (by omega) (by omega)) (fun g7 l7 e7 f7 => ?_)
  show PAt mX11_init (1) (329) (21, (nS ν 0 [3, 4, 5, 6, 7, 8, 9, 10, 11])) 43 [some (.ref 0), none] [.ref 14, .ref 0] g7 l7 Q
  refine px_putR (a := 0) (ci := 11) (k := 3) (t := 14) (N := 16) (L := [4, 5, 6, 7, 8, 9, 10, 11]) dX11_init_43 rfl (show 0 < 21 by omega) (by decide +kernel) (by decide) (by decide +kernel) rfl hu_11 (by decide) tyX11_ok nmX11 w_364 rfl rfl rfl (by decide +kernel) (by decide +kernel) ⟨by decide +kernel, by decide +kernel⟩ (by decide +kernel) ?_
  show PAt mX11_init (1) (329) (21, (nS ν 0 [4, 5, 6, 7, 8, 9, 10, 11])) 46 [some (.ref 0), none] [] g7 l7 Q
  refine px_aload_n dX11_init_46 rfl rfl ?_
  refine px_new (a := 21) (ci := 7) (C0 := RX7) (T := TX7) (N := 4) [0, 1, 2, 3] dX11_init_47 rfl ⟨(by decide +kernel), by omega, by omega⟩ (by decide +kernel) (by decide) (by decide +kernel) rfl hu_7 tyX7_ok (by decide +kernel) ⟨w_187, w_188, w_102⟩ (fun g8 l8 e8 f8 z8 => ?_)
  refine px_dup dX11_init_50 rfl ?_
  refine px_aload_n dX11_init_51 rfl rfl ?_
  refine gf_X11_9 (b := 1) rfl dX11_init_52 (show 0 < 22 by omega) (by decide +kernel) (show nS ν 0 [4, 5, 6, 7, 8, 9, 10, 11] 0 0 = false by rw [nS_s]; decide) (by decide +kernel) (by decide +kernel) ?_
  refine px_aload_n dX11_init_55 rfl rfl ?_
  refine gf_X11_16 (b := 2) rfl dX11_init_56 (show 0 < 22 by omega) (by decide +kernel) (show nS ν 0 [4, 5, 6, 7, 8, 9, 10, 11] 0 1 = false by rw [nS_s]; decide) (by decide +kernel) (by decide +kernel) ?_
  refine px_aload_n dX11_init_59 rfl rfl ?_
  refine gf_X11_20 (b := 8) rfl dX11_init_60 (show 0 < 22 by omega) (by decide +kernel) (show nS ν 0 [4, 5, 6, 7, 8, 9, 10, 11] 0 2 = false by rw [nS_s]; decide) (by decide +kernel) (by decide +kernel) ?_
  refine px_aload_n dX11_init_63 rfl rfl ?_
  refine gf_X11_26 (b := 14) rfl dX11_init_64 (show 0 < 22 by omega) (by decide +kernel) (show nS ν 0 [4, 5, 6, 7, 8, 9, 10, 11] 0 3 = false by rw [nS_s]; decide) (by decide +kernel) (by decide +kernel) ?_
  refine px_callI_V (nY := 23) (As := [.ref 1, .ref 2, .ref 8, .ref 14]) (st := [.ref 21, .ref 0]) dX11_init_67 lk_X11_32.1 lk_X11_32.2 (b := 21) (by decide +kernel) (by decide) rfl (Nat.le_of_ble_eq_true rfl) rfl rfl (Nat.le_of_ble_eq_true rfl) (show 1 ≤ 22 ∧ 22 ≤ 23 ∧ 23 ≤ 329 by omega) ?_
  refine k_X7_init (Fz.S hν (by omega) (by omega)) (fun g9 l9 e9 f9 => ?_)
  show PAt mX11_init (1) (329) (23, (nS ν 0 [4, 5, 6, 7, 8, 9, 10, 11])) 70 [some (.ref 0), none] [.ref 21, .ref 0] g9 l9 Q
  refine px_putR (a := 0) (ci := 11) (k := 4) (t := 21) (N := 16) (L := [5, 6, 7, 8, 9, 10, 11]) dX11_init_70 rfl (show 0 < 23 by omega) (by decide +kernel) (by decide) (by decide +kernel) rfl hu_11 (by decide) tyX11_ok nmX11 w_365 rfl rfl rfl (by decide +kernel) (by decide +kernel) ⟨by decide +kernel, by decide +kernel⟩ (by decide +kernel) ?_
  show PAt mX11_init (1) (329) (23, (nS ν 0 [5, 6, 7, 8, 9, 10, 11])) 73 [some (.ref 0), none] [] g9 l9 Q
  refine px_aload_n dX11_init_73 rfl rfl ?_
  refine px_new (a := 23) (ci := 9) (C0 := RX9) (T := TX9) (N := 7) [0] dX11_init_74 rfl ⟨(by decide +kernel), by omega, by omega⟩ (by decide +kernel) (by decide) (by decide +kernel) rfl hu_9 tyX9_ok (by decide +kernel) ⟨w_228, w_229, w_104⟩ (fun g10 l10 e10 f10 z10 => ?_)
  refine px_dup dX11_init_77 rfl ?_
  refine px_aload_n dX11_init_78 rfl rfl ?_
  refine gf_X11_16 (b := 2) rfl dX11_init_79 (show 0 < 24 by omega) (by decide +kernel) (show nS ν 0 [5, 6, 7, 8, 9, 10, 11] 0 1 = false by rw [nS_s]; decide) (by decide +kernel) (by decide +kernel) ?_
  refine px_callI_V (nY := 24) (As := [.ref 2]) (st := [.ref 23, .ref 0]) dX11_init_82 lk_X11_41.1 lk_X11_41.2 (b := 23) (by decide +kernel) (by decide) rfl (Nat.le_of_ble_eq_true rfl) rfl rfl (Nat.le_of_ble_eq_true rfl) (show 1 ≤ 24 ∧ 24 ≤ 24 ∧ 24 ≤ 329 by omega) ?_
  refine k_X9_init (Fz.S hν (by omega) (by omega)) (fun g11 l11 e11 f11 => ?_)
  show PAt mX11_init (1) (329) (24, (nS ν 0 [5, 6, 7, 8, 9, 10, 11])) 85 [some (.ref 0), none] [.ref 23, .ref 0] g11 l11 Q
  refine px_putR (a := 0) (ci := 11) (k := 5) (t := 23) (N := 16) (L := [6, 7, 8, 9, 10, 11]) dX11_init_85 rfl (show 0 < 24 by omega) (by decide +kernel) (by decide) (by decide +kernel) rfl hu_11 (by decide) tyX11_ok nmX11 w_366 rfl rfl rfl (by decide +kernel) (by decide +kernel) ⟨by decide +kernel, by decide +kernel⟩ (by decide +kernel) ?_
  show PAt mX11_init (1) (329) (24, (nS ν 0 [6, 7, 8, 9, 10, 11])) 88 [some (.ref 0), none] [] g11 l11 Q
  refine px_aload_n dX11_init_88 rfl rfl ?_
  refine px_new (a := 24) (ci := 2) (C0 := RX2) (T := TX2) (N := 2) [0, 1] dX11_init_89 rfl ⟨(by decide +kernel), by omega, by omega⟩ (by decide +kernel) (by decide) (by decide +kernel) rfl hu_2 tyX2_ok (by decide +kernel) ⟨w_256, w_257, w_105⟩ (fun g12 l12 e12 f12 z12 => ?_)
  refine px_dup dX11_init_92 rfl ?_
  refine px_aload_n dX11_init_93 rfl rfl ?_
  refine gf_X11_16 (b := 2) rfl dX11_init_94 (show 0 < 25 by omega) (by decide +kernel) (show nS ν 0 [6, 7, 8, 9, 10, 11] 0 1 = false by rw [nS_s]; decide) (by decide +kernel) (by decide +kernel) ?_
  refine px_aload_n dX11_init_97 rfl rfl ?_
  refine gf_X11_44 (b := 23) rfl dX11_init_98 (show 0 < 25 by omega) (by decide +kernel) (show nS ν 0 [6, 7, 8, 9, 10, 11] 0 5 = false by rw [nS_s]; decide) (by decide +kernel) (by decide +kernel) ?_
  refine px_callI_V (nY := 25) (As := [.ref 2, .ref 23]) (st := [.ref 24, .ref 0]) dX11_init_101 lk_X11_50.1 lk_X11_50.2 (b := 24) (by decide +kernel) (by decide) rfl (Nat.le_of_ble_eq_true rfl) rfl rfl (Nat.le_of_ble_eq_true rfl) (show 1 ≤ 25 ∧ 25 ≤ 25 ∧ 25 ≤ 329 by omega) ?_
  refine k_X2_init (Fz.S hν (by omega) (by omega)) (fun g13 l13 e13 f13 => ?_)
  show PAt mX11_init (1) (329) (25, (nS ν 0 [6, 7, 8, 9, 10, 11])) 104 [some (.ref 0), none] [.ref 24, .ref 0] g13 l13 Q
  refine px_putR (a := 0) (ci := 11) (k := 6) (t := 24) (N := 16) (L := [7, 8, 9, 10, 11]) dX11_init_104 rfl (show 0 < 25 by omega) (by decide +kernel) (by decide) (by decide +kernel) rfl hu_11 (by decide) tyX11_ok nmX11 w_367 rfl rfl rfl (by decide +kernel) (by decide +kernel) ⟨by decide +kernel, by decide +kernel⟩ (by decide +kernel) ?_
  show PAt mX11_init (1) (329) (25, (nS ν 0 [7, 8, 9, 10, 11])) 107 [some (.ref 0), none] [] g13 l13 Q
  refine px_aload_n dX11_init_107 rfl rfl ?_
  refine px_new (a := 25) (ci := 6) (C0 := RX6) (T := TX6) (N := 8) [1, 2, 3, 4, 0] dX11_init_108 rfl ⟨(by decide +kernel), by omega, by omega⟩ (by decide +kernel) (by decide) (by decide +kernel) rfl hu_6 tyX6_ok (by decide +kernel) ⟨w_269, w_270, w_106⟩ (fun g14 l14 e14 f14 z14 => ?_)
  refine px_dup dX11_init_111 rfl ?_
  refine px_aload_n dX11_init_112 rfl rfl ?_
  refine gf_X11_53 (b := 24) rfl dX11_init_113 (show 0 < 26 by omega) (by decide +kernel) (show nS ν 0 [7, 8, 9, 10, 11] 0 6 = false by rw [nS_s]; decide) (by decide +kernel) (by decide +kernel) ?_
  refine px_callI_V (nY := 30) (As := [.ref 24]) (st := [.ref 25, .ref 0]) dX11_init_116 lk_X11_59.1 lk_X11_59.2 (b := 25) (by decide +kernel) (by decide) rfl (Nat.le_of_ble_eq_true rfl) rfl rfl (Nat.le_of_ble_eq_true rfl) (show 1 ≤ 26 ∧ 26 ≤ 30 ∧ 30 ≤ 329 by omega) ?_
  refine k_X6_init (Fz.S hν (by omega) (by omega)) (fun g15 l15 e15 f15 c15 d15 => ?_)
  show PAt mX11_init (1) (329) (30, (nS ν 0 [7, 8, 9, 10, 11])) 119 [some (.ref 0), none] [.ref 25, .ref 0] g15 l15 Q
  refine px_putR (a := 0) (ci := 11) (k := 7) (t := 25) (N := 16) (L := [8, 9, 10, 11]) dX11_init_119 rfl (show 0 < 30 by omega) (by decide +kernel) (by decide) (by decide +kernel) rfl hu_11 (by decide) tyX11_ok nmX11 w_368 rfl rfl rfl (by decide +kernel) (by decide +kernel) ⟨by decide +kernel, by decide +kernel⟩ (by decide +kernel) ?_
  show PAt mX11_init (1) (329) (30, (nS ν 0 [8, 9, 10, 11])) 122 [some (.ref 0), none] [] g15 l15 Q
  refine px_aload_n dX11_init_122 rfl rfl ?_
  refine px_new (a := 30) (ci := 1) (C0 := RX1) (T := TX1) (N := 1) [0] dX11_init_123 rfl ⟨(by decide +kernel), by omega, by omega⟩ (by decide +kernel) (by decide) (by decide +kernel) rfl hu_1 tyX1_ok (by decide +kernel) ⟨w_300, w_301, w_107⟩ (fun g16 l16 e16 f16 z16 => ?_)
  refine px_dup dX11_init_126 rfl ?_
  refine px_aload_n dX11_init_127 rfl rfl ?_
  refine gf_X11_16 (b := 2) rfl dX11_init_128 (show 0 < 31 by omega) (by decide +kernel) (show nS ν 0 [8, 9, 10, 11] 0 1 = false by rw [nS_s]; decide) (by decide +kernel) (by decide +kernel) ?_
  refine px_callI_V (nY := 31) (As := [.ref 2]) (st := [.ref 30, .ref 0]) dX11_init_131 lk_X11_68.1 lk_X11_68.2 (b := 30) (by decide +kernel) (by decide) rfl (Nat.le_of_ble_eq_true rfl) rfl rfl (Nat.le_of_ble_eq_true rfl) (show 1 ≤ 31 ∧ 31 ≤ 31 ∧ 31 ≤ 329 by omega) ?_
  refine k_X1_init (Fz.S hν (by omega) (by omega)) (fun g17 l17 e17 f17 => ?_)
  show PAt mX11_init (1) (329) (31, (nS ν 0 [8, 9, 10, 11])) 134 [some (.ref 0), none] [.ref 30, .ref 0] g17 l17 Q
  refine px_putR (a := 0) (ci := 11) (k := 8) (t := 30) (N := 16) (L := [9, 10, 11]) dX11_init_134 rfl (show 0 < 31 by omega) (by decide +kernel) (by decide) (by decide +kernel) rfl hu_11 (by decide) tyX11_ok nmX11 w_369 rfl rfl rfl (by decide +kernel) (by decide +kernel) ⟨by decide +kernel, by decide +kernel⟩ (by decide +kernel) ?_
  show PAt mX11_init (1) (329) (31, (nS ν 0 [9, 10, 11])) 137 [some (.ref 0), none] [] g17 l17 Q
  refine px_aload_n dX11_init_137 rfl rfl ?_
  refine px_new (a := 31) (ci := 3) (C0 := RX3) (T := TX3) (N := 7) [2, 0, 1] dX11_init_138 rfl ⟨(by decide +kernel), by omega, by omega⟩ (by decide +kernel) (by decide) (by decide +kernel) rfl hu_3 tyX3_ok (by decide +kernel) ⟨w_310, w_311, w_108⟩ (fun g18 l18 e18 f18 z18 => ?_)
  refine px_dup dX11_init_141 rfl ?_
  refine px_aload_n dX11_init_142 rfl rfl ?_
  refine gf_X11_16 (b := 2) rfl dX11_init_143 (show 0 < 32 by omega) (by decide +kernel) (show nS ν 0 [9, 10, 11] 0 1 = false by rw [nS_s]; decide) (by decide +kernel) (by decide +kernel) ?_
  refine px_aload_n dX11_init_146 rfl rfl ?_
  refine gf_X11_53 (b := 24) rfl dX11_init_147 (show 0 < 32 by omega) (by decide +kernel) (show nS ν 0 [9, 10, 11] 0 6 = false by rw [nS_s]; decide) (by decide +kernel) (by decide +kernel) ?_
  refine px_callI_V (nY := 33) (As := [.ref 2, .ref 24]) (st := [.ref 31, .ref 0]) dX11_init_150 lk_X11_75.1 lk_X11_75.2 (b := 31) (by decide +kernel) (by decide) rfl (Nat.le_of_ble_eq_true rfl) rfl rfl (Nat.le_of_ble_eq_true rfl) (show 1 ≤ 32 ∧ 32 ≤ 33 ∧ 33 ≤ 329 by omega) ?_
  refine k_X3_init (Fz.S hν (by omega) (by omega)) (fun g19 l19 e19 f19 => ?_)
  show PAt mX11_init (1) (329) (33, (nS ν 0 [9, 10, 11])) 153 [some (.ref 0), none] [.ref 31, .ref 0] g19 l19 Q
  refine px_putR (a := 0) (ci := 11) (k := 9) (t := 31) (N := 16) (L := [10, 11]) dX11_init_153 rfl (show 0 < 33 by omega) (by decide +kernel) (by decide) (by decide +kernel) rfl hu_11 (by decide) tyX11_ok nmX11 w_370 rfl rfl rfl (by decide +kernel) (by decide +kernel) ⟨by decide +kernel, by decide +kernel⟩ (by decide +kernel) ?_
  show PAt mX11_init (1) (329) (33, (nS ν 0 [10, 11])) 156 [some (.ref 0), none] [] g19 l19 Q
  refine px_aload_n dX11_init_156 rfl rfl ?_
  refine px_new (a := 33) (ci := 0) (C0 := RX0) (T := TX0) (N := 3) [0, 1] dX11_init_157 rfl ⟨(by decide +kernel), by omega, by omega⟩ (by decide +kernel) (by decide) (by decide +kernel) rfl hu_0 tyX0_ok (by decide +kernel) ⟨w_338, w_339, w_109⟩ (fun g20 l20 e20 f20 z20 => ?_)
  refine px_dup dX11_init_160 rfl ?_
  refine px_callI_V (nY := 92) (As := []) (st := [.ref 33, .ref 0]) dX11_init_161 lk_X11_84.1 lk_X11_84.2 (b := 33) (by decide +kernel) (by decide) rfl (Nat.le_of_ble_eq_true rfl) rfl rfl (Nat.le_of_ble_eq_true rfl) (show 1 ≤ 34 ∧ 34 ≤ 92 ∧ 92 ≤ 329 by omega) ?_
  refine k_X0_init (a := 33) (by decide +kernel) (by decide +kernel) (Fz.S hν (by omega) (by omega)) (fun g21 l21 e21 f21 c21 d21 => ?_)
  show PAt mX11_init (1) (329) (92, (nS ν 0 [10, 11])) 164 [some (.ref 0), none] [.ref 33, .ref 0] g21 l21 Q
  refine px_putR (a := 0) (ci := 11) (k := 10) (t := 33) (N := 16) (L := [11]) dX11_init_164 rfl (show 0 < 92 by omega) (by decide +kernel) (by decide) (by decide +kernel) rfl hu_11 (by decide) tyX11_ok nmX11 w_371 rfl rfl rfl (by decide +kernel) (by decide +kernel) ⟨by decide +kernel, by decide +kernel⟩ (by decide +kernel) ?_
  show PAt mX11_init (1) (329) (92, (nS ν 0 [11])) 167 [some (.ref 0), none] [] g21 l21 Q
  refine px_aload_n dX11_init_167 rfl rfl ?_
  refine px_iconst (v := (4 : Int32)) dX11_init_168 (by decide) ?_
  refine px_newQ (a := 92) (n := 4) (k := 105) (t0 := 5) (C0 := RX0) dX11_init_169 rfl ⟨(by decide +kernel), by omega, by omega⟩ (by decide +kernel) (by decide) (fun _ => rfl) (by decide +kernel) (by decide) rfl (by decide) ⟨w_338, w_360⟩ ?_
  rw [show nS (nS ν 0 [11]) 92 (List.range 4) = nS (nS ν 92 (List.range 4)) 0 [11] from nS_comm (by omega)]
  show PAt mX11_init (1) (329) (93, (nS (nS ν 92 (List.range 4)) 0 [11])) 172 [some (.ref 0), none] [.ref 92, .ref 0] g21 l21 Q
  refine px_putR (a := 0) (ci := 11) (k := 11) (t := 92) (N := 16) (L := []) dX11_init_172 rfl (show 0 < 93 by omega) (by decide +kernel) (by decide) (by decide +kernel) rfl hu_11 (by decide) tyX11_ok nmX11 w_372 rfl rfl rfl (by decide +kernel) (by decide +kernel) ⟨by decide +kernel, by decide +kernel⟩ (by decide +kernel) ?_
  rw [nS_0 (a := 0) (ν := (nS ν 92 (List.range 4))) (fun j => by rw [nS_n (by omega)]; exact hν _ j (Nat.le_refl _))]
  show PAt mX11_init (1) (329) (93, (nS ν 92 (List.range 4))) 175 [some (.ref 0), none] [] g21 l21 Q
  refine px_aload_n dX11_init_175 rfl rfl ?_
  refine px_iconst (v := ((-1) : Int32)) dX11_init_176 (by decide) ?_
  refine pf_X11_93 rfl dX11_init_177 (show 0 < 93 by omega) (by decide +kernel) ?_
  obtain ⟨g22, q22⟩ : ∃ y : Gi, y = uI g21 0 (upd (g21 0) 15 ((-1) : Int32)) := ⟨_, rfl⟩
  refine px_namegi q22 ?_
  have e22 : ∀ b, b ≠ 0 → g22 b = g21 b := fun b hb => by rw [q22, uI_n hb]
  show PAt mX11_init (1) (329) (93, (nS ν 92 (List.range 4))) 180 [some (.ref 0), none] [] g22 l21 Q
  refine px_iconst (v := (0 : Int32)) dX11_init_180 (by decide) ?_
  refine px_istore_n (ls2 := [some (.ref 0), some (.int (0 : Int32))]) (i := 1) rfl dX11_init_181 (by decide) rfl ?_
  show PAt mX11_init 1 329 (93 + 59 * 0, nS ν 92 (List.range' 0 4)) 182 [some (.ref 0), some (.int (nI 0))] [] g22 l21 Q
  refine k_X11_lp hν 4 0 g22 l21 rfl (fun g' l' h1 => h g' l' ?_ ?_ ?_ ?_ ?_ ?_ ?_ ?_)
  · rw [h1 0 (by omega), q22, uI_s, upd_s]
  · intro j hj; rw [h1 0 (by omega), q22, uI_s, upd_n hj, e21 0 (by omega), e20 0 (by omega), e19 0 (by omega), e18 0 (by omega), e17 0 (by omega), e16 0 (by omega), e15 0 (by omega), e14 0 (by omega), e13 0 (by omega), e12 0 (by omega), e11 0 (by omega), e10 0 (by omega), e9 0 (by omega), e8 0 (by omega), e7 0 (by omega), e6 0 (by omega), e5 0 (by omega), e4 0 (by omega), e3 0 (by omega), e2 0 (by omega), e1 0 (by omega), hz j]
  · intro j; rw [h1 3 (by omega), e22 3 (by omega), e21 3 (by omega), e20 3 (by omega), e19 3 (by omega), e18 3 (by omega), e17 3 (by omega), e16 3 (by omega), e15 3 (by omega), e14 3 (by omega), e13 3 (by omega), e12 3 (by omega), e11 3 (by omega), e10 3 (by omega), e9 3 (by omega), e8 3 (by omega), e7 3 (by omega), e6 3 (by omega), e5 3 (by omega), e4 3 (by omega), c3 j]
  · intro j; rw [h1 6 (by omega), e22 6 (by omega), e21 6 (by omega), e20 6 (by omega), e19 6 (by omega), e18 6 (by omega), e17 6 (by omega), e16 6 (by omega), e15 6 (by omega), e14 6 (by omega), e13 6 (by omega), e12 6 (by omega), e11 6 (by omega), e10 6 (by omega), e9 6 (by omega), e8 6 (by omega), e7 6 (by omega), e6 6 (by omega), e5 6 (by omega), e4 6 (by omega), d3 j]
  · rw [h1 33 (by omega), e22 33 (by omega), c21 2 (by omega), z20 2]
  · intro mo hm; rw [h1 35 (by omega), e22 35 (by omega), d21 mo hm]
  · rw [h1 25 (by omega), e22 25 (by omega), e21 25 (by omega), e20 25 (by omega), e19 25 (by omega), e18 25 (by omega), e17 25 (by omega), e16 25 (by omega), c15 6, z14 6]
  · intro j; rw [h1 27 (by omega), e22 27 (by omega), e21 27 (by omega), e20 27 (by omega), e19 27 (by omega), e18 27 (by omega), e17 27 (by omega), e16 27 (by omega), d15 j]
end ND4
