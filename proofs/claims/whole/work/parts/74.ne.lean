/-! THE CONSTRUCTORS, five: the reference -/
set_option maxRecDepth 100000 in
theorem k_X12_lp {ν : Nat → Nat → Bool} (hν : Fz 329 ν) {Q : Value → Kp → Gi → Gl → Prop} {l : Gl} : ∀ k i g, i + k = 12 → (∀ g', (∀ b, b ≠ 362 → g' b = g b) → (∀ mo, i ≤ mo → mo < 12 → g' 362 mo = 1) → (∀ mo, mo < i → g' 362 mo = g 362 mo) → Q .null (377, ν) g' l) → PAt mX12_init 330 377 (377, ν) 401 [some (.ref 329), some (.int (nI i))] [] g l Q := by
  intro k
  induction k with
  | zero =>
    intro i g hi h
    refine px_iload_n dX12_init_401 rfl rfl ?_
    refine px_bipush (v := (12 : Int32)) dX12_init_402 (by decide) ?_
    refine px_icmp_ge (tgt := 420) dX12_init_404 (by decide) ?_
    rw [if_pos (by rw [show (12 : Int32) = nI 12 by rfl, nI_leI (by omega) (by omega)]; omega)]
    exact px_return dX12_init_420 rfl rfl (h g (fun _ _ => rfl) (fun mo h1 h2 => by omega) (fun _ _ => rfl))
  | succ k ih =>
    intro i g hi h
    refine px_iload_n dX12_init_401 rfl rfl ?_
    refine px_bipush (v := (12 : Int32)) dX12_init_402 (by decide) ?_
    refine px_icmp_ge (tgt := 420) dX12_init_404 (by decide) ?_
    rw [if_neg (by rw [show (12 : Int32) = nI 12 by rfl, nI_leI (by omega) (by omega)]; omega)]
    refine px_aload_n dX12_init_407 rfl rfl ?_
    refine gf_X12_107 rfl dX12_init_408 (show 329 < 377 by omega) (by decide +kernel) (hν _ _ (Nat.le_refl _)) (by decide +kernel) (show 362 < NN by decide +kernel) ?_
    refine px_iload_n dX12_init_411 rfl rfl ?_
    refine px_iconst (v := (1 : Int32)) dX12_init_412 (by decide) ?_
    refine px_iastore (n := 60) dX12_init_413 (show 362 < 377 by omega) (by decide +kernel) (by decide +kernel) (vp_nI (by omega) (by omega)) ?_
    rw [nI_cl (by omega)]
    refine px_iinc (v := nI i + (1 : Int32)) (ls2 := [some (.ref 329), some (.int (nI i + (1 : Int32)))]) dX12_init_414 rfl rfl (by decide) rfl ?_
    refine px_goto (tgt := 401) dX12_init_417 (by decide) ?_
    rw [nI_1]
    refine ih (i + 1) _ (by omega) (fun g' h1 h2 h3 => h g' (fun b hb => by rw [h1 b hb, uI_n hb]) (fun mo a1 a2 => ?_) (fun mo a1 => ?_))
    · by_cases e : mo = i
      · rw [h3 mo (by omega), uI_s, e, upd_s]
      · exact h2 mo (by omega) a2
    · rw [h3 mo (by omega), uI_s, upd_n (by omega)]
section NE5
variable {ν : Nat → Nat → Bool} {gi : Gi} {gl : Gl} {Q : Value → Kp → Gi → Gl → Prop} {a : Nat}
set_option maxRecDepth 100000 in
set_option maxHeartbeats 4000000 in
theorem k_X12_init (hν : Fz 329 ν) (hz : ∀ j, gi 329 j = 0) (h : ∀ g l, (∀ b, b < 329 → g b = gi b) → (∀ b, b < 329 → l b = gl b) → g 329 36 = 0 → g 329 37 = -1 → g 329 1 = 0 → g 329 67 = 0 → g 329 0 = 0 → g 329 49 = 0 → g 329 50 = -1 → (∀ k, k < 6 → g (330 + k) 0 = 0) → g 355 0 = 0 → (∀ mo, mo < 12 → g 362 mo = 1) → Q .null (377, ν) g l) : PAt mX12_init 330 377 (330, nS ν 329 [2, 3, 4, 5, 6, 7, 8, 9, 10, 11, 12, 13, 14, 15, 16, 17, 18, 19, 20, 21, 22, 23, 24, 25, 26, 27, 28, 29, 30, 31, 32, 33, 34, 35, 52, 53, 54, 55, 56, 57, 58, 59, 60, 61, 64, 65, 66]) 0 (ent 2 [.ref 329]) [] gi gl Q := by
  show PAt mX12_init (330) (377) (330, (nS ν 329 [2, 3, 4, 5, 6, 7, 8, 9, 10, 11, 12, 13, 14, 15, 16, 17, 18, 19, 20, 21, 22, 23, 24, 25, 26, 27, 28, 29, 30, 31, 32, 33, 34, 35, 52, 53, 54, 55, 56, 57, 58, 59, 60, 61, 64, 65, 66])) 0 [some (.ref 329), none] [] gi gl Q
  refine px_aload_n dX12_init_0 rfl rfl ?_
  refine px_objInit dX12_init_1 (by decide +kernel) w_1181 w_125 w_126 (by decide) (by decide) ?_
  refine px_aload_n dX12_init_4 rfl rfl ?_
  refine px_iconst (v := (2 : Int32)) dX12_init_5 (by decide) ?_
  refine px_newI (a := 330) (n := 2) dX12_init_6 rfl ⟨(by decide +kernel), by omega, by omega⟩ (by decide +kernel) (by decide +kernel) (by decide) rfl (by decide) w_150 (fun g1 l1 e1 f1 z1 => ?_)
  show PAt mX12_init (330) (377) (331, (nS ν 329 [2, 3, 4, 5, 6, 7, 8, 9, 10, 11, 12, 13, 14, 15, 16, 17, 18, 19, 20, 21, 22, 23, 24, 25, 26, 27, 28, 29, 30, 31, 32, 33, 34, 35, 52, 53, 54, 55, 56, 57, 58, 59, 60, 61, 64, 65, 66])) 8 [some (.ref 329), none] [.ref 330, .ref 329] g1 l1 Q
  refine px_putR (a := 329) (ci := 12) (k := 2) (t := 330) (N := 68) (L := [3, 4, 5, 6, 7, 8, 9, 10, 11, 12, 13, 14, 15, 16, 17, 18, 19, 20, 21, 22, 23, 24, 25, 26, 27, 28, 29, 30, 31, 32, 33, 34, 35, 52, 53, 54, 55, 56, 57, 58, 59, 60, 61, 64, 65, 66]) dX12_init_8 rfl (show 329 < 331 by omega) (by decide +kernel) (by decide) (by decide +kernel) rfl hu_12 (by decide) tyX12_ok nmX12 w_1184 rfl rfl rfl (by decide +kernel) (by decide +kernel) ⟨by decide +kernel, by decide +kernel⟩ (by decide +kernel) ?_
  show PAt mX12_init (330) (377) (331, (nS ν 329 [3, 4, 5, 6, 7, 8, 9, 10, 11, 12, 13, 14, 15, 16, 17, 18, 19, 20, 21, 22, 23, 24, 25, 26, 27, 28, 29, 30, 31, 32, 33, 34, 35, 52, 53, 54, 55, 56, 57, 58, 59, 60, 61, 64, 65, 66])) 11 [some (.ref 329), none] [] g1 l1 Q
  refine px_aload_n dX12_init_11 rfl rfl ?_
  refine px_iconst (v := (2 : Int32)) dX12_init_12 (by decide) ?_
  refine px_newI (a := 331) (n := 2) dX12_init_13 rfl ⟨(by decide +kernel), by omega, by omega⟩ (by decide +kernel) (by decide +kernel) (by decide) rfl (by decide) w_150 (fun g2 l2 e2 f2 z2 => ?_)
  show PAt mX12_init (330) (377) (332, (nS ν 329 [3, 4, 5, 6, 7, 8, 9, 10, 11, 12, 13, 14, 15, 16, 17, 18, 19, 20, 21, 22, 23, 24, 25, 26, 27, 28, 29, 30, 31, 32, 33, 34, 35, 52, 53, 54, 55, 56, 57, 58, 59, 60, 61, 64, 65, 66])) 15 [some (.ref 329), none] [.ref 331, .ref 329] g2 l2 Q
  refine px_putR (a := 329) (ci := 12) (k := 3) (t := 331) (N := 68) (L := [4, 5, 6, 7, 8, 9, 10, 11, 12, 13, 14, 15, 16, 17, 18, 19, 20, 21, 22, 23, 24, 25, 26, 27, 28, 29, 30, 31, 32, 33, 34, 35, 52, 53, 54, 55, 56, 57, 58, 59, 60, 61, 64, 65, 66]) dX12_init_15 rfl (show 329 < 332 by omega) (by decide +kernel) (by decide) (by decide +kernel) rfl hu_12 (by decide) tyX12_ok nmX12 w_1185 rfl rfl rfl (by decide +kernel) (by decide +kernel) ⟨by decide +kernel, by decide +kernel⟩ (by decide +kernel) ?_
  show PAt mX12_init (330) (377) (332, (nS ν 329 [4, 5, 6, 7, 8, 9, 10, 11, 12, 13, 14, 15, 16, 17, 18, 19, 20, 21, 22, 23, 24, 25, 26, 27, 28, 29, 30, 31, 32, 33, 34, 35, 52, 53, 54, 55, 56, 57, 58, 59, 60, 61, 64, 65, 66])) 18 [some (.ref 329), none] [] g2 l2 Q
  refine px_aload_n dX12_init_18 rfl rfl ?_
  refine px_iconst (v := (2 : Int32)) dX12_init_19 (by decide) ?_
  refine px_newI (a := 332) (n := 2) dX12_init_20 rfl ⟨(by decide +kernel), by omega, by omega⟩ (by decide +kernel) (by decide +kernel) (by decide) rfl (by decide) w_150 (fun g3 l3 e3 f3 z3 => ?_)
  show PAt mX12_init (330) (377) (333, (nS ν 329 [4, 5, 6, 7, 8, 9, 10, 11, 12, 13, 14, 15, 16, 17, 18, 19, 20, 21, 22, 23, 24, 25, 26, 27, 28, 29, 30, 31, 32, 33, 34, 35, 52, 53, 54, 55, 56, 57, 58, 59, 60, 61, 64, 65, 66])) 22 [some (.ref 329), none] [.ref 332, .ref 329] g3 l3 Q
  refine px_putR (a := 329) (ci := 12) (k := 4) (t := 332) (N := 68) (L := [5, 6, 7, 8, 9, 10, 11, 12, 13, 14, 15, 16, 17, 18, 19, 20, 21, 22, 23, 24, 25, 26, 27, 28, 29, 30, 31, 32, 33, 34, 35, 52, 53, 54, 55, 56, 57, 58, 59, 60, 61, 64, 65, 66]) dX12_init_22 rfl (show 329 < 333 by omega) (by decide +kernel) (by decide) (by decide +kernel) rfl hu_12 (by decide) tyX12_ok nmX12 w_1186 rfl rfl rfl (by decide +kernel) (by decide +kernel) ⟨by decide +kernel, by decide +kernel⟩ (by decide +kernel) ?_
  show PAt mX12_init (330) (377) (333, (nS ν 329 [5, 6, 7, 8, 9, 10, 11, 12, 13, 14, 15, 16, 17, 18, 19, 20, 21, 22, 23, 24, 25, 26, 27, 28, 29, 30, 31, 32, 33, 34, 35, 52, 53, 54, 55, 56, 57, 58, 59, 60, 61, 64, 65, 66])) 25 [some (.ref 329), none] [] g3 l3 Q
  refine px_aload_n dX12_init_25 rfl rfl ?_
  refine px_iconst (v := (2 : Int32)) dX12_init_26 (by decide) ?_
  refine px_newI (a := 333) (n := 2) dX12_init_27 rfl ⟨(by decide +kernel), by omega, by omega⟩ (by decide +kernel) (by decide +kernel) (by decide) rfl (by decide) w_150 (fun g4 l4 e4 f4 z4 => ?_)
  show PAt mX12_init (330) (377) (334, (nS ν 329 [5, 6, 7, 8, 9, 10, 11, 12, 13, 14, 15, 16, 17, 18, 19, 20, 21, 22, 23, 24, 25, 26, 27, 28, 29, 30, 31, 32, 33, 34, 35, 52, 53, 54, 55, 56, 57, 58, 59, 60, 61, 64, 65, 66])) 29 [some (.ref 329), none] [.ref 333, .ref 329] g4 l4 Q
  refine px_putR (a := 329) (ci := 12) (k := 5) (t := 333) (N := 68) (L := [6, 7, 8, 9, 10, 11, 12, 13, 14, 15, 16, 17, 18, 19, 20, 21, 22, 23, 24, 25, 26, 27, 28, 29, 30, 31, 32, 33, 34, 35, 52, 53, 54, 55, 56, 57, 58, 59, 60, 61, 64, 65, 66]) dX12_init_29 rfl (show 329 < 334 by omega) (by decide +kernel) (by decide) (by decide +kernel) rfl hu_12 (by decide) tyX12_ok nmX12 w_1187 rfl rfl rfl (by decide +kernel) (by decide +kernel) ⟨by decide +kernel, by decide +kernel⟩ (by decide +kernel) ?_
  show PAt mX12_init (330) (377) (334, (nS ν 329 [6, 7, 8, 9, 10, 11, 12, 13, 14, 15, 16, 17, 18, 19, 20, 21, 22, 23, 24, 25, 26, 27, 28, 29, 30, 31, 32, 33, 34, 35, 52, 53, 54, 55, 56, 57, 58, 59, 60, 61, 64, 65, 66])) 32 [some (.ref 329), none] [] g4 l4 Q
  refine px_aload_n dX12_init_32 rfl rfl ?_
  refine px_iconst (v := (2 : Int32)) dX12_init_33 (by decide) ?_
  refine px_newI (a := 334) (n := 2) dX12_init_34 rfl ⟨(by decide +kernel), by omega, by omega⟩ (by decide +kernel) (by decide +kernel) (by decide) rfl (by decide) w_150 (fun g5 l5 e5 f5 z5 => ?_)
  show PAt mX12_init (330) (377) (335, (nS ν 329 [6, 7, 8, 9, 10, 11, 12, 13, 14, 15, 16, 17, 18, 19, 20, 21, 22, 23, 24, 25, 26, 27, 28, 29, 30, 31, 32, 33, 34, 35, 52, 53, 54, 55, 56, 57, 58, 59, 60, 61, 64, 65, 66])) 36 [some (.ref 329), none] [.ref 334, .ref 329] g5 l5 Q
  refine px_putR (a := 329) (ci := 12) (k := 6) (t := 334) (N := 68) (L := [7, 8, 9, 10, 11, 12, 13, 14, 15, 16, 17, 18, 19, 20, 21, 22, 23, 24, 25, 26, 27, 28, 29, 30, 31, 32, 33, 34, 35, 52, 53, 54, 55, 56, 57, 58, 59, 60, 61, 64, 65, 66]) dX12_init_36 rfl (show 329 < 335 by omega) (by decide +kernel) (by decide) (by decide +kernel) rfl hu_12 (by decide) tyX12_ok nmX12 w_1188 rfl rfl rfl (by decide +kernel) (by decide +kernel) ⟨by decide +kernel, by decide +kernel⟩ (by decide +kernel) ?_
  show PAt mX12_init (330) (377) (335, (nS ν 329 [7, 8, 9, 10, 11, 12, 13, 14, 15, 16, 17, 18, 19, 20, 21, 22, 23, 24, 25, 26, 27, 28, 29, 30, 31, 32, 33, 34, 35, 52, 53, 54, 55, 56, 57, 58, 59, 60, 61, 64, 65, 66])) 39 [some (.ref 329), none] [] g5 l5 Q
  refine px_aload_n dX12_init_39 rfl rfl ?_
  refine px_iconst (v := (2 : Int32)) dX12_init_40 (by decide) ?_
  refine px_newI (a := 335) (n := 2) dX12_init_41 rfl ⟨(by decide +kernel), by omega, by omega⟩ (by decide +kernel) (by decide +kernel) (by decide) rfl (by decide) w_150 (fun g6 l6 e6 f6 z6 => ?_)
  show PAt mX12_init (330) (377) (336, (nS ν 329 [7, 8, 9, 10, 11, 12, 13, 14, 15, 16, 17, 18, 19, 20, 21, 22, 23, 24, 25, 26, 27, 28, 29, 30, 31, 32, 33, 34, 35, 52, 53, 54, 55, 56, 57, 58, 59, 60, 61, 64, 65, 66])) 43 [some (.ref 329), none] [.ref 335, .ref 329] g6 l6 Q
  refine px_putR (a := 329) (ci := 12) (k := 7) (t := 335) (N := 68) (L := [8, 9, 10, 11, 12, 13, 14, 15, 16, 17, 18, 19, 20, 21, 22, 23, 24, 25, 26, 27, 28, 29, 30, 31, 32, 33, 34, 35, 52, 53, 54, 55, 56, 57, 58, 59, 60, 61, 64, 65, 66]) dX12_init_43 rfl (show 329 < 336 by omega) (by decide +kernel) (by decide) (by decide +kernel) rfl hu_12 (by decide) tyX12_ok nmX12 w_1189 rfl rfl rfl (by decide +kernel) (by decide +kernel) ⟨by decide +kernel, by decide +kernel⟩ (by decide +kernel) ?_
  show PAt mX12_init (330) (377) (336, (nS ν 329 [8, 9, 10, 11, 12, 13, 14, 15, 16, 17, 18, 19, 20, 21, 22, 23, 24, 25, 26, 27, 28, 29, 30, 31, 32, 33, 34, 35, 52, 53, 54, 55, 56, 57, 58, 59, 60, 61, 64, 65, 66])) 46 [some (.ref 329), none] [] g6 l6 Q
  refine px_aload_n dX12_init_46 rfl rfl ?_
  refine px_bipush (v := (24 : Int32)) dX12_init_47 (by decide) ?_
  refine px_newJ (a := 336) (n := 24) dX12_init_49 rfl ⟨(by decide +kernel), by omega, by omega⟩ (by decide +kernel) (by decide +kernel) (by decide) rfl (by decide) w_151 (fun g7 l7 e7 f7 z7 => ?_)
  show PAt mX12_init (330) (377) (337, (nS ν 329 [8, 9, 10, 11, 12, 13, 14, 15, 16, 17, 18, 19, 20, 21, 22, 23, 24, 25, 26, 27, 28, 29, 30, 31, 32, 33, 34, 35, 52, 53, 54, 55, 56, 57, 58, 59, 60, 61, 64, 65, 66])) 51 [some (.ref 329), none] [.ref 336, .ref 329] g7 l7 Q
  refine px_putR (a := 329) (ci := 12) (k := 8) (t := 336) (N := 68) (L := [9, 10, 11, 12, 13, 14, 15, 16, 17, 18, 19, 20, 21, 22, 23, 24, 25, 26, 27, 28, 29, 30, 31, 32, 33, 34, 35, 52, 53, 54, 55, 56, 57, 58, 59, 60, 61, 64, 65, 66]) dX12_init_51 rfl (show 329 < 337 by omega) (by decide +kernel) (by decide) (by decide +kernel) rfl hu_12 (by decide) tyX12_ok nmX12 w_1190 rfl rfl rfl (by decide +kernel) (by decide +kernel) ⟨by decide +kernel, by decide +kernel⟩ (by decide +kernel) ?_
  show PAt mX12_init (330) (377) (337, (nS ν 329 [9, 10, 11, 12, 13, 14, 15, 16, 17, 18, 19, 20, 21, 22, 23, 24, 25, 26, 27, 28, 29, 30, 31, 32, 33, 34, 35, 52, 53, 54, 55, 56, 57, 58, 59, 60, 61, 64, 65, 66])) 54 [some (.ref 329), none] [] g7 l7 Q
  refine px_aload_n dX12_init_54 rfl rfl ?_
  refine px_bipush (v := (12 : Int32)) dX12_init_55 (by decide) ?_
  refine px_newJ (a := 337) (n := 12) dX12_init_57 rfl ⟨(by decide +kernel), by omega, by omega⟩ (by decide +kernel) (by decide +kernel) (by decide) rfl (by decide) w_151 (fun g8 l8 e8 f8 z8 => ?_)
  show PAt mX12_init (330) (377) (338, (nS ν 329 [9, 10, 11, 12, 13, 14, 15, 16, 17, 18, 19, 20, 21, 22, 23, 24, 25, 26, 27, 28, 29, 30, 31, 32, 33, 34, 35, 52, 53, 54, 55, 56, 57, 58, 59, 60, 61, 64, 65, 66])) 59 [some (.ref 329), none] [.ref 337, .ref 329] g8 l8 Q
  refine px_putR (a := 329) (ci := 12) (k := 9) (t := 337) (N := 68) (L := [10, 11, 12, 13, 14, 15, 16, 17, 18, 19, 20, 21, 22, 23, 24, 25, 26, 27, 28, 29, 30, 31, 32, 33, 34, 35, 52, 53, 54, 55, 56, 57, 58, 59, 60, 61, 64, 65, 66]) dX12_init_59 rfl (show 329 < 338 by omega) (by decide +kernel) (by decide) (by decide +kernel) rfl hu_12 (by decide) tyX12_ok nmX12 w_1191 rfl rfl rfl (by decide +kernel) (by decide +kernel) ⟨by decide +kernel, by decide +kernel⟩ (by decide +kernel) ?_
  show PAt mX12_init (330) (377) (338, (nS ν 329 [10, 11, 12, 13, 14, 15, 16, 17, 18, 19, 20, 21, 22, 23, 24, 25, 26, 27, 28, 29, 30, 31, 32, 33, 34, 35, 52, 53, 54, 55, 56, 57, 58, 59, 60, 61, 64, 65, 66])) 62 [some (.ref 329), none] [] g8 l8 Q
  refine px_aload_n dX12_init_62 rfl rfl ?_
  refine px_bipush (v := (20 : Int32)) dX12_init_63 (by decide) ?_
  refine px_newJ (a := 338) (n := 20) dX12_init_65 rfl ⟨(by decide +kernel), by omega, by omega⟩ (by decide +kernel) (by decide +kernel) (by decide) rfl (by decide) w_151 (fun g9 l9 e9 f9 z9 => ?_)
  show PAt mX12_init (330) (377) (339, (nS ν 329 [10, 11, 12, 13, 14, 15, 16, 17, 18, 19, 20, 21, 22, 23, 24, 25, 26, 27, 28, 29, 30, 31, 32, 33, 34, 35, 52, 53, 54, 55, 56, 57, 58, 59, 60, 61, 64, 65, 66])) 67 [some (.ref 329), none] [.ref 338, .ref 329] g9 l9 Q
  refine px_putR (a := 329) (ci := 12) (k := 10) (t := 338) (N := 68) (L := [11, 12, 13, 14, 15, 16, 17, 18, 19, 20, 21, 22, 23, 24, 25, 26, 27, 28, 29, 30, 31, 32, 33, 34, 35, 52, 53, 54, 55, 56, 57, 58, 59, 60, 61, 64, 65, 66]) dX12_init_67 rfl (show 329 < 339 by omega) (by decide +kernel) (by decide) (by decide +kernel) rfl hu_12 (by decide) tyX12_ok nmX12 w_1192 rfl rfl rfl (by decide +kernel) (by decide +kernel) ⟨by decide +kernel, by decide +kernel⟩ (by decide +kernel) ?_
  show PAt mX12_init (330) (377) (339, (nS ν 329 [11, 12, 13, 14, 15, 16, 17, 18, 19, 20, 21, 22, 23, 24, 25, 26, 27, 28, 29, 30, 31, 32, 33, 34, 35, 52, 53, 54, 55, 56, 57, 58, 59, 60, 61, 64, 65, 66])) 70 [some (.ref 329), none] [] g9 l9 Q
  refine px_aload_n dX12_init_70 rfl rfl ?_
  refine px_bipush (v := (8 : Int32)) dX12_init_71 (by decide) ?_
  refine px_newJ (a := 339) (n := 8) dX12_init_73 rfl ⟨(by decide +kernel), by omega, by omega⟩ (by decide +kernel) (by decide +kernel) (by decide) rfl (by decide) w_151 (fun g10 l10 e10 f10 z10 => ?_)
  show PAt mX12_init (330) (377) (340, (nS ν 329 [11, 12, 13, 14, 15, 16, 17, 18, 19, 20, 21, 22, 23, 24, 25, 26, 27, 28, 29, 30, 31, 32, 33, 34, 35, 52, 53, 54, 55, 56, 57, 58, 59, 60, 61, 64, 65, 66])) 75 [some (.ref 329), none] [.ref 339, .ref 329] g10 l10 Q
  refine px_putR (a := 329) (ci := 12) (k := 11) (t := 339) (N := 68) (L := [12, 13, 14, 15, 16, 17, 18, 19, 20, 21, 22, 23, 24, 25, 26, 27, 28, 29, 30, 31, 32, 33, 34, 35, 52, 53, 54, 55, 56, 57, 58, 59, 60, 61, 64, 65, 66]) dX12_init_75 rfl (show 329 < 340 by omega) (by decide +kernel) (by decide) (by decide +kernel) rfl hu_12 (by decide) tyX12_ok nmX12 w_1193 rfl rfl rfl (by decide +kernel) (by decide +kernel) ⟨by decide +kernel, by decide +kernel⟩ (by decide +kernel) ?_
  show PAt mX12_init (330) (377) (340, (nS ν 329 [12, 13, 14, 15, 16, 17, 18, 19, 20, 21, 22, 23, 24, 25, 26, 27, 28, 29, 30, 31, 32, 33, 34, 35, 52, 53, 54, 55, 56, 57, 58, 59, 60, 61, 64, 65, 66])) 78 [some (.ref 329), none] [] g10 l10 Q
  refine px_aload_n dX12_init_78 rfl rfl ?_
  refine px_bipush (v := (24 : Int32)) dX12_init_79 (by decide) ?_
  refine px_newI (a := 340) (n := 24) dX12_init_81 rfl ⟨(by decide +kernel), by omega, by omega⟩ (by decide +kernel) (by decide +kernel) (by decide) rfl (by decide) w_150 (fun g11 l11 e11 f11 z11 => ?_)
  show PAt mX12_init (330) (377) (341, (nS ν 329 [12, 13, 14, 15, 16, 17, 18, 19, 20, 21, 22, 23, 24, 25, 26, 27, 28, 29, 30, 31, 32, 33, 34, 35, 52, 53, 54, 55, 56, 57, 58, 59, 60, 61, 64, 65, 66])) 83 [some (.ref 329), none] [.ref 340, .ref 329] g11 l11 Q
  refine px_putR (a := 329) (ci := 12) (k := 12) (t := 340) (N := 68) (L := [13, 14, 15, 16, 17, 18, 19, 20, 21, 22, 23, 24, 25, 26, 27, 28, 29, 30, 31, 32, 33, 34, 35, 52, 53, 54, 55, 56, 57, 58, 59, 60, 61, 64, 65, 66]) dX12_init_83 rfl (show 329 < 341 by omega) (by decide +kernel) (by decide) (by decide +kernel) rfl hu_12 (by decide) tyX12_ok nmX12 w_1194 rfl rfl rfl (by decide +kernel) (by decide +kernel) ⟨by decide +kernel, by decide +kernel⟩ (by decide +kernel) ?_
  show PAt mX12_init (330) (377) (341, (nS ν 329 [13, 14, 15, 16, 17, 18, 19, 20, 21, 22, 23, 24, 25, 26, 27, 28, 29, 30, 31, 32, 33, 34, 35, 52, 53, 54, 55, 56, 57, 58, 59, 60, 61, 64, 65, 66])) 86 [some (.ref 329), none] [] g11 l11 Q
  refine px_aload_n dX12_init_86 rfl rfl ?_
  refine px_bipush (v := (24 : Int32)) dX12_init_87 (by decide) ?_
  refine px_newI (a := 341) (n := 24) dX12_init_89 rfl ⟨(by decide +kernel), by omega, by omega⟩ (by decide +kernel) (by decide +kernel) (by decide) rfl (by decide) w_150 (fun g12 l12 e12 f12 z12 => ?_)
  show PAt mX12_init (330) (377) (342, (nS ν 329 [13, 14, 15, 16, 17, 18, 19, 20, 21, 22, 23, 24, 25, 26, 27, 28, 29, 30, 31, 32, 33, 34, 35, 52, 53, 54, 55, 56, 57, 58, 59, 60, 61, 64, 65, 66])) 91 [some (.ref 329), none] [.ref 341, .ref 329] g12 l12 Q
  refine px_putR (a := 329) (ci := 12) (k := 13) (t := 341) (N := 68) (L := [14, 15, 16, 17, 18, 19, 20, 21, 22, 23, 24, 25, 26, 27, 28, 29, 30, 31, 32, 33, 34, 35, 52, 53, 54, 55, 56, 57, 58, 59, 60, 61, 64, 65, 66]) dX12_init_91 rfl (show 329 < 342 by omega) (by decide +kernel) (by decide) (by decide +kernel) rfl hu_12 (by decide) tyX12_ok nmX12 w_1195 rfl rfl rfl (by decide +kernel) (by decide +kernel) ⟨by decide +kernel, by decide +kernel⟩ (by decide +kernel) ?_
  show PAt mX12_init (330) (377) (342, (nS ν 329 [14, 15, 16, 17, 18, 19, 20, 21, 22, 23, 24, 25, 26, 27, 28, 29, 30, 31, 32, 33, 34, 35, 52, 53, 54, 55, 56, 57, 58, 59, 60, 61, 64, 65, 66])) 94 [some (.ref 329), none] [] g12 l12 Q
  refine px_aload_n dX12_init_94 rfl rfl ?_
  refine px_bipush (v := (24 : Int32)) dX12_init_95 (by decide) ?_
  refine px_newI (a := 342) (n := 24) dX12_init_97 rfl ⟨(by decide +kernel), by omega, by omega⟩ (by decide +kernel) (by decide +kernel) (by decide) rfl (by decide) w_150 (fun g13 l13 e13 f13 z13 => ?_)
  show PAt mX12_init (330) (377) (343, (nS ν 329 [14, 15, 16, 17, 18, 19, 20, 21, 22, 23, 24, 25, 26, 27, 28, 29, 30, 31, 32, 33, 34, 35, 52, 53, 54, 55, 56, 57, 58, 59, 60, 61, 64, 65, 66])) 99 [some (.ref 329), none] [.ref 342, .ref 329] g13 l13 Q
  refine px_putR (a := 329) (ci := 12) (k := 14) (t := 342) (N := 68) (L := [15, 16, 17, 18, 19, 20, 21, 22, 23, 24, 25, 26, 27, 28, 29, 30, 31, 32, 33, 34, 35, 52, 53, 54, 55, 56, 57, 58, 59, 60, 61, 64, 65, 66]) dX12_init_99 rfl (show 329 < 343 by omega) (by decide +kernel) (by decide) (by decide +kernel) rfl hu_12 (by decide) tyX12_ok nmX12 w_1196 rfl rfl rfl (by decide +kernel) (by decide +kernel) ⟨by decide +kernel, by decide +kernel⟩ (by decide +kernel) ?_
  show PAt mX12_init (330) (377) (343, (nS ν 329 [15, 16, 17, 18, 19, 20, 21, 22, 23, 24, 25, 26, 27, 28, 29, 30, 31, 32, 33, 34, 35, 52, 53, 54, 55, 56, 57, 58, 59, 60, 61, 64, 65, 66])) 102 [some (.ref 329), none] [] g13 l13 Q
  refine px_aload_n dX12_init_102 rfl rfl ?_
  refine px_bipush (v := (24 : Int32)) dX12_init_103 (by decide) ?_
  refine px_newI (a := 343) (n := 24) dX12_init_105 rfl ⟨(by decide +kernel), by omega, by omega⟩ (by decide +kernel) (by decide +kernel) (by decide) rfl (by decide) w_150 (fun g14 l14 e14 f14 z14 => ?_)
  show PAt mX12_init (330) (377) (344, (nS ν 329 [15, 16, 17, 18, 19, 20, 21, 22, 23, 24, 25, 26, 27, 28, 29, 30, 31, 32, 33, 34, 35, 52, 53, 54, 55, 56, 57, 58, 59, 60, 61, 64, 65, 66])) 107 [some (.ref 329), none] [.ref 343, .ref 329] g14 l14 Q
  refine px_putR (a := 329) (ci := 12) (k := 15) (t := 343) (N := 68) (L := [16, 17, 18, 19, 20, 21, 22, 23, 24, 25, 26, 27, 28, 29, 30, 31, 32, 33, 34, 35, 52, 53, 54, 55, 56, 57, 58, 59, 60, 61, 64, 65, 66]) dX12_init_107 rfl (show 329 < 344 by omega) (by decide +kernel) (by decide) (by decide +kernel) rfl hu_12 (by decide) tyX12_ok nmX12 w_1197 rfl rfl rfl (by decide +kernel) (by decide +kernel) ⟨by decide +kernel, by decide +kernel⟩ (by decide +kernel) ?_
  show PAt mX12_init (330) (377) (344, (nS ν 329 [16, 17, 18, 19, 20, 21, 22, 23, 24, 25, 26, 27, 28, 29, 30, 31, 32, 33, 34, 35, 52, 53, 54, 55, 56, 57, 58, 59, 60, 61, 64, 65, 66])) 110 [some (.ref 329), none] [] g14 l14 Q
  refine px_aload_n dX12_init_110 rfl rfl ?_
  refine px_bipush (v := (12 : Int32)) dX12_init_111 (by decide) ?_
  refine px_newI (a := 344) (n := 12) dX12_init_113 rfl ⟨(by decide +kernel), by omega, by omega⟩ (by decide +kernel) (by decide +kernel) (by decide) rfl (by decide) w_150 (fun g15 l15 e15 f15 z15 => ?_)
  show PAt mX12_init (330) (377) (345, (nS ν 329 [16, 17, 18, 19, 20, 21, 22, 23, 24, 25, 26, 27, 28, 29, 30, 31, 32, 33, 34, 35, 52, 53, 54, 55, 56, 57, 58, 59, 60, 61, 64, 65, 66])) 115 [some (.ref 329), none] [.ref 344, .ref 329] g15 l15 Q
  refine px_putR (a := 329) (ci := 12) (k := 16) (t := 344) (N := 68) (L := [17, 18, 19, 20, 21, 22, 23, 24, 25, 26, 27, 28, 29, 30, 31, 32, 33, 34, 35, 52, 53, 54, 55, 56, 57, 58, 59, 60, 61, 64, 65, 66]) dX12_init_115 rfl (show 329 < 345 by omega) (by decide +kernel) (by decide) (by decide +kernel) rfl hu_12 (by decide) tyX12_ok nmX12 w_1198 rfl rfl rfl (by decide +kernel) (by decide +kernel) ⟨by decide +kernel, by decide +kernel⟩ (by decide +kernel) ?_
  show PAt mX12_init (330) (377) (345, (nS ν 329 [17, 18, 19, 20, 21, 22, 23, 24, 25, 26, 27, 28, 29, 30, 31, 32, 33, 34, 35, 52, 53, 54, 55, 56, 57, 58, 59, 60, 61, 64, 65, 66])) 118 [some (.ref 329), none] [] g15 l15 Q
  refine px_aload_n dX12_init_118 rfl rfl ?_
  refine px_bipush (v := (12 : Int32)) dX12_init_119 (by decide) ?_
  refine px_newI (a := 345) (n := 12) dX12_init_121 rfl ⟨(by decide +kernel), by omega, by omega⟩ (by decide +kernel) (by decide +kernel) (by decide) rfl (by decide) w_150 (fun g16 l16 e16 f16 z16 => ?_)
  show PAt mX12_init (330) (377) (346, (nS ν 329 [17, 18, 19, 20, 21, 22, 23, 24, 25, 26, 27, 28, 29, 30, 31, 32, 33, 34, 35, 52, 53, 54, 55, 56, 57, 58, 59, 60, 61, 64, 65, 66])) 123 [some (.ref 329), none] [.ref 345, .ref 329] g16 l16 Q
  refine px_putR (a := 329) (ci := 12) (k := 17) (t := 345) (N := 68) (L := [18, 19, 20, 21, 22, 23, 24, 25, 26, 27, 28, 29, 30, 31, 32, 33, 34, 35, 52, 53, 54, 55, 56, 57, 58, 59, 60, 61, 64, 65, 66]) dX12_init_123 rfl (show 329 < 346 by omega) (by decide +kernel) (by decide) (by decide +kernel) rfl hu_12 (by decide) tyX12_ok nmX12 w_1199 rfl rfl rfl (by decide +kernel) (by decide +kernel) ⟨by decide +kernel, by decide +kernel⟩ (by decide +kernel) ?_
  show PAt mX12_init (330) (377) (346, (nS ν 329 [18, 19, 20, 21, 22, 23, 24, 25, 26, 27, 28, 29, 30, 31, 32, 33, 34, 35, 52, 53, 54, 55, 56, 57, 58, 59, 60, 61, 64, 65, 66])) 126 [some (.ref 329), none] [] g16 l16 Q
  refine px_aload_n dX12_init_126 rfl rfl ?_
  refine px_bipush (v := (20 : Int32)) dX12_init_127 (by decide) ?_
  refine px_newI (a := 346) (n := 20) dX12_init_129 rfl ⟨(by decide +kernel), by omega, by omega⟩ (by decide +kernel) (by decide +kernel) (by decide) rfl (by decide) w_150 (fun g17 l17 e17 f17 z17 => ?_)
  show PAt mX12_init (330) (377) (347, (nS ν 329 [18, 19, 20, 21, 22, 23, 24, 25, 26, 27, 28, 29, 30, 31, 32, 33, 34, 35, 52, 53, 54, 55, 56, 57, 58, 59, 60, 61, 64, 65, 66])) 131 [some (.ref 329), none] [.ref 346, .ref 329] g17 l17 Q
  refine px_putR (a := 329) (ci := 12) (k := 18) (t := 346) (N := 68) (L := [19, 20, 21, 22, 23, 24, 25, 26, 27, 28, 29, 30, 31, 32, 33, 34, 35, 52, 53, 54, 55, 56, 57, 58, 59, 60, 61, 64, 65, 66]) dX12_init_131 rfl (show 329 < 347 by omega) (by decide +kernel) (by decide) (by decide +kernel) rfl hu_12 (by decide) tyX12_ok nmX12 w_1200 rfl rfl rfl (by decide +kernel) (by decide +kernel) ⟨by decide +kernel, by decide +kernel⟩ (by decide +kernel) ?_
  show PAt mX12_init (330) (377) (347, (nS ν 329 [19, 20, 21, 22, 23, 24, 25, 26, 27, 28, 29, 30, 31, 32, 33, 34, 35, 52, 53, 54, 55, 56, 57, 58, 59, 60, 61, 64, 65, 66])) 134 [some (.ref 329), none] [] g17 l17 Q
  refine px_aload_n dX12_init_134 rfl rfl ?_
  refine px_bipush (v := (20 : Int32)) dX12_init_135 (by decide) ?_
  refine px_newI (a := 347) (n := 20) dX12_init_137 rfl ⟨(by decide +kernel), by omega, by omega⟩ (by decide +kernel) (by decide +kernel) (by decide) rfl (by decide) w_150 (fun g18 l18 e18 f18 z18 => ?_)
  show PAt mX12_init (330) (377) (348, (nS ν 329 [19, 20, 21, 22, 23, 24, 25, 26, 27, 28, 29, 30, 31, 32, 33, 34, 35, 52, 53, 54, 55, 56, 57, 58, 59, 60, 61, 64, 65, 66])) 139 [some (.ref 329), none] [.ref 347, .ref 329] g18 l18 Q
  refine px_putR (a := 329) (ci := 12) (k := 19) (t := 347) (N := 68) (L := [20, 21, 22, 23, 24, 25, 26, 27, 28, 29, 30, 31, 32, 33, 34, 35, 52, 53, 54, 55, 56, 57, 58, 59, 60, 61, 64, 65, 66]) dX12_init_139 rfl (show 329 < 348 by omega) (by decide +kernel) (by decide) (by decide +kernel) rfl hu_12 (by decide) tyX12_ok nmX12 w_1201 rfl rfl rfl (by decide +kernel) (by decide +kernel) ⟨by decide +kernel, by decide +kernel⟩ (by decide +kernel) ?_
  show PAt mX12_init (330) (377) (348, (nS ν 329 [20, 21, 22, 23, 24, 25, 26, 27, 28, 29, 30, 31, 32, 33, 34, 35, 52, 53, 54, 55, 56, 57, 58, 59, 60, 61, 64, 65, 66])) 142 [some (.ref 329), none] [] g18 l18 Q
  refine px_aload_n dX12_init_142 rfl rfl ?_
  refine px_bipush (v := (20 : Int32)) dX12_init_143 (by decide) ?_
  refine px_newI (a := 348) (n := 20) dX12_init_145 rfl ⟨(by decide +kernel), by omega, by omega⟩ (by decide +kernel) (by decide +kernel) (by decide) rfl (by decide) w_150 (fun g19 l19 e19 f19 z19 => ?_)
  show PAt mX12_init (330) (377) (349, (nS ν 329 [20, 21, 22, 23, 24, 25, 26, 27, 28, 29, 30, 31, 32, 33, 34, 35, 52, 53, 54, 55, 56, 57, 58, 59, 60, 61, 64, 65, 66])) 147 [some (.ref 329), none] [.ref 348, .ref 329] g19 l19 Q
  refine px_putR (a := 329) (ci := 12) (k := 20) (t := 348) (N := 68) (L := [21, 22, 23, 24, 25, 26, 27, 28, 29, 30, 31, 32, 33, 34, 35, 52, 53, 54, 55, 56, 57, 58, 59, 60, 61, 64, 65, 66]) dX12_init_147 rfl (show 329 < 349 by omega) (by decide +kernel) (by decide) (by decide +kernel) rfl hu_12 (by decide) tyX12_ok nmX12 w_1202 rfl rfl rfl (by decide +kernel) (by decide +kernel) ⟨by decide +kernel, by decide +kernel⟩ (by decide +kernel) ?_
  show PAt mX12_init (330) (377) (349, (nS ν 329 [21, 22, 23, 24, 25, 26, 27, 28, 29, 30, 31, 32, 33, 34, 35, 52, 53, 54, 55, 56, 57, 58, 59, 60, 61, 64, 65, 66])) 150 [some (.ref 329), none] [] g19 l19 Q
  refine px_aload_n dX12_init_150 rfl rfl ?_
  refine px_bipush (v := (8 : Int32)) dX12_init_151 (by decide) ?_
  refine px_newI (a := 349) (n := 8) dX12_init_153 rfl ⟨(by decide +kernel), by omega, by omega⟩ (by decide +kernel) (by decide +kernel) (by decide) rfl (by decide) w_150 (fun g20 l20 e20 f20 z20 => ?_)
  show PAt mX12_init (330) (377) (350, (nS ν 329 [21, 22, 23, 24, 25, 26, 27, 28, 29, 30, 31, 32, 33, 34, 35, 52, 53, 54, 55, 56, 57, 58, 59, 60, 61, 64, 65, 66])) 155 [some (.ref 329), none] [.ref 349, .ref 329] g20 l20 Q
  refine px_putR (a := 329) (ci := 12) (k := 21) (t := 349) (N := 68) (L := [22, 23, 24, 25, 26, 27, 28, 29, 30, 31, 32, 33, 34, 35, 52, 53, 54, 55, 56, 57, 58, 59, 60, 61, 64, 65, 66]) dX12_init_155 rfl (show 329 < 350 by omega) (by decide +kernel) (by decide) (by decide +kernel) rfl hu_12 (by decide) tyX12_ok nmX12 w_1203 rfl rfl rfl (by decide +kernel) (by decide +kernel) ⟨by decide +kernel, by decide +kernel⟩ (by decide +kernel) ?_
  show PAt mX12_init (330) (377) (350, (nS ν 329 [22, 23, 24, 25, 26, 27, 28, 29, 30, 31, 32, 33, 34, 35, 52, 53, 54, 55, 56, 57, 58, 59, 60, 61, 64, 65, 66])) 158 [some (.ref 329), none] [] g20 l20 Q
  refine px_aload_n dX12_init_158 rfl rfl ?_
  refine px_bipush (v := (8 : Int32)) dX12_init_159 (by decide) ?_
  refine px_newI (a := 350) (n := 8) dX12_init_161 rfl ⟨(by decide +kernel), by omega, by omega⟩ (by decide +kernel) (by decide +kernel) (by decide) rfl (by decide) w_150 (fun g21 l21 e21 f21 z21 => ?_)
  show PAt mX12_init (330) (377) (351, (nS ν 329 [22, 23, 24, 25, 26, 27, 28, 29, 30, 31, 32, 33, 34, 35, 52, 53, 54, 55, 56, 57, 58, 59, 60, 61, 64, 65, 66])) 163 [some (.ref 329), none] [.ref 350, .ref 329] g21 l21 Q
  refine px_putR (a := 329) (ci := 12) (k := 22) (t := 350) (N := 68) (L := [23, 24, 25, 26, 27, 28, 29, 30, 31, 32, 33, 34, 35, 52, 53, 54, 55, 56, 57, 58, 59, 60, 61, 64, 65, 66]) dX12_init_163 rfl (show 329 < 351 by omega) (by decide +kernel) (by decide) (by decide +kernel) rfl hu_12 (by decide) tyX12_ok nmX12 w_1204 rfl rfl rfl (by decide +kernel) (by decide +kernel) ⟨by decide +kernel, by decide +kernel⟩ (by decide +kernel) ?_
  show PAt mX12_init (330) (377) (351, (nS ν 329 [23, 24, 25, 26, 27, 28, 29, 30, 31, 32, 33, 34, 35, 52, 53, 54, 55, 56, 57, 58, 59, 60, 61, 64, 65, 66])) 166 [some (.ref 329), none] [] g21 l21 Q
  refine px_aload_n dX12_init_166 rfl rfl ?_
  refine px_bipush (v := (80 : Int32)) dX12_init_167 (by decide) ?_
  refine px_newI (a := 351) (n := 80) dX12_init_169 rfl ⟨(by decide +kernel), by omega, by omega⟩ (by decide +kernel) (by decide +kernel) (by decide) rfl (by decide) w_150 (fun g22 l22 e22 f22 z22 => ?_)
  show PAt mX12_init (330) (377) (352, (nS ν 329 [23, 24, 25, 26, 27, 28, 29, 30, 31, 32, 33, 34, 35, 52, 53, 54, 55, 56, 57, 58, 59, 60, 61, 64, 65, 66])) 171 [some (.ref 329), none] [.ref 351, .ref 329] g22 l22 Q
  refine px_putR (a := 329) (ci := 12) (k := 23) (t := 351) (N := 68) (L := [24, 25, 26, 27, 28, 29, 30, 31, 32, 33, 34, 35, 52, 53, 54, 55, 56, 57, 58, 59, 60, 61, 64, 65, 66]) dX12_init_171 rfl (show 329 < 352 by omega) (by decide +kernel) (by decide) (by decide +kernel) rfl hu_12 (by decide) tyX12_ok nmX12 w_1205 rfl rfl rfl (by decide +kernel) (by decide +kernel) ⟨by decide +kernel, by decide +kernel⟩ (by decide +kernel) ?_
  show PAt mX12_init (330) (377) (352, (nS ν 329 [24, 25, 26, 27, 28, 29, 30, 31, 32, 33, 34, 35, 52, 53, 54, 55, 56, 57, 58, 59, 60, 61, 64, 65, 66])) 174 [some (.ref 329), none] [] g22 l22 Q
  refine px_aload_n dX12_init_174 rfl rfl ?_
  refine px_bipush (v := (80 : Int32)) dX12_init_175 (by decide) ?_
  refine px_newI (a := 352) (n := 80) dX12_init_177 rfl ⟨(by decide +kernel), by omega, by omega⟩ (by decide +kernel) (by decide +kernel) (by decide) rfl (by decide) w_150 (fun g23 l23 e23 f23 z23 => ?_)
  show PAt mX12_init (330) (377) (353, (nS ν 329 [24, 25, 26, 27, 28, 29, 30, 31, 32, 33, 34, 35, 52, 53, 54, 55, 56, 57, 58, 59, 60, 61, 64, 65, 66])) 179 [some (.ref 329), none] [.ref 352, .ref 329] g23 l23 Q
  refine px_putR (a := 329) (ci := 12) (k := 24) (t := 352) (N := 68) (L := [25, 26, 27, 28, 29, 30, 31, 32, 33, 34, 35, 52, 53, 54, 55, 56, 57, 58, 59, 60, 61, 64, 65, 66]) dX12_init_179 rfl (show 329 < 353 by omega) (by decide +kernel) (by decide) (by decide +kernel) rfl hu_12 (by decide) tyX12_ok nmX12 w_1206 rfl rfl rfl (by decide +kernel) (by decide +kernel) ⟨by decide +kernel, by decide +kernel⟩ (by decide +kernel) ?_
  show PAt mX12_init (330) (377) (353, (nS ν 329 [25, 26, 27, 28, 29, 30, 31, 32, 33, 34, 35, 52, 53, 54, 55, 56, 57, 58, 59, 60, 61, 64, 65, 66])) 182 [some (.ref 329), none] [] g23 l23 Q
  refine px_aload_n dX12_init_182 rfl rfl ?_
  refine px_bipush (v := (80 : Int32)) dX12_init_183 (by decide) ?_
  refine px_newI (a := 353) (n := 80) dX12_init_185 rfl ⟨(by decide +kernel), by omega, by omega⟩ (by decide +kernel) (by decide +kernel) (by decide) rfl (by decide) w_150 (fun g24 l24 e24 f24 z24 => ?_)
  show PAt mX12_init (330) (377) (354, (nS ν 329 [25, 26, 27, 28, 29, 30, 31, 32, 33, 34, 35, 52, 53, 54, 55, 56, 57, 58, 59, 60, 61, 64, 65, 66])) 187 [some (.ref 329), none] [.ref 353, .ref 329] g24 l24 Q
  refine px_putR (a := 329) (ci := 12) (k := 25) (t := 353) (N := 68) (L := [26, 27, 28, 29, 30, 31, 32, 33, 34, 35, 52, 53, 54, 55, 56, 57, 58, 59, 60, 61, 64, 65, 66]) dX12_init_187 rfl (show 329 < 354 by omega) (by decide +kernel) (by decide) (by decide +kernel) rfl hu_12 (by decide) tyX12_ok nmX12 w_1207 rfl rfl rfl (by decide +kernel) (by decide +kernel) ⟨by decide +kernel, by decide +kernel⟩ (by decide +kernel) ?_
  show PAt mX12_init (330) (377) (354, (nS ν 329 [26, 27, 28, 29, 30, 31, 32, 33, 34, 35, 52, 53, 54, 55, 56, 57, 58, 59, 60, 61, 64, 65, 66])) 190 [some (.ref 329), none] [] g24 l24 Q
  refine px_aload_n dX12_init_190 rfl rfl ?_
  refine px_bipush (v := (80 : Int32)) dX12_init_191 (by decide) ?_
  refine px_newI (a := 354) (n := 80) dX12_init_193 rfl ⟨(by decide +kernel), by omega, by omega⟩ (by decide +kernel) (by decide +kernel) (by decide) rfl (by decide) w_150 (fun g25 l25 e25 f25 z25 => ?_)
  show PAt mX12_init (330) (377) (355, (nS ν 329 [26, 27, 28, 29, 30, 31, 32, 33, 34, 35, 52, 53, 54, 55, 56, 57, 58, 59, 60, 61, 64, 65, 66])) 195 [some (.ref 329), none] [.ref 354, .ref 329] g25 l25 Q
  refine px_putR (a := 329) (ci := 12) (k := 26) (t := 354) (N := 68) (L := [27, 28, 29, 30, 31, 32, 33, 34, 35, 52, 53, 54, 55, 56, 57, 58, 59, 60, 61, 64, 65, 66]) dX12_init_195 rfl (show 329 < 355 by omega) (by decide +kernel) (by decide) (by decide +kernel) rfl hu_12 (by decide) tyX12_ok nmX12 w_1208 rfl rfl rfl (by decide +kernel) (by decide +kernel) ⟨by decide +kernel, by decide +kernel⟩ (by decide +kernel) ?_
  show PAt mX12_init (330) (377) (355, (nS ν 329 [27, 28, 29, 30, 31, 32, 33, 34, 35, 52, 53, 54, 55, 56, 57, 58, 59, 60, 61, 64, 65, 66])) 198 [some (.ref 329), none] [] g25 l25 Q
  refine px_aload_n dX12_init_198 rfl rfl ?_
  refine px_iconst (v := (5 : Int32)) dX12_init_199 (by decide) ?_
  refine px_newI (a := 355) (n := 5) dX12_init_200 rfl ⟨(by decide +kernel), by omega, by omega⟩ (by decide +kernel) (by decide +kernel) (by decide) rfl (by decide) w_150 (fun g26 l26 e26 f26 z26 => ?_)
  show PAt mX12_init (330) (377) (356, (nS ν 329 [27, 28, 29, 30, 31, 32, 33, 34, 35, 52, 53, 54, 55, 56, 57, 58, 59, 60, 61, 64, 65, 66])) 202 [some (.ref 329), none] [.ref 355, .ref 329] g26 l26 Q
  refine px_putR (a := 329) (ci := 12) (k := 27) (t := 355) (N := 68) (L := [28, 29, 30, 31, 32, 33, 34, 35, 52, 53, 54, 55, 56, 57, 58, 59, 60, 61, 64, 65, 66]) dX12_init_202 rfl (show 329 < 356 by omega) (by decide +kernel) (by decide) (by decide +kernel) rfl hu_12 (by decide) tyX12_ok nmX12 w_1209 rfl rfl rfl (by decide +kernel) (by decide +kernel) ⟨by decide +kernel, by decide +kernel⟩ (by decide +kernel) ?_
  show PAt mX12_init (330) (377) (356, (nS ν 329 [28, 29, 30, 31, 32, 33, 34, 35, 52, 53, 54, 55, 56, 57, 58, 59, 60, 61, 64, 65, 66])) 205 [some (.ref 329), none] [] g26 l26 Q
  refine px_aload_n dX12_init_205 rfl rfl ?_
  refine px_bipush (v := (40 : Int32)) dX12_init_206 (by decide) ?_
  refine px_newI (a := 356) (n := 40) dX12_init_208 rfl ⟨(by decide +kernel), by omega, by omega⟩ (by decide +kernel) (by decide +kernel) (by decide) rfl (by decide) w_150 (fun g27 l27 e27 f27 z27 => ?_)
  show PAt mX12_init (330) (377) (357, (nS ν 329 [28, 29, 30, 31, 32, 33, 34, 35, 52, 53, 54, 55, 56, 57, 58, 59, 60, 61, 64, 65, 66])) 210 [some (.ref 329), none] [.ref 356, .ref 329] g27 l27 Q
  refine px_putR (a := 329) (ci := 12) (k := 28) (t := 356) (N := 68) (L := [29, 30, 31, 32, 33, 34, 35, 52, 53, 54, 55, 56, 57, 58, 59, 60, 61, 64, 65, 66]) dX12_init_210 rfl (show 329 < 357 by omega) (by decide +kernel) (by decide) (by decide +kernel) rfl hu_12 (by decide) tyX12_ok nmX12 w_1210 rfl rfl rfl (by decide +kernel) (by decide +kernel) ⟨by decide +kernel, by decide +kernel⟩ (by decide +kernel) ?_
  show PAt mX12_init (330) (377) (357, (nS ν 329 [29, 30, 31, 32, 33, 34, 35, 52, 53, 54, 55, 56, 57, 58, 59, 60, 61, 64, 65, 66])) 213 [some (.ref 329), none] [] g27 l27 Q
  refine px_aload_n dX12_init_213 rfl rfl ?_
  refine px_sipush (v := (480 : Int32)) dX12_init_214 (by decide) ?_
  refine px_newI (a := 357) (n := 480) dX12_init_217 rfl ⟨(by decide +kernel), by omega, by omega⟩ (by decide +kernel) (by decide +kernel) (by decide) rfl (by decide) w_150 (fun g28 l28 e28 f28 z28 => ?_)
  show PAt mX12_init (330) (377) (358, (nS ν 329 [29, 30, 31, 32, 33, 34, 35, 52, 53, 54, 55, 56, 57, 58, 59, 60, 61, 64, 65, 66])) 219 [some (.ref 329), none] [.ref 357, .ref 329] g28 l28 Q
  refine px_putR (a := 329) (ci := 12) (k := 29) (t := 357) (N := 68) (L := [30, 31, 32, 33, 34, 35, 52, 53, 54, 55, 56, 57, 58, 59, 60, 61, 64, 65, 66]) dX12_init_219 rfl (show 329 < 358 by omega) (by decide +kernel) (by decide) (by decide +kernel) rfl hu_12 (by decide) tyX12_ok nmX12 w_1211 rfl rfl rfl (by decide +kernel) (by decide +kernel) ⟨by decide +kernel, by decide +kernel⟩ (by decide +kernel) ?_
  show PAt mX12_init (330) (377) (358, (nS ν 329 [30, 31, 32, 33, 34, 35, 52, 53, 54, 55, 56, 57, 58, 59, 60, 61, 64, 65, 66])) 222 [some (.ref 329), none] [] g28 l28 Q
  refine px_aload_n dX12_init_222 rfl rfl ?_
  refine px_sipush (v := (480 : Int32)) dX12_init_223 (by decide) ?_
  refine px_newI (a := 358) (n := 480) dX12_init_226 rfl ⟨(by decide +kernel), by omega, by omega⟩ (by decide +kernel) (by decide +kernel) (by decide) rfl (by decide) w_150 (fun g29 l29 e29 f29 z29 => ?_)
  show PAt mX12_init (330) (377) (359, (nS ν 329 [30, 31, 32, 33, 34, 35, 52, 53, 54, 55, 56, 57, 58, 59, 60, 61, 64, 65, 66])) 228 [some (.ref 329), none] [.ref 358, .ref 329] g29 l29 Q
  refine px_putR (a := 329) (ci := 12) (k := 30) (t := 358) (N := 68) (L := [31, 32, 33, 34, 35, 52, 53, 54, 55, 56, 57, 58, 59, 60, 61, 64, 65, 66]) dX12_init_228 rfl (show 329 < 359 by omega) (by decide +kernel) (by decide) (by decide +kernel) rfl hu_12 (by decide) tyX12_ok nmX12 w_1212 rfl rfl rfl (by decide +kernel) (by decide +kernel) ⟨by decide +kernel, by decide +kernel⟩ (by decide +kernel) ?_
  show PAt mX12_init (330) (377) (359, (nS ν 329 [31, 32, 33, 34, 35, 52, 53, 54, 55, 56, 57, 58, 59, 60, 61, 64, 65, 66])) 231 [some (.ref 329), none] [] g29 l29 Q
  refine px_aload_n dX12_init_231 rfl rfl ?_
  refine px_sipush (v := (480 : Int32)) dX12_init_232 (by decide) ?_
  refine px_newI (a := 359) (n := 480) dX12_init_235 rfl ⟨(by decide +kernel), by omega, by omega⟩ (by decide +kernel) (by decide +kernel) (by decide) rfl (by decide) w_150 (fun g30 l30 e30 f30 z30 => ?_)
  show PAt mX12_init (330) (377) (360, (nS ν 329 [31, 32, 33, 34, 35, 52, 53, 54, 55, 56, 57, 58, 59, 60, 61, 64, 65, 66])) 237 [some (.ref 329), none] [.ref 359, .ref 329] g30 l30 Q
  refine px_putR (a := 329) (ci := 12) (k := 31) (t := 359) (N := 68) (L := [32, 33, 34, 35, 52, 53, 54, 55, 56, 57, 58, 59, 60, 61, 64, 65, 66]) dX12_init_237 rfl (show 329 < 360 by omega) (by decide +kernel) (by decide) (by decide +kernel) rfl hu_12 (by decide) tyX12_ok nmX12 w_1213 rfl rfl rfl (by decide +kernel) (by decide +kernel) ⟨by decide +kernel, by decide +kernel⟩ (by decide +kernel) ?_
  show PAt mX12_init (330) (377) (360, (nS ν 329 [32, 33, 34, 35, 52, 53, 54, 55, 56, 57, 58, 59, 60, 61, 64, 65, 66])) 240 [some (.ref 329), none] [] g30 l30 Q
  refine px_aload_n dX12_init_240 rfl rfl ?_
  refine px_sipush (v := (480 : Int32)) dX12_init_241 (by decide) ?_
  refine px_newI (a := 360) (n := 480) dX12_init_244 rfl ⟨(by decide +kernel), by omega, by omega⟩ (by decide +kernel) (by decide +kernel) (by decide) rfl (by decide) w_150 (fun g31 l31 e31 f31 z31 => ?_)
  show PAt mX12_init (330) (377) (361, (nS ν 329 [32, 33, 34, 35, 52, 53, 54, 55, 56, 57, 58, 59, 60, 61, 64, 65, 66])) 246 [some (.ref 329), none] [.ref 360, .ref 329] g31 l31 Q
  refine px_putR (a := 329) (ci := 12) (k := 32) (t := 360) (N := 68) (L := [33, 34, 35, 52, 53, 54, 55, 56, 57, 58, 59, 60, 61, 64, 65, 66]) dX12_init_246 rfl (show 329 < 361 by omega) (by decide +kernel) (by decide) (by decide +kernel) rfl hu_12 (by decide) tyX12_ok nmX12 w_1214 rfl rfl rfl (by decide +kernel) (by decide +kernel) ⟨by decide +kernel, by decide +kernel⟩ (by decide +kernel) ?_
  show PAt mX12_init (330) (377) (361, (nS ν 329 [33, 34, 35, 52, 53, 54, 55, 56, 57, 58, 59, 60, 61, 64, 65, 66])) 249 [some (.ref 329), none] [] g31 l31 Q
  refine px_aload_n dX12_init_249 rfl rfl ?_
  refine px_sipush (v := (480 : Int32)) dX12_init_250 (by decide) ?_
  refine px_newI (a := 361) (n := 480) dX12_init_253 rfl ⟨(by decide +kernel), by omega, by omega⟩ (by decide +kernel) (by decide +kernel) (by decide) rfl (by decide) w_150 (fun g32 l32 e32 f32 z32 => ?_)
  show PAt mX12_init (330) (377) (362, (nS ν 329 [33, 34, 35, 52, 53, 54, 55, 56, 57, 58, 59, 60, 61, 64, 65, 66])) 255 [some (.ref 329), none] [.ref 361, .ref 329] g32 l32 Q
  refine px_putR (a := 329) (ci := 12) (k := 33) (t := 361) (N := 68) (L := [34, 35, 52, 53, 54, 55, 56, 57, 58, 59, 60, 61, 64, 65, 66]) dX12_init_255 rfl (show 329 < 362 by omega) (by decide +kernel) (by decide) (by decide +kernel) rfl hu_12 (by decide) tyX12_ok nmX12 w_1215 rfl rfl rfl (by decide +kernel) (by decide +kernel) ⟨by decide +kernel, by decide +kernel⟩ (by decide +kernel) ?_
  show PAt mX12_init (330) (377) (362, (nS ν 329 [34, 35, 52, 53, 54, 55, 56, 57, 58, 59, 60, 61, 64, 65, 66])) 258 [some (.ref 329), none] [] g32 l32 Q
  refine px_aload_n dX12_init_258 rfl rfl ?_
  refine px_bipush (v := (60 : Int32)) dX12_init_259 (by decide) ?_
  refine px_newI (a := 362) (n := 60) dX12_init_261 rfl ⟨(by decide +kernel), by omega, by omega⟩ (by decide +kernel) (by decide +kernel) (by decide) rfl (by decide) w_150 (fun g33 l33 e33 f33 z33 => ?_)
  show PAt mX12_init (330) (377) (363, (nS ν 329 [34, 35, 52, 53, 54, 55, 56, 57, 58, 59, 60, 61, 64, 65, 66])) 263 [some (.ref 329), none] [.ref 362, .ref 329] g33 l33 Q
  refine px_putR (a := 329) (ci := 12) (k := 34) (t := 362) (N := 68) (L := [35, 52, 53, 54, 55, 56, 57, 58, 59, 60, 61, 64, 65, 66]) dX12_init_263 rfl (show 329 < 363 by omega) (by decide +kernel) (by decide) (by decide +kernel) rfl hu_12 (by decide) tyX12_ok nmX12 w_1216 rfl rfl rfl (by decide +kernel) (by decide +kernel) ⟨by decide +kernel, by decide +kernel⟩ (by decide +kernel) ?_
  show PAt mX12_init (330) (377) (363, (nS ν 329 [35, 52, 53, 54, 55, 56, 57, 58, 59, 60, 61, 64, 65, 66])) 266 [some (.ref 329), none] [] g33 l33 Q
  refine px_aload_n dX12_init_266 rfl rfl ?_
  refine px_sipush (v := (1200 : Int32)) dX12_init_267 (by decide) ?_
  refine px_newB (a := 363) (n := 1200) dX12_init_270 rfl ⟨(by decide +kernel), by omega, by omega⟩ (by decide +kernel) (by decide +kernel) (by decide) rfl (by decide) w_149 (fun g34 l34 e34 f34 z34 => ?_)
  show PAt mX12_init (330) (377) (364, (nS ν 329 [35, 52, 53, 54, 55, 56, 57, 58, 59, 60, 61, 64, 65, 66])) 272 [some (.ref 329), none] [.ref 363, .ref 329] g34 l34 Q
  refine px_putR (a := 329) (ci := 12) (k := 35) (t := 363) (N := 68) (L := [52, 53, 54, 55, 56, 57, 58, 59, 60, 61, 64, 65, 66]) dX12_init_272 rfl (show 329 < 364 by omega) (by decide +kernel) (by decide) (by decide +kernel) rfl hu_12 (by decide) tyX12_ok nmX12 w_1217 rfl rfl rfl (by decide +kernel) (by decide +kernel) ⟨by decide +kernel, by decide +kernel⟩ (by decide +kernel) ?_
  show PAt mX12_init (330) (377) (364, (nS ν 329 [52, 53, 54, 55, 56, 57, 58, 59, 60, 61, 64, 65, 66])) 275 [some (.ref 329), none] [] g34 l34 Q
  refine px_aload_n dX12_init_275 rfl rfl ?_
  refine px_iconst (v := ((-1) : Int32)) dX12_init_276 (by decide) ?_
  refine pf_X12_114 rfl dX12_init_277 (show 329 < 364 by omega) (by decide +kernel) ?_
  obtain ⟨g35, q35⟩ : ∃ y : Gi, y = uI g34 329 (upd (g34 329) 37 ((-1) : Int32)) := ⟨_, rfl⟩
  refine px_namegi q35 ?_
  have e35 : ∀ b, b ≠ 329 → g35 b = g34 b := fun b hb => by rw [q35, uI_n hb]
  show PAt mX12_init (330) (377) (364, (nS ν 329 [52, 53, 54, 55, 56, 57, 58, 59, 60, 61, 64, 65, 66])) 280 [some (.ref 329), none] [] g35 l34 Q
  refine px_aload_n dX12_init_280 rfl rfl ?_
  refine px_iconst (v := ((-1) : Int32)) dX12_init_281 (by decide) ?_
  refine pf_X12_118 rfl dX12_init_282 (show 329 < 364 by omega) (by decide +kernel) ?_
  obtain ⟨g36, q36⟩ : ∃ y : Gi, y = uI g35 329 (upd (g35 329) 50 ((-1) : Int32)) := ⟨_, rfl⟩
  refine px_namegi q36 ?_
  have e36 : ∀ b, b ≠ 329 → g36 b = g35 b := fun b hb => by rw [q36, uI_n hb]
  show PAt mX12_init (330) (377) (364, (nS ν 329 [52, 53, 54, 55, 56, 57, 58, 59, 60, 61, 64, 65, 66])) 285 [some (.ref 329), none] [] g36 l34 Q
  refine px_aload_n dX12_init_285 rfl rfl ?_
  refine px_sipush (v := (3600 : Int32)) dX12_init_286 (by decide) ?_
  refine px_newZ (a := 364) (n := 3600) dX12_init_289 rfl ⟨(by decide +kernel), by omega, by omega⟩ (by decide +kernel) (by decide +kernel) (by decide) rfl (by decide) w_1387 (fun g37 l37 e37 f37 z37 => ?_)
  show PAt mX12_init (330) (377) (365, (nS ν 329 [52, 53, 54, 55, 56, 57, 58, 59, 60, 61, 64, 65, 66])) 291 [some (.ref 329), none] [.ref 364, .ref 329] g37 l37 Q
  refine px_putR (a := 329) (ci := 12) (k := 52) (t := 364) (N := 68) (L := [53, 54, 55, 56, 57, 58, 59, 60, 61, 64, 65, 66]) dX12_init_291 rfl (show 329 < 365 by omega) (by decide +kernel) (by decide) (by decide +kernel) rfl hu_12 (by decide) tyX12_ok nmX12 w_1234 rfl rfl rfl (by decide +kernel) (by decide +kernel) ⟨by decide +kernel, by decide +kernel⟩ (by decide +kernel) ?_
  show PAt mX12_init (330) (377) (365, (nS ν 329 [53, 54, 55, 56, 57, 58, 59, 60, 61, 64, 65, 66])) 294 [some (.ref 329), none] [] g37 l37 Q
  refine px_aload_n dX12_init_294 rfl rfl ?_
  refine px_sipush (v := (8640 : Int32)) dX12_init_295 (by decide) ?_
  refine px_newZ (a := 365) (n := 8640) dX12_init_298 rfl ⟨(by decide +kernel), by omega, by omega⟩ (by decide +kernel) (by decide +kernel) (by decide) rfl (by decide) w_1387 (fun g38 l38 e38 f38 z38 => ?_)
  show PAt mX12_init (330) (377) (366, (nS ν 329 [53, 54, 55, 56, 57, 58, 59, 60, 61, 64, 65, 66])) 300 [some (.ref 329), none] [.ref 365, .ref 329] g38 l38 Q
  refine px_putR (a := 329) (ci := 12) (k := 53) (t := 365) (N := 68) (L := [54, 55, 56, 57, 58, 59, 60, 61, 64, 65, 66]) dX12_init_300 rfl (show 329 < 366 by omega) (by decide +kernel) (by decide) (by decide +kernel) rfl hu_12 (by decide) tyX12_ok nmX12 w_1235 rfl rfl rfl (by decide +kernel) (by decide +kernel) ⟨by decide +kernel, by decide +kernel⟩ (by decide +kernel) ?_
  show PAt mX12_init (330) (377) (366, (nS ν 329 [54, 55, 56, 57, 58, 59, 60, 61, 64, 65, 66])) 303 [some (.ref 329), none] [] g38 l38 Q
  refine px_aload_n dX12_init_303 rfl rfl ?_
  refine px_bipush (v := (12 : Int32)) dX12_init_304 (by decide) ?_
  refine px_newI (a := 366) (n := 12) dX12_init_306 rfl ⟨(by decide +kernel), by omega, by omega⟩ (by decide +kernel) (by decide +kernel) (by decide) rfl (by decide) w_150 (fun g39 l39 e39 f39 z39 => ?_)
  show PAt mX12_init (330) (377) (367, (nS ν 329 [54, 55, 56, 57, 58, 59, 60, 61, 64, 65, 66])) 308 [some (.ref 329), none] [.ref 366, .ref 329] g39 l39 Q
  refine px_putR (a := 329) (ci := 12) (k := 54) (t := 366) (N := 68) (L := [55, 56, 57, 58, 59, 60, 61, 64, 65, 66]) dX12_init_308 rfl (show 329 < 367 by omega) (by decide +kernel) (by decide) (by decide +kernel) rfl hu_12 (by decide) tyX12_ok nmX12 w_1236 rfl rfl rfl (by decide +kernel) (by decide +kernel) ⟨by decide +kernel, by decide +kernel⟩ (by decide +kernel) ?_
  show PAt mX12_init (330) (377) (367, (nS ν 329 [55, 56, 57, 58, 59, 60, 61, 64, 65, 66])) 311 [some (.ref 329), none] [] g39 l39 Q
  refine px_aload_n dX12_init_311 rfl rfl ?_
  refine px_bipush (v := (12 : Int32)) dX12_init_312 (by decide) ?_
  refine px_newI (a := 367) (n := 12) dX12_init_314 rfl ⟨(by decide +kernel), by omega, by omega⟩ (by decide +kernel) (by decide +kernel) (by decide) rfl (by decide) w_150 (fun g40 l40 e40 f40 z40 => ?_)
  show PAt mX12_init (330) (377) (368, (nS ν 329 [55, 56, 57, 58, 59, 60, 61, 64, 65, 66])) 316 [some (.ref 329), none] [.ref 367, .ref 329] g40 l40 Q
  refine px_putR (a := 329) (ci := 12) (k := 55) (t := 367) (N := 68) (L := [56, 57, 58, 59, 60, 61, 64, 65, 66]) dX12_init_316 rfl (show 329 < 368 by omega) (by decide +kernel) (by decide) (by decide +kernel) rfl hu_12 (by decide) tyX12_ok nmX12 w_1237 rfl rfl rfl (by decide +kernel) (by decide +kernel) ⟨by decide +kernel, by decide +kernel⟩ (by decide +kernel) ?_
  show PAt mX12_init (330) (377) (368, (nS ν 329 [56, 57, 58, 59, 60, 61, 64, 65, 66])) 319 [some (.ref 329), none] [] g40 l40 Q
  refine px_aload_n dX12_init_319 rfl rfl ?_
  refine px_sipush (v := (4096 : Int32)) dX12_init_320 (by decide) ?_
  refine px_newZ (a := 368) (n := 4096) dX12_init_323 rfl ⟨(by decide +kernel), by omega, by omega⟩ (by decide +kernel) (by decide +kernel) (by decide) rfl (by decide) w_1387 (fun g41 l41 e41 f41 z41 => ?_)
  show PAt mX12_init (330) (377) (369, (nS ν 329 [56, 57, 58, 59, 60, 61, 64, 65, 66])) 325 [some (.ref 329), none] [.ref 368, .ref 329] g41 l41 Q
  refine px_putR (a := 329) (ci := 12) (k := 56) (t := 368) (N := 68) (L := [57, 58, 59, 60, 61, 64, 65, 66]) dX12_init_325 rfl (show 329 < 369 by omega) (by decide +kernel) (by decide) (by decide +kernel) rfl hu_12 (by decide) tyX12_ok nmX12 w_1238 rfl rfl rfl (by decide +kernel) (by decide +kernel) ⟨by decide +kernel, by decide +kernel⟩ (by decide +kernel) ?_
  show PAt mX12_init (330) (377) (369, (nS ν 329 [57, 58, 59, 60, 61, 64, 65, 66])) 328 [some (.ref 329), none] [] g41 l41 Q
  refine px_aload_n dX12_init_328 rfl rfl ?_
  refine px_sipush (v := (4096 : Int32)) dX12_init_329 (by decide) ?_
  refine px_newZ (a := 369) (n := 4096) dX12_init_332 rfl ⟨(by decide +kernel), by omega, by omega⟩ (by decide +kernel) (by decide +kernel) (by decide) rfl (by decide) w_1387 (fun g42 l42 e42 f42 z42 => ?_)
  show PAt mX12_init (330) (377) (370, (nS ν 329 [57, 58, 59, 60, 61, 64, 65, 66])) 334 [some (.ref 329), none] [.ref 369, .ref 329] g42 l42 Q
  refine px_putR (a := 329) (ci := 12) (k := 57) (t := 369) (N := 68) (L := [58, 59, 60, 61, 64, 65, 66]) dX12_init_334 rfl (show 329 < 370 by omega) (by decide +kernel) (by decide) (by decide +kernel) rfl hu_12 (by decide) tyX12_ok nmX12 w_1239 rfl rfl rfl (by decide +kernel) (by decide +kernel) ⟨by decide +kernel, by decide +kernel⟩ (by decide +kernel) ?_
  show PAt mX12_init (330) (377) (370, (nS ν 329 [58, 59, 60, 61, 64, 65, 66])) 337 [some (.ref 329), none] [] g42 l42 Q
  refine px_aload_n dX12_init_337 rfl rfl ?_
  refine px_sipush (v := (4096 : Int32)) dX12_init_338 (by decide) ?_
  refine px_newZ (a := 370) (n := 4096) dX12_init_341 rfl ⟨(by decide +kernel), by omega, by omega⟩ (by decide +kernel) (by decide +kernel) (by decide) rfl (by decide) w_1387 (fun g43 l43 e43 f43 z43 => ?_)
  show PAt mX12_init (330) (377) (371, (nS ν 329 [58, 59, 60, 61, 64, 65, 66])) 343 [some (.ref 329), none] [.ref 370, .ref 329] g43 l43 Q
  refine px_putR (a := 329) (ci := 12) (k := 58) (t := 370) (N := 68) (L := [59, 60, 61, 64, 65, 66]) dX12_init_343 rfl (show 329 < 371 by omega) (by decide +kernel) (by decide) (by decide +kernel) rfl hu_12 (by decide) tyX12_ok nmX12 w_1240 rfl rfl rfl (by decide +kernel) (by decide +kernel) ⟨by decide +kernel, by decide +kernel⟩ (by decide +kernel) ?_
  show PAt mX12_init (330) (377) (371, (nS ν 329 [59, 60, 61, 64, 65, 66])) 346 [some (.ref 329), none] [] g43 l43 Q
  refine px_aload_n dX12_init_346 rfl rfl ?_
  refine px_sipush (v := (3600 : Int32)) dX12_init_347 (by decide) ?_
  refine px_newZ (a := 371) (n := 3600) dX12_init_350 rfl ⟨(by decide +kernel), by omega, by omega⟩ (by decide +kernel) (by decide +kernel) (by decide) rfl (by decide) w_1387 (fun g44 l44 e44 f44 z44 => ?_)
  show PAt mX12_init (330) (377) (372, (nS ν 329 [59, 60, 61, 64, 65, 66])) 352 [some (.ref 329), none] [.ref 371, .ref 329] g44 l44 Q
  refine px_putR (a := 329) (ci := 12) (k := 59) (t := 371) (N := 68) (L := [60, 61, 64, 65, 66]) dX12_init_352 rfl (show 329 < 372 by omega) (by decide +kernel) (by decide) (by decide +kernel) rfl hu_12 (by decide) tyX12_ok nmX12 w_1241 rfl rfl rfl (by decide +kernel) (by decide +kernel) ⟨by decide +kernel, by decide +kernel⟩ (by decide +kernel) ?_
  show PAt mX12_init (330) (377) (372, (nS ν 329 [60, 61, 64, 65, 66])) 355 [some (.ref 329), none] [] g44 l44 Q
  refine px_aload_n dX12_init_355 rfl rfl ?_
  refine px_sipush (v := (8640 : Int32)) dX12_init_356 (by decide) ?_
  refine px_newZ (a := 372) (n := 8640) dX12_init_359 rfl ⟨(by decide +kernel), by omega, by omega⟩ (by decide +kernel) (by decide +kernel) (by decide) rfl (by decide) w_1387 (fun g45 l45 e45 f45 z45 => ?_)
  show PAt mX12_init (330) (377) (373, (nS ν 329 [60, 61, 64, 65, 66])) 361 [some (.ref 329), none] [.ref 372, .ref 329] g45 l45 Q
  refine px_putR (a := 329) (ci := 12) (k := 60) (t := 372) (N := 68) (L := [61, 64, 65, 66]) dX12_init_361 rfl (show 329 < 373 by omega) (by decide +kernel) (by decide) (by decide +kernel) rfl hu_12 (by decide) tyX12_ok nmX12 w_1242 rfl rfl rfl (by decide +kernel) (by decide +kernel) ⟨by decide +kernel, by decide +kernel⟩ (by decide +kernel) ?_
  show PAt mX12_init (330) (377) (373, (nS ν 329 [61, 64, 65, 66])) 364 [some (.ref 329), none] [] g45 l45 Q
  refine px_aload_n dX12_init_364 rfl rfl ?_
  refine px_bipush (v := (12 : Int32)) dX12_init_365 (by decide) ?_
  refine px_newJ (a := 373) (n := 12) dX12_init_367 rfl ⟨(by decide +kernel), by omega, by omega⟩ (by decide +kernel) (by decide +kernel) (by decide) rfl (by decide) w_151 (fun g46 l46 e46 f46 z46 => ?_)
  show PAt mX12_init (330) (377) (374, (nS ν 329 [61, 64, 65, 66])) 369 [some (.ref 329), none] [.ref 373, .ref 329] g46 l46 Q
  refine px_putR (a := 329) (ci := 12) (k := 61) (t := 373) (N := 68) (L := [64, 65, 66]) dX12_init_369 rfl (show 329 < 374 by omega) (by decide +kernel) (by decide) (by decide +kernel) rfl hu_12 (by decide) tyX12_ok nmX12 w_1243 rfl rfl rfl (by decide +kernel) (by decide +kernel) ⟨by decide +kernel, by decide +kernel⟩ (by decide +kernel) ?_
  show PAt mX12_init (330) (377) (374, (nS ν 329 [64, 65, 66])) 372 [some (.ref 329), none] [] g46 l46 Q
  refine px_aload_n dX12_init_372 rfl rfl ?_
  refine px_sipush (v := (3600 : Int32)) dX12_init_373 (by decide) ?_
  refine px_newI (a := 374) (n := 3600) dX12_init_376 rfl ⟨(by decide +kernel), by omega, by omega⟩ (by decide +kernel) (by decide +kernel) (by decide) rfl (by decide) w_150 (fun g47 l47 e47 f47 z47 => ?_)
  show PAt mX12_init (330) (377) (375, (nS ν 329 [64, 65, 66])) 378 [some (.ref 329), none] [.ref 374, .ref 329] g47 l47 Q
  refine px_putR (a := 329) (ci := 12) (k := 64) (t := 374) (N := 68) (L := [65, 66]) dX12_init_378 rfl (show 329 < 375 by omega) (by decide +kernel) (by decide) (by decide +kernel) rfl hu_12 (by decide) tyX12_ok nmX12 w_1246 rfl rfl rfl (by decide +kernel) (by decide +kernel) ⟨by decide +kernel, by decide +kernel⟩ (by decide +kernel) ?_
  show PAt mX12_init (330) (377) (375, (nS ν 329 [65, 66])) 381 [some (.ref 329), none] [] g47 l47 Q
  refine px_aload_n dX12_init_381 rfl rfl ?_
  refine px_sipush (v := (8640 : Int32)) dX12_init_382 (by decide) ?_
  refine px_newI (a := 375) (n := 8640) dX12_init_385 rfl ⟨(by decide +kernel), by omega, by omega⟩ (by decide +kernel) (by decide +kernel) (by decide) rfl (by decide) w_150 (fun g48 l48 e48 f48 z48 => ?_)
  show PAt mX12_init (330) (377) (376, (nS ν 329 [65, 66])) 387 [some (.ref 329), none] [.ref 375, .ref 329] g48 l48 Q
  refine px_putR (a := 329) (ci := 12) (k := 65) (t := 375) (N := 68) (L := [66]) dX12_init_387 rfl (show 329 < 376 by omega) (by decide +kernel) (by decide) (by decide +kernel) rfl hu_12 (by decide) tyX12_ok nmX12 w_1247 rfl rfl rfl (by decide +kernel) (by decide +kernel) ⟨by decide +kernel, by decide +kernel⟩ (by decide +kernel) ?_
  show PAt mX12_init (330) (377) (376, (nS ν 329 [66])) 390 [some (.ref 329), none] [] g48 l48 Q
  refine px_aload_n dX12_init_390 rfl rfl ?_
  refine px_sipush (v := (256 : Int32)) dX12_init_391 (by decide) ?_
  refine px_newZ (a := 376) (n := 256) dX12_init_394 rfl ⟨(by decide +kernel), by omega, by omega⟩ (by decide +kernel) (by decide +kernel) (by decide) rfl (by decide) w_1387 (fun g49 l49 e49 f49 z49 => ?_)
  show PAt mX12_init (330) (377) (377, (nS ν 329 [66])) 396 [some (.ref 329), none] [.ref 376, .ref 329] g49 l49 Q
  refine px_putR (a := 329) (ci := 12) (k := 66) (t := 376) (N := 68) (L := []) dX12_init_396 rfl (show 329 < 377 by omega) (by decide +kernel) (by decide) (by decide +kernel) rfl hu_12 (by decide) tyX12_ok nmX12 w_1248 rfl rfl rfl (by decide +kernel) (by decide +kernel) ⟨by decide +kernel, by decide +kernel⟩ (by decide +kernel) ?_
  rw [nS_0 (a := 329) (ν := ν) (fun j => hν _ j (Nat.le_refl _))]
  show PAt mX12_init (330) (377) (377, ν) 399 [some (.ref 329), none] [] g49 l49 Q
  refine px_iconst (v := (0 : Int32)) dX12_init_399 (by decide) ?_
  refine px_istore_n (ls2 := [some (.ref 329), some (.int (0 : Int32))]) (i := 1) rfl dX12_init_400 (by decide) rfl ?_
  show PAt mX12_init 330 377 (377, ν) 401 [some (.ref 329), some (.int (nI 0))] [] g49 l49 Q
  refine k_X12_lp hν 12 0 g49 rfl (fun g' h1 h2 _ => h g' l49 ?_ ?_ ?_ ?_ ?_ ?_ ?_ ?_ ?_ ?_ ?_ (fun mo hm => h2 mo (Nat.zero_le _) hm))
  · intro b hb; rw [h1 b (by omega), e49 b (by omega), e48 b (by omega), e47 b (by omega), e46 b (by omega), e45 b (by omega), e44 b (by omega), e43 b (by omega), e42 b (by omega), e41 b (by omega), e40 b (by omega), e39 b (by omega), e38 b (by omega), e37 b (by omega), e36 b (by omega), e35 b (by omega), e34 b (by omega), e33 b (by omega), e32 b (by omega), e31 b (by omega), e30 b (by omega), e29 b (by omega), e28 b (by omega), e27 b (by omega), e26 b (by omega), e25 b (by omega), e24 b (by omega), e23 b (by omega), e22 b (by omega), e21 b (by omega), e20 b (by omega), e19 b (by omega), e18 b (by omega), e17 b (by omega), e16 b (by omega), e15 b (by omega), e14 b (by omega), e13 b (by omega), e12 b (by omega), e11 b (by omega), e10 b (by omega), e9 b (by omega), e8 b (by omega), e7 b (by omega), e6 b (by omega), e5 b (by omega), e4 b (by omega), e3 b (by omega), e2 b (by omega), e1 b (by omega)]
  · intro b hb; rw [f49 b (by omega), f48 b (by omega), f47 b (by omega), f46 b (by omega), f45 b (by omega), f44 b (by omega), f43 b (by omega), f42 b (by omega), f41 b (by omega), f40 b (by omega), f39 b (by omega), f38 b (by omega), f37 b (by omega), f34 b (by omega), f33 b (by omega), f32 b (by omega), f31 b (by omega), f30 b (by omega), f29 b (by omega), f28 b (by omega), f27 b (by omega), f26 b (by omega), f25 b (by omega), f24 b (by omega), f23 b (by omega), f22 b (by omega), f21 b (by omega), f20 b (by omega), f19 b (by omega), f18 b (by omega), f17 b (by omega), f16 b (by omega), f15 b (by omega), f14 b (by omega), f13 b (by omega), f12 b (by omega), f11 b (by omega), f10 b (by omega), f9 b (by omega), f8 b (by omega), f7 b (by omega), f6 b (by omega), f5 b (by omega), f4 b (by omega), f3 b (by omega), f2 b (by omega), f1 b (by omega)]
  · rw [h1 329 (by omega), e49 329 (by omega), e48 329 (by omega), e47 329 (by omega), e46 329 (by omega), e45 329 (by omega), e44 329 (by omega), e43 329 (by omega), e42 329 (by omega), e41 329 (by omega), e40 329 (by omega), e39 329 (by omega), e38 329 (by omega), e37 329 (by omega), q36, uI_s, upd_n (by decide), q35, uI_s, upd_n (by decide), e34 329 (by omega), e33 329 (by omega), e32 329 (by omega), e31 329 (by omega), e30 329 (by omega), e29 329 (by omega), e28 329 (by omega), e27 329 (by omega), e26 329 (by omega), e25 329 (by omega), e24 329 (by omega), e23 329 (by omega), e22 329 (by omega), e21 329 (by omega), e20 329 (by omega), e19 329 (by omega), e18 329 (by omega), e17 329 (by omega), e16 329 (by omega), e15 329 (by omega), e14 329 (by omega), e13 329 (by omega), e12 329 (by omega), e11 329 (by omega), e10 329 (by omega), e9 329 (by omega), e8 329 (by omega), e7 329 (by omega), e6 329 (by omega), e5 329 (by omega), e4 329 (by omega), e3 329 (by omega), e2 329 (by omega), e1 329 (by omega), hz]
  · rw [h1 329 (by omega), e49 329 (by omega), e48 329 (by omega), e47 329 (by omega), e46 329 (by omega), e45 329 (by omega), e44 329 (by omega), e43 329 (by omega), e42 329 (by omega), e41 329 (by omega), e40 329 (by omega), e39 329 (by omega), e38 329 (by omega), e37 329 (by omega), q36, uI_s, upd_n (by decide), q35, uI_s, upd_s]
  · rw [h1 329 (by omega), e49 329 (by omega), e48 329 (by omega), e47 329 (by omega), e46 329 (by omega), e45 329 (by omega), e44 329 (by omega), e43 329 (by omega), e42 329 (by omega), e41 329 (by omega), e40 329 (by omega), e39 329 (by omega), e38 329 (by omega), e37 329 (by omega), q36, uI_s, upd_n (by decide), q35, uI_s, upd_n (by decide), e34 329 (by omega), e33 329 (by omega), e32 329 (by omega), e31 329 (by omega), e30 329 (by omega), e29 329 (by omega), e28 329 (by omega), e27 329 (by omega), e26 329 (by omega), e25 329 (by omega), e24 329 (by omega), e23 329 (by omega), e22 329 (by omega), e21 329 (by omega), e20 329 (by omega), e19 329 (by omega), e18 329 (by omega), e17 329 (by omega), e16 329 (by omega), e15 329 (by omega), e14 329 (by omega), e13 329 (by omega), e12 329 (by omega), e11 329 (by omega), e10 329 (by omega), e9 329 (by omega), e8 329 (by omega), e7 329 (by omega), e6 329 (by omega), e5 329 (by omega), e4 329 (by omega), e3 329 (by omega), e2 329 (by omega), e1 329 (by omega), hz]
  · rw [h1 329 (by omega), e49 329 (by omega), e48 329 (by omega), e47 329 (by omega), e46 329 (by omega), e45 329 (by omega), e44 329 (by omega), e43 329 (by omega), e42 329 (by omega), e41 329 (by omega), e40 329 (by omega), e39 329 (by omega), e38 329 (by omega), e37 329 (by omega), q36, uI_s, upd_n (by decide), q35, uI_s, upd_n (by decide), e34 329 (by omega), e33 329 (by omega), e32 329 (by omega), e31 329 (by omega), e30 329 (by omega), e29 329 (by omega), e28 329 (by omega), e27 329 (by omega), e26 329 (by omega), e25 329 (by omega), e24 329 (by omega), e23 329 (by omega), e22 329 (by omega), e21 329 (by omega), e20 329 (by omega), e19 329 (by omega), e18 329 (by omega), e17 329 (by omega), e16 329 (by omega), e15 329 (by omega), e14 329 (by omega), e13 329 (by omega), e12 329 (by omega), e11 329 (by omega), e10 329 (by omega), e9 329 (by omega), e8 329 (by omega), e7 329 (by omega), e6 329 (by omega), e5 329 (by omega), e4 329 (by omega), e3 329 (by omega), e2 329 (by omega), e1 329 (by omega), hz]
  · rw [h1 329 (by omega), e49 329 (by omega), e48 329 (by omega), e47 329 (by omega), e46 329 (by omega), e45 329 (by omega), e44 329 (by omega), e43 329 (by omega), e42 329 (by omega), e41 329 (by omega), e40 329 (by omega), e39 329 (by omega), e38 329 (by omega), e37 329 (by omega), q36, uI_s, upd_n (by decide), q35, uI_s, upd_n (by decide), e34 329 (by omega), e33 329 (by omega), e32 329 (by omega), e31 329 (by omega), e30 329 (by omega), e29 329 (by omega), e28 329 (by omega), e27 329 (by omega), e26 329 (by omega), e25 329 (by omega), e24 329 (by omega), e23 329 (by omega), e22 329 (by omega), e21 329 (by omega), e20 329 (by omega), e19 329 (by omega), e18 329 (by omega), e17 329 (by omega), e16 329 (by omega), e15 329 (by omega), e14 329 (by omega), e13 329 (by omega), e12 329 (by omega), e11 329 (by omega), e10 329 (by omega), e9 329 (by omega), e8 329 (by omega), e7 329 (by omega), e6 329 (by omega), e5 329 (by omega), e4 329 (by omega), e3 329 (by omega), e2 329 (by omega), e1 329 (by omega), hz]
  · rw [h1 329 (by omega), e49 329 (by omega), e48 329 (by omega), e47 329 (by omega), e46 329 (by omega), e45 329 (by omega), e44 329 (by omega), e43 329 (by omega), e42 329 (by omega), e41 329 (by omega), e40 329 (by omega), e39 329 (by omega), e38 329 (by omega), e37 329 (by omega), q36, uI_s, upd_n (by decide), q35, uI_s, upd_n (by decide), e34 329 (by omega), e33 329 (by omega), e32 329 (by omega), e31 329 (by omega), e30 329 (by omega), e29 329 (by omega), e28 329 (by omega), e27 329 (by omega), e26 329 (by omega), e25 329 (by omega), e24 329 (by omega), e23 329 (by omega), e22 329 (by omega), e21 329 (by omega), e20 329 (by omega), e19 329 (by omega), e18 329 (by omega), e17 329 (by omega), e16 329 (by omega), e15 329 (by omega), e14 329 (by omega), e13 329 (by omega), e12 329 (by omega), e11 329 (by omega), e10 329 (by omega), e9 329 (by omega), e8 329 (by omega), e7 329 (by omega), e6 329 (by omega), e5 329 (by omega), e4 329 (by omega), e3 329 (by omega), e2 329 (by omega), e1 329 (by omega), hz]
  · rw [h1 329 (by omega), e49 329 (by omega), e48 329 (by omega), e47 329 (by omega), e46 329 (by omega), e45 329 (by omega), e44 329 (by omega), e43 329 (by omega), e42 329 (by omega), e41 329 (by omega), e40 329 (by omega), e39 329 (by omega), e38 329 (by omega), e37 329 (by omega), q36, uI_s, upd_s]
  · intro k hk
    rcases (show k = 0 ∨ k = 1 ∨ k = 2 ∨ k = 3 ∨ k = 4 ∨ k = 5 by omega) with rfl | rfl | rfl | rfl | rfl | rfl
    · show g' 330 0 = 0
      rw [h1 330 (by omega), e49 330 (by omega), e48 330 (by omega), e47 330 (by omega), e46 330 (by omega), e45 330 (by omega), e44 330 (by omega), e43 330 (by omega), e42 330 (by omega), e41 330 (by omega), e40 330 (by omega), e39 330 (by omega), e38 330 (by omega), e37 330 (by omega), e36 330 (by omega), e35 330 (by omega), e34 330 (by omega), e33 330 (by omega), e32 330 (by omega), e31 330 (by omega), e30 330 (by omega), e29 330 (by omega), e28 330 (by omega), e27 330 (by omega), e26 330 (by omega), e25 330 (by omega), e24 330 (by omega), e23 330 (by omega), e22 330 (by omega), e21 330 (by omega), e20 330 (by omega), e19 330 (by omega), e18 330 (by omega), e17 330 (by omega), e16 330 (by omega), e15 330 (by omega), e14 330 (by omega), e13 330 (by omega), e12 330 (by omega), e11 330 (by omega), e10 330 (by omega), e9 330 (by omega), e8 330 (by omega), e7 330 (by omega), e6 330 (by omega), e5 330 (by omega), e4 330 (by omega), e3 330 (by omega), e2 330 (by omega), z1]
    · show g' 331 0 = 0
      rw [h1 331 (by omega), e49 331 (by omega), e48 331 (by omega), e47 331 (by omega), e46 331 (by omega), e45 331 (by omega), e44 331 (by omega), e43 331 (by omega), e42 331 (by omega), e41 331 (by omega), e40 331 (by omega), e39 331 (by omega), e38 331 (by omega), e37 331 (by omega), e36 331 (by omega), e35 331 (by omega), e34 331 (by omega), e33 331 (by omega), e32 331 (by omega), e31 331 (by omega), e30 331 (by omega), e29 331 (by omega), e28 331 (by omega), e27 331 (by omega), e26 331 (by omega), e25 331 (by omega), e24 331 (by omega), e23 331 (by omega), e22 331 (by omega), e21 331 (by omega), e20 331 (by omega), e19 331 (by omega), e18 331 (by omega), e17 331 (by omega), e16 331 (by omega), e15 331 (by omega), e14 331 (by omega), e13 331 (by omega), e12 331 (by omega), e11 331 (by omega), e10 331 (by omega), e9 331 (by omega), e8 331 (by omega), e7 331 (by omega), e6 331 (by omega), e5 331 (by omega), e4 331 (by omega), e3 331 (by omega), z2]
    · show g' 332 0 = 0
      rw [h1 332 (by omega), e49 332 (by omega), e48 332 (by omega), e47 332 (by omega), e46 332 (by omega), e45 332 (by omega), e44 332 (by omega), e43 332 (by omega), e42 332 (by omega), e41 332 (by omega), e40 332 (by omega), e39 332 (by omega), e38 332 (by omega), e37 332 (by omega), e36 332 (by omega), e35 332 (by omega), e34 332 (by omega), e33 332 (by omega), e32 332 (by omega), e31 332 (by omega), e30 332 (by omega), e29 332 (by omega), e28 332 (by omega), e27 332 (by omega), e26 332 (by omega), e25 332 (by omega), e24 332 (by omega), e23 332 (by omega), e22 332 (by omega), e21 332 (by omega), e20 332 (by omega), e19 332 (by omega), e18 332 (by omega), e17 332 (by omega), e16 332 (by omega), e15 332 (by omega), e14 332 (by omega), e13 332 (by omega), e12 332 (by omega), e11 332 (by omega), e10 332 (by omega), e9 332 (by omega), e8 332 (by omega), e7 332 (by omega), e6 332 (by omega), e5 332 (by omega), e4 332 (by omega), z3]
    · show g' 333 0 = 0
      rw [h1 333 (by omega), e49 333 (by omega), e48 333 (by omega), e47 333 (by omega), e46 333 (by omega), e45 333 (by omega), e44 333 (by omega), e43 333 (by omega), e42 333 (by omega), e41 333 (by omega), e40 333 (by omega), e39 333 (by omega), e38 333 (by omega), e37 333 (by omega), e36 333 (by omega), e35 333 (by omega), e34 333 (by omega), e33 333 (by omega), e32 333 (by omega), e31 333 (by omega), e30 333 (by omega), e29 333 (by omega), e28 333 (by omega), e27 333 (by omega), e26 333 (by omega), e25 333 (by omega), e24 333 (by omega), e23 333 (by omega), e22 333 (by omega), e21 333 (by omega), e20 333 (by omega), e19 333 (by omega), e18 333 (by omega), e17 333 (by omega), e16 333 (by omega), e15 333 (by omega), e14 333 (by omega), e13 333 (by omega), e12 333 (by omega), e11 333 (by omega), e10 333 (by omega), e9 333 (by omega), e8 333 (by omega), e7 333 (by omega), e6 333 (by omega), e5 333 (by omega), z4]
    · show g' 334 0 = 0
      rw [h1 334 (by omega), e49 334 (by omega), e48 334 (by omega), e47 334 (by omega), e46 334 (by omega), e45 334 (by omega), e44 334 (by omega), e43 334 (by omega), e42 334 (by omega), e41 334 (by omega), e40 334 (by omega), e39 334 (by omega), e38 334 (by omega), e37 334 (by omega), e36 334 (by omega), e35 334 (by omega), e34 334 (by omega), e33 334 (by omega), e32 334 (by omega), e31 334 (by omega), e30 334 (by omega), e29 334 (by omega), e28 334 (by omega), e27 334 (by omega), e26 334 (by omega), e25 334 (by omega), e24 334 (by omega), e23 334 (by omega), e22 334 (by omega), e21 334 (by omega), e20 334 (by omega), e19 334 (by omega), e18 334 (by omega), e17 334 (by omega), e16 334 (by omega), e15 334 (by omega), e14 334 (by omega), e13 334 (by omega), e12 334 (by omega), e11 334 (by omega), e10 334 (by omega), e9 334 (by omega), e8 334 (by omega), e7 334 (by omega), e6 334 (by omega), z5]
    · show g' 335 0 = 0
      rw [h1 335 (by omega), e49 335 (by omega), e48 335 (by omega), e47 335 (by omega), e46 335 (by omega), e45 335 (by omega), e44 335 (by omega), e43 335 (by omega), e42 335 (by omega), e41 335 (by omega), e40 335 (by omega), e39 335 (by omega), e38 335 (by omega), e37 335 (by omega), e36 335 (by omega), e35 335 (by omega), e34 335 (by omega), e33 335 (by omega), e32 335 (by omega), e31 335 (by omega), e30 335 (by omega), e29 335 (by omega), e28 335 (by omega), e27 335 (by omega), e26 335 (by omega), e25 335 (by omega), e24 335 (by omega), e23 335 (by omega), e22 335 (by omega), e21 335 (by omega), e20 335 (by omega), e19 335 (by omega), e18 335 (by omega), e17 335 (by omega), e16 335 (by omega), e15 335 (by omega), e14 335 (by omega), e13 335 (by omega), e12 335 (by omega), e11 335 (by omega), e10 335 (by omega), e9 335 (by omega), e8 335 (by omega), e7 335 (by omega), z6]
  · rw [h1 355 (by omega), e49 355 (by omega), e48 355 (by omega), e47 355 (by omega), e46 355 (by omega), e45 355 (by omega), e44 355 (by omega), e43 355 (by omega), e42 355 (by omega), e41 355 (by omega), e40 355 (by omega), e39 355 (by omega), e38 355 (by omega), e37 355 (by omega), e36 355 (by omega), e35 355 (by omega), e34 355 (by omega), e33 355 (by omega), e32 355 (by omega), e31 355 (by omega), e30 355 (by omega), e29 355 (by omega), e28 355 (by omega), e27 355 (by omega), z26]
end NE5
