/-! THE CONSTRUCTORS, two: the small ones -/
/-- no nulls from a on -/
def Fz (a : Nat) (ν : Nat → Nat → Bool) : Prop := ∀ b j, a ≤ b → ν b j = false
theorem Fz.S {a a' c : Nat} {ν : Nat → Nat → Bool} {L : List Nat} (h : Fz a ν) (h1 : c < a') (h2 : a ≤ a') : Fz a' (nS ν c L) := fun b j hb => by
  rw [nS_n (by omega)]; exact h b j (by omega)
theorem nS_comm {ν : Nat → Nat → Bool} {a c : Nat} {L L' : List Nat} (h : c ≠ a) : nS (nS ν a L) c L' = nS (nS ν c L') a L := by
  funext b j
  unfold nS
  by_cases e : b = c
  · rw [if_pos e, if_neg (show ¬ b = a by omega), if_pos e]
  · rw [if_neg e, if_neg e]
theorem w_150 : Cond.arrayClass .int ∈ gtb := gtb_in 150 (by decide +kernel) (by decide +kernel)
theorem w_151 : Cond.arrayClass .long ∈ gtb := gtb_in 151 (by decide +kernel) (by decide +kernel)
section NB
variable {ν : Nat → Nat → Bool} {gi : Gi} {gl : Gl} {Q : Value → Kp → Gi → Gl → Prop} {a : Nat}
set_option maxRecDepth 100000 in
theorem k_X4_init (haN : a < NN) (haK : sK a = 4) (hν : Fz a ν) (h : ∀ g l, (∀ b, b < a → g b = gi b) → (∀ b, b < a → l b = gl b) → Q .null (a + 5, ν) g l) : PAt mX4_init (a + 1) (a + 5) (a + 1, nS ν a [0, 1, 2, 3]) 0 (ent 1 [.ref a]) [] gi gl Q := by
  show PAt mX4_init (a + 1) (a + 5) (a + 1, (nS ν a [0, 1, 2, 3])) 0 [some (.ref a)] [] gi gl Q
  refine px_aload_n dX4_init_0 rfl rfl ?_
  refine px_objInit dX4_init_1 haN w_163 w_125 w_126 (by decide) (by decide) ?_
  refine px_aload_n dX4_init_4 rfl rfl ?_
  refine px_bipush (v := (120 : Int32)) dX4_init_5 (by decide) ?_
  refine px_newI (a := a + 1) (n := 120) dX4_init_7 rfl ⟨(ly4_lt1 haN haK), by omega, by omega⟩ (ly4_k1 haN haK) (ly4_s1 haN haK) (by decide) rfl (by decide) w_150 (fun g1 l1 e1 f1 z1 => ?_)
  show PAt mX4_init (a + 1) (a + 5) (a + 2, (nS ν a [0, 1, 2, 3])) 9 [some (.ref a)] [.ref (a + 1), .ref a] g1 l1 Q
  refine px_putR (a := a) (ci := 4) (k := 0) (t := a + 1) (N := 4) (L := [1, 2, 3]) dX4_init_9 rfl (show a < a + 2 by omega) haK (by decide) (so_4 haK) rfl hu_4 (by decide) tyX4_ok nmX4 w_164 rfl rfl rfl (ly4_r0 haN haK) (ly4_lt1 haN haK) ⟨by decide +kernel, by decide +kernel⟩ (by decide +kernel) ?_
  show PAt mX4_init (a + 1) (a + 5) (a + 2, (nS ν a [1, 2, 3])) 12 [some (.ref a)] [] g1 l1 Q
  refine px_aload_n dX4_init_12 rfl rfl ?_
  refine px_sipush (v := (288 : Int32)) dX4_init_13 (by decide) ?_
  refine px_newI (a := a + 2) (n := 288) dX4_init_16 rfl ⟨(ly4_lt2 haN haK), by omega, by omega⟩ (ly4_k2 haN haK) (ly4_s2 haN haK) (by decide) rfl (by decide) w_150 (fun g2 l2 e2 f2 z2 => ?_)
  show PAt mX4_init (a + 1) (a + 5) (a + 3, (nS ν a [1, 2, 3])) 18 [some (.ref a)] [.ref (a + 2), .ref a] g2 l2 Q
  refine px_putR (a := a) (ci := 4) (k := 1) (t := a + 2) (N := 4) (L := [2, 3]) dX4_init_18 rfl (show a < a + 3 by omega) haK (by decide) (so_4 haK) rfl hu_4 (by decide) tyX4_ok nmX4 w_165 rfl rfl rfl (ly4_r1 haN haK) (ly4_lt2 haN haK) ⟨by decide +kernel, by decide +kernel⟩ (by decide +kernel) ?_
  show PAt mX4_init (a + 1) (a + 5) (a + 3, (nS ν a [2, 3])) 21 [some (.ref a)] [] g2 l2 Q
  refine px_aload_n dX4_init_21 rfl rfl ?_
  refine px_bipush (v := (12 : Int32)) dX4_init_22 (by decide) ?_
  refine px_newI (a := a + 3) (n := 12) dX4_init_24 rfl ⟨(ly4_lt3 haN haK), by omega, by omega⟩ (ly4_k3 haN haK) (ly4_s3 haN haK) (by decide) rfl (by decide) w_150 (fun g3 l3 e3 f3 z3 => ?_)
  show PAt mX4_init (a + 1) (a + 5) (a + 4, (nS ν a [2, 3])) 26 [some (.ref a)] [.ref (a + 3), .ref a] g3 l3 Q
  refine px_putR (a := a) (ci := 4) (k := 2) (t := a + 3) (N := 4) (L := [3]) dX4_init_26 rfl (show a < a + 4 by omega) haK (by decide) (so_4 haK) rfl hu_4 (by decide) tyX4_ok nmX4 w_166 rfl rfl rfl (ly4_r2 haN haK) (ly4_lt3 haN haK) ⟨by decide +kernel, by decide +kernel⟩ (by decide +kernel) ?_
  show PAt mX4_init (a + 1) (a + 5) (a + 4, (nS ν a [3])) 29 [some (.ref a)] [] g3 l3 Q
  refine px_aload_n dX4_init_29 rfl rfl ?_
  refine px_bipush (v := (12 : Int32)) dX4_init_30 (by decide) ?_
  refine px_newI (a := a + 4) (n := 12) dX4_init_32 rfl ⟨(ly4_lt4 haN haK), by omega, by omega⟩ (ly4_k4 haN haK) (ly4_s4 haN haK) (by decide) rfl (by decide) w_150 (fun g4 l4 e4 f4 z4 => ?_)
  show PAt mX4_init (a + 1) (a + 5) (a + 5, (nS ν a [3])) 34 [some (.ref a)] [.ref (a + 4), .ref a] g4 l4 Q
  refine px_putR (a := a) (ci := 4) (k := 3) (t := a + 4) (N := 4) (L := []) dX4_init_34 rfl (show a < a + 5 by omega) haK (by decide) (so_4 haK) rfl hu_4 (by decide) tyX4_ok nmX4 w_167 rfl rfl rfl (ly4_r3 haN haK) (ly4_lt4 haN haK) ⟨by decide +kernel, by decide +kernel⟩ (by decide +kernel) ?_
  rw [nS_0 (a := a) (ν := ν) (fun j => hν _ j (Nat.le_refl _))]
  show PAt mX4_init (a + 1) (a + 5) (a + 5, ν) 37 [some (.ref a)] [] g4 l4 Q
  exact px_return dX4_init_37 rfl rfl (h _ _ (fun b hb => by rw [e4 b (by omega), e3 b (by omega), e2 b (by omega), e1 b (by omega)]) (fun b hb => by rw [f4 b (by omega), f3 b (by omega), f2 b (by omega), f1 b (by omega)]))
set_option maxRecDepth 100000 in
theorem k_X5_init (haN : a < NN) (haK : sK a = 5) (hν : Fz a ν) (h : ∀ g l, (∀ b, b < a → g b = gi b) → (∀ b, b < a → l b = gl b) → Q .null (a + 7, ν) g l) : PAt mX5_init (a + 1) (a + 7) (a + 1, nS ν a [0, 1]) 0 (ent 1 [.ref a]) [] gi gl Q := by
  show PAt mX5_init (a + 1) (a + 7) (a + 1, (nS ν a [0, 1])) 0 [some (.ref a)] [] gi gl Q
  refine px_aload_n dX5_init_0 rfl rfl ?_
  refine px_objInit dX5_init_1 haN w_157 w_125 w_126 (by decide) (by decide) ?_
  refine px_aload_n dX5_init_4 rfl rfl ?_
  refine px_bipush (v := (60 : Int32)) dX5_init_5 (by decide) ?_
  refine px_newI (a := a + 1) (n := 60) dX5_init_7 rfl ⟨(ly5_lt1 haN haK), by omega, by omega⟩ (ly5_k1 haN haK) (ly5_s1 haN haK) (by decide) rfl (by decide) w_150 (fun g1 l1 e1 f1 z1 => ?_)
  show PAt mX5_init (a + 1) (a + 7) (a + 2, (nS ν a [0, 1])) 9 [some (.ref a)] [.ref (a + 1), .ref a] g1 l1 Q
  refine px_putR (a := a) (ci := 5) (k := 0) (t := a + 1) (N := 3) (L := [1]) dX5_init_9 rfl (show a < a + 2 by omega) haK (by decide) (so_5 haK) rfl hu_5 (by decide) tyX5_ok nmX5 w_177 rfl rfl rfl (ly5_r0 haN haK) (ly5_lt1 haN haK) ⟨by decide +kernel, by decide +kernel⟩ (by decide +kernel) ?_
  show PAt mX5_init (a + 1) (a + 7) (a + 2, (nS ν a [1])) 12 [some (.ref a)] [] g1 l1 Q
  refine px_aload_n dX5_init_12 rfl rfl ?_
  refine px_new (a := a + 2) (ci := 4) (C0 := RX4) (T := TX4) (N := 4) [0, 1, 2, 3] dX5_init_13 rfl ⟨(ly5_lt2 haN haK), by omega, by omega⟩ (ly5_k2 haN haK) (by decide) (ly5_s2 haN haK) rfl hu_4 tyX4_ok (by decide +kernel) ⟨w_158, w_159, w_101⟩ (fun g2 l2 e2 f2 z2 => ?_)
  refine px_dup dX5_init_16 rfl ?_
  refine px_callIN_V (nY := a + 7) (As := []) (st := [.ref (a + 2), .ref a]) dX5_init_17 lk_X5_17.1 lk_X5_17.2 (b := a + 2) (ly5_lt2 haN haK) (by decide) rfl (Nat.le_of_ble_eq_true rfl) rfl rfl (Nat.le_of_ble_eq_true rfl) (show a + 1 ≤ a + 3 ∧ a + 3 ≤ a + 7 ∧ a + 7 ≤ a + 7 by omega) ?_
  refine k_X4_init (a := (a + 2)) (ly5_lt2 haN haK) (ly5_k2 haN haK) (Fz.S hν (by omega) (by omega)) (fun g3 l3 e3 f3 => ?_)
  show PAt mX5_init (a + 1) (a + 7) (a + 7, (nS ν a [1])) 20 [some (.ref a)] [.ref (a + 2), .ref a] g3 l3 Q
  refine px_putR (a := a) (ci := 5) (k := 1) (t := a + 2) (N := 3) (L := []) dX5_init_20 rfl (show a < a + 7 by omega) haK (by decide) (so_5 haK) rfl hu_5 (by decide) tyX5_ok nmX5 w_178 rfl rfl rfl (ly5_r1 haN haK) (ly5_lt2 haN haK) ⟨by decide +kernel, by decide +kernel⟩ (by decide +kernel) ?_
  rw [nS_0 (a := a) (ν := ν) (fun j => hν _ j (Nat.le_refl _))]
  show PAt mX5_init (a + 1) (a + 7) (a + 7, ν) 23 [some (.ref a)] [] g3 l3 Q
  exact px_return dX5_init_23 rfl rfl (h _ _ (fun b hb => by rw [e3 b (by omega), e2 b (by omega), e1 b (by omega)]) (fun b hb => by rw [f3 b (by omega), f2 b (by omega), f1 b (by omega)]))
set_option maxRecDepth 100000 in
theorem k_X10_init (haN : a < NN) (haK : sK a = 10) (hν : Fz a ν) (h : ∀ g l, (∀ b, b < a → g b = gi b) → (∀ b, b < a → l b = gl b) → (∀ j, g (a + 1) j = 0) → (∀ j, g (a + 4) j = 0) → Q .null (a + 6, ν) g l) : PAt mX10_init (a + 1) (a + 6) (a + 1, nS ν a [0, 1, 2, 3, 4]) 0 (ent 1 [.ref a]) [] gi gl Q := by
  show PAt mX10_init (a + 1) (a + 6) (a + 1, (nS ν a [0, 1, 2, 3, 4])) 0 [some (.ref a)] [] gi gl Q
  refine px_aload_n dX10_init_0 rfl rfl ?_
  refine px_objInit dX10_init_1 haN w_132 w_125 w_126 (by decide) (by decide) ?_
  refine px_aload_n dX10_init_4 rfl rfl ?_
  refine px_bipush (v := (6 : Int32)) dX10_init_5 (by decide) ?_
  refine px_newI (a := a + 1) (n := 6) dX10_init_7 rfl ⟨(ly10_lt1 haN haK), by omega, by omega⟩ (ly10_k1 haN haK) (ly10_s1 haN haK) (by decide) rfl (by decide) w_150 (fun g1 l1 e1 f1 z1 => ?_)
  show PAt mX10_init (a + 1) (a + 6) (a + 2, (nS ν a [0, 1, 2, 3, 4])) 9 [some (.ref a)] [.ref (a + 1), .ref a] g1 l1 Q
  refine px_putR (a := a) (ci := 10) (k := 0) (t := a + 1) (N := 5) (L := [1, 2, 3, 4]) dX10_init_9 rfl (show a < a + 2 by omega) haK (by decide) (so_10 haK) rfl hu_10 (by decide) tyX10_ok nmX10 w_133 rfl rfl rfl (ly10_r0 haN haK) (ly10_lt1 haN haK) ⟨by decide +kernel, by decide +kernel⟩ (by decide +kernel) ?_
  show PAt mX10_init (a + 1) (a + 6) (a + 2, (nS ν a [1, 2, 3, 4])) 12 [some (.ref a)] [] g1 l1 Q
  refine px_aload_n dX10_init_12 rfl rfl ?_
  refine px_bipush (v := (48 : Int32)) dX10_init_13 (by decide) ?_
  refine px_newJ (a := a + 2) (n := 48) dX10_init_15 rfl ⟨(ly10_lt2 haN haK), by omega, by omega⟩ (ly10_k2 haN haK) (ly10_s2 haN haK) (by decide) rfl (by decide) w_151 (fun g2 l2 e2 f2 z2 => ?_)
  show PAt mX10_init (a + 1) (a + 6) (a + 3, (nS ν a [1, 2, 3, 4])) 17 [some (.ref a)] [.ref (a + 2), .ref a] g2 l2 Q
  refine px_putR (a := a) (ci := 10) (k := 1) (t := a + 2) (N := 5) (L := [2, 3, 4]) dX10_init_17 rfl (show a < a + 3 by omega) haK (by decide) (so_10 haK) rfl hu_10 (by decide) tyX10_ok nmX10 w_134 rfl rfl rfl (ly10_r1 haN haK) (ly10_lt2 haN haK) ⟨by decide +kernel, by decide +kernel⟩ (by decide +kernel) ?_
  show PAt mX10_init (a + 1) (a + 6) (a + 3, (nS ν a [2, 3, 4])) 20 [some (.ref a)] [] g2 l2 Q
  refine px_aload_n dX10_init_20 rfl rfl ?_
  refine px_sipush (v := (192 : Int32)) dX10_init_21 (by decide) ?_
  refine px_newI (a := a + 3) (n := 192) dX10_init_24 rfl ⟨(ly10_lt3 haN haK), by omega, by omega⟩ (ly10_k3 haN haK) (ly10_s3 haN haK) (by decide) rfl (by decide) w_150 (fun g3 l3 e3 f3 z3 => ?_)
  show PAt mX10_init (a + 1) (a + 6) (a + 4, (nS ν a [2, 3, 4])) 26 [some (.ref a)] [.ref (a + 3), .ref a] g3 l3 Q
  refine px_putR (a := a) (ci := 10) (k := 2) (t := a + 3) (N := 5) (L := [3, 4]) dX10_init_26 rfl (show a < a + 4 by omega) haK (by decide) (so_10 haK) rfl hu_10 (by decide) tyX10_ok nmX10 w_135 rfl rfl rfl (ly10_r2 haN haK) (ly10_lt3 haN haK) ⟨by decide +kernel, by decide +kernel⟩ (by decide +kernel) ?_
  show PAt mX10_init (a + 1) (a + 6) (a + 4, (nS ν a [3, 4])) 29 [some (.ref a)] [] g3 l3 Q
  refine px_aload_n dX10_init_29 rfl rfl ?_
  refine px_bipush (v := (12 : Int32)) dX10_init_30 (by decide) ?_
  refine px_newI (a := a + 4) (n := 12) dX10_init_32 rfl ⟨(ly10_lt4 haN haK), by omega, by omega⟩ (ly10_k4 haN haK) (ly10_s4 haN haK) (by decide) rfl (by decide) w_150 (fun g4 l4 e4 f4 z4 => ?_)
  show PAt mX10_init (a + 1) (a + 6) (a + 5, (nS ν a [3, 4])) 34 [some (.ref a)] [.ref (a + 4), .ref a] g4 l4 Q
  refine px_putR (a := a) (ci := 10) (k := 3) (t := a + 4) (N := 5) (L := [4]) dX10_init_34 rfl (show a < a + 5 by omega) haK (by decide) (so_10 haK) rfl hu_10 (by decide) tyX10_ok nmX10 w_136 rfl rfl rfl (ly10_r3 haN haK) (ly10_lt4 haN haK) ⟨by decide +kernel, by decide +kernel⟩ (by decide +kernel) ?_
  show PAt mX10_init (a + 1) (a + 6) (a + 5, (nS ν a [4])) 37 [some (.ref a)] [] g4 l4 Q
  refine px_aload_n dX10_init_37 rfl rfl ?_
  refine px_sipush (v := (1440 : Int32)) dX10_init_38 (by decide) ?_
  refine px_newI (a := a + 5) (n := 1440) dX10_init_41 rfl ⟨(ly10_lt5 haN haK), by omega, by omega⟩ (ly10_k5 haN haK) (ly10_s5 haN haK) (by decide) rfl (by decide) w_150 (fun g5 l5 e5 f5 z5 => ?_)
  show PAt mX10_init (a + 1) (a + 6) (a + 6, (nS ν a [4])) 43 [some (.ref a)] [.ref (a + 5), .ref a] g5 l5 Q
  refine px_putR (a := a) (ci := 10) (k := 4) (t := a + 5) (N := 5) (L := []) dX10_init_43 rfl (show a < a + 6 by omega) haK (by decide) (so_10 haK) rfl hu_10 (by decide) tyX10_ok nmX10 w_137 rfl rfl rfl (ly10_r4 haN haK) (ly10_lt5 haN haK) ⟨by decide +kernel, by decide +kernel⟩ (by decide +kernel) ?_
  rw [nS_0 (a := a) (ν := ν) (fun j => hν _ j (Nat.le_refl _))]
  show PAt mX10_init (a + 1) (a + 6) (a + 6, ν) 46 [some (.ref a)] [] g5 l5 Q
  exact px_return dX10_init_46 rfl rfl (h _ _ (fun b hb => by rw [e5 b (by omega), e4 b (by omega), e3 b (by omega), e2 b (by omega), e1 b (by omega)]) (fun b hb => by rw [f5 b (by omega), f4 b (by omega), f3 b (by omega), f2 b (by omega), f1 b (by omega)]) (fun j => by rw [e5 (a + 1) (by omega), e4 (a + 1) (by omega), e3 (a + 1) (by omega), e2 (a + 1) (by omega), z1]) (fun j => by rw [e5 (a + 4) (by omega), z4]))
set_option maxRecDepth 100000 in
theorem k_X8_init (hν : Fz 22 ν) (h : ∀ g l, (∀ b, b < 22 → g b = gi b) → (∀ b, b < 22 → l b = gl b) → Q .null (23, ν) g l) : PAt mX8_init (23) (23) (23, nS ν 22 [0]) 0 (ent 2 [.ref 22, .ref 1]) [] gi gl Q := by
  show PAt mX8_init (23) (23) (23, (nS ν 22 [0])) 0 [some (.ref 22), some (.ref 1)] [] gi gl Q
  refine px_aload_n dX8_init_0 rfl rfl ?_
  refine px_objInit dX8_init_1 (by decide +kernel) w_198 w_125 w_126 (by decide) (by decide) ?_
  refine px_aload_n dX8_init_4 rfl rfl ?_
  refine px_aload_n dX8_init_5 rfl rfl ?_
  refine px_putR (a := 22) (ci := 8) (k := 0) (t := 1) (N := 5) (L := []) dX8_init_6 rfl (show 22 < 23 by omega) (by decide +kernel) (by decide) (by decide +kernel) rfl hu_8 (by decide) tyX8_ok nmX8 w_199 rfl rfl rfl (by decide +kernel) (by decide +kernel) ⟨by decide +kernel, by decide +kernel⟩ (by decide +kernel) ?_
  rw [nS_0 (a := 22) (ν := ν) (fun j => hν _ j (Nat.le_refl _))]
  show PAt mX8_init (23) (23) (23, ν) 9 [some (.ref 22), some (.ref 1)] [] gi gl Q
  exact px_return dX8_init_9 rfl rfl (h _ _ (fun b hb => rfl) (fun b hb => rfl))
set_option maxRecDepth 100000 in
theorem k_X7_init (hν : Fz 21 ν) (h : ∀ g l, (∀ b, b < 21 → g b = gi b) → (∀ b, b < 21 → l b = gl b) → Q .null (23, ν) g l) : PAt mX7_init (22) (23) (22, nS ν 21 [0, 1, 2, 3]) 0 (ent 5 [.ref 21, .ref 1, .ref 2, .ref 8, .ref 14]) [] gi gl Q := by
  show PAt mX7_init (22) (23) (22, (nS ν 21 [0, 1, 2, 3])) 0 [some (.ref 21), some (.ref 1), some (.ref 2), some (.ref 8), some (.ref 14)] [] gi gl Q
  refine px_aload_n dX7_init_0 rfl rfl ?_
  refine px_objInit dX7_init_1 (by decide +kernel) w_192 w_125 w_126 (by decide) (by decide) ?_
  refine px_aload_n dX7_init_4 rfl rfl ?_
  refine px_new (a := 22) (ci := 8) (C0 := RX8) (T := TX8) (N := 5) [0] dX7_init_5 rfl ⟨(by decide +kernel), by omega, by omega⟩ (by decide +kernel) (by decide) (by decide +kernel) rfl hu_8 tyX8_ok (by decide +kernel) ⟨w_193, w_194, w_103⟩ (fun g1 l1 e1 f1 z1 => ?_)
  refine px_dup dX7_init_8 rfl ?_
  refine px_aload_n dX7_init_9 rfl rfl ?_
  refine px_callI_V (nY := 23) (As := [.ref 1]) (st := [.ref 22, .ref 21]) dX7_init_10 lk_X7_13.1 lk_X7_13.2 (b := 22) (by decide +kernel) (by decide) rfl (Nat.le_of_ble_eq_true rfl) rfl rfl (Nat.le_of_ble_eq_true rfl) (show 22 ≤ 23 ∧ 23 ≤ 23 ∧ 23 ≤ 23 by omega) ?_
  refine k_X8_init (Fz.S hν (by omega) (by omega)) (fun g2 l2 e2 f2 => ?_)
  show PAt mX7_init (22) (23) (23, (nS ν 21 [0, 1, 2, 3])) 13 [some (.ref 21), some (.ref 1), some (.ref 2), some (.ref 8), some (.ref 14)] [.ref 22, .ref 21] g2 l2 Q
  refine px_putR (a := 21) (ci := 7) (k := 0) (t := 22) (N := 4) (L := [1, 2, 3]) dX7_init_13 rfl (show 21 < 23 by omega) (by decide +kernel) (by decide) (by decide +kernel) rfl hu_7 (by decide) tyX7_ok nmX7 w_215 rfl rfl rfl (by decide +kernel) (by decide +kernel) ⟨by decide +kernel, by decide +kernel⟩ (by decide +kernel) ?_
  show PAt mX7_init (22) (23) (23, (nS ν 21 [1, 2, 3])) 16 [some (.ref 21), some (.ref 1), some (.ref 2), some (.ref 8), some (.ref 14)] [] g2 l2 Q
  refine px_aload_n dX7_init_16 rfl rfl ?_
  refine px_aload_n dX7_init_17 rfl rfl ?_
  refine px_putR (a := 21) (ci := 7) (k := 1) (t := 2) (N := 4) (L := [2, 3]) dX7_init_18 rfl (show 21 < 23 by omega) (by decide +kernel) (by decide) (by decide +kernel) rfl hu_7 (by decide) tyX7_ok nmX7 w_216 rfl rfl rfl (by decide +kernel) (by decide +kernel) ⟨by decide +kernel, by decide +kernel⟩ (by decide +kernel) ?_
  show PAt mX7_init (22) (23) (23, (nS ν 21 [2, 3])) 21 [some (.ref 21), some (.ref 1), some (.ref 2), some (.ref 8), some (.ref 14)] [] g2 l2 Q
  refine px_aload_n dX7_init_21 rfl rfl ?_
  refine px_aload_n dX7_init_22 rfl rfl ?_
  refine px_putR (a := 21) (ci := 7) (k := 2) (t := 8) (N := 4) (L := [3]) dX7_init_23 rfl (show 21 < 23 by omega) (by decide +kernel) (by decide) (by decide +kernel) rfl hu_7 (by decide) tyX7_ok nmX7 w_217 rfl rfl rfl (by decide +kernel) (by decide +kernel) ⟨by decide +kernel, by decide +kernel⟩ (by decide +kernel) ?_
  show PAt mX7_init (22) (23) (23, (nS ν 21 [3])) 26 [some (.ref 21), some (.ref 1), some (.ref 2), some (.ref 8), some (.ref 14)] [] g2 l2 Q
  refine px_aload_n dX7_init_26 rfl rfl ?_
  refine px_aload dX7_init_27 rfl ?_
  refine px_putR (a := 21) (ci := 7) (k := 3) (t := 14) (N := 4) (L := []) dX7_init_29 rfl (show 21 < 23 by omega) (by decide +kernel) (by decide) (by decide +kernel) rfl hu_7 (by decide) tyX7_ok nmX7 w_218 rfl rfl rfl (by decide +kernel) (by decide +kernel) ⟨by decide +kernel, by decide +kernel⟩ (by decide +kernel) ?_
  rw [nS_0 (a := 21) (ν := ν) (fun j => hν _ j (Nat.le_refl _))]
  show PAt mX7_init (22) (23) (23, ν) 32 [some (.ref 21), some (.ref 1), some (.ref 2), some (.ref 8), some (.ref 14)] [] g2 l2 Q
  exact px_return dX7_init_32 rfl rfl (h _ _ (fun b hb => by rw [e2 b (by omega), e1 b (by omega)]) (fun b hb => by rw [f2 b (by omega), f1 b (by omega)]))
set_option maxRecDepth 100000 in
theorem k_X9_init (hν : Fz 23 ν) (h : ∀ g l, (∀ b, b < 23 → g b = gi b) → (∀ b, b < 23 → l b = gl b) → Q .null (24, ν) g l) : PAt mX9_init (24) (24) (24, nS ν 23 [0]) 0 (ent 2 [.ref 23, .ref 2]) [] gi gl Q := by
  show PAt mX9_init (24) (24) (24, (nS ν 23 [0])) 0 [some (.ref 23), some (.ref 2)] [] gi gl Q
  refine px_aload_n dX9_init_0 rfl rfl ?_
  refine px_objInit dX9_init_1 (by decide +kernel) w_233 w_125 w_126 (by decide) (by decide) ?_
  refine px_aload_n dX9_init_4 rfl rfl ?_
  refine px_iconst (v := (1 : Int32)) dX9_init_5 (by decide) ?_
  refine pf_X9_9 rfl dX9_init_6 (show 23 < 24 by omega) (by decide +kernel) ?_
  obtain ⟨g1, q1⟩ : ∃ y : Gi, y = uI gi 23 (upd (gi 23) 6 (1 : Int32)) := ⟨_, rfl⟩
  refine px_namegi q1 ?_
  have e1 : ∀ b, b ≠ 23 → g1 b = gi b := fun b hb => by rw [q1, uI_n hb]
  show PAt mX9_init (24) (24) (24, (nS ν 23 [0])) 9 [some (.ref 23), some (.ref 2)] [] g1 gl Q
  refine px_aload_n dX9_init_9 rfl rfl ?_
  refine px_aload_n dX9_init_10 rfl rfl ?_
  refine px_putR (a := 23) (ci := 9) (k := 0) (t := 2) (N := 7) (L := []) dX9_init_11 rfl (show 23 < 24 by omega) (by decide +kernel) (by decide) (by decide +kernel) rfl hu_9 (by decide) tyX9_ok nmX9 w_234 rfl rfl rfl (by decide +kernel) (by decide +kernel) ⟨by decide +kernel, by decide +kernel⟩ (by decide +kernel) ?_
  rw [nS_0 (a := 23) (ν := ν) (fun j => hν _ j (Nat.le_refl _))]
  show PAt mX9_init (24) (24) (24, ν) 14 [some (.ref 23), some (.ref 2)] [] g1 gl Q
  exact px_return dX9_init_14 rfl rfl (h _ _ (fun b hb => by rw [e1 b (by omega)]) (fun b hb => rfl))
set_option maxRecDepth 100000 in
theorem k_X2_init (hν : Fz 24 ν) (h : ∀ g l, (∀ b, b < 24 → g b = gi b) → (∀ b, b < 24 → l b = gl b) → Q .null (25, ν) g l) : PAt mX2_init (25) (25) (25, nS ν 24 [0, 1]) 0 (ent 3 [.ref 24, .ref 2, .ref 23]) [] gi gl Q := by
  show PAt mX2_init (25) (25) (25, (nS ν 24 [0, 1])) 0 [some (.ref 24), some (.ref 2), some (.ref 23)] [] gi gl Q
  refine px_aload_n dX2_init_0 rfl rfl ?_
  refine px_objInit dX2_init_1 (by decide +kernel) w_261 w_125 w_126 (by decide) (by decide) ?_
  refine px_aload_n dX2_init_4 rfl rfl ?_
  refine px_aload_n dX2_init_5 rfl rfl ?_
  refine px_putR (a := 24) (ci := 2) (k := 0) (t := 2) (N := 2) (L := [1]) dX2_init_6 rfl (show 24 < 25 by omega) (by decide +kernel) (by decide) (by decide +kernel) rfl hu_2 (by decide) tyX2_ok nmX2 w_262 rfl rfl rfl (by decide +kernel) (by decide +kernel) ⟨by decide +kernel, by decide +kernel⟩ (by decide +kernel) ?_
  show PAt mX2_init (25) (25) (25, (nS ν 24 [1])) 9 [some (.ref 24), some (.ref 2), some (.ref 23)] [] gi gl Q
  refine px_aload_n dX2_init_9 rfl rfl ?_
  refine px_aload_n dX2_init_10 rfl rfl ?_
  refine px_putR (a := 24) (ci := 2) (k := 1) (t := 23) (N := 2) (L := []) dX2_init_11 rfl (show 24 < 25 by omega) (by decide +kernel) (by decide) (by decide +kernel) rfl hu_2 (by decide) tyX2_ok nmX2 w_263 rfl rfl rfl (by decide +kernel) (by decide +kernel) ⟨by decide +kernel, by decide +kernel⟩ (by decide +kernel) ?_
  rw [nS_0 (a := 24) (ν := ν) (fun j => hν _ j (Nat.le_refl _))]
  show PAt mX2_init (25) (25) (25, ν) 14 [some (.ref 24), some (.ref 2), some (.ref 23)] [] gi gl Q
  exact px_return dX2_init_14 rfl rfl (h _ _ (fun b hb => rfl) (fun b hb => rfl))
set_option maxRecDepth 100000 in
theorem k_X6_init (hν : Fz 25 ν) (h : ∀ g l, (∀ b, b < 25 → g b = gi b) → (∀ b, b < 25 → l b = gl b) → (∀ j, g 25 j = gi 25 j) → (∀ j, g 27 j = 0) → Q .null (30, ν) g l) : PAt mX6_init (26) (30) (26, nS ν 25 [1, 2, 3, 4, 0]) 0 (ent 2 [.ref 25, .ref 24]) [] gi gl Q := by
  show PAt mX6_init (26) (30) (26, (nS ν 25 [1, 2, 3, 4, 0])) 0 [some (.ref 25), some (.ref 24)] [] gi gl Q
  refine px_aload_n dX6_init_0 rfl rfl ?_
  refine px_objInit dX6_init_1 (by decide +kernel) w_274 w_125 w_126 (by decide) (by decide) ?_
  refine px_aload_n dX6_init_4 rfl rfl ?_
  refine px_sipush (v := (4096 : Int32)) dX6_init_5 (by decide) ?_
  refine px_newI (a := 26) (n := 4096) dX6_init_8 rfl ⟨(by decide +kernel), by omega, by omega⟩ (by decide +kernel) (by decide +kernel) (by decide) rfl (by decide) w_150 (fun g1 l1 e1 f1 z1 => ?_)
  show PAt mX6_init (26) (30) (27, (nS ν 25 [1, 2, 3, 4, 0])) 10 [some (.ref 25), some (.ref 24)] [.ref 26, .ref 25] g1 l1 Q
  refine px_putR (a := 25) (ci := 6) (k := 1) (t := 26) (N := 8) (L := [2, 3, 4, 0]) dX6_init_10 rfl (show 25 < 27 by omega) (by decide +kernel) (by decide) (by decide +kernel) rfl hu_6 (by decide) tyX6_ok nmX6 w_276 rfl rfl rfl (by decide +kernel) (by decide +kernel) ⟨by decide +kernel, by decide +kernel⟩ (by decide +kernel) ?_
  show PAt mX6_init (26) (30) (27, (nS ν 25 [2, 3, 4, 0])) 13 [some (.ref 25), some (.ref 24)] [] g1 l1 Q
  refine px_aload_n dX6_init_13 rfl rfl ?_
  refine px_sipush (v := (4096 : Int32)) dX6_init_14 (by decide) ?_
  refine px_newI (a := 27) (n := 4096) dX6_init_17 rfl ⟨(by decide +kernel), by omega, by omega⟩ (by decide +kernel) (by decide +kernel) (by decide) rfl (by decide) w_150 (fun g2 l2 e2 f2 z2 => ?_)
  show PAt mX6_init (26) (30) (28, (nS ν 25 [2, 3, 4, 0])) 19 [some (.ref 25), some (.ref 24)] [.ref 27, .ref 25] g2 l2 Q
  refine px_putR (a := 25) (ci := 6) (k := 2) (t := 27) (N := 8) (L := [3, 4, 0]) dX6_init_19 rfl (show 25 < 28 by omega) (by decide +kernel) (by decide) (by decide +kernel) rfl hu_6 (by decide) tyX6_ok nmX6 w_277 rfl rfl rfl (by decide +kernel) (by decide +kernel) ⟨by decide +kernel, by decide +kernel⟩ (by decide +kernel) ?_
  show PAt mX6_init (26) (30) (28, (nS ν 25 [3, 4, 0])) 22 [some (.ref 25), some (.ref 24)] [] g2 l2 Q
  refine px_aload_n dX6_init_22 rfl rfl ?_
  refine px_sipush (v := (1020 : Int32)) dX6_init_23 (by decide) ?_
  refine px_newI (a := 28) (n := 1020) dX6_init_26 rfl ⟨(by decide +kernel), by omega, by omega⟩ (by decide +kernel) (by decide +kernel) (by decide) rfl (by decide) w_150 (fun g3 l3 e3 f3 z3 => ?_)
  show PAt mX6_init (26) (30) (29, (nS ν 25 [3, 4, 0])) 28 [some (.ref 25), some (.ref 24)] [.ref 28, .ref 25] g3 l3 Q
  refine px_putR (a := 25) (ci := 6) (k := 3) (t := 28) (N := 8) (L := [4, 0]) dX6_init_28 rfl (show 25 < 29 by omega) (by decide +kernel) (by decide) (by decide +kernel) rfl hu_6 (by decide) tyX6_ok nmX6 w_278 rfl rfl rfl (by decide +kernel) (by decide +kernel) ⟨by decide +kernel, by decide +kernel⟩ (by decide +kernel) ?_
  show PAt mX6_init (26) (30) (29, (nS ν 25 [4, 0])) 31 [some (.ref 25), some (.ref 24)] [] g3 l3 Q
  refine px_aload_n dX6_init_31 rfl rfl ?_
  refine px_bipush (v := (12 : Int32)) dX6_init_32 (by decide) ?_
  refine px_newI (a := 29) (n := 12) dX6_init_34 rfl ⟨(by decide +kernel), by omega, by omega⟩ (by decide +kernel) (by decide +kernel) (by decide) rfl (by decide) w_150 (fun g4 l4 e4 f4 z4 => ?_)
  show PAt mX6_init (26) (30) (30, (nS ν 25 [4, 0])) 36 [some (.ref 25), some (.ref 24)] [.ref 29, .ref 25] g4 l4 Q
  refine px_putR (a := 25) (ci := 6) (k := 4) (t := 29) (N := 8) (L := [0]) dX6_init_36 rfl (show 25 < 30 by omega) (by decide +kernel) (by decide) (by decide +kernel) rfl hu_6 (by decide) tyX6_ok nmX6 w_279 rfl rfl rfl (by decide +kernel) (by decide +kernel) ⟨by decide +kernel, by decide +kernel⟩ (by decide +kernel) ?_
  show PAt mX6_init (26) (30) (30, (nS ν 25 [0])) 39 [some (.ref 25), some (.ref 24)] [] g4 l4 Q
  refine px_aload_n dX6_init_39 rfl rfl ?_
  refine px_aload_n dX6_init_40 rfl rfl ?_
  refine px_putR (a := 25) (ci := 6) (k := 0) (t := 24) (N := 8) (L := []) dX6_init_41 rfl (show 25 < 30 by omega) (by decide +kernel) (by decide) (by decide +kernel) rfl hu_6 (by decide) tyX6_ok nmX6 w_275 rfl rfl rfl (by decide +kernel) (by decide +kernel) ⟨by decide +kernel, by decide +kernel⟩ (by decide +kernel) ?_
  rw [nS_0 (a := 25) (ν := ν) (fun j => hν _ j (Nat.le_refl _))]
  show PAt mX6_init (26) (30) (30, ν) 44 [some (.ref 25), some (.ref 24)] [] g4 l4 Q
  exact px_return dX6_init_44 rfl rfl (h _ _ (fun b hb => by rw [e4 b (by omega), e3 b (by omega), e2 b (by omega), e1 b (by omega)]) (fun b hb => by rw [f4 b (by omega), f3 b (by omega), f2 b (by omega), f1 b (by omega)]) (fun j => by rw [e4 25 (by omega), e3 25 (by omega), e2 25 (by omega), e1 25 (by omega)]) (fun j => by rw [e4 27 (by omega), e3 27 (by omega), z2]))
set_option maxRecDepth 100000 in
theorem k_X1_init (hν : Fz 30 ν) (h : ∀ g l, (∀ b, b < 30 → g b = gi b) → (∀ b, b < 30 → l b = gl b) → Q .null (31, ν) g l) : PAt mX1_init (31) (31) (31, nS ν 30 [0]) 0 (ent 2 [.ref 30, .ref 2]) [] gi gl Q := by
  show PAt mX1_init (31) (31) (31, (nS ν 30 [0])) 0 [some (.ref 30), some (.ref 2)] [] gi gl Q
  refine px_aload_n dX1_init_0 rfl rfl ?_
  refine px_objInit dX1_init_1 (by decide +kernel) w_305 w_125 w_126 (by decide) (by decide) ?_
  refine px_aload_n dX1_init_4 rfl rfl ?_
  refine px_aload_n dX1_init_5 rfl rfl ?_
  refine px_putR (a := 30) (ci := 1) (k := 0) (t := 2) (N := 1) (L := []) dX1_init_6 rfl (show 30 < 31 by omega) (by decide +kernel) (by decide) (by decide +kernel) rfl hu_1 (by decide) tyX1_ok nmX1 w_306 rfl rfl rfl (by decide +kernel) (by decide +kernel) ⟨by decide +kernel, by decide +kernel⟩ (by decide +kernel) ?_
  rw [nS_0 (a := 30) (ν := ν) (fun j => hν _ j (Nat.le_refl _))]
  show PAt mX1_init (31) (31) (31, ν) 9 [some (.ref 30), some (.ref 2)] [] gi gl Q
  exact px_return dX1_init_9 rfl rfl (h _ _ (fun b hb => rfl) (fun b hb => rfl))
set_option maxRecDepth 100000 in
theorem k_X3_init (hν : Fz 31 ν) (h : ∀ g l, (∀ b, b < 31 → g b = gi b) → (∀ b, b < 31 → l b = gl b) → Q .null (33, ν) g l) : PAt mX3_init (32) (33) (32, nS ν 31 [2, 0, 1]) 0 (ent 3 [.ref 31, .ref 2, .ref 24]) [] gi gl Q := by
  show PAt mX3_init (32) (33) (32, (nS ν 31 [2, 0, 1])) 0 [some (.ref 31), some (.ref 2), some (.ref 24)] [] gi gl Q
  refine px_aload_n dX3_init_0 rfl rfl ?_
  refine px_objInit dX3_init_1 (by decide +kernel) w_315 w_125 w_126 (by decide) (by decide) ?_
  refine px_aload_n dX3_init_4 rfl rfl ?_
  refine px_sipush (v := (3601 : Int32)) dX3_init_5 (by decide) ?_
  refine px_newI (a := 32) (n := 3601) dX3_init_8 rfl ⟨(by decide +kernel), by omega, by omega⟩ (by decide +kernel) (by decide +kernel) (by decide) rfl (by decide) w_150 (fun g1 l1 e1 f1 z1 => ?_)
  show PAt mX3_init (32) (33) (33, (nS ν 31 [2, 0, 1])) 10 [some (.ref 31), some (.ref 2), some (.ref 24)] [.ref 32, .ref 31] g1 l1 Q
  refine px_putR (a := 31) (ci := 3) (k := 2) (t := 32) (N := 7) (L := [0, 1]) dX3_init_10 rfl (show 31 < 33 by omega) (by decide +kernel) (by decide) (by decide +kernel) rfl hu_3 (by decide) tyX3_ok nmX3 w_318 rfl rfl rfl (by decide +kernel) (by decide +kernel) ⟨by decide +kernel, by decide +kernel⟩ (by decide +kernel) ?_
  show PAt mX3_init (32) (33) (33, (nS ν 31 [0, 1])) 13 [some (.ref 31), some (.ref 2), some (.ref 24)] [] g1 l1 Q
  refine px_aload_n dX3_init_13 rfl rfl ?_
  refine px_aload_n dX3_init_14 rfl rfl ?_
  refine px_putR (a := 31) (ci := 3) (k := 0) (t := 2) (N := 7) (L := [1]) dX3_init_15 rfl (show 31 < 33 by omega) (by decide +kernel) (by decide) (by decide +kernel) rfl hu_3 (by decide) tyX3_ok nmX3 w_316 rfl rfl rfl (by decide +kernel) (by decide +kernel) ⟨by decide +kernel, by decide +kernel⟩ (by decide +kernel) ?_
  show PAt mX3_init (32) (33) (33, (nS ν 31 [1])) 18 [some (.ref 31), some (.ref 2), some (.ref 24)] [] g1 l1 Q
  refine px_aload_n dX3_init_18 rfl rfl ?_
  refine px_aload_n dX3_init_19 rfl rfl ?_
  refine px_putR (a := 31) (ci := 3) (k := 1) (t := 24) (N := 7) (L := []) dX3_init_20 rfl (show 31 < 33 by omega) (by decide +kernel) (by decide) (by decide +kernel) rfl hu_3 (by decide) tyX3_ok nmX3 w_317 rfl rfl rfl (by decide +kernel) (by decide +kernel) ⟨by decide +kernel, by decide +kernel⟩ (by decide +kernel) ?_
  rw [nS_0 (a := 31) (ν := ν) (fun j => hν _ j (Nat.le_refl _))]
  show PAt mX3_init (32) (33) (33, ν) 23 [some (.ref 31), some (.ref 2), some (.ref 24)] [] g1 l1 Q
  exact px_return dX3_init_23 rfl rfl (h _ _ (fun b hb => by rw [e1 b (by omega)]) (fun b hb => by rw [f1 b (by omega)]))
end NB
