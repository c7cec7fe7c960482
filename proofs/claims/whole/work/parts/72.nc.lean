/-! THE CONSTRUCTORS, three: an album -/
theorem w_345 : Cond.arrayOver (.object RX5) ∈ nst := nst_in 345 (by decide +kernel) rfl
/-- Arrays.fill, wherever -/
theorem k_fill_5 {n p L : Nat} {κ : Kp} {v : Int32} {Q : Value → Kp → Gi → Gl → Prop} {gl : Gl} (hκ : κ.1 = n) (hp : p < n) (hk : sK p = 100) (hs : sN p = L) (hL : L ≤ 1000) : ∀ m i gi, i + m = L → (∀ g, (∀ b, b ≠ p → g b = gi b) → (∀ j, i ≤ j → j < L → g p j = v) → (∀ j, j < i → g p j = gi p j) → Q .null κ g gl) → PAt mJ7_fill_53178 n n κ 5 [some (.ref p), some (.int v), some (.int (nI i)), some (.int (nI L))] [] gi gl Q := by
  intro m
  induction m with
  | zero =>
    intro i gi hi h
    refine px_iload_n dJ7_fill_53178_5 rfl rfl ?_
    refine px_iload_n dJ7_fill_53178_6 rfl rfl ?_
    refine px_icmp_ge (tgt := 20) dJ7_fill_53178_7 (by decide) ?_
    rw [if_pos (by rw [nI_leI (by omega) (by omega)]; omega)]
    exact px_return dJ7_fill_53178_20 hκ rfl (h gi (fun _ _ => rfl) (fun j h1 h2 => by omega) (fun _ _ => rfl))
  | succ m ih =>
    intro i gi hi h
    refine px_iload_n dJ7_fill_53178_5 rfl rfl ?_
    refine px_iload_n dJ7_fill_53178_6 rfl rfl ?_
    refine px_icmp_ge (tgt := 20) dJ7_fill_53178_7 (by decide) ?_
    rw [if_neg (by rw [nI_leI (by omega) (by omega)]; omega)]
    refine px_aload_n dJ7_fill_53178_10 rfl rfl ?_
    refine px_iload_n dJ7_fill_53178_11 rfl rfl ?_
    refine px_iload_n dJ7_fill_53178_12 rfl rfl ?_
    refine px_iastore (n := L) dJ7_fill_53178_13 (by rw [hκ]; exact hp) hk hs (vp_nI (by omega) (by omega)) ?_
    rw [nI_cl (by omega)]
    refine px_iinc (v := nI i + (1 : Int32)) (ls2 := [some (.ref p), some (.int v), some (.int (nI i + (1 : Int32))), some (.int (nI L))]) dJ7_fill_53178_14 rfl rfl (by decide) rfl ?_
    refine px_goto (tgt := 5) dJ7_fill_53178_17 (by decide) ?_
    rw [nI_1]
    refine ih (i + 1) _ (by omega) (fun g h1 h2 h3 => h g (fun b hb => by rw [h1 b hb, uI_n hb]) (fun j a1 a2 => ?_) (fun j a1 => ?_))
    · by_cases e : j = i
      · rw [h3 j (by omega), uI_s, e, upd_s]
      · exact h2 j (by omega) a2
    · rw [h3 j (by omega), uI_s, upd_n (by omega)]
theorem k_fill {n p L : Nat} {κ : Kp} {v : Int32} {Q : Value → Kp → Gi → Gl → Prop} {gi : Gi} {gl : Gl} (hκ : κ.1 = n) (hp : p < n) (hk : sK p = 100) (hs : sN p = L) (hL : L ≤ 1000) (h : ∀ g, (∀ b, b ≠ p → g b = gi b) → (∀ j, j < L → g p j = v) → Q .null κ g gl) : PAt mJ7_fill_53178 n n κ 0 (ent 4 [.ref p, .int v]) [] gi gl Q := by
  show PAt mJ7_fill_53178 n n κ 0 [some (.ref p), some (.int v), none, none] [] gi gl Q
  refine px_iconst (v := (0 : Int32)) dJ7_fill_53178_0 (by decide) ?_
  refine px_istore_n (ls2 := [some (.ref p), some (.int v), some (.int (0 : Int32)), none]) (i := 2) rfl dJ7_fill_53178_1 (by decide) rfl ?_
  refine px_aload_n dJ7_fill_53178_2 rfl rfl ?_
  refine px_alen (n := L) (t0 := 0) (v := nI L) dJ7_fill_53178_3 (by rw [hκ]; exact hp) hk hs (by decide) (fun _ => rfl) rfl ?_
  refine px_istore_n (ls2 := [some (.ref p), some (.int v), some (.int (0 : Int32)), some (.int (nI L))]) (i := 3) rfl dJ7_fill_53178_4 (by decide) rfl ?_
  exact k_fill_5 hκ hp hk hs hL L 0 gi (by omega) (fun g h1 h2 _ => h g h1 (fun j hj => h2 j (Nat.zero_le _) hj))
theorem cons_range (i k : Nat) : List.range' i (k + 1) = i :: List.range' (i + 1) k := rfl
theorem notin_range (i k : Nat) : (List.range' (i + 1) k).contains i = false := by
  rw [← Bool.not_eq_true, List.contains_iff_mem, List.mem_range'_1]; omega
theorem alb_r {a : Nat} (hN : a < NN) (hK : sK a = 0) : ∀ i, i < 8 → sR (a + 1) i = a + 3 + 7 * i := (show ∀ a, a < 377 → sK a = 0 → ∀ i, i < 8 → sR (a + 1) i = a + 3 + 7 * i by decide +kernel) a hN hK
set_option maxRecDepth 100000 in
theorem k_X0_lp {a : Nat} (haN : a < NN) (haK : sK a = 0) {ν : Nat → Nat → Bool} (hν : Fz a ν) {Q : Value → Kp → Gi → Gl → Prop} : ∀ k i g l, i + k = 8 → (∀ g' l', (∀ b, b < a + 2 → g' b = g b) → (∀ b, b < a + 3 → l' b = l b) → (∀ m, m < 12 → g' (a + 2) m = 1) → Q .null (a + 59, ν) g' l') → PAt mX0_init (a + 1) (a + 59) (a + 3 + 7 * i, nS ν (a + 1) (List.range' i k)) 23 [some (.ref a), some (.int (nI i))] [] g l Q := by
  intro k
  induction k with
  | zero =>
    intro i g l hi h
    obtain rfl : i = 8 := by omega
    rw [show nS ν (a + 1) (List.range' 8 0) = ν from nS_0 (fun j => hν _ j (by omega))]
    refine px_iload_n dX0_init_23 rfl rfl ?_
    refine px_aload_n dX0_init_24 rfl rfl ?_
    refine gf_X0_11 rfl dX0_init_25 (show a < a + 3 + 7 * 8 by omega) haK (hν _ _ (Nat.le_refl _)) (ly0_r0 haN haK) (ly0_lt1 haN haK) ?_
    refine px_alen (n := 8) (t0 := 4) (v := (8 : Int32)) dX0_init_28 (show a + 1 < a + 3 + 7 * 8 by omega) (ly0_k1 haN haK) (ly0_s1 haN haK) (by decide) (fun _ => rfl) (by decide) ?_
    refine px_icmp_ge (tgt := 51) dX0_init_29 (by decide) ?_
    rw [if_pos (by decide)]
    refine px_aload_n dX0_init_51 rfl rfl ?_
    refine gf_X0_17 rfl dX0_init_52 (show a < a + 3 + 7 * 8 by omega) haK (hν _ _ (Nat.le_refl _)) (ly0_r1 haN haK) (ly0_lt2 haN haK) ?_
    refine px_iconst (v := (1 : Int32)) dX0_init_55 (by decide) ?_
    refine px_callS_V (nY := a + 59) (As := [.ref (a + 2), .int (1 : Int32)]) (st := []) dX0_init_56 lk_X0_22.1 lk_X0_22.2 (by decide) rfl (Nat.le_of_ble_eq_true rfl) rfl rfl (Nat.le_of_ble_eq_true rfl) (show a + 1 ≤ a + 3 + 7 * 8 ∧ a + 3 + 7 * 8 ≤ a + 59 ∧ a + 59 ≤ a + 59 by omega) ?_
    refine k_fill (n := a + 59) (p := a + 2) (L := 12) rfl (by omega) (ly0_k2 haN haK) (ly0_s2 haN haK) (by omega) (fun g2 e2 v2 => ?_)
    exact px_return dX0_init_59 rfl rfl (h g2 l (fun b hb => e2 b (by omega)) (fun _ _ => rfl) v2)
  | succ k ih =>
    intro i g l hi h
    have h8 : i < 8 := by omega
    obtain ⟨pN, pK⟩ := alb_k haN haK i h8
    have hnu : nS ν (a + 1) (List.range' i (k + 1)) a 0 = false := by rw [nS_n (by omega)]; exact hν _ _ (Nat.le_refl _)
    refine px_iload_n dX0_init_23 rfl rfl ?_
    refine px_aload_n dX0_init_24 rfl rfl ?_
    refine gf_X0_11 rfl dX0_init_25 (show a < a + 3 + 7 * i by omega) haK hnu (ly0_r0 haN haK) (ly0_lt1 haN haK) ?_
    refine px_alen (n := 8) (t0 := 4) (v := (8 : Int32)) dX0_init_28 (show a + 1 < a + 3 + 7 * i by omega) (ly0_k1 haN haK) (ly0_s1 haN haK) (by decide) (fun _ => rfl) (by decide) ?_
    refine px_icmp_ge (tgt := 51) dX0_init_29 (by decide) ?_
    rw [if_neg (by rw [show (8 : Int32) = nI 8 by rfl, nI_leI (by omega) (by omega)]; omega)]
    refine px_aload_n dX0_init_32 rfl rfl ?_
    refine gf_X0_11 rfl dX0_init_33 (show a < a + 3 + 7 * i by omega) haK hnu (ly0_r0 haN haK) (ly0_lt1 haN haK) ?_
    refine px_iload_n dX0_init_36 rfl rfl ?_
    refine px_new (a := a + 3 + 7 * i) (ci := 5) (C0 := RX5) (T := TX5) (N := 3) [0, 1] dX0_init_37 rfl ⟨pN, by omega, by omega⟩ pK (by decide) (so_5 pK) rfl hu_5 tyX5_ok (by decide +kernel) ⟨w_344, w_153, w_100⟩ (fun g1 l1 e1 f1 z1 => ?_)
    refine px_dup dX0_init_40 rfl ?_
    refine px_callIN_V (nY := a + 3 + 7 * i + 7) (As := []) (st := [.ref (a + 3 + 7 * i), .int (nI i), .ref (a + 1)]) dX0_init_41 lk_X0_21.1 lk_X0_21.2 (b := a + 3 + 7 * i) pN (by decide) rfl (Nat.le_of_ble_eq_true rfl) rfl rfl (Nat.le_of_ble_eq_true rfl) (show a + 1 ≤ a + 3 + 7 * i + 1 ∧ a + 3 + 7 * i + 1 ≤ a + 3 + 7 * i + 7 ∧ a + 3 + 7 * i + 7 ≤ a + 59 by omega) ?_
    refine k_X5_init (a := a + 3 + 7 * i) pN pK (Fz.S hν (by omega) (by omega)) (fun g2 l2 e2 f2 => ?_)
    show PAt mX0_init (a + 1) (a + 59) (a + 3 + 7 * i + 7, nS ν (a + 1) (i :: List.range' (i + 1) k)) 44 [some (.ref a), some (.int (nI i))] [.ref (a + 3 + 7 * i), .int (nI i), .ref (a + 1)] g2 l2 Q
    refine px_aast (a := a + 1) (v := a + 3 + 7 * i) (n := 8) (i := i) (ci := 5) (k := 104) (t0 := 4) dX0_init_44 rfl (show a + 1 < a + 3 + 7 * i + 7 by omega) (ly0_k1 haN haK) (by decide) (ly0_s1 haN haK) (fun _ => rfl) (show a + 3 + 7 * i < a + 3 + 7 * i + 7 by omega) pK (by decide) rfl h8 rfl (by omega) (notin_range i k) (alb_r haN haK i h8) ?_
    refine px_iinc (v := nI i + (1 : Int32)) (ls2 := [some (.ref a), some (.int (nI i + (1 : Int32)))]) dX0_init_45 rfl rfl (by decide) rfl ?_
    refine px_goto (tgt := 23) dX0_init_48 (by decide) ?_
    rw [nI_1]
    have := ih (i + 1) g2 l2 (by omega) (fun g' l' h1 h2 h3 => h g' l' (fun b hb => by rw [h1 b hb, e2 b (by omega), e1 b (by omega)]) (fun b hb => by rw [h2 b hb, f2 b (by omega), f1 b (by omega)]) h3)
    rw [show a + 3 + 7 * (i + 1) = a + 3 + 7 * i + 7 by omega] at this
    exact this
section NC3
variable {ν : Nat → Nat → Bool} {gi : Gi} {gl : Gl} {Q : Value → Kp → Gi → Gl → Prop} {a : Nat}
set_option maxRecDepth 100000 in
theorem k_X0_init (haN : a < NN) (haK : sK a = 0) (hν : Fz a ν) (h : ∀ g l, (∀ b, b < a → g b = gi b) → (∀ b, b < a → l b = gl b) → (∀ j, j < 3 → g a j = gi a j) → (∀ m, m < 12 → g (a + 2) m = 1) → Q .null (a + 59, ν) g l) : PAt mX0_init (a + 1) (a + 59) (a + 1, nS ν a [0, 1]) 0 (ent 2 [.ref a]) [] gi gl Q := by
  show PAt mX0_init (a + 1) (a + 59) (a + 1, (nS ν a [0, 1])) 0 [some (.ref a), none] [] gi gl Q
  refine px_aload_n dX0_init_0 rfl rfl ?_
  refine px_objInit dX0_init_1 haN w_343 w_125 w_126 (by decide) (by decide) ?_
  refine px_aload_n dX0_init_4 rfl rfl ?_
  refine px_bipush (v := (8 : Int32)) dX0_init_5 (by decide) ?_
  refine px_newQ (a := a + 1) (n := 8) (k := 104) (t0 := 4) (C0 := RX5) dX0_init_7 rfl ⟨(ly0_lt1 haN haK), by omega, by omega⟩ (ly0_k1 haN haK) (by decide) (fun _ => rfl) (ly0_s1 haN haK) (by decide) rfl (by decide) ⟨w_344, w_345⟩ ?_
  rw [show nS (nS ν a [0, 1]) (a + 1) (List.range 8) = nS (nS ν (a + 1) (List.range 8)) a [0, 1] from nS_comm (by omega)]
  show PAt mX0_init (a + 1) (a + 59) (a + 2, (nS (nS ν (a + 1) (List.range 8)) a [0, 1])) 10 [some (.ref a), none] [.ref (a + 1), .ref a] gi gl Q
  refine px_putR (a := a) (ci := 0) (k := 0) (t := a + 1) (N := 3) (L := [1]) dX0_init_10 rfl (show a < a + 2 by omega) haK (by decide) (so_0 haK) rfl hu_0 (by decide) tyX0_ok nmX0 w_350 rfl rfl rfl (ly0_r0 haN haK) (ly0_lt1 haN haK) ⟨by decide +kernel, by decide +kernel⟩ (by decide +kernel) ?_
  show PAt mX0_init (a + 1) (a + 59) (a + 2, (nS (nS ν (a + 1) (List.range 8)) a [1])) 13 [some (.ref a), none] [] gi gl Q
  refine px_aload_n dX0_init_13 rfl rfl ?_
  refine px_bipush (v := (12 : Int32)) dX0_init_14 (by decide) ?_
  refine px_newI (a := a + 2) (n := 12) dX0_init_16 rfl ⟨(ly0_lt2 haN haK), by omega, by omega⟩ (ly0_k2 haN haK) (ly0_s2 haN haK) (by decide) rfl (by decide) w_150 (fun g1 l1 e1 f1 z1 => ?_)
  show PAt mX0_init (a + 1) (a + 59) (a + 3, (nS (nS ν (a + 1) (List.range 8)) a [1])) 18 [some (.ref a), none] [.ref (a + 2), .ref a] g1 l1 Q
  refine px_putR (a := a) (ci := 0) (k := 1) (t := a + 2) (N := 3) (L := []) dX0_init_18 rfl (show a < a + 3 by omega) haK (by decide) (so_0 haK) rfl hu_0 (by decide) tyX0_ok nmX0 w_351 rfl rfl rfl (ly0_r1 haN haK) (ly0_lt2 haN haK) ⟨by decide +kernel, by decide +kernel⟩ (by decide +kernel) ?_
  rw [nS_0 (a := a) (ν := (nS ν (a + 1) (List.range 8))) (fun j => by rw [nS_n (by omega)]; exact hν _ j (Nat.le_refl _))]
  show PAt mX0_init (a + 1) (a + 59) (a + 3, (nS ν (a + 1) (List.range 8))) 21 [some (.ref a), none] [] g1 l1 Q
  refine px_iconst (v := (0 : Int32)) dX0_init_21 (by decide) ?_
  refine px_istore_n (ls2 := [some (.ref a), some (.int (0 : Int32))]) (i := 1) rfl dX0_init_22 (by decide) rfl ?_
  show PAt mX0_init (a + 1) (a + 59) (a + 3 + 7 * 0, nS ν (a + 1) (List.range' 0 8)) 23 [some (.ref a), some (.int (nI 0))] [] g1 l1 Q
  refine k_X0_lp haN haK hν 8 0 g1 l1 rfl (fun g' l' h1 h2 h3 => h g' l' (fun b hb => by rw [h1 b (by omega), e1 b (by omega)]) (fun b hb => by rw [h2 b (by omega), f1 b (by omega)]) (fun j hj => by rw [h1 a (by omega), e1 a (by omega)]) h3)
end NC3
