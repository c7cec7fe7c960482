/-! THE CLASS, twelve: sets of signs, noted -/
theorem andn30 {f g : Nat → Bool} : nI (bN g 30) &&& (nI (bN f 30) ^^^ (-1)) = nI (bN (fun i => g i && !f i) 30) := by
  rw [m1_nI, nx_xor, nx_and]
  congr 1
  apply bN_ext
  · exact Nat.lt_of_le_of_lt Nat.and_le_left bN_lt
  · intro i hi
    rw [Nat.testBit_and, Nat.testBit_xor, bN_bit, bN_bit, Nat.testBit_two_pow_sub_one]
    simp [hi, show i < 32 by omega]
theorem bit_at {f : Nat → Bool} {e : Nat} (he : e < 30) : bN f 30 &&& 2 ^ e = if f e then 2 ^ e else 0 := by
  apply Nat.eq_of_testBit_eq
  intro i
  rw [Nat.testBit_and, bN_bit, Nat.testBit_two_pow]
  by_cases q : e = i
  · subst q
    cases f e with
    | true => simp [he]
    | false => simp
  · rw [decide_eq_false q, Bool.and_false]
    cases f e with
    | true => simp [q]
    | false => simp
theorem cntN_lt {f g : Nat → Bool} : ∀ n, (∀ i, i < n → f i = true → g i = true) → (∃ e, e < n ∧ g e = true ∧ f e = false) → cntN f n < cntN g n
  | 0, _, h => by obtain ⟨e, h, -⟩ := h; omega
  | n + 1, h1, ⟨e, h2, h3, h4⟩ => by
    rw [cntN_s, cntN_s]
    have le : ∀ m, m ≤ n → cntN f m ≤ cntN g m := by
      intro m
      induction m with
      | zero => intro _; exact Nat.le_refl _
      | succ m ih =>
        intro hm
        rw [cntN_s, cntN_s]
        have := ih (by omega)
        cases hf : f m with
        | false => simp; omega
        | true => rw [h1 m (by omega) hf]; simp; omega
    by_cases q : e = n
    · subst q
      rw [h3, h4]
      have := le e (Nat.le_refl _)
      simp; omega
    · have := cntN_lt n (fun i hi => h1 i (by omega)) ⟨e, by omega, h3, h4⟩
      cases hf : f n with
      | false => simp; omega
      | true => rw [h1 n (by omega) hf]; simp; omega
theorem cntN_0 {f : Nat → Bool} : ∀ {n}, cntN f n = 0 → ∀ i, i < n → f i = false
  | 0, _, i, hi => by omega
  | n + 1, h, i, hi => by
    rw [cntN_s] at h
    by_cases q : i = n
    · subst q
      cases hf : f i with
      | false => rfl
      | true => rw [hf] at h; simp at h
    · exact cntN_0 (n := n) (by omega) i (by omega)
/-- which of n let the one at i -/
def Vf (f : Nat → Nat → Bool) (n i : Nat) : Nat := bN (fun k => f k i) n
theorem Vf_eq {f : Nat → Nat → Bool} {n i e : Nat} : allK (fun q => f q i == f q e) n = decide (Vf f n i = Vf f n e) := by
  cases h : allK (fun q => f q i == f q e) n with
  | true =>
    have h := allK_iff.1 h
    rw [decide_eq_true]
    exact bN_congr (fun k hk => by have := h k hk; simpa using this)
  | false =>
    rw [decide_eq_false]
    intro q
    have : allK (fun q => f q i == f q e) n = true := allK_iff.2 (fun k hk => by
      have h1 : (Vf f n i).testBit k = (Vf f n e).testBit k := by rw [q]
      unfold Vf at h1
      rw [bN_bit, bN_bit, decide_eq_true hk] at h1
      simpa using h1)
    rw [h] at this; cases this
/-- what was noted from b to c in round R -/
def NS (gi : Gi) (b c R : Nat) (S : Nat → Prop) : Prop := gi 25 5 = nI c ∧ gi 25 6 = nI R ∧ b ≤ c ∧ (∀ j, b ≤ j → j < c → ∃ s, gi 28 j = nI s ∧ s < 4096 ∧ S s) ∧ (∀ s, S s → s < 4096 ∧ ∃ j, b ≤ j ∧ j < c ∧ gi 28 j = nI s) ∧ ∀ s, s < 4096 → (S s ∧ gi 27 s = nI R) ∨ (¬ S s ∧ ∃ z, z < R ∧ gi 27 s = nI z)
theorem NS.cg {gi : Gi} {b c R : Nat} {S S' : Nat → Prop} (h : NS gi b c R S) (e : ∀ s, S s ↔ S' s) : NS gi b c R S' := by
  have : S = S' := funext (fun s => propext (e s))
  subst this; exact h
theorem NS.fr {gi g : Gi} {b c R : Nat} {S : Nat → Prop} (h : NS gi b c R S) (e1 : g 25 = gi 25) (e2 : g 27 = gi 27) (e3 : g 28 = gi 28) : NS g b c R S := by
  unfold NS
  rw [e1, e2, e3]; exact h
theorem NS.old {gi : Gi} {b c R : Nat} {S : Nat → Prop} (h : NS gi b c R S) {s : Nat} (hs : s < 4096) : ∃ z, z ≤ R ∧ gi 27 s = nI z := by
  rcases h.2.2.2.2.2 s hs with ⟨-, q⟩ | ⟨-, z, q1, q2⟩
  · exact ⟨R, Nat.le_refl _, q⟩
  · exact ⟨z, by omega, q2⟩
theorem NS.add {gi : Gi} {b c R : Nat} {S : Nat → Prop} (h : NS gi b c R S) (hc : c < 1020) {s : Nat} (hs : s < 4096) : NS (uI (uI (uI gi 27 (upd (gi 27) s (nI R))) 28 (upd (gi 28) c (nI s))) 25 (upd (gi 25) 5 (nI (c + 1)))) b (c + 1) R (fun u => S u ∨ u = s) := by
  obtain ⟨h1, h2, h3, h4, h5, h6⟩ := h
  have e25 : ∀ j, uI (uI (uI gi 27 (upd (gi 27) s (nI R))) 28 (upd (gi 28) c (nI s))) 25 (upd (gi 25) 5 (nI (c + 1))) 25 j = upd (gi 25) 5 (nI (c + 1)) j := fun j => by rw [uI_s]
  have e28 : ∀ j, uI (uI (uI gi 27 (upd (gi 27) s (nI R))) 28 (upd (gi 28) c (nI s))) 25 (upd (gi 25) 5 (nI (c + 1))) 28 j = upd (gi 28) c (nI s) j := fun j => by rw [uI_n (by omega), uI_s]
  have e27 : ∀ j, uI (uI (uI gi 27 (upd (gi 27) s (nI R))) 28 (upd (gi 28) c (nI s))) 25 (upd (gi 25) 5 (nI (c + 1))) 27 j = upd (gi 27) s (nI R) j := fun j => by rw [uI_n (by omega), uI_n (by omega), uI_s]
  refine ⟨by rw [e25, upd_s], by rw [e25, upd_n (by omega)]; exact h2, by omega, fun j j1 j2 => ?_, fun u hu => ?_, fun u hu => ?_⟩
  · rw [e28, updA]
    by_cases e : j = c
    · rw [if_pos e]; exact ⟨s, rfl, hs, Or.inr rfl⟩
    · rw [if_neg e]
      obtain ⟨u, u1, u2, u3⟩ := h4 j j1 (by omega)
      exact ⟨u, u1, u2, Or.inl u3⟩
  · rcases hu with hu | hu
    · obtain ⟨u1, j, u2, u3, u4⟩ := h5 u hu
      exact ⟨u1, j, u2, by omega, by rw [e28, upd_n (by omega)]; exact u4⟩
    · subst hu
      exact ⟨hs, c, h3, by omega, by rw [e28, upd_s]⟩
  · rw [e27, updA]
    by_cases e : u = s
    · rw [if_pos e]; exact Or.inl ⟨Or.inr e, rfl⟩
    · rw [if_neg e]
      rcases h6 u hu with ⟨q1, q2⟩ | ⟨q1, q2⟩
      · exact Or.inl ⟨Or.inl q1, q2⟩
      · exact Or.inr ⟨fun z => by
          rcases z with z | z
          · exact q1 z
          · exact e z, q2⟩
/-- the cells that rounds of notes leave -/
def Wq (gi g : Gi) (b : Nat) : Prop := (∀ z, (z < 23 ∨ z = 24 ∨ z = 26 ∨ 29 < z) → g z = gi z) ∧ g 25 7 = gi 25 7 ∧ ∀ j, j < b → g 28 j = gi 28 j
theorem Wq.rf {g : Gi} {b : Nat} : Wq g g b := ⟨fun _ _ => rfl, rfl, fun _ _ => rfl⟩
theorem Wq.tr {a b c : Gi} {n : Nat} (h : Wq a b n) (k : Wq b c n) : Wq a c n := ⟨fun z hz => (k.1 z hz).trans (h.1 z hz), k.2.1.trans h.2.1, fun j hj => (k.2.2 j hj).trans (h.2.2 j hj)⟩
section CL
variable {gi : Gi} {gl : Gl} {Q : Gi → Gl → Prop} {T : Twn} {P : Pic} {p : Nat}
theorem Wq.E {g : Gi} {b : Nat} (h : Wq gi g b) (m : CE T gi gl) : CE T g gl := ⟨cTown_congr (fun b _ _ => h.1 b (by omega)) rfl m.1, m.2⟩
theorem Wq.S {g : Gi} {b : Nat} (h : Wq gi g b) (hp : 29 < p) (m : CS T P gi p) : CS T P g p := m.congr (h.1 _ (by omega)) (h.1 _ (by omega))
theorem s_fill {n : Nat} {x : Int32} (hN : p < NN) (hK : sK p = 100) (hs : sN p = n) (hn : n < 100000) (h : ∀ g, (∀ z, z ≠ p → g z = gi z) → (∀ i, i < n → g p i = x) → Q g gl) : p_J7_fill_53178 p x gi gl Q := by
  refine v_J7_fill_53178 hN hK ?_
  unfold f_J7_fill_53178
  rintro z1 rfl
  rw [hs]
  refine dn (P := fun k => ∀ g, (∀ z, z ≠ p → g z = gi z) → (∀ i, i < k → g p i = x) → p_J7_fill_53178_5 p x (nI k) (nI n) g gl Q) (N := n) ?_ ?_ 0 (Nat.zero_le _) gi (fun _ _ => rfl) (fun i hi => by omega)
  · intro g h1 h2
    refine v_J7_fill_53178_5 hN hK ?_
    unfold f_J7_fill_53178_5
    exact ifT (by rw [nI_leI (by omega) (by omega)]; omega) (h g h1 h2)
  · intro k hk ih g h1 h2
    refine v_J7_fill_53178_5 hN hK ?_
    unfold f_J7_fill_53178_5
    refine c_le n k rfl rfl (by omega) (by omega) (fun y => by omega) (fun _ => ?_)
    rw [hs, nI_cl (by omega)]
    refine ⟨vp_nI hk (by omega), ?_⟩
    rintro g2 rfl
    rw [nI_1]
    refine ih _ (fun z hz => by rw [uI_n hz]; exact h1 z hz) (fun i hi => ?_)
    rw [uI_s, updA]
    by_cases e : i = k
    · rw [if_pos e]
    · rw [if_neg e]; exact h2 i (by omega)
theorem noteRow_29 {n : Nat} (hn : n ≤ 12) {f : Nat → Nat → Bool} {l : Nat → Bool} {e b c R x : Nat} {S : Nat → Prop} (he : e < 30) (h7 : gi 25 7 = nI n) (h29 : ∀ k, k < n → gi 29 k = nI (bN (f k) 30)) (hns : NS gi b c R S) (hc : c < 1020) (hR : R < 2000000000)
    (hA : S (Vf f n e) → p_X6_noteRow_5 (nI (bN (fun i => l i && !(l i && decide (Vf f n i = Vf f n e))) 30)) (nI x + 1) gi gl Q)
    (hB : ∀ g, (∀ z, z ≠ 25 → z ≠ 27 → z ≠ 28 → g z = gi z) → g 25 7 = gi 25 7 → (∀ j, j < b → g 28 j = gi 28 j) → NS g b (c + 1) R (fun u => S u ∨ u = Vf f n e) → p_X6_noteRow_5 (nI (bN (fun i => l i && !(l i && decide (Vf f n i = Vf f n e))) 30)) (nI x + 1) g gl Q) :
    p_X6_noteRow_29 (nI (bN l 30)) (nI x) (nI (2 ^ e)) (nI (bN l 30)) 0 0 gi gl Q := by
  have hp12 := pw12 hn
  have e0 : bN l 30 = bN (fun i => l i && allK (fun q => f q i == f q e) 0) 30 := bN_congr (fun i _ => (Bool.and_true _).symm)
  have key : p_X6_noteRow_29 (nI (bN l 30)) (nI x) (nI (2 ^ e)) (nI (bN (fun i => l i && allK (fun q => f q i == f q e) 0) 30)) (nI (bN (fun q => f q e) 0)) (nI 0) gi gl Q := by
    refine dn (P := fun k => p_X6_noteRow_29 (nI (bN l 30)) (nI x) (nI (2 ^ e)) (nI (bN (fun i => l i && allK (fun q => f q i == f q e) k) 30)) (nI (bN (fun q => f q e) k)) (nI k) gi gl Q) (N := n) ?_ ?_ 0 (Nat.zero_le _)
    · have hv : Vf f n e < 4096 := Nat.lt_of_lt_of_le bN_lt hp12
      have e1 : bN (fun i => l i && allK (fun q => f q i == f q e) n) 30 = bN (fun i => l i && decide (Vf f n i = Vf f n e)) 30 := bN_congr (fun i _ => by rw [Vf_eq])
      rw [e1]
      show p_X6_noteRow_29 _ _ _ _ (nI (Vf f n e)) _ gi gl Q
      obtain ⟨n1, n2, n3, n4, n5, n6⟩ := id hns
      refine v_X6_noteRow_29 ?_
      unfold f_X6_noteRow_29
      rw [h7]
      refine ifT (by rw [nI_leI (by omega) (by omega)]; omega) ⟨vp_nI (by omega) (by omega), ?_⟩
      rw [nI_cl (by omega), n2, n1]
      have mk : nI (bN l 30) &&& (nI (bN (fun i => l i && decide (Vf f n i = Vf f n e)) 30) ^^^ (-1)) = nI (bN (fun i => l i && !(l i && decide (Vf f n i = Vf f n e))) 30) := andn30
      rcases n6 _ hv with ⟨q1, q2⟩ | ⟨q1, z, q2, q3⟩
      · refine ifT q2 ?_
        rintro z1 rfl
        rw [mk]; exact hA q1
      · refine ifF (by rw [q3]; intro w; have := congrArg Int32.toNatClampNeg w; rw [nI_cl (by omega), nI_cl (by omega)] at this; omega) ?_
        refine c_le 1020 c rfl rfl (by omega) (by omega) (fun y => by omega) (fun _ => ⟨vp_nI (by omega) (by omega), ?_⟩)
        rintro g3 rfl
        rw [uI_n (by omega), n1, nI_cl (by omega)]
        refine ⟨vp_nI (by omega) (by omega), ?_⟩
        rintro g4 rfl
        rw [uI_n (by omega)]
        rintro g5 rfl
        rintro z6 rfl
        rw [mk]
        rw [uI_n (by omega), uI_n (by omega), n1, show nI c + 1 = nI (c + 1) by rw [nI_1]]
        refine hB _ (fun z h1 h2 h3 => by rw [uI_n h1, uI_n h3, uI_n h2]) (by rw [uI_s, upd_n (by omega)]) (fun j hj => ?_) (hns.add hc hv)
        rw [uI_n (by omega), uI_s, upd_n (by omega)]
    · intro k hk ih
      refine v_X6_noteRow_29 ?_
      unfold f_X6_noteRow_29
      rw [h7]
      refine c_le n k rfl rfl (by omega) (by omega) (fun y => by omega) (fun _ => ?_)
      rw [nI_cl (by omega), h29 k hk, nI_1]
      refine ⟨vp_nI (by omega) (by omega), ?_⟩
      rw [nx_and, bit_at he]
      rw [bN_s (fun q => f q e) k] at ih
      cases hf : f k e with
      | false =>
        simp only [hf, Bool.false_eq_true, if_false, Nat.add_zero] at ih
        refine ifT rfl ⟨vp_nI (by omega) (by omega), ?_⟩
        rintro z7 rfl
        rw [andn30]
        have : bN (fun i => (l i && allK (fun q => f q i == f q e) k) && !f k i) 30 = bN (fun i => l i && allK (fun q => f q i == f q e) (k + 1)) 30 := bN_congr (fun i _ => by
          rw [allK_s, hf]; cases f k i <;> simp)
        rw [this]; exact ih
      | true =>
        simp only [hf, if_true] at ih
        have hp : 2 ^ e < 2 ^ 31 := Nat.pow_lt_pow_right (by omega) (by omega)
        have hp0 : 0 < 2 ^ e := pw_pos
        refine ifF (by
          intro w
          have := congrArg Int32.toNatClampNeg w
          simp only [if_true] at this
          rw [nI_cl (by omega)] at this
          have : 2 ^ e = 0 := this
          omega) ?_
        rintro z8 rfl
        refine ⟨vp_nI (by omega) (by omega), ?_⟩
        rintro z9 rfl
        rw [and30, jl_1 (by omega), nx_or, or_pw bN_lt]
        have : bN (fun i => (l i && allK (fun q => f q i == f q e) k) && f k i) 30 = bN (fun i => l i && allK (fun q => f q i == f q e) (k + 1)) 30 := bN_congr (fun i _ => by
          rw [allK_s, hf]; cases f k i <;> simp)
        rw [this]; exact ih
  rw [← e0] at key
  exact key
theorem s_noteRow {n : Nat} (hn : n ≤ 12) {f : Nat → Nat → Bool} {b c R : Nat} {S : Nat → Prop} (h7 : gi 25 7 = nI n) (h29 : ∀ k, k < n → gi 29 k = nI (bN (f k) 30)) (hns : NS gi b c R S) (hc : c + 30 ≤ 1020) (hR : R < 2000000000)
    (h : ∀ g c', c' ≤ c + 30 → Wq gi g b → NS g b c' R (fun s => S s ∨ ∃ i, i < 30 ∧ Vf f n i = s) → Q g gl) : p_X6_noteRow gi gl Q := by
  refine v_X6_noteRow ?_
  unfold f_X6_noteRow
  have lp : ∀ r x (l : Nat → Bool) g c', x + r = 30 → cntN l 30 ≤ r → c' + r ≤ c + 30 → (∀ z, z ≠ 25 → z ≠ 27 → z ≠ 28 → g z = gi z) → g 25 7 = gi 25 7 → (∀ j, j < b → g 28 j = gi 28 j) → NS g b c' R (fun s => S s ∨ ∃ i, i < 30 ∧ l i = false ∧ Vf f n i = s) → p_X6_noteRow_5 (nI (bN l 30)) (nI x) g gl Q := by
    intro r
    have fin : ∀ (l : Nat → Bool) g c', (∀ i, i < 30 → l i = false) → c' ≤ c + 30 → (∀ z, z ≠ 25 → z ≠ 27 → z ≠ 28 → g z = gi z) → g 25 7 = gi 25 7 → (∀ j, j < b → g 28 j = gi 28 j) → NS g b c' R (fun s => S s ∨ ∃ i, i < 30 ∧ l i = false ∧ Vf f n i = s) → Q g gl := by
      intro l g c' hl hc' f1 f2 f3 hN
      refine h g c' hc' ⟨fun z hz => f1 z (by omega) (by omega) (by omega), f2, f3⟩ (hN.cg (fun s => ?_))
      constructor
      · rintro (q | ⟨i, i1, -, i3⟩)
        · exact Or.inl q
        · exact Or.inr ⟨i, i1, i3⟩
      · rintro (q | ⟨i, i1, i3⟩)
        · exact Or.inl q
        · exact Or.inr ⟨i, i1, hl i i1, i3⟩
    induction r with
    | zero =>
      intro x l g c' hx hl hc' f1 f2 f3 hN
      refine v_X6_noteRow_5 ?_
      unfold f_X6_noteRow_5
      exact ifT (by rw [show (30 : Int32) = nI 30 by rfl, nI_leI (by omega) (by omega)]; omega) (fin l g c' (cntN_0 (by omega)) (by omega) f1 f2 f3 hN)
    | succ r ih =>
      intro x l g c' hx hl hc' f1 f2 f3 hN
      refine v_X6_noteRow_5 ?_
      unfold f_X6_noteRow_5
      refine c_le 30 x rfl rfl (by omega) (by omega) (fun y => by omega) (fun _ => ?_)
      have b30 := bN30 (f := l)
      refine c_eq (bN l 30) 0 rfl rfl (by omega) (by omega) (fun z => fin l g c' (bN_0.1 z) (by omega) f1 f2 f3 hN) (fun z => ?_)
      rcases lowN_spec (f := l) 30 with ⟨-, q⟩ | ⟨e, -, he, hle, hlt⟩
      · exact absurd (bN_0.2 q) z
      · have be : (bN l 30).testBit e = true := by rw [bN_bit]; simp [he, hle]
        have bl : ∀ i, i < e → (bN l 30).testBit i = false := fun i hi => by rw [bN_bit, hlt i hi]; simp
        rintro z1 rfl
        rw [neg_nI (by omega) (by omega), nx_and, low_and (by omega) bl be]
        have cl : cntN (fun i => l i && !(l i && decide (Vf f n i = Vf f n e))) 30 < cntN l 30 := cntN_lt 30 (fun i _ hi => by simp at hi; exact hi.1) ⟨e, he, hle, by simp [hle]⟩
        refine noteRow_29 hn he (by rw [f2]; exact h7) (fun k hk => by rw [f1 29 (by omega) (by omega) (by omega)]; exact h29 k hk) hN (by omega) hR (fun hS => ?_) (fun g2 k1 k2 k3 hN2 => ?_)
        · rw [nI_1]
          refine ih (x + 1) _ g c' (by omega) (by omega) (by omega) f1 f2 f3 (hN.cg (fun s => ?_))
          constructor
          · rintro (q | ⟨i, i1, i2, i3⟩)
            · exact Or.inl q
            · exact Or.inr ⟨i, i1, by rw [i2]; rfl, i3⟩
          · rintro (q | ⟨i, i1, i2, i3⟩)
            · exact Or.inl q
            · cases hi : l i with
              | false => exact Or.inr ⟨i, i1, hi, i3⟩
              | true =>
                rw [hi] at i2
                simp at i2
                rw [← i3, i2]; exact hS
        · rw [nI_1]
          refine ih (x + 1) _ g2 (c' + 1) (by omega) (by omega) (by omega) (fun z h1 h2 h3 => (k1 z h1 h2 h3).trans (f1 z h1 h2 h3)) (k2.trans f2) (fun j hj => (k3 j hj).trans (f3 j hj)) (hN2.cg (fun s => ?_))
          constructor
          · rintro ((q | ⟨i, i1, i2, i3⟩) | q)
            · exact Or.inl q
            · exact Or.inr ⟨i, i1, by rw [i2]; rfl, i3⟩
            · exact Or.inr ⟨e, he, by simp [hle], q.symm⟩
          · rintro (q | ⟨i, i1, i2, i3⟩)
            · exact Or.inl (Or.inl q)
            · cases hi : l i with
              | false => exact Or.inl (Or.inr ⟨i, i1, hi, i3⟩)
              | true =>
                rw [hi] at i2
                simp at i2
                exact Or.inr (by rw [← i3, i2])
  have := lp 30 0 (fun _ => true) gi c (by omega) cntN_le (by omega) (fun _ _ _ _ => rfl) rfl (fun _ _ => rfl) (hns.cg (fun s => by
    constructor
    · exact Or.inl
    · rintro (q | ⟨i, -, i2, -⟩)
      · exact q
      · cases i2))
  rw [← fullN] at this
  exact this
theorem NS.new {R c : Nat} (h5 : gi 25 5 = nI c) (h6 : gi 25 6 = nI (R + 1)) (hs : ∀ s, s < 4096 → ∃ z, z ≤ R ∧ gi 27 s = nI z) : NS gi c c (R + 1) (fun _ => False) :=
  ⟨h5, h6, Nat.le_refl _, fun j h1 h2 => by omega, fun s h => h.elim, fun s hsl => Or.inr ⟨id, by obtain ⟨z, z1, z2⟩ := hs s hsl; exact ⟨z, by omega, z2⟩⟩⟩
theorem s_noteDays (m : CE T gi gl) (hs : CS T P gi p) (hp : 29 < p) {mo R : Nat} (hm : mo < 12) (hR : R < 1000000000) (h7 : gi 25 7 = nI P.1) (h6 : gi 25 6 = nI R) (h5 : gi 25 5 = nI 0) (hsn : ∀ s, s < 4096 → ∃ z, z ≤ R ∧ gi 27 s = nI z)
    (h : ∀ g c, Wq gi g 0 → c ≤ 300 → NS g 0 c (R + 1) (fun s => ∃ q i, q < 10 ∧ i < 30 ∧ dB T P ((mo + 12 * q) * 30 + i) = s) → Q g gl) : p_X6_noteDays p (nI mo) gi gl Q := by
  have hN := hs.2.2.2.1
  have hK := hs.2.2.2.2.1
  have hc := hs.2.1
  refine v_X6_noteDays hN hK ?_
  unfold f_X6_noteDays
  intro g1 e1
  rw [h6, nI_1] at e1
  have w1 : Wq gi g1 0 := ⟨fun z hz => by rw [e1, uI_n (by omega)], by rw [e1, uI_s, upd_n (by omega)], fun j hj => by omega⟩
  have n1 : NS g1 0 0 (R + 1) (fun _ => False) := NS.new (by rw [e1, uI_s, upd_n (by omega)]; exact h5) (by rw [e1, uI_s, upd_s]) (fun s hs => by rw [e1, uI_n (by omega)]; exact hsn s hs)
  refine dn (P := fun q => ∀ g c, Wq gi g 0 → c ≤ 30 * q → NS g 0 c (R + 1) (fun s => ∃ q' i, q' < q ∧ i < 30 ∧ dB T P ((mo + 12 * q') * 30 + i) = s) → p_X6_noteDays_12 p (nI (mo + 12 * q)) g gl Q) (N := 10) ?_ ?_ 0 (by omega) g1 0 w1 (by omega) (n1.cg (fun s => ⟨False.elim, fun ⟨q, i, h, _⟩ => by omega⟩))
  · intro g c hw hc2 hns
    refine v_X6_noteDays_12 hN hK ?_
    unfold f_X6_noteDays_12
    exact ifT (by rw [show (120 : Int32) = nI 120 by rfl, nI_leI (by omega) (by omega)]; omega) (h g c hw hc2 hns)
  · intro q hq ih g c hw hc2 hns
    refine v_X6_noteDays_12 hN hK ?_
    unfold f_X6_noteDays_12
    refine c_le 120 (mo + 12 * q) rfl rfl (by omega) (by omega) (fun y => by omega) (fun _ => ?_)
    refine dn (P := fun k => ∀ g2, Wq gi g2 0 → NS g2 0 c (R + 1) (fun s => ∃ q' i, q' < q ∧ i < 30 ∧ dB T P ((mo + 12 * q') * 30 + i) = s) → (∀ k', k' < k → g2 29 k' = nI (bN (dRow T 0 (P.2 k') (mo + 12 * q)) 30)) → p_X6_noteDays_21 p (nI (mo + 12 * q)) (nI k) g2 gl Q) (N := P.1) ?_ ?_ 0 (Nat.zero_le _) g hw hns (fun k hk => by omega)
    · intro g2 hw2 hns2 h29
      refine v_X6_noteDays_21 hN hK ?_
      unfold f_X6_noteDays_21
      have h72 : g2 25 7 = nI P.1 := hw2.2.1.trans h7
      rw [h72]
      refine ifT (by rw [nI_leI (by omega) (by omega)]; omega) ?_
      refine s_noteRow (f := fun k => dRow T 0 (P.2 k) (mo + 12 * q)) hc h72 h29 hns2 (by omega) (by omega) (fun g3 c3 hc3 hw3 hns3 => ?_)
      rw [show (12 : Int32) = nI 12 by rfl, nI_add, show mo + 12 * q + 12 = mo + 12 * (q + 1) by omega]
      refine ih g3 c3 (hw2.tr hw3) (by omega) (hns3.cg (fun s => ?_))
      constructor
      · rintro (⟨q', i, a1, a2, a3⟩ | ⟨i, a2, a3⟩)
        · exact ⟨q', i, by omega, a2, a3⟩
        · exact ⟨q, i, by omega, a2, a3⟩
      · rintro ⟨q', i, a1, a2, a3⟩
        by_cases e : q' = q
        · subst e; exact Or.inr ⟨i, a2, a3⟩
        · exact Or.inl ⟨q', i, by omega, a2, a3⟩
    · intro k hk ih2 g2 hw2 hns2 h29
      refine v_X6_noteDays_21 hN hK ?_
      unfold f_X6_noteDays_21
      have h72 : g2 25 7 = nI P.1 := hw2.2.1.trans h7
      rw [h72]
      refine c_le P.1 k rfl rfl (by omega) (by omega) (fun y => by omega) (fun _ => ?_)
      refine s_X2_daysLet (la := 0) (hw2.E m) (hw2.S hp hs) hk (by omega) (by omega) ?_
      refine ⟨vp_nI (by omega) (by omega), ?_⟩
      intro g6 e6
      rw [nI_cl (by omega)] at e6
      have f6 : ∀ z, z ≠ 29 → g6 z = g2 z := fun z hz => by rw [e6]; exact uI_n hz
      rw [nI_1]
      refine ih2 g6 (hw2.tr ⟨fun z hz => f6 z (by omega), by rw [f6 _ (by omega)], fun j hj => by omega⟩) (hns2.fr (f6 _ (by omega)) (f6 _ (by omega)) (f6 _ (by omega))) (fun k' hk' => ?_)
      rw [e6, uI_s, updA]
      by_cases e : k' = k
      · rw [if_pos e, e]
      · rw [if_neg e]; exact h29 k' (by omega)
theorem s_noteMinutes (m : CE T gi gl) (hs : CS T P gi p) (hp : 29 < p) {mo R b : Nat} (hb : b ≤ 300) (hm : mo < 12) (hR : R < 1000000000) (h7 : gi 25 7 = nI P.1) (h6 : gi 25 6 = nI R) (h5 : gi 25 5 = nI b) (hsn : ∀ s, s < 4096 → ∃ z, z ≤ R ∧ gi 27 s = nI z)
    (h : ∀ g c, Wq gi g b → c ≤ b + 720 → NS g b c (R + 1) (fun s => ∃ q i, q < 24 ∧ i < 30 ∧ mB T P mo (q * 30 + i) = s) → Q g gl) : p_X6_noteMinutes p (nI mo) gi gl Q := by
  have hN := hs.2.2.2.1
  have hK := hs.2.2.2.2.1
  have hc := hs.2.1
  refine v_X6_noteMinutes hN hK ?_
  unfold f_X6_noteMinutes
  intro g1 e1
  rw [h6, nI_1] at e1
  have w1 : Wq gi g1 b := ⟨fun z hz => by rw [e1, uI_n (by omega)], by rw [e1, uI_s, upd_n (by omega)], fun j hj => by rw [e1, uI_n (by omega)]⟩
  have n1 : NS g1 b b (R + 1) (fun _ => False) := NS.new (by rw [e1, uI_s, upd_n (by omega)]; exact h5) (by rw [e1, uI_s, upd_s]) (fun s hs => by rw [e1, uI_n (by omega)]; exact hsn s hs)
  refine dn (P := fun q => ∀ g c, Wq gi g b → c ≤ b + 30 * q → NS g b c (R + 1) (fun s => ∃ q' i, q' < q ∧ i < 30 ∧ mB T P mo (q' * 30 + i) = s) → p_X6_noteMinutes_12 p (nI mo) (nI q) g gl Q) (N := 24) ?_ ?_ 0 (by omega) g1 b w1 (by omega) (n1.cg (fun s => ⟨False.elim, fun ⟨q, i, h, _⟩ => by omega⟩))
  · intro g c hw hc2 hns
    refine v_X6_noteMinutes_12 hN hK ?_
    unfold f_X6_noteMinutes_12
    exact ifT (by decide) (h g c hw hc2 hns)
  · intro q hq ih g c hw hc2 hns
    refine v_X6_noteMinutes_12 hN hK ?_
    unfold f_X6_noteMinutes_12
    refine c_le 24 q rfl rfl (by omega) (by omega) (fun y => by omega) (fun _ => ?_)
    refine dn (P := fun k => ∀ g2, Wq gi g2 b → NS g2 b c (R + 1) (fun s => ∃ q' i, q' < q ∧ i < 30 ∧ mB T P mo (q' * 30 + i) = s) → (∀ k', k' < k → g2 29 k' = nI (bN (mRow T (P.2 k') mo q) 30)) → p_X6_noteMinutes_21 p (nI mo) (nI q) (nI k) g2 gl Q) (N := P.1) ?_ ?_ 0 (Nat.zero_le _) g hw hns (fun k hk => by omega)
    · intro g2 hw2 hns2 h29
      refine v_X6_noteMinutes_21 hN hK ?_
      unfold f_X6_noteMinutes_21
      have h72 : g2 25 7 = nI P.1 := hw2.2.1.trans h7
      rw [h72]
      refine ifT (by rw [nI_leI (by omega) (by omega)]; omega) ?_
      refine s_noteRow (f := fun k => mRow T (P.2 k) mo q) hc h72 h29 hns2 (by omega) (by omega) (fun g3 c3 hc3 hw3 hns3 => ?_)
      rw [nI_1]
      refine ih g3 c3 (hw2.tr hw3) (by omega) (hns3.cg (fun s => ?_))
      constructor
      · rintro (⟨q', i, a1, a2, a3⟩ | ⟨i, a2, a3⟩)
        · exact ⟨q', i, by omega, a2, a3⟩
        · exact ⟨q, i, by omega, a2, a3⟩
      · rintro ⟨q', i, a1, a2, a3⟩
        by_cases e : q' = q
        · subst e; exact Or.inr ⟨i, a2, a3⟩
        · exact Or.inl ⟨q', i, by omega, a2, a3⟩
    · intro k hk ih2 g2 hw2 hns2 h29
      refine v_X6_noteMinutes_21 hN hK ?_
      unfold f_X6_noteMinutes_21
      have h72 : g2 25 7 = nI P.1 := hw2.2.1.trans h7
      rw [h72]
      refine c_le P.1 k rfl rfl (by omega) (by omega) (fun y => by omega) (fun _ => ?_)
      refine s_X2_minutesLet (hw2.E m) (hw2.S hp hs) hk hm hq (fun g3 hg3 => ?_)
      refine ⟨vp_nI (by omega) (by omega), ?_⟩
      intro g6 e6
      rw [nI_cl (by omega)] at e6
      have f6 : ∀ z, z ≠ 29 → z ≠ 23 → g6 z = g2 z := fun z hz h23 => by rw [e6, uI_n hz]; exact hg3 z h23
      rw [nI_1]
      refine ih2 g6 (hw2.tr ⟨fun z hz => f6 z (by omega) (by omega), by rw [f6 _ (by omega) (by omega)], fun j hj => by rw [f6 _ (by omega) (by omega)]⟩) (hns2.fr (f6 _ (by omega) (by omega)) (f6 _ (by omega) (by omega)) (f6 _ (by omega) (by omega))) (fun k' hk' => ?_)
      rw [e6, uI_s, updA]
      by_cases e : k' = k
      · rw [if_pos e, e]
      · rw [if_neg e, hg3 29 (by omega)]; exact h29 k' (by omega)
end CL
