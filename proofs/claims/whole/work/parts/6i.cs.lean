/-! THE CLASS, nineteen: its scanner -/
/-- the tape as characters -/
def tpC (f : Nat → Nat) (n : Nat) (gi : Gi) : Prop := n ≤ 1200 ∧ ∀ j, j < n → ∃ z : Int, gi 1 j = iI z ∧ -128 ≤ z ∧ z ≤ 127 ∧ (f j : Int) = z % 256
def kC (f : Nat → Nat) (n a : Nat) : Nat := if n ≤ a then 0 else if cL (f a) then 1 else if cD (f a) then 2 else if f a = 59 then 3 else 4
def SC (f : Nat → Nat) (n a : Nat) (gi : Gi) : Prop := tpC f n gi ∧ gi 22 1 = nI n ∧ gi 22 2 = nI a ∧ a ≤ n ∧ gi 22 4 = nI (kC f n a) ∧ (a < n → gi 22 3 = nI (en f n a))
/-- only the scanner was written -/
def F22 (gi g : Gi) : Prop := ∀ z, z ≠ 22 → g z = gi z
theorem F22.rf {g : Gi} : F22 g g := fun _ _ => rfl
theorem F22.tr {a b c : Gi} (h : F22 a b) (k : F22 b c) : F22 a c := fun z hz => (k z hz).trans (h z hz)
theorem F22.fld {a b : Gi} (h : F22 a b) {f : Nat → Int32} : F22 a (uI b 22 f) := fun z hz => by rw [uI_n hz]; exact h z hz
theorem tpC.fr {f : Nat → Nat} {n : Nat} {gi g : Gi} (h : tpC f n gi) (k : F22 gi g) : tpC f n g := ⟨h.1, fun j hj => by rw [k 1 (by omega)]; exact h.2 j hj⟩
section CS2
variable {f : Nat → Nat} {n : Nat} {gi : Gi} {gl : Gl} {Q : Gi → Gl → Prop} {Qi : Int32 → Gi → Gl → Prop} {Ql : Int64 → Gi → Gl → Prop}
theorem step_196 {c : Nat → Bool} {lo hi : Int} (h1 : 0 < lo ∧ lo < 128 ∧ hi < 128 ∧ 0 < hi) (hc : ∀ x : Nat, c x = true ↔ lo ≤ (x : Int) ∧ (x : Int) ≤ hi) (ht : tpC f n gi) (hQ : ∀ g', F22 gi g' → (∀ j, j ≠ 3 → g' 22 j = gi 22 j) → ∀ b, g' 22 3 = nI b → b = enP c f n b → Q g' gl → True) :
    ∀ k b g, b + k = n → F22 gi g → (∀ j, j ≠ 3 → g 22 j = gi 22 j) → gi 22 1 = nI n → g 22 3 = nI b → (∀ g', F22 gi g' → (∀ j, j ≠ 3 → g' 22 j = gi 22 j) → g' 22 3 = nI (enP c f n b) → Q g' gl) → p_X8_step_196 (iI lo) (iI hi) g gl Q := by
  have hn := ht.1
  intro k
  induction k with
  | zero =>
    intro b g hb fr fk e1 e3 h
    refine v_X8_step_196 ?_
    unfold f_X8_step_196
    rw [fk 1 (by omega), e1, e3]
    refine ifT (by rw [nI_leI (by omega) (by omega)]; omega) ?_
    exact h g fr fk (by rw [enP_e (by omega)]; exact e3)
  | succ k ih =>
    intro b g hb fr fk e1 e3 h
    obtain ⟨z, z1, z2, z3, z4⟩ := ht.2 b (by omega)
    refine v_X8_step_196 ?_
    unfold f_X8_step_196
    rw [fk 1 (by omega), e1, e3]
    refine c_le n b rfl rfl (by omega) (by omega) (fun y => by omega) (fun _ => ⟨vp_nI (by omega) (by omega), ?_⟩)
    rw [nI_cl (by omega), fr 1 (by omega), z1]
    have stop : ¬ (lo ≤ z ∧ z ≤ hi) → Q g gl := fun q => h g fr fk (by
      rw [enP_e (by
        rintro ⟨-, w⟩
        have := (hc (f b)).1 w
        omega)]
      exact e3)
    refine d_lt z lo rfl rfl (by omega) (by omega) (fun y => stop (by omega)) (fun y => ⟨vp_nI (by omega) (by omega), ?_⟩)
    refine d_lt hi z rfl rfl (by omega) (by omega) (fun y => stop (by omega)) (fun y2 => ?_)
    rintro g1 rfl
    rw [nI_1]
    refine ih (b + 1) _ (by omega) fr.fld (fun j hj => by rw [uI_s, upd_n hj]; exact fk j hj) e1 (by rw [uI_s, upd_s]) (fun g' a1 a2 a3 => h g' a1 a2 ?_)
    rw [enP_s (by omega) ((hc (f b)).2 (by omega))]
    exact a3
theorem s_X8_step {b : Nat} (ht : tpC f n gi) (e1 : gi 22 1 = nI n) (e3 : gi 22 3 = nI b) (hb : b ≤ n) (h : ∀ g, F22 gi g → SC f n (skp f n b) g → Q g gl) : p_X8_step gi gl Q := by
  have hn := ht.1
  -- at a token, or the end
  have tok : ∀ a g, a ≤ n → F22 gi g → g 22 1 = nI n → g 22 2 = nI a → skp f n b = a → p_X8_step_60 g gl Q := by
    intro a g ha fr k1 k2 hs
    rw [hs] at h
    refine v_X8_step_60 ?_
    unfold f_X8_step_60
    rw [k1, k2]
    refine c_lt a n rfl rfl (by omega) (by omega) (fun han => ?_) (fun y => ?_)
    · rw [nI_cl (by omega)]
      refine ⟨vp_nI (by omega) (by omega), ?_⟩
      obtain ⟨z, z1, z2, z3, z4⟩ := (ht.fr fr).2 a han
      rw [z1]
      rintro w rfl
      have run : ∀ (x2 : Bool), (x2 = true → cL (f a) = true) → (x2 = false → cL (f a) = false ∧ cD (f a) = true) → ∀ g1, g1 = uI g 22 (upd (g 22) 3 (g 22 2 + 1)) → p_X8_step_167 (b2i x2) (if x2 then 1 else 2) g1 gl Q := by
        intro x2 t1 t2 g1 hg1
        rw [k2, nI_1] at hg1
        have fr1 : F22 gi g1 := by rw [hg1]; exact fr.fld
        refine v_X8_step_167 ?_
        unfold f_X8_step_167
        intro g2 hg2
        have fr2 : F22 gi g2 := by rw [hg2]; exact fr1.fld
        have a1 : g2 22 1 = nI n := by rw [hg2, uI_s, upd_n (by omega), hg1, uI_s, upd_n (by omega)]; exact k1
        have a2 : g2 22 2 = nI a := by rw [hg2, uI_s, upd_n (by omega), hg1, uI_s, upd_n (by omega)]; exact k2
        have a3 : g2 22 3 = nI (a + 1) := by rw [hg2, uI_s, upd_n (by omega), hg1, uI_s, upd_s]
        have a4 : g2 22 4 = if x2 then 1 else 2 := by rw [hg2, uI_s, upd_s]
        have fin : ∀ g', F22 g2 g' → (∀ j, j ≠ 3 → g' 22 j = g2 22 j) → g' 22 3 = nI (en f n a) → Q g' gl := fun g' b1 b2 b3 => by
          refine h g' (fr2.tr b1) ⟨ht.fr (fr2.tr b1), by rw [b2 _ (by omega)]; exact a1, by rw [b2 _ (by omega)]; exact a2, ha, ?_, fun _ => b3⟩
          rw [b2 _ (by omega), a4]
          have ek1 : cL (f a) = true → kC f n a = 1 := fun w => by unfold kC; rw [if_neg (by omega), if_pos w]
          have ek2 : cL (f a) = false → cD (f a) = true → kC f n a = 2 := fun w w2 => by unfold kC; rw [if_neg (by omega), if_neg (by rw [w]; simp), if_pos w2]
          cases x2 with
          | true => rw [ek1 (t1 rfl)]; rfl
          | false => rw [ek2 (t2 rfl).1 (t2 rfl).2]; rfl
        cases x2 with
        | true =>
          refine ifF (by rw [b2i_t]; decide) (ifF (by rw [b2i_t]; decide) ?_)
          refine step_196 (c := cL) (lo := 97) (hi := 122) (by omega) (fun x => by rw [cL_iff]; omega) (ht.fr fr2) (fun _ _ _ _ _ _ _ => trivial) (n - (a + 1)) (a + 1) g2 (by omega) F22.rf (fun _ _ => rfl) a1 a3 (fun g' b1 b2 b3 => fin g' b1 b2 ?_)
          rw [b3, ← enP_s han (t1 rfl)]
          unfold en
          rw [if_neg (by omega), if_pos (t1 rfl)]
        | false =>
          refine ifT rfl (ifT rfl ?_)
          refine step_196 (c := cD) (lo := 48) (hi := 57) (by omega) (fun x => by rw [cD_iff]; omega) (ht.fr fr2) (fun _ _ _ _ _ _ _ => trivial) (n - (a + 1)) (a + 1) g2 (by omega) F22.rf (fun _ _ => rfl) a1 a3 (fun g' b1 b2 b3 => fin g' b1 b2 ?_)
          rw [b3, ← enP_s han (t2 rfl).2]
          unfold en
          rw [if_neg (by omega), if_neg (by rw [(t2 rfl).1]; simp), if_pos (t2 rfl).2]
      have letter : cL (f a) = true → ∀ s0, p_X8_step_122 (iI z) 1 s0 g gl Q := fun hl s0 => by
        refine v_X8_step_122 ?_
        unfold f_X8_step_122
        intro g1 hg1
        refine ifT (by decide) (ifF (by decide) ?_)
        exact run true (fun _ => hl) (fun q => by cases q) g1 hg1
      have other : cL (f a) = false → p_X8_step_103 (iI z) g gl Q := fun hl => by
        have nl : ¬ (97 ≤ z ∧ z ≤ 122) := fun q => by
          have := cL_iff (c := f a)
          rw [hl] at this
          have := this.2 (by omega)
          cases this
        have odd : cD (f a) = false → p_X8_step_122 (iI z) 0 0 g gl Q := fun hd => by
          refine v_X8_step_122 ?_
          unfold f_X8_step_122
          intro g1 hg1
          rw [k2, nI_1] at hg1
          refine ifF (by decide) (ifF (by decide) ?_)
          have fin : ∀ g3 (v : Nat), g3 = uI g1 22 (upd (g1 22) 4 (nI v)) → kC f n a = v → Q g3 gl := fun g3 v hg3 hk => by
            have fr3 : F22 gi g3 := by rw [hg3, hg1]; exact (fr.fld).fld
            refine h g3 fr3 ⟨ht.fr fr3, ?_, ?_, ha, ?_, fun _ => ?_⟩
            · rw [hg3, uI_s, upd_n (by omega), hg1, uI_s, upd_n (by omega)]; exact k1
            · rw [hg3, uI_s, upd_n (by omega), hg1, uI_s, upd_n (by omega)]; exact k2
            · rw [hg3, uI_s, upd_s, hk]
            · rw [hg3, uI_s, upd_n (by omega), hg1, uI_s, upd_s]
              unfold en
              rw [if_neg (by omega), if_neg (by rw [hl]; simp), if_neg (by rw [hd]; simp)]
          have ek : kC f n a = if f a = 59 then 3 else 4 := by
            unfold kC
            rw [if_neg (by omega), if_neg (by rw [hl]; simp), if_neg (by rw [hd]; simp)]
          refine d_ne z 59 rfl rfl (by omega) (by omega) (fun q => ?_) (fun q => ?_)
          · intro g2 hg2
            exact fin g2 4 hg2 (by rw [ek, if_neg (by omega)])
          · intro g2 hg2
            exact fin g2 3 hg2 (by rw [ek, if_pos (by omega)])
        have nd : ¬ (48 ≤ z ∧ z ≤ 57) → cD (f a) = false := fun q => by
          cases hd : cD (f a) with
          | false => rfl
          | true => exact absurd (by have := cD_iff.1 hd; omega) q
        refine v_X8_step_103 ?_
        unfold f_X8_step_103
        refine d_lt z 48 rfl rfl (by omega) (by omega) (fun q => odd (nd (by omega))) (fun q => ?_)
        refine d_lt 57 z rfl rfl (by omega) (by omega) (fun q2 => odd (nd (by omega))) (fun q2 => ?_)
        have hd : cD (f a) = true := cD_iff.2 (by omega)
        refine v_X8_step_122 ?_
        unfold f_X8_step_122
        intro g1 hg1
        refine ifF (by decide) (ifT (by decide) (ifT rfl ?_))
        exact run false (fun q => by cases q) (fun _ => ⟨hl, hd⟩) g1 hg1
      have nl : ¬ (97 ≤ z ∧ z ≤ 122) → cL (f a) = false := fun q => by
        cases hd : cL (f a) with
        | false => rfl
        | true => exact absurd (by have := cL_iff.1 hd; omega) q
      refine d_lt z 97 rfl rfl (by omega) (by omega) (fun q => other (nl (by omega))) (fun q => ?_)
      refine d_lt 122 z rfl rfl (by omega) (by omega) (fun q2 => other (nl (by omega))) (fun q2 => ?_)
      have hl : cL (f a) = true := cL_iff.2 (by omega)
      refine d_lt z 48 rfl rfl (by omega) (by omega) (fun _ => letter hl 0) (fun _ => ?_)
      exact d_lt 57 z rfl rfl (by omega) (by omega) (fun _ => letter hl 0) (fun _ => letter hl 1)
    · intro g2 hg2
      have fr2 : F22 gi g2 := by rw [hg2]; exact fr.fld
      refine h g2 fr2 ⟨ht.fr fr2, by rw [hg2, uI_s, upd_n (by omega)]; exact k1, by rw [hg2, uI_s, upd_n (by omega)]; exact k2, ha, ?_, fun q => by omega⟩
      rw [hg2, uI_s, upd_s]
      unfold kC
      rw [if_pos (by omega)]; rfl
  refine v_X8_step ?_
  unfold f_X8_step
  intro g1 hg1
  have lp : ∀ k a g, a + k = n → F22 gi g → g 22 1 = nI n → g 22 2 = nI a → skp f n b = skp f n a → p_X8_step_8 g gl Q := by
    intro k
    induction k with
    | zero =>
      intro a g ha fr k1 k2 hs
      rw [skp_e (p := a) (by omega)] at hs
      refine v_X8_step_8 ?_
      unfold f_X8_step_8
      rw [k1, k2]
      exact ifT (by rw [nI_leI (by omega) (by omega)]; omega) (tok a g (by omega) fr k1 k2 hs)
    | succ k ih =>
      intro a g ha fr k1 k2 hs
      obtain ⟨z, z1, z2, z3, z4⟩ := (ht.fr fr).2 a (by omega)
      have go : (f a = 32 ∨ f a = 10) → ∀ g1, g1 = uI g 22 (upd (g 22) 2 (nI a + 1)) → p_X8_step_8 g1 gl Q := fun hbl g1 hg1 => by
        rw [nI_1] at hg1
        refine ih (a + 1) g1 (by omega) (by rw [hg1]; exact fr.fld) (by rw [hg1, uI_s, upd_n (by omega)]; exact k1) (by rw [hg1, uI_s, upd_s]) ?_
        rw [hs]
        exact skp_s (by omega) hbl
      refine v_X8_step_8 ?_
      unfold f_X8_step_8
      rw [k1, k2]
      refine c_le n a rfl rfl (by omega) (by omega) (fun y => by omega) (fun _ => ⟨vp_nI (by omega) (by omega), ?_⟩)
      rw [nI_cl (by omega), z1]
      refine d_eq z 32 rfl rfl (by omega) (by omega) (fun q => go (by omega)) (fun q => ⟨vp_nI (by omega) (by omega), ?_⟩)
      refine d_ne z 10 rfl rfl (by omega) (by omega) (fun q2 => ?_) (fun q2 => go (by omega))
      refine tok a g (by omega) fr k1 k2 ?_
      rw [hs]
      exact skp_e (by omega)
  refine lp (n - b) b g1 (by omega) (by rw [hg1]; exact F22.rf.fld) (by rw [hg1, uI_s, upd_n (by omega)]; exact e1) (by rw [hg1, uI_s, upd_s]; exact e3) rfl
theorem s_X8_begin {m : Nat} (hm : m ≤ 1200) (ht : tpC f m gi) (h : ∀ g, F22 gi g → SC f m (skp f m 0) g → Q g gl) : p_X8_begin (nI m) gi gl Q := by
  refine v_X8_begin ?_
  unfold f_X8_begin
  intro g1 e1 g2 e2
  have ej : jmax (0 : Int32) (jmin (nI m) 1200) = nI m := by
    rw [← iI_n, show (1200 : Int32) = iI 1200 by rfl, show (0 : Int32) = iI 0 by rfl, jmin_I (by omega) (by omega)]
    rw [show (if (1200 : Int) < (m : Int) then (1200 : Int) else m) = m from if_neg (by omega), jmax_I (by omega) (by omega)]
    congr 1
    split <;> omega
  rw [ej] at e1
  have fr : F22 gi g2 := by rw [e2, e1]; exact (F22.rf.fld).fld
  refine s_X8_step (b := 0) (ht.fr fr) (by rw [e2, uI_s, upd_n (by omega), e1, uI_s, upd_s]) (by rw [e2, uI_s, upd_s]; rfl) (by omega) (fun g fg hg => h g (fr.tr fg) hg)
theorem SC.step {a : Nat} {g : Gi} (m : SC f n a g) (ha : a < n) (h : ∀ g', F22 g g' → SC f n (nx f n a) g' → Q g' gl) : p_X8_step g gl Q := s_X8_step m.1 m.2.1 (m.2.2.2.2.2 ha) (en_bd (by omega)).2.1 h
theorem SC.ended {a : Nat} (m : SC f n a gi) (h : Qi (b2i (decide (n ≤ a))) gi gl) : p_X8_ended gi gl Qi := by
  refine v_X8_ended ?_
  unfold f_X8_ended
  rw [m.2.2.2.2.1]
  by_cases q : n ≤ a
  · rw [decide_eq_true q] at h
    refine ifF (by unfold kC; rw [if_pos q]; decide) h
  · rw [decide_eq_false q] at h
    refine ifT ?_ h
    unfold kC
    rw [if_neg q]
    split
    · decide
    · split
      · decide
      · split <;> decide
end CS2
