/-! THE REFERENCE, one: numbers kept and told -/
theorem gi_ext {g h : Gi} (e : ∀ b, g b = h b) : g = h := funext e
theorem upd_s {f : Nat → Int32} {k : Nat} {x : Int32} : upd f k x k = x := by simp [upd]
theorem updA {f : Nat → Int32} {k j : Nat} {x : Int32} : upd f k x j = if j = k then x else f j := rfl
theorem uIA {g : Gi} {a b : Nat} {f : Nat → Int32} : uI g a f b = if b = a then f else g b := rfl
theorem upd_n {f : Nat → Int32} {k j : Nat} {x : Int32} (h : j ≠ k) : upd f k x j = f j := by simp [upd, h]
theorem mTown_congr {T : Twn} {gi gi' : Gi} {gl : Gl} {p : Nat} (h : ∀ b, 330 ≤ b → b ≤ 354 → gi' b = gi b) (m : mTown T gi gl p) : mTown T gi' gl p := by
  obtain ⟨m1, m2, m3, m4, m5, m6, m7⟩ := m
  refine ⟨fun k hk => ?_, m2, fun j hj i hi => ?_, fun j hj i hi => ?_, fun j hj i hi => ?_, fun j hj i hi => ?_, fun r q hq => ?_⟩
  · rw [h _ (by omega) (by omega)]; exact m1 k hk
  · rw [h _ (by omega) (by omega)]; exact m3 j hj i hi
  · rw [h _ (by omega) (by omega)]; exact m4 j hj i hi
  · rw [h _ (by omega) (by omega)]; exact m5 j hj i hi
  · rw [h _ (by omega) (by omega)]; exact m6 j hj i hi
  · rw [h _ (by omega) (by omega), h _ (by omega) (by omega), h _ (by omega) (by omega), h _ (by omega) (by omega)]; exact m7 r q hq
theorem mAlb_congr {A : Alb} {gi gi' : Gi} {b : Nat} (h : ∀ c, 355 ≤ c → c ≤ 362 → gi' c = gi c) (m : mAlb A gi b) : mAlb A gi' b := by
  obtain ⟨m1, m2, m3⟩ := m
  refine ⟨?_, fun i hi => ⟨?_, fun k hk w hw => ?_⟩, fun j hj => ?_⟩
  · rw [h _ (by omega) (by omega)]; exact m1
  · rw [h _ (by omega) (by omega)]; exact (m2 i hi).1
  · rw [h _ (by omega) (by omega)]; exact (m2 i hi).2 k hk w hw
  · rw [h _ (by omega) (by omega)]; exact m3 j hj
/-- the reference's own object: a field told anew leaves the rest -/
theorem MI_frame {σ : Sta} {gi gi' : Gi} {gl : Gl} (m : MI σ gi gl) (h : ∀ c, 330 ≤ c → c ≤ 363 → gi' c = gi c) (h2 : ∀ k, k = 36 ∨ k = 37 ∨ k = 1 ∨ k = 67 ∨ k = 0 ∨ k = 49 ∨ k = 50 → gi' 329 k = gi 329 k) : MI σ gi' gl := by
  obtain ⟨m1, m2, m3, m4, m5, ⟨p, hp, m6, m7⟩, m8, m9, m10, m11⟩ := m
  refine ⟨?_, fun j hj => ?_, ?_, ?_, ?_, ⟨p, hp, ?_, mTown_congr (fun b h1 h2 => h b (by omega) (by omega)) m7⟩, mAlb_congr (fun b h1 h2 => h b (by omega) (by omega)) m8, fun i hi => mAlb_congr (fun b h1 h2 => h b (by omega) (by omega)) (m9 i hi), ?_, ?_⟩
  · rw [h2 36 (by simp)]; exact m1
  · rw [h 363 (by omega) (by omega)]; exact m2 j hj
  · rw [h2 37 (by simp)]; exact m3
  · rw [h2 1 (by simp)]; exact m4
  · rw [h2 67 (by simp)]; exact m5
  · rw [h2 0 (by simp)]; exact m6
  · rw [h2 49 (by simp)]; exact m10
  · rw [h2 50 (by simp)]; exact m11
/-- within: 1 or 0 -/
def b2i (b : Bool) : Int32 := if b then 1 else 0
theorem b2i_t : b2i true = 1 := rfl
theorem b2i_f : b2i false = 0 := rfl
theorem b2i_0 {b : Bool} : b2i b = 0 ↔ b = false := by cases b <;> decide
theorem s_X12_within {x y z : Int32} {gi : Gi} {gl : Gl} {Q : Int32 → Gi → Gl → Prop} (k : Q (b2i (decide (y.toInt ≤ x.toInt) && decide (x.toInt ≤ z.toInt))) gi gl) : p_X12_within x y z gi gl Q := by
  refine v_X12_within ?_
  unfold f_X12_within
  by_cases h1 : x < y
  · rw [if_pos h1]
    rw [lt_toInt] at h1
    rw [show (decide (y.toInt ≤ x.toInt) && decide (x.toInt ≤ z.toInt)) = false by simp; omega] at k
    exact k
  · rw [if_neg h1]
    rw [lt_toInt] at h1
    by_cases h2 : z < x
    · rw [if_pos h2]
      rw [lt_toInt] at h2
      rw [show (decide (y.toInt ≤ x.toInt) && decide (x.toInt ≤ z.toInt)) = false by simp; omega] at k
      exact k
    · rw [if_neg h2]
      rw [lt_toInt] at h2
      rw [show (decide (y.toInt ≤ x.toInt) && decide (x.toInt ≤ z.toInt)) = true by simp; omega] at k
      exact k
/-! feed -/
def pick5 (a b c d e : Int32) (k : Nat) : Int32 := if k < 4 then a else if k < 8 then b else if k < 12 then c else if k < 16 then d else e
def fbyte (a b c d e : Int32) (k : Nat) : Int32 := vp_nar .byte ((ja (pick5 a b c d e k) (nI (24 - 8 * (k % 4)))).toInt8.toInt32)
def dFeed (σ : Sta) (a b c d e : Int32) : Sta := (sN_ σ + 20, fun j => if sN_ σ ≤ j ∧ j < sN_ σ + 20 then fbyte a b c d e (j - sN_ σ) else sTape σ j, σ.2.2)
def feedG (gi : Gi) (a b c d e : Int32) (n k : Nat) : Gi := uI (uI gi 363 (fun j => if n ≤ j ∧ j < n + k then fbyte a b c d e (j - n) else gi 363 j)) 329 (upd (gi 329) 36 (nI (n + k)))
theorem feedG_s {gi : Gi} {a b c d e : Int32} {n k : Nat} : uI (uI (feedG gi a b c d e n k) 363 (upd (feedG gi a b c d e n k 363) (n + k) (fbyte a b c d e k))) 329 (upd (uI (feedG gi a b c d e n k) 363 (upd (feedG gi a b c d e n k 363) (n + k) (fbyte a b c d e k)) 329) 36 (nI (n + (k + 1)))) = feedG gi a b c d e n (k + 1) := by
  funext b' j
  by_cases h1 : b' = 329
  · subst h1
    simp only [feedG, uIA, updA]
    simp
    simp only [updA]
    split <;> rfl
  · by_cases h2 : b' = 363
    · subst h2
      simp only [feedG, uIA]
      simp
      simp only [updA]
      by_cases h3 : j = n + k
      · subst h3; simp
      · rw [if_neg h3]
        by_cases h4 : n ≤ j ∧ j < n + k
        · rw [if_pos h4, if_pos (by omega)]
        · rw [if_neg h4, if_neg (by omega)]
    · simp [uI, feedG, h1, h2]
theorem s_X12_feed_18 {gi : Gi} {gl : Gl} {a b c d e : Int32} {n : Nat} (hn : n + 20 ≤ 1200) {Q : Int32 → Gi → Gl → Prop} (h : Q (nI (n + 20)) (feedG gi a b c d e n 20) gl) : ∀ m k, k + m = 20 → p_X12_feed_18 a b c d e (nI k) (feedG gi a b c d e n k) gl Q := by
  intro m
  induction m with
  | zero =>
    intro k hk
    obtain rfl : k = 20 := by omega
    refine v_X12_feed_18 ?_
    unfold f_X12_feed_18
    rw [if_pos (by decide)]
    have : feedG gi a b c d e n 20 329 36 = nI (n + 20) := by simp [feedG, uI, upd]
    rw [this]; exact h
  | succ m ih =>
    intro k hk
    have key : p_X12_feed_71 a b c d e (nI k) (pick5 a b c d e k) (feedG gi a b c d e n k) gl Q := by
      refine v_X12_feed_71 ?_
      unfold f_X12_feed_71
      have e1 : feedG gi a b c d e n k 329 36 = nI (n + k) := by simp [feedG, uI, upd]
      rw [e1, nI_cl (by omega)]
      refine ⟨vp_nI (by omega) (by omega), ?_⟩
      rintro gi1 rfl gi2 rfl
      have e2 : jr (nI k) 4 = nI (k % 4) := jr_n (b := 4) (by omega) (by omega) (by omega)
      have e3 : (24 : Int32) - 8 * nI (k % 4) = nI (24 - 8 * (k % 4)) := by
        rw [show (8 : Int32) * nI (k % 4) = nI (8 * (k % 4)) from pk_mul 8 _, show (24 : Int32) = nI 24 by rfl, pk_sub (by omega)]
      rw [e2, e3]
      have e4 : (uI (feedG gi a b c d e n k) 363 (upd (feedG gi a b c d e n k 363) (n + k) (vp_nar .byte ((ja (pick5 a b c d e k) (nI (24 - 8 * (k % 4)))).toInt8.toInt32)))) 329 36 + 1 = nI (n + (k + 1)) := by
        rw [uI_n (by omega), e1, nI_1]; rfl
      rw [e4]
      have e5 := feedG_s (gi := gi) (a := a) (b := b) (c := c) (d := d) (e := e) (n := n) (k := k)
      unfold fbyte at e5
      rw [e5, nI_1]
      exact ih (k + 1) (by omega)
    refine v_X12_feed_18 ?_
    unfold f_X12_feed_18
    have lt : ∀ q : Nat, q < 100 → ((nI q ≤ nI k) ↔ q ≤ k) := fun q hq => nI_leI (by omega) (by omega)
    rw [if_neg (by rw [show (20 : Int32) = nI 20 by rfl, lt 20 (by omega)]; omega)]
    unfold pick5 at key
    simp only [show (4 : Int32) = nI 4 by rfl, show (8 : Int32) = nI 8 by rfl, show (12 : Int32) = nI 12 by rfl, show (16 : Int32) = nI 16 by rfl, lt 4 (by omega), lt 8 (by omega), lt 12 (by omega), lt 16 (by omega)]
    by_cases h4 : k < 4
    · rw [if_pos h4] at key; rw [if_neg (by omega)]; exact key
    · rw [if_neg h4] at key; rw [if_pos (by omega)]
      by_cases h8 : k < 8
      · rw [if_pos h8] at key; rw [if_neg (by omega)]; exact key
      · rw [if_neg h8] at key; rw [if_pos (by omega)]
        by_cases h12 : k < 12
        · rw [if_pos h12] at key; rw [if_neg (by omega)]; exact key
        · rw [if_neg h12] at key; rw [if_pos (by omega)]
          by_cases h16 : k < 16
          · rw [if_pos h16] at key; rw [if_neg (by omega)]; exact key
          · rw [if_neg h16] at key; rw [if_pos (by omega)]; exact key
theorem m_feed {σ : Sta} {gi : Gi} {gl : Gl} {a b c d e : Int32} {Q : Int32 → Gi → Gl → Prop} (V : vSta σ) (m : MI σ gi gl)
    (h1 : sN_ σ + 20 ≤ 1200 → ∀ gi', MI (dFeed σ a b c d e) gi' gl → (∀ z, z < 329 → gi' z = gi z) → Q (nI (sN_ σ + 20)) gi' gl) (h2 : ¬ sN_ σ + 20 ≤ 1200 → Q (-1) gi gl) : p_X12_feed a b c d e gi gl Q := by
  refine v_X12_feed ?_
  unfold f_X12_feed
  obtain ⟨m1, m2, m3, m4, m5, ⟨p, hp, m6, m7⟩, m8, m9, m10, m11⟩ := id m
  have hV := V.1
  rw [m1, show (20 : Int32) = nI 20 by rfl, nI_add, show (1200 : Int32) = nI 1200 by rfl]
  simp only [nI_leI (show sN_ σ + 20 < 2 ^ 31 by omega) (show 1200 < 2 ^ 31 by omega)]
  by_cases hc : sN_ σ + 20 ≤ 1200
  · rw [if_pos hc]
    have e0 : feedG gi a b c d e (sN_ σ) 0 = gi := by
      funext b' j
      by_cases q1 : b' = 329
      · subst q1
        simp only [feedG, uIA]
        simp
        simp only [updA]
        split
        · rename_i q; rw [q, m1]
        · rfl
      · by_cases q2 : b' = 363
        · subst q2; simp only [feedG, uI]; simp; omega
        · simp [feedG, uI, q1, q2]
    have hl := s_X12_feed_18 (gi := gi) (gl := gl) (a := a) (b := b) (c := c) (d := d) (e := e) (n := sN_ σ) hc (Q := Q) ?_ 20 0 rfl
    · rw [e0] at hl; exact hl
    · refine h1 hc _ ?_ (fun z hz => by simp only [feedG]; rw [uI_n (by omega), uI_n (by omega)])
      have f1 : ∀ z, z ≠ 329 → z ≠ 363 → feedG gi a b c d e (sN_ σ) 20 z = gi z := fun z q1 q2 => by simp only [feedG]; rw [uI_n q1, uI_n q2]
      have f2 : ∀ k, k ≠ 36 → feedG gi a b c d e (sN_ σ) 20 329 k = gi 329 k := fun k q => by simp only [feedG]; rw [uI_s, upd_n q]
      refine ⟨by simp [feedG, uI, upd, dFeed], fun j hj => ?_, by rw [f2 _ (by omega)]; exact m3, by rw [f2 _ (by omega)]; exact m4, by rw [f2 _ (by omega)]; exact m5, ⟨p, hp, by rw [f2 _ (by omega)]; exact m6, mTown_congr (fun z q1 q2 => f1 z (by omega) (by omega)) m7⟩, mAlb_congr (fun z q1 q2 => f1 z (by omega) (by omega)) m8, fun i hi => mAlb_congr (fun z q1 q2 => f1 z (by omega) (by omega)) (m9 i hi), by rw [f2 _ (by omega)]; exact m10, by rw [f2 _ (by omega)]; exact m11⟩
      simp only [feedG]
      rw [uI_n (by omega), uI_s]
      have hj : j < sN_ σ + 20 := hj
      show _ = (if sN_ σ ≤ j ∧ j < sN_ σ + 20 then fbyte a b c d e (j - sN_ σ) else sTape σ j)
      by_cases q : sN_ σ ≤ j
      · rw [if_pos ⟨q, hj⟩, if_pos ⟨q, hj⟩]
      · rw [if_neg (by omega), if_neg (by omega), m2 j (by omega)]
  · rw [if_neg hc]; exact h2 hc
