/-! sets as bits: shifts, marks -/
theorem sh_tab : ∀ k, k < 32 → ((nI k &&& 31).toBitVec.smod 32).toNat = k := by decide +kernel
theorem ja_n {n k : Nat} (h : n < 2147483648) (hk : k < 32) : ja (nI n) (nI k) = nI (n / 2 ^ k) := pk_shrN h _ k (sh_tab k hk)
theorem jl_m {n k : Nat} (hk : k < 32) (h : n * 2 ^ k < 2 ^ 32) : jl (nI n) (nI k) = nI (n * 2 ^ k) := pk_shlN _ k (sh_tab k hk) h
theorem jl_1 {k : Nat} (hk : k < 32) : jl 1 (nI k) = nI (2 ^ k) := by
  have : 2 ^ k < 2 ^ 32 := Nat.pow_lt_pow_right (by omega) hk
  have h := jl_m (n := 1) hk (by omega)
  rw [Nat.one_mul] at h
  exact h
theorem and1_n (n : Nat) : nI n &&& 1 = nI (n % 2) := by
  rw [show (1 : Int32) = nI 1 by rfl, nx_and, Nat.and_one_is_mod]
theorem bit_n (n k : Nat) : n / 2 ^ k % 2 = if n.testBit k then 1 else 0 := by
  rw [Nat.testBit_eq_decide_div_mod_eq]
  by_cases h : n / 2 ^ k % 2 = 1
  · rw [h]; rfl
  · rw [if_neg (by simpa using h)]; omega
theorem jab {n k : Nat} (h : n < 2147483648) (hk : k < 32) : (ja (nI n) (nI k)) &&& 1 = b2i (n.testBit k) := by
  rw [ja_n h hk, and1_n, bit_n]
  cases n.testBit k <;> rfl
theorem or_pw {n k : Nat} (h : n < 2 ^ k) : n ||| 2 ^ k = n + 2 ^ k := by
  have := Nat.two_pow_add_eq_or_of_lt h 1
  rw [Nat.mul_one, Nat.or_comm] at this
  rw [← this]; omega
theorem bN_s (f : Nat → Bool) (n : Nat) : bN f (n + 1) = bN f n + (if f n then 2 ^ n else 0) := rfl
/-- cell c says of each below N whether p -/
def Mk (g : Gi) (c N : Nat) (p : Nat → Prop) : Prop := ∀ s, s < N → (p s ∧ g c s = 1) ∨ (¬ p s ∧ g c s = 0)
theorem Mk.fr {g g' : Gi} {c N : Nat} {p : Nat → Prop} (h : Mk g c N p) (e : g' c = g c) : Mk g' c N p := fun s hs => by rw [e]; exact h s hs
theorem Mk.cg {g : Gi} {c N : Nat} {p q : Nat → Prop} (h : Mk g c N p) (e : ∀ s, s < N → (p s ↔ q s)) : Mk g c N q := fun s hs => by
  rcases h s hs with ⟨a, b⟩ | ⟨a, b⟩
  · exact Or.inl ⟨(e s hs).1 a, b⟩
  · exact Or.inr ⟨fun k => a ((e s hs).2 k), b⟩
theorem Mk.put {g : Gi} {c N u : Nat} {p q : Nat → Prop} (h : Mk g c N p) (e : ∀ s, s < N → (q s ↔ p s ∨ s = u)) : Mk (uI g c (upd (g c) u 1)) c N q := fun s hs => by
  rw [uI_s, updA]
  by_cases k : s = u
  · rw [if_pos k]; exact Or.inl ⟨(e s hs).2 (Or.inr k), rfl⟩
  · rw [if_neg k]
    rcases h s hs with ⟨a, b⟩ | ⟨a, b⟩
    · exact Or.inl ⟨(e s hs).2 (Or.inl a), b⟩
    · exact Or.inr ⟨fun z => by
        rcases (e s hs).1 z with z | z
        · exact a z
        · exact k z, b⟩
theorem Mk.rd {g : Gi} {c N s : Nat} {p : Nat → Prop} (h : Mk g c N p) (hs : s < N) {X Y : Prop} (kf : ¬ p s → X) (kt : p s → Y) : if g c s = 0 then X else Y := by
  rcases h s hs with ⟨a, b⟩ | ⟨a, b⟩
  · exact ifF (by rw [b]; decide) (kt a)
  · exact ifT b (kf a)
theorem Mk.rdn {g : Gi} {c N s : Nat} {p : Nat → Prop} (h : Mk g c N p) (hs : s < N) {X Y : Prop} (kt : p s → X) (kf : ¬ p s → Y) : if ¬ g c s = 0 then X else Y := by
  rcases h s hs with ⟨a, b⟩ | ⟨a, b⟩
  · exact ifT (by rw [b]; decide) (kt a)
  · exact ifF (not_not_intro b) (kf a)
theorem nar1 : vp_nar .boolean (1 : Int32) = 1 := rfl
theorem nar0 : vp_nar .boolean (0 : Int32) = 0 := rfl
/-- which signs let a day, a minute -/
def dB (T : Twn) (P : Pic) (d : Nat) : Nat := bN (fun k => sD T 0 nosu (P.2 k) d) P.1
def mB (T : Twn) (P : Pic) (m t : Nat) : Nat := bN (fun k => sM T (P.2 k) m t) P.1
theorem dB_lt {T : Twn} {P : Pic} {d : Nat} : dB T P d < 2 ^ P.1 := bN_lt
theorem mB_lt {T : Twn} {P : Pic} {m t : Nat} : mB T P m t < 2 ^ P.1 := bN_lt
def Jm (T : Twn) (P : Pic) (m s : Nat) : Prop := ∃ d t, d < 3600 ∧ t < 720 ∧ mth d < m ∧ dB T P d &&& mB T P (mth d) t = s
/-- some moment has all of the set let -/
def canP (T : Twn) (P : Pic) (s : Nat) : Prop := ∃ d t, d < 3600 ∧ t < 720 ∧ s &&& (dB T P d &&& mB T P (mth d) t) = s
def clP (J : Nat → Prop) (k s : Nat) : Prop := ∃ u, J u ∧ ∀ i, (s.testBit i = true → u.testBit i = true) ∧ (k ≤ i → s.testBit i = u.testBit i)
theorem clP_0 {J : Nat → Prop} {s : Nat} : clP J 0 s ↔ J s := by
  constructor
  · rintro ⟨u, h1, h2⟩
    have : s = u := Nat.eq_of_testBit_eq (fun i => (h2 i).2 (by omega))
    rw [this]; exact h1
  · exact fun h => ⟨s, h, fun i => ⟨id, fun _ => rfl⟩⟩
theorem bit_or {s k i : Nat} : (s ||| 2 ^ k).testBit i = (s.testBit i || decide (k = i)) := by rw [Nat.testBit_or, Nat.testBit_two_pow]
theorem clP_s {J : Nat → Prop} {k s : Nat} : clP J (k + 1) s ↔ clP J k s ∨ (s.testBit k = false ∧ clP J k (s ||| 2 ^ k)) := by
  constructor
  · rintro ⟨u, h1, h2⟩
    by_cases hk : s.testBit k = u.testBit k
    · refine Or.inl ⟨u, h1, fun i => ⟨(h2 i).1, fun hi => ?_⟩⟩
      by_cases q : k = i
      · rw [← q]; exact hk
      · exact (h2 i).2 (by omega)
    · have hs : s.testBit k = false := by
        cases hb : s.testBit k with
        | false => rfl
        | true => rw [(h2 k).1 hb, hb] at hk; exact absurd rfl hk
      have hu : u.testBit k = true := by
        cases hb : u.testBit k with
        | true => rfl
        | false => rw [hs, hb] at hk; exact absurd rfl hk
      refine Or.inr ⟨hs, u, h1, fun i => ⟨fun hi => ?_, fun hi => ?_⟩⟩
      · rw [bit_or, Bool.or_eq_true, decide_eq_true_eq] at hi
        rcases hi with hi | hi
        · exact (h2 i).1 hi
        · rw [← hi]; exact hu
      · rw [bit_or]
        by_cases q : k = i
        · rw [← q, hu]; simp
        · rw [(h2 i).2 (by omega)]; simp [q]
  · rintro (⟨u, h1, h2⟩ | ⟨hs, u, h1, h2⟩)
    · exact ⟨u, h1, fun i => ⟨(h2 i).1, fun hi => (h2 i).2 (by omega)⟩⟩
    · refine ⟨u, h1, fun i => ⟨fun hi => (h2 i).1 (by rw [bit_or, hi]; rfl), fun hi => ?_⟩⟩
      have := (h2 i).2 (by omega)
      rw [bit_or, show decide (k = i) = false by simp; omega, Bool.or_false] at this
      exact this
theorem clP_up {J : Nat → Prop} {k s : Nat} (h : s.testBit k = true) : clP J (k + 1) s ↔ clP J k s := by
  rw [clP_s]
  constructor
  · rintro (q | ⟨q, -⟩)
    · exact q
    · rw [h] at q; cases q
  · exact Or.inl
theorem clP_can {T : Twn} {P : Pic} {s : Nat} (hs : s < 2 ^ P.1) : clP (Jm T P 12) P.1 s ↔ canP T P s := by
  constructor
  · rintro ⟨u, ⟨d, t, h1, h2, h3, h4⟩, h5⟩
    refine ⟨d, t, h1, h2, ?_⟩
    rw [h4]
    apply Nat.eq_of_testBit_eq
    intro i
    rw [Nat.testBit_and]
    cases hb : s.testBit i with
    | false => rfl
    | true => rw [(h5 i).1 hb]; rfl
  · rintro ⟨d, t, h1, h2, h3⟩
    refine ⟨dB T P d &&& mB T P (mth d) t, ⟨d, t, h1, h2, mth_lt h1, rfl⟩, fun i => ⟨fun hb => ?_, fun hi => ?_⟩⟩
    · rw [← h3, Nat.testBit_and, Bool.and_eq_true] at hb
      exact hb.2
    · have p : 2 ^ P.1 ≤ 2 ^ i := Nat.pow_le_pow_right (by omega) hi
      rw [Nat.testBit_lt_two_pow (Nat.lt_of_lt_of_le hs p), Nat.testBit_lt_two_pow (Nat.lt_of_le_of_lt Nat.and_le_left (Nat.lt_of_lt_of_le dB_lt p))]
/-! THE REFERENCE, fourteen: sets of signs -/
section DF
variable {T : Twn} {p : Nat} {la : Int} {su : Int × Int} {gi : Gi} {gl : Gl} {P : Pic} {x : Nat}
theorem pw12 {n : Nat} (h : n ≤ 12) : 2 ^ n ≤ 4096 := Nat.le_trans (Nat.pow_le_pow_right (by omega) h) (Nat.le_refl _)
theorem pw_pos {n : Nat} : 0 < 2 ^ n := Nat.pos_of_ne_zero (by simp)
theorem s_X12_dayBits {Q : Int32 → Gi → Gl → Prop} (m : ME T p 0 nosu gi gl) (hP : mPic P x gi) (vP : ∀ k, k < P.1 → vSign T (P.2 k)) {d : Nat} (hd : d < 3600) (h : Q (nI (dB T P d)) gi gl) : p_X12_dayBits (nI x) (nI d) gi gl Q := by
  obtain ⟨hx, hc, hn, hs⟩ := hP
  have hv : vp_in (nI x) 40 := vp_nI hx (by omega)
  refine v_X12_dayBits ?_
  unfold f_X12_dayBits
  refine dn (P := fun k => p_X12_dayBits_5 (nI x) (nI d) (nI (bN (fun k => sD T 0 nosu (P.2 k) d) k)) (nI k) gi gl Q) (N := P.1) ?_ ?_ 0 (by omega)
  · refine v_X12_dayBits_5 ?_
    unfold f_X12_dayBits_5
    rw [nI_cl (by omega), hn]
    exact ⟨hv, ifT (by rw [nI_leI (by omega) (by omega)]; omega) h⟩
  · intro k hk ih
    refine v_X12_dayBits_5 ?_
    unfold f_X12_dayBits_5
    rw [nI_cl (by omega), hn, show (12 : Int32) * nI x = nI (12 * x) from pk_mul 12 x, nI_add, nI_1]
    refine ⟨hv, ?_⟩
    refine c_le P.1 k rfl rfl (by omega) (by omega) (fun q => by omega) (fun _ => ?_)
    refine s_X12_letsDay m (hs k hk) (vP k hk) hd ?_
    rw [bN_s] at ih
    refine c_b (fun q => ?_) (fun q => ?_)
    · rintro z1 rfl
      rw [q] at ih
      rw [show (0 : Int32) = nI 0 by rfl, nx_or, Nat.or_zero]
      exact ih
    · rintro z1 rfl
      rw [if_pos q] at ih
      rw [jl_1 (by omega), nx_or, or_pw bN_lt]
      exact ih
theorem s_X12_minuteBits {Q : Int32 → Gi → Gl → Prop} (m : ME T p 0 nosu gi gl) (hP : mPic P x gi) (vP : ∀ k, k < P.1 → vSign T (P.2 k)) {mo t : Nat} (hm : mo < 12) (ht : t < 720) (h : ∀ g, Sn gi g → Q (nI (mB T P mo t)) g gl) : p_X12_minuteBits (nI x) (nI mo) (nI t) gi gl Q := by
  have hx := hP.1
  have hc := hP.2.1
  have hv : vp_in (nI x) 40 := vp_nI hx (by omega)
  refine v_X12_minuteBits ?_
  unfold f_X12_minuteBits
  refine dn (P := fun k => ∀ g, Sn gi g → p_X12_minuteBits_6 (nI x) (nI mo) (nI t) (nI (bN (fun k => sM T (P.2 k) mo t) k)) (nI k) g gl Q) (N := P.1) ?_ ?_ 0 (by omega) gi Sn.rf
  · intro g hs
    refine v_X12_minuteBits_6 ?_
    unfold f_X12_minuteBits_6
    rw [nI_cl (by omega), hs.1 _ (by omega), hP.2.2.1]
    exact ⟨hv, ifT (by rw [nI_leI (by omega) (by omega)]; omega) (h g hs)⟩
  · intro k hk ih g hs
    refine v_X12_minuteBits_6 ?_
    unfold f_X12_minuteBits_6
    rw [nI_cl (by omega), hs.1 _ (by omega), hP.2.2.1, show (12 : Int32) * nI x = nI (12 * x) from pk_mul 12 x, nI_add, nI_1]
    refine ⟨hv, ?_⟩
    refine c_le P.1 k rfl rfl (by omega) (by omega) (fun q => by omega) (fun _ => ?_)
    refine s_X12_letsMinute (hs.E m) ((hP.2.2.2 k hk).sn hs) (vP k hk) hm ht (fun g2 hs2 => ?_)
    have ih := ih g2 (hs.tr hs2)
    rw [bN_s] at ih
    refine c_b (fun q => ?_) (fun q => ?_)
    · rintro z1 rfl
      rw [q] at ih
      rw [show (0 : Int32) = nI 0 by rfl, nx_or, Nat.or_zero]
      exact ih
    · rintro z1 rfl
      rw [if_pos q] at ih
      rw [jl_1 (by omega), nx_or, or_pw bN_lt]
      exact ih
theorem s_X12_bitsOf {Q : Int32 → Gi → Gl → Prop} {v : Nat} (hv : v < 4096) (h : Q (nI (pcN v)) gi gl) : p_X12_bitsOf (nI v) gi gl Q := by
  have e : pcN v = cntN (fun i => v.testBit i) 12 := by
    unfold pcN
    refine cntN_tail (by omega) (fun i h1 h2 => Nat.testBit_lt_two_pow (Nat.lt_of_lt_of_le hv ?_))
    exact Nat.le_trans (by decide : 4096 ≤ 2 ^ 12) (Nat.pow_le_pow_right (by omega) h1)
  rw [e] at h
  refine v_X12_bitsOf ?_
  unfold f_X12_bitsOf
  refine dn (P := fun k => p_X12_bitsOf_4 (nI v) (nI (cntN (fun i => v.testBit i) k)) (nI k) gi gl Q) (N := 12) ?_ ?_ 0 (by omega)
  · refine v_X12_bitsOf_4 ?_
    unfold f_X12_bitsOf_4
    exact ifT (by decide) h
  · intro k hk ih
    refine v_X12_bitsOf_4 ?_
    unfold f_X12_bitsOf_4
    refine c_le 12 k rfl rfl (by omega) (by omega) (fun q => by omega) (fun _ => ?_)
    rintro z1 rfl
    rw [jab (by omega) (by omega), nI_1]
    rw [cntN_s] at ih
    cases q : v.testBit k with
    | false =>
      simp only [q, Bool.false_eq_true, if_false] at ih
      rw [b2i_f, show (0 : Int32) = nI 0 by rfl, nI_add]; exact ih
    | true =>
      simp only [q, if_true] at ih
      rw [b2i_t, show (1 : Int32) = nI 1 by rfl, nI_add]; exact ih
theorem pcN_le {v : Nat} : pcN v ≤ 32 := cntN_le
/-- marks are kept where nothing is written -/
def Mo (gi g : Gi) : Prop := (∀ z, z ≠ 368 → z ≠ 369 → z ≠ 370 → z ≠ 329 → g z = gi z) ∧ ∀ k, k ≠ 46 ∧ k ≠ 47 ∧ k ≠ 48 → g 329 k = gi 329 k
theorem Mo.rf {g : Gi} : Mo g g := ⟨fun _ _ _ _ _ => rfl, fun _ _ => rfl⟩
theorem Mo.tr {a b c : Gi} (h : Mo a b) (k : Mo b c) : Mo a c := ⟨fun z q1 q2 q3 q4 => (k.1 z q1 q2 q3 q4).trans (h.1 z q1 q2 q3 q4), fun j hj => (k.2 j hj).trans (h.2 j hj)⟩
theorem Mo.Sc {a b : Gi} (h : Mo a b) : Sc a b := ⟨fun z h1 h2 => h.1 z (by omega) (by omega) (by omega) h2, h.2⟩
theorem Sn.Mo {a b : Gi} (h : Sn a b) : Mo a b := ⟨fun z _ _ _ h2 => h.1 z h2, h.2⟩
theorem Mo.set {a b : Gi} (h : Mo a b) {c : Nat} (hc : c = 368 ∨ c = 369 ∨ c = 370) {f : Nat → Int32} : Mo a (uI b c f) := ⟨fun z q1 q2 q3 q4 => by rw [uI_n (by omega)]; exact h.1 z q1 q2 q3 q4, fun k hk => by rw [uI_n (by omega)]; exact h.2 k hk⟩
theorem findSets_prod {Q : Gi → Gl → Prop} {n : Nat} (hn : n ≤ 12) {mo : Nat} (hm : mo < 12) {J D M : Nat → Prop} {g0 : Gi}
    (h : ∀ g, Mo g0 g → Mk g 368 (2 ^ n) (fun s => J s ∨ ∃ a b, a < 2 ^ n ∧ b < 2 ^ n ∧ D a ∧ M b ∧ a &&& b = s) → p_X12_findSets_31 (nI x) (nI (2 ^ n)) (nI (mo + 1)) g gl Q) :
    ∀ a, a ≤ 2 ^ n → ∀ g, Mo g0 g → Mk g 369 (2 ^ n) D → Mk g 370 (2 ^ n) M → Mk g 368 (2 ^ n) (fun s => J s ∨ ∃ a' b, a' < a ∧ b < 2 ^ n ∧ D a' ∧ M b ∧ a' &&& b = s) → p_X12_findSets_148 (nI x) (nI (2 ^ n)) (nI mo) (nI a) g gl Q := by
  have hN := pw12 hn
  refine dn ?_ ?_
  · intro g h0 h1 h2 h3
    refine v_X12_findSets_148 ?_
    unfold f_X12_findSets_148
    refine ifT (by rw [nI_leI (by omega) (by omega)]; omega) ?_
    rw [nI_1]
    exact h g h0 h3
  · intro a ha ih g h0 h1 h2 h3
    refine v_X12_findSets_148 ?_
    unfold f_X12_findSets_148
    refine c_le (2 ^ n) a rfl rfl (by omega) (by omega) (fun q => by omega) (fun _ => ?_)
    refine dn (P := fun b => ∀ g, Mo g0 g → Mk g 369 (2 ^ n) D → Mk g 370 (2 ^ n) M → Mk g 368 (2 ^ n) (fun s => (J s ∨ ∃ a' b, a' < a ∧ b < 2 ^ n ∧ D a' ∧ M b ∧ a' &&& b = s) ∨ ∃ b', b' < b ∧ D a ∧ M b' ∧ a &&& b' = s) → p_X12_findSets_157 (nI x) (nI (2 ^ n)) (nI mo) (nI a) (nI b) g gl Q) (N := 2 ^ n) ?_ ?_ 0 (Nat.zero_le _) g h0 h1 h2 ?_
    · intro g h0 h1 h2 h3
      refine v_X12_findSets_157 ?_
      unfold f_X12_findSets_157
      refine ifT (by rw [nI_leI (by omega) (by omega)]; omega) ?_
      rw [nI_1]
      refine ih g h0 h1 h2 (h3.cg (fun s _ => ?_))
      constructor
      · rintro ((q | ⟨a', b, q1, q2⟩) | ⟨b', q1, q2, q3, q4⟩)
        · exact Or.inl q
        · exact Or.inr ⟨a', b, by omega, q2⟩
        · exact Or.inr ⟨a, b', by omega, q1, q2, q3, q4⟩
      · rintro (q | ⟨a', b, q1, q2, q3, q4, q5⟩)
        · exact Or.inl (Or.inl q)
        · by_cases e : a' = a
          · subst e; exact Or.inr ⟨b, q2, q3, q4, q5⟩
          · exact Or.inl (Or.inr ⟨a', b, by omega, q2, q3, q4, q5⟩)
    · intro b hb ih2 g h0 h1 h2 h3
      refine v_X12_findSets_157 ?_
      unfold f_X12_findSets_157
      refine c_le (2 ^ n) b rfl rfl (by omega) (by omega) (fun q => by omega) (fun _ => ?_)
      rw [nI_cl (show a < 2147483648 by omega), nI_cl (show b < 2147483648 by omega), nI_1, nI_1]
      refine ⟨vp_nI (by omega) (by omega), ?_⟩
      refine h1.rd ha (fun q => ?_) (fun q => ⟨vp_nI (by omega) (by omega), ?_⟩)
      · refine ih g h0 h1 h2 (h3.cg (fun s _ => ?_))
        constructor
        · rintro ((q | ⟨a', b, q1, q2⟩) | ⟨b', q1, q2, q3, q4⟩)
          · exact Or.inl q
          · exact Or.inr ⟨a', b, by omega, q2⟩
          · exact absurd q2 q
        · rintro (q' | ⟨a', b, q1, q2, q3, q4, q5⟩)
          · exact Or.inl (Or.inl q')
          · by_cases e : a' = a
            · subst e; exact absurd q3 q
            · exact Or.inl (Or.inr ⟨a', b, by omega, q2, q3, q4, q5⟩)
      · refine h2.rd hb (fun q2 => ?_) (fun q2 => ?_)
        · refine ih2 g h0 h1 h2 (h3.cg (fun s _ => ?_))
          constructor
          · rintro (z | ⟨b', w1, w2⟩)
            · exact Or.inl z
            · exact Or.inr ⟨b', by omega, w2⟩
          · rintro (z | ⟨b', w1, w2, w3, w4⟩)
            · exact Or.inl z
            · by_cases e : b' = b
              · subst e; exact absurd w3 q2
              · exact Or.inr ⟨b', by omega, w2, w3, w4⟩
        · have hab : a &&& b < 2 ^ n := Nat.lt_of_le_of_lt Nat.and_le_left ha
          rw [nx_and, nI_cl (by omega), nar1]
          refine ⟨vp_nI (by omega) (by omega), ?_⟩
          rintro g2 rfl
          refine ih2 _ (h0.set (Or.inl rfl)) (h1.fr (uI_n (by omega))) (h2.fr (uI_n (by omega))) (h3.put (fun s _ => ?_))
          constructor
          · rintro (z | ⟨b', w1, w2, w3, w4⟩)
            · exact Or.inl (Or.inl z)
            · by_cases e : b' = b
              · subst e; exact Or.inr w4.symm
              · exact Or.inl (Or.inr ⟨b', by omega, w2, w3, w4⟩)
          · rintro ((z | ⟨b', w1, w2⟩) | z)
            · exact Or.inl z
            · exact Or.inr ⟨b', by omega, w2⟩
            · exact Or.inr ⟨b, by omega, q, q2, z.symm⟩
    · refine h3.cg (fun s _ => ?_)
      constructor
      · exact Or.inl
      · rintro (q | ⟨b', q, -⟩)
        · exact q
        · omega
theorem findSets_close {Q : Gi → Gl → Prop} (hP : mPic P x gi) {J : Nat → Prop}
    (h : ∀ g, Mo gi g → Mk g 368 (2 ^ P.1) (clP J P.1) → Q g gl) : ∀ k, k ≤ P.1 → ∀ g, Mo gi g → Mk g 368 (2 ^ P.1) (clP J k) → p_X12_findSets_214 (nI x) (nI (2 ^ P.1)) (nI k) g gl Q := by
  have hx := hP.1
  have hc := hP.2.1
  have hN := pw12 hc
  have hv : vp_in (nI x) 40 := vp_nI hx (by omega)
  refine dn ?_ ?_
  · intro g h0 h1
    refine v_X12_findSets_214 ?_
    unfold f_X12_findSets_214
    rw [nI_cl (by omega), h0.1 356 (by omega) (by omega) (by omega) (by omega), hP.2.2.1]
    exact ⟨hv, ifT (by rw [nI_leI (by omega) (by omega)]; omega) (h g h0 h1)⟩
  · intro k hk ih g h0 h1
    refine v_X12_findSets_214 ?_
    unfold f_X12_findSets_214
    rw [nI_cl (by omega), h0.1 356 (by omega) (by omega) (by omega) (by omega), hP.2.2.1]
    refine ⟨hv, ?_⟩
    refine c_le P.1 k rfl rfl (by omega) (by omega) (fun q => by omega) (fun _ => ?_)
    refine dn (P := fun s => ∀ g, Mo gi g → Mk g 368 (2 ^ P.1) (fun u => (u < s ∧ clP J (k + 1) u) ∨ (s ≤ u ∧ clP J k u)) → p_X12_findSets_227 (nI x) (nI (2 ^ P.1)) (nI k) (nI s) g gl Q) (N := 2 ^ P.1) ?_ ?_ 0 (Nat.zero_le _) g h0 (h1.cg (fun s _ => ?_))
    · intro g h0 h1
      refine v_X12_findSets_227 ?_
      unfold f_X12_findSets_227
      refine ifT (by rw [nI_leI (by omega) (by omega)]; omega) ?_
      rw [nI_1]
      refine ih g h0 (h1.cg (fun s hs => ?_))
      constructor
      · rintro (q | q)
        · exact q.2
        · omega
      · exact fun q => Or.inl ⟨hs, q⟩
    · intro s hs ih2 g h0 h1
      have keep : (clP J (k + 1) s ↔ clP J k s) → Mk g 368 (2 ^ P.1) (fun u => (u < s + 1 ∧ clP J (k + 1) u) ∨ (s + 1 ≤ u ∧ clP J k u)) := by
        intro e
        refine h1.cg (fun u _ => ?_)
        by_cases q : u = s
        · subst q
          constructor
          · rintro (z | z)
            · omega
            · exact Or.inl ⟨by omega, e.2 z.2⟩
          · rintro (z | z)
            · exact Or.inr ⟨by omega, e.1 z.2⟩
            · omega
        · constructor
          · rintro (z | z)
            · exact Or.inl ⟨by omega, z.2⟩
            · exact Or.inr ⟨by omega, z.2⟩
          · rintro (z | z)
            · exact Or.inl ⟨by omega, z.2⟩
            · exact Or.inr ⟨by omega, z.2⟩
      refine v_X12_findSets_227 ?_
      unfold f_X12_findSets_227
      refine c_le (2 ^ P.1) s rfl rfl (by omega) (by omega) (fun q => by omega) (fun _ => ?_)
      rw [jab (by omega) (by omega), jl_1 (by omega), nx_or, nI_1]
      refine c_nb (fun hb => ?_) (fun hb => ?_)
      · exact ih2 g h0 (keep (clP_up hb))
      · have hs2 : s ||| 2 ^ k < 2 ^ P.1 := Nat.or_lt_two_pow hs (Nat.pow_lt_pow_right (by omega) hk)
        have hle : s ≤ s ||| 2 ^ k := Nat.left_le_or
        rw [nI_cl (by omega), nI_cl (show s < 2147483648 by omega), nar1]
        refine ⟨vp_nI (by omega) (by omega), ?_⟩
        refine h1.rd hs2 (fun q => ?_) (fun q => ⟨vp_nI (by omega) (by omega), ?_⟩)
        · refine ih2 g h0 (keep ?_)
          rw [clP_s]
          constructor
          · rintro (z | z)
            · exact z
            · exact absurd (Or.inr ⟨hle, z.2⟩) q
          · exact Or.inl
        · rintro g2 rfl
          have q2 : clP J k (s ||| 2 ^ k) := by
            rcases q with z | z
            · omega
            · exact z.2
          refine ih2 _ (h0.set (Or.inl rfl)) (h1.put (fun u _ => ?_))
          constructor
          · rintro (z | z)
            · by_cases e : u = s
              · exact Or.inr e
              · exact Or.inl (Or.inl ⟨by omega, z.2⟩)
            · exact Or.inl (Or.inr ⟨by omega, z.2⟩)
          · rintro ((z | z) | z)
            · exact Or.inl ⟨by omega, z.2⟩
            · by_cases e : u = s
              · subst e; exact Or.inl ⟨by omega, clP_s.2 (Or.inl z.2)⟩
              · exact Or.inr ⟨by omega, z.2⟩
            · subst z; exact Or.inl ⟨by omega, clP_s.2 (Or.inr ⟨hb, q2⟩)⟩
    · constructor
      · exact fun q => Or.inr ⟨Nat.zero_le _, q⟩
      · rintro (q | q)
        · omega
        · exact q.2
theorem s_X12_findSets {Q : Gi → Gl → Prop} (m : ME T p 0 nosu gi gl) (hP : mPic P x gi) (vP : ∀ k, k < P.1 → vSign T (P.2 k)) (h : ∀ g, Mo gi g → Mk g 368 (2 ^ P.1) (canP T P) → Q g gl) : p_X12_findSets (nI x) gi gl Q := by
  have hx := hP.1
  have hc := hP.2.1
  have hN := pw12 hc
  have h0N := pw_pos (n := P.1)
  have hv : vp_in (nI x) 40 := vp_nI hx (by omega)
  have hPm : ∀ {g}, Mo gi g → mPic P x g := fun hm => hP.congr (fun z _ _ => hm.1 z (by omega) (by omega) (by omega) (by omega))
  refine v_X12_findSets ?_
  unfold f_X12_findSets
  rw [nI_cl (by omega), hP.2.2.1, jl_1 (by omega)]
  refine ⟨hv, ?_⟩
  rintro z1 rfl
  have k31 : ∀ mo, mo ≤ 12 → ∀ g, Mo gi g → Mk g 368 (2 ^ P.1) (Jm T P mo) → p_X12_findSets_31 (nI x) (nI (2 ^ P.1)) (nI mo) g gl Q := by
    refine dn ?_ ?_
    · intro g h0 h1
      refine v_X12_findSets_31 ?_
      unfold f_X12_findSets_31
      refine ifT (by decide) ?_
      exact findSets_close hP (J := Jm T P 12) (fun g h0 h1 => h g h0 (h1.cg (fun s hs => clP_can hs))) 0 (by omega) g h0 (h1.cg (fun s _ => clP_0.symm))
    · intro mo hmo ih g h0 h1
      refine v_X12_findSets_31 ?_
      unfold f_X12_findSets_31
      refine c_le 12 mo rfl rfl (by omega) (by omega) (fun q => by omega) (fun _ => ?_)
      -- clear, then days, then minutes, then products
      refine dn (P := fun s => ∀ g, Mo gi g → Mk g 368 (2 ^ P.1) (Jm T P mo) → Mk g 369 s (fun _ => False) → Mk g 370 s (fun _ => False) → p_X12_findSets_40 (nI x) (nI (2 ^ P.1)) (nI mo) (nI s) g gl Q) (N := 2 ^ P.1) ?_ ?_ 0 (Nat.zero_le _) g h0 h1 (fun s q => by omega) (fun s q => by omega)
      · intro g h0 h1 h2 h3
        refine v_X12_findSets_40 ?_
        unfold f_X12_findSets_40
        refine ifT (by rw [nI_leI (by omega) (by omega)]; omega) ?_
        rintro z2 rfl
        rw [show (30 : Int32) * nI mo = nI (30 * mo) from pk_mul 30 mo]
        refine dn (P := fun d => ∀ g, Mo gi g → Mk g 368 (2 ^ P.1) (Jm T P mo) → Mk g 369 (2 ^ P.1) (fun s => ∃ e, e < d ∧ mth e = mo ∧ dB T P e = s) → Mk g 370 (2 ^ P.1) (fun _ => False) → p_X12_findSets_74 (nI x) (nI (2 ^ P.1)) (nI mo) (nI d) g gl Q) (N := 3600) ?_ ?_ (30 * mo) (by omega) g h0 h1 (h2.cg (fun s _ => ?_)) h3
        · intro g h0 h1 h2 h3
          refine v_X12_findSets_74 ?_
          unfold f_X12_findSets_74
          refine ifT (by decide) ?_
          refine dn (P := fun t => ∀ g, Mo gi g → Mk g 368 (2 ^ P.1) (Jm T P mo) → Mk g 369 (2 ^ P.1) (fun s => ∃ e, e < 3600 ∧ mth e = mo ∧ dB T P e = s) → Mk g 370 (2 ^ P.1) (fun s => ∃ u, u < t ∧ mB T P mo u = s) → p_X12_findSets_117 (nI x) (nI (2 ^ P.1)) (nI mo) (nI t) g gl Q) (N := 720) ?_ ?_ 0 (by omega) g h0 h1 h2 (h3.cg (fun s _ => ⟨fun q => q.elim, fun ⟨u, q, _⟩ => by omega⟩))
          · intro g h0 h1 h2 h3
            refine v_X12_findSets_117 ?_
            unfold f_X12_findSets_117
            refine ifT (by decide) ?_
            refine findSets_prod hc hmo (J := Jm T P mo) (D := fun s => ∃ e, e < 3600 ∧ mth e = mo ∧ dB T P e = s) (M := fun s => ∃ u, u < 720 ∧ mB T P mo u = s) (g0 := gi) (fun g h4 h5 => ih g h4 (h5.cg (fun s _ => ?_))) 0 (by omega) g h0 h2 h3 (h1.cg (fun s _ => ⟨Or.inl, ?_⟩))
            · constructor
              · rintro (⟨d, t, q1, q2, q3, q4⟩ | ⟨a, b, q1, q2, ⟨e, r1, r2, r3⟩, ⟨u, r4, r5⟩, q3⟩)
                · exact ⟨d, t, q1, q2, by omega, q4⟩
                · refine ⟨e, u, r1, r4, by omega, ?_⟩
                  rw [r2, r3, r5]; exact q3
              · rintro ⟨d, t, q1, q2, q3, q4⟩
                by_cases e : mth d = mo
                · refine Or.inr ⟨dB T P d, mB T P mo t, dB_lt, mB_lt, ⟨d, q1, e, rfl⟩, ⟨t, q2, rfl⟩, ?_⟩
                  rw [← e]; exact q4
                · exact Or.inl ⟨d, t, q1, q2, by omega, q4⟩
            · rintro (q | ⟨a, b, q, -⟩)
              · exact q
              · omega
          · intro t ht ih2 g h0 h1 h2 h3
            refine v_X12_findSets_117 ?_
            unfold f_X12_findSets_117
            refine c_le 720 t rfl rfl (by omega) (by omega) (fun q => by omega) (fun _ => ?_)
            refine s_X12_minuteBits (h0.Sc.E m) (hPm h0) vP hmo ht (fun g2 hs2 => ?_)
            have hB := mB_lt (T := T) (P := P) (m := mo) (t := t)
            rw [nI_1, nI_cl (by omega), nar1]
            refine ⟨vp_nI (by omega) (by omega), ?_⟩
            rintro g3 rfl
            refine ih2 _ ((h0.tr hs2.Mo).set (Or.inr (Or.inr rfl))) (h1.fr (by rw [uI_n (by omega), hs2.1 _ (by omega)])) (h2.fr (by rw [uI_n (by omega), hs2.1 _ (by omega)])) ((h3.fr (hs2.1 _ (by omega))).put (fun s _ => ?_))
            constructor
            · rintro ⟨u, q1, q2⟩
              by_cases e : u = t
              · subst e; exact Or.inr q2.symm
              · exact Or.inl ⟨u, by omega, q2⟩
            · rintro (⟨u, q1, q2⟩ | q)
              · exact ⟨u, by omega, q2⟩
              · exact ⟨t, by omega, q.symm⟩
        · intro d hd ih2 g h0 h1 h2 h3
          refine v_X12_findSets_74 ?_
          unfold f_X12_findSets_74
          refine c_le 3600 d rfl rfl (by omega) (by omega) (fun q => by omega) (fun _ => ?_)
          rw [mth_i hd, nI_1]
          have hml := mth_lt hd
          refine c_ne (mth d) mo rfl rfl (by omega) (by omega) (fun q => ?_) (fun q => ?_)
          · refine ih2 g h0 h1 (h2.cg (fun s _ => ?_)) h3
            constructor
            · rintro ⟨e, q1, q2⟩; exact ⟨e, by omega, q2⟩
            · rintro ⟨e, q1, q2, q3⟩
              refine ⟨e, ?_, q2, q3⟩
              have : e ≠ d := fun z => q (by rw [← z]; exact q2)
              omega
          · refine s_X12_dayBits (h0.Sc.E m) (hPm h0) vP hd ?_
            have hB := dB_lt (T := T) (P := P) (d := d)
            rw [nI_cl (by omega), nar1]
            refine ⟨vp_nI (by omega) (by omega), ?_⟩
            rintro g3 rfl
            refine ih2 _ (h0.set (Or.inr (Or.inl rfl))) (h1.fr (uI_n (by omega))) (h2.put (fun s _ => ?_)) (h3.fr (uI_n (by omega)))
            constructor
            · rintro ⟨e, q1, q2, q3⟩
              by_cases z : e = d
              · subst z; exact Or.inr q3.symm
              · exact Or.inl ⟨e, by omega, q2, q3⟩
            · rintro (⟨e, q1, q2⟩ | z)
              · exact ⟨e, by omega, q2⟩
              · exact ⟨d, by omega, q, z.symm⟩
        · constructor
          · exact fun q => q.elim
          · rintro ⟨e, q1, q2, -⟩
            unfold mth at q2; omega
      · intro s hs ih2 g h0 h1 h2 h3
        refine v_X12_findSets_40 ?_
        unfold f_X12_findSets_40
        refine c_le (2 ^ P.1) s rfl rfl (by omega) (by omega) (fun q => by omega) (fun _ => ⟨vp_nI (by omega) (by omega), ?_⟩)
        rintro g2 rfl
        refine ⟨vp_nI (by omega) (by omega), ?_⟩
        rintro g3 rfl
        rw [nI_cl (by omega), nar0, nI_1, uI_n (show 370 ≠ 369 by omega)]
        refine ih2 _ ((h0.set (Or.inr (Or.inl rfl))).set (Or.inr (Or.inr rfl))) (h1.fr (by rw [uI_n (by omega), uI_n (by omega)])) (fun u hu => Or.inr ⟨id, ?_⟩) (fun u hu => Or.inr ⟨id, ?_⟩)
        · rw [uI_n (by omega), uI_s, updA]
          by_cases q : u = s
          · rw [if_pos q]
          · rw [if_neg q]
            rcases h2 u (by omega) with z | z
            · exact z.1.elim
            · exact z.2
        · rw [uI_s, updA]
          by_cases q : u = s
          · rw [if_pos q]
          · rw [if_neg q]
            rcases h3 u (by omega) with z | z
            · exact z.1.elim
            · exact z.2
  refine dn (P := fun s => ∀ g, Mo gi g → Mk g 368 s (fun _ => False) → p_X12_findSets_11 (nI x) (nI (2 ^ P.1)) (nI s) g gl Q) (N := 2 ^ P.1) ?_ ?_ 0 (Nat.zero_le _) gi Mo.rf (fun s q => by omega)
  · intro g h0 h1
    refine v_X12_findSets_11 ?_
    unfold f_X12_findSets_11
    refine ifT (by rw [nI_leI (by omega) (by omega)]; omega) ?_
    exact k31 0 (by omega) g h0 (h1.cg (fun s _ => ⟨fun q => q.elim, fun ⟨_, _, _, _, q, _⟩ => by omega⟩))
  · intro s hs ih2 g h0 h1
    refine v_X12_findSets_11 ?_
    unfold f_X12_findSets_11
    refine c_le (2 ^ P.1) s rfl rfl (by omega) (by omega) (fun q => by omega) (fun _ => ⟨vp_nI (by omega) (by omega), ?_⟩)
    rintro g2 rfl
    rw [nI_cl (by omega), nar0, nI_1]
    refine ih2 _ (h0.set (Or.inl rfl)) (fun u hu => Or.inr ⟨id, ?_⟩)
    rw [uI_s, updA]
    by_cases q : u = s
    · rw [if_pos q]
    · rw [if_neg q]
      rcases h1 u (by omega) with z | z
      · exact z.1.elim
      · exact z.2
end DF
