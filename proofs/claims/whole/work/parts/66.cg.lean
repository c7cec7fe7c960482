/-! THE CLASS, seven: couples -/
def clp (x : Int) (N : Nat) : Nat := if x.toNat ≤ N then x.toNat else N
theorem win {f : Nat → Bool} {lo hi : Int} (h : lo ≤ hi + 1) : ∀ N, cntN (fun u => f u && (decide (lo ≤ (u : Int)) && decide ((u : Int) ≤ hi))) N + cntN f (clp lo N) = cntN f (clp (hi + 1) N)
  | 0 => by
    have z : ∀ x, clp x 0 = 0 := fun x => by unfold clp; split <;> omega
    rw [z, z]; rfl
  | N + 1 => by
    have ih := win (f := f) h N
    rw [cntN_s]
    by_cases c1 : lo ≤ (N : Int)
    · have e1 : clp lo (N + 1) = clp lo N := by unfold clp; rw [if_pos (by omega), if_pos (by omega)]
      rw [e1, decide_eq_true c1, Bool.true_and]
      by_cases c2 : (N : Int) ≤ hi
      · have e2 : clp (hi + 1) (N + 1) = N + 1 := by unfold clp; split <;> omega
        have e3 : clp (hi + 1) N = N := by unfold clp; split <;> omega
        rw [e3] at ih
        rw [e2, cntN_s, decide_eq_true c2, Bool.and_true]; omega
      · have e2 : clp (hi + 1) (N + 1) = clp (hi + 1) N := by unfold clp; rw [if_pos (by omega), if_pos (by omega)]
        rw [e2, decide_eq_false c2, Bool.and_false, if_neg (by decide)]; omega
    · have e1 : clp lo (N + 1) = N + 1 := by unfold clp; split <;> omega
      have e2 : clp (hi + 1) (N + 1) = N + 1 := by unfold clp; split <;> omega
      have e3 : clp lo N = N := by unfold clp; split <;> omega
      have e4 : clp (hi + 1) N = N := by unfold clp; split <;> omega
      rw [e3, e4] at ih
      rw [e1, e2, decide_eq_false c1, Bool.false_and, Bool.and_false, if_neg (by decide)]; omega
def b1 (b : Bool) : Nat := if b then 1 else 0
theorem clp_s {T : Twn} {R : Pic} {mo : Nat} {x : Int} : cntN (fun u => pM T R mo u) (clp (x + 1) 720) = cntN (fun u => pM T R mo u) (clp x 720) + b1 (bA T R mo x) := by
  unfold bA
  by_cases h : 0 ≤ x ∧ x < 720
  · rw [if_pos h]
    have e1 : clp x 720 = x.toNat := by unfold clp; rw [if_pos (by omega)]
    have e2 : clp (x + 1) 720 = x.toNat + 1 := by unfold clp; rw [if_pos (by omega)]; omega
    rw [e1, e2, cntN_s]; rfl
  · rw [if_neg h]
    have : clp (x + 1) 720 = clp x 720 := by unfold clp; split <;> split <;> omega
    rw [this]; rfl
/-- how many of the others lie so ahead -/
def wN (T : Twn) (R : Pic) (mo : Nat) (a b : Int) (t : Nat) : Nat := cntN (cpF T R mo a b t) 720
theorem wN_s {T : Twn} {R : Pic} {mo : Nat} {a b : Int} (hab : a ≤ b) (t : Nat) : wN T R mo a b (t + 1) + b1 (bA T R mo (t + a)) = wN T R mo a b t + b1 (bA T R mo (t + 1 + b)) := by
  have h1 := win (f := fun u => pM T R mo u) (lo := (t : Int) + a) (hi := (t : Int) + b) (by omega) 720
  have h2 := win (f := fun u => pM T R mo u) (lo := ((t + 1 : Nat) : Int) + a) (hi := ((t + 1 : Nat) : Int) + b) (by omega) 720
  have g1 := clp_s (T := T) (R := R) (mo := mo) (x := (t : Int) + a)
  have g2 := clp_s (T := T) (R := R) (mo := mo) (x := (t : Int) + b + 1)
  rw [show ((t + 1 : Nat) : Int) + a = (t : Int) + a + 1 by omega, show ((t + 1 : Nat) : Int) + b + 1 = (t : Int) + b + 1 + 1 by omega, show ((t + 1 : Nat) : Int) + b = (t : Int) + b + 1 by omega] at h2
  have w1 : wN T R mo a b t = cntN (fun u => pM T R mo u && (decide ((t : Int) + a ≤ (u : Int)) && decide ((u : Int) ≤ (t : Int) + b))) 720 := rfl
  have w2 : wN T R mo a b (t + 1) = cntN (fun u => pM T R mo u && (decide ((t : Int) + a + 1 ≤ (u : Int)) && decide ((u : Int) ≤ (t : Int) + b + 1))) 720 := cntN_congr (fun u _ => by
    unfold cpF
    congr 1
    congr 1 <;> exact decide_eq_decide.2 (by omega))
  rw [show (t : Int) + 1 + b = (t : Int) + b + 1 by omega]
  omega
theorem b2i_1 (b : Bool) : b2i b = nI (b1 b) := by cases b <;> rfl
section CG
variable {T : Twn} {P R : Pic} {a p : Nat} {gi : Gi} {gl : Gl}
theorem s_X4_pairsIn {Q : Int32 → Gi → Gl → Prop} (hN : a < NN) (hK : sK a = 4) (hN2 : p < NN) (hK2 : sK p = 4) (m : cMom T P gi a) (m2 : cMom T R gi p) {mo : Nat} (hm : mo < 12) {x y : Int} (hxy : -719 ≤ x ∧ x ≤ y ∧ y ≤ 719) (h : Q (nI (cpl T P R mo x y)) gi gl) : p_X4_pairsIn a (nI mo) p (iI x) (iI y) gi gl Q := by
  have wl : ∀ t, wN T R mo x y t ≤ 720 := fun t => cntN_le
  have k47 : p_X4_pairsIn_47 a p (nI mo) (iI x) (iI y) (nI (wN T R mo x y 0)) 0 0 gi gl Q := by
    refine dn (P := fun t => p_X4_pairsIn_47 a p (nI mo) (iI x) (iI y) (nI (wN T R mo x y t)) (nI (sumN (cplT T P R mo x y) t)) (nI t) gi gl Q) (N := 720) ?_ ?_ 0 (by omega)
    · refine v_X4_pairsIn_47 hN hK hN2 hK2 ?_
      unfold f_X4_pairsIn_47
      exact ifT (by decide) h
    · intro t ht ih
      have hw := wN_s (T := T) (R := R) (mo := mo) hxy.2.1 t
      have w0 := wl t
      have w1 := wl (t + 1)
      rw [sumN_s] at ih
      refine v_X4_pairsIn_47 hN hK hN2 hK2 ?_
      unfold f_X4_pairsIn_47
      refine c_lt 719 t rfl rfl (by omega) (by omega) (fun z => by omega) (fun _ => ?_)
      rw [← iI_n t]
      refine s_X4_bitAt hN hK m hm (by omega) ?_
      rw [bA_in ht, b2i_1, mulN, nI_add]
      rintro z4 rfl
      rw [← iI_1, iI_add, iI_add, iI_add]
      refine s_X4_bitAt hN2 hK2 m2 hm (by omega) ?_
      refine s_X4_bitAt hN2 hK2 m2 hm (by omega) ?_
      rw [b2i_1, b2i_1]
      rintro z11 rfl
      have e1 : nI (wN T R mo x y t) + (nI (b1 (bA T R mo ((t : Int) + 1 + y))) - nI (b1 (bA T R mo ((t : Int) + x)))) = nI (wN T R mo x y (t + 1)) := by
        rw [← iI_n, ← iI_n, ← iI_n, iI_sub, iI_add, ← iI_n]; congr 1; omega
      have e2 : b1 (pM T P mo t) * wN T R mo x y t = cplT T P R mo x y t := by
        unfold cplT b1 wN
        cases pM T P mo t <;> simp
      rw [e1, e2, show (t : Int) + 1 = ((t + 1 : Nat) : Int) by omega, iI_n]
      exact ih
  refine v_X4_pairsIn hN hK hN2 hK2 ?_
  unfold f_X4_pairsIn
  have ej : jmax (iI x) 0 = iI (if x < 0 then 0 else x) := by
    unfold jmax
    rw [show (0 : Int32) = iI 0 by rfl]
    by_cases c : x < 0
    · rw [if_pos ((iI_lt (by omega) (by omega)).2 c), if_pos c]
    · rw [if_neg (fun z => c ((iI_lt (by omega) (by omega)).1 z)), if_neg c]
  rw [ej]
  rintro z1 rfl
  have em : jmin (iI y) 719 = iI (if 719 < y then 719 else y) := by
    unfold jmin
    rw [show (719 : Int32) = iI 719 by rfl]
    by_cases c : 719 < y
    · rw [if_pos ((iI_lt (by omega) (by omega)).2 c), if_pos c]
    · rw [if_neg (fun z => c ((iI_lt (by omega) (by omega)).1 z)), if_neg c]
  have ey : (if 719 < y then 719 else y) = y := by rw [if_neg (by omega)]
  rw [ey] at em
  generalize hf : (if x < 0 then 0 else x) = f
  have hf0 : 0 ≤ f ∧ f ≤ 719 ∧ x ≤ f ∧ (x < 0 → f = 0) ∧ (0 ≤ x → f = x) := by split at hf <;> omega
  have inF : ∀ u : Nat, u < 720 → f ≤ u → (u : Int) ≤ y → cpF T R mo x y 0 u = pM T R mo u := fun u h1 h2 h3 => by
    unfold cpF
    rw [show decide (((0 : Nat) : Int) + x ≤ u) = true by rw [decide_eq_true_eq]; omega, show decide ((u : Int) ≤ ((0 : Nat) : Int) + y) = true by rw [decide_eq_true_eq]; omega]; simp
  have lp : ∀ (n u : Nat), y + 1 - (u : Int) ≤ (n : Int) → u ≤ 720 → f ≤ u → p_X4_pairsIn_10 a p (nI mo) (iI x) (iI y) (nI (cntN (cpF T R mo x y 0) u)) (nI u) gi gl Q := by
    have go : ∀ u : Nat, y < u → u ≤ 720 → f ≤ u → p_X4_pairsIn_10 a p (nI mo) (iI x) (iI y) (nI (cntN (cpF T R mo x y 0) u)) (nI u) gi gl Q := by
      intro u h1 h2 h3
      refine v_X4_pairsIn_10 hN hK hN2 hK2 ?_
      unfold f_X4_pairsIn_10
      rw [em]
      refine d_lt y u rfl (iI_n _).symm (by omega) (by omega) (fun _ => ?_) (fun z => by omega)
      have : wN T R mo x y 0 = cntN (cpF T R mo x y 0) u := cntN_tail h2 (fun i h4 h5 => by
        unfold cpF
        rw [show decide ((i : Int) ≤ ((0 : Nat) : Int) + y) = false by rw [decide_eq_false_iff_not]; omega]; simp)
      rw [← this]; exact k47
    intro n
    induction n with
    | zero => intro u h1 h2 h3; exact go u (by omega) h2 h3
    | succ n ih =>
      intro u h1 h2 h3
      by_cases hl : y < u
      · exact go u hl h2 h3
      · have hu : u < 720 := by omega
        have ih := ih (u + 1) (by omega) (by omega) (by omega)
        have c0 := cntN_le (f := cpF T R mo x y 0) (n := u)
        rw [cntN_s, inF u hu h3 (by omega)] at ih
        refine v_X4_pairsIn_10 hN hK hN2 hK2 ?_
        unfold f_X4_pairsIn_10
        rw [em]
        refine d_lt y u rfl (iI_n _).symm (by omega) (by omega) (fun z => by omega) (fun _ => ?_)
        rw [← iI_n u]
        refine s_X4_bitAt hN2 hK2 m2 hm (by omega) ?_
        rw [bA_in hu, b2i_1, nI_add]
        rintro z4 rfl
        rw [← iI_1, iI_add, show (u : Int) + 1 = ((u + 1 : Nat) : Int) by omega, iI_n]
        exact ih
  obtain ⟨u, hu⟩ := nat_of hf0.1
  have := lp (y + 1).toNat u (by omega) (by omega) (by omega)
  rw [show cntN (cpF T R mo x y 0) u = 0 from cntN_tail (a := 0) (Nat.zero_le _) (fun i h1 h2 => by
    unfold cpF
    rw [show decide (((0 : Nat) : Int) + x ≤ i) = false by rw [decide_eq_false_iff_not]; omega]; simp)] at this
  rw [hu, iI_n]
  exact this
theorem sumN_0 {f : Nat → Nat} : ∀ n, (∀ i, i < n → f i = 0) → sumN f n = 0
  | 0, _ => rfl
  | n + 1, h => by rw [sumN_s, sumN_0 n (fun i hi => h i (by omega)), h n (by omega)]
theorem sumN_swap {F : Nat → Nat → Nat} {n : Nat} : ∀ m, sumN (fun a => sumN (fun b => F a b) n) m = sumN (fun b => sumN (fun a => F a b) m) n
  | 0 => (sumN_0 n (fun _ _ => rfl)).symm
  | m + 1 => by
    rw [sumN_s, sumN_swap m, ← sumN_add]
    exact sumN_congr (fun i _ => rfl)
/-- rows month by month -/
theorem by_month {F : Nat → Nat} : sumN F 120 = sumN (fun mo => sumN (fun q => F (mo + 12 * q)) 10) 12 := by
  rw [show (120 : Nat) = 10 * 12 by rfl, sumN_blocks (a := 10) (b := 12), sumN_swap 10]
  exact sumN_congr (fun mo _ => sumN_congr (fun q _ => by congr 1; omega))
theorem cpl_pos {mo : Nat} {x y : Int} (h : cpl T P R mo x y ≠ 0) : pCnt T P mo ≠ 0 ∧ pCnt T R mo ≠ 0 := by
  constructor
  · intro z
    apply h
    refine sumN_0 720 (fun t ht => ?_)
    have : pM T P mo t = false := by
      cases hb : pM T P mo t with
      | false => rfl
      | true =>
        have := cntN_mono (f := fun t => pM T P mo t) (show t + 1 ≤ 720 by omega)
        rw [cntN_s, if_pos hb] at this
        unfold pCnt at z; omega
    unfold cplT; rw [this]; rfl
  · intro z
    apply h
    refine sumN_0 720 (fun t ht => ?_)
    have : cntN (cpF T R mo x y t) 720 = 0 := cntN_tail (a := 0) (Nat.zero_le _) (fun u _ hu => by
      have : pM T R mo u = false := by
        cases hb : pM T R mo u with
        | false => rfl
        | true =>
          have := cntN_mono (f := fun t => pM T R mo t) (show u + 1 ≤ 720 by omega)
          rw [cntN_s, if_pos hb] at this
          unfold pCnt at z; omega
      unfold cpF; rw [this]; rfl)
    unfold cplT; rw [this]; split <;> rfl
/-- the first of the days that were looked at -/
def fstP (v : Nat → Bool) (S : Nat → Prop) (z : Int) : Prop := (z = -1 ∧ ∀ d, S d → v d = false) ∨ ∃ k : Nat, z = k ∧ S k ∧ v k = true ∧ ∀ d, S d → v d = true → k ≤ d
theorem fstP_low {v : Nat → Bool} {S : Nat → Prop} {z : Int} {n : Nat} (hS : ∀ d, S d ↔ d < n) (h : fstP v S z) : z = lowN v n := by
  rcases lowN_spec (f := v) n with ⟨h1, h2⟩ | ⟨k, h1, h2, h3, h4⟩
  · rcases h with ⟨g1, -⟩ | ⟨k, g1, g2, g3, -⟩
    · omega
    · rw [h2 k ((hS k).1 g2)] at g3; cases g3
  · rcases h with ⟨g1, g2⟩ | ⟨k2, g1, g2, g3, g4⟩
    · rw [g2 k ((hS k).2 h2)] at h3; cases h3
    · have a1 := g4 k ((hS k).2 h2) h3
      have : ¬ k2 < k := fun z => by rw [h4 k2 z] at g3; cases g3
      omega
def seen (mo q d : Nat) : Prop := d < 3600 ∧ (mth d < mo ∨ (mth d = mo ∧ d / 360 < q))
theorem s_X11_couplesOf {Q : Int64 → Gi → Gl → Prop} (hN : a < NN) (hK : sK a = 4) (hN2 : p < NN) (hK2 : sK p = 4) (m : cMom T P gi a) (m2 : cMom T R gi p) {x y w : Int} (hxy : -719 ≤ x ∧ x ≤ y ∧ y ≤ 719) (hw : 0 ≤ w ∧ w ≤ 2)
    (h : Q (if w = 0 then iL (sumN (vCp T P R x y) 3600 : Nat) else if w = 1 then iL (cntN (nz (vCp T P R x y)) 3600 : Nat) else iL (lowN (nz (vCp T P R x y)) 3600)) gi gl) : p_X11_couplesOf a p (iI x) (iI y) (iI w) gi gl Q := by
  have cl := fun mo => cpl_le (T := T) (P := P) (R := R) (m := mo) (a := x) (b := y)
  -- the days of a row
  have row : ∀ r i, i < 30 → vCp T P R x y (r * 30 + i) = if (DR T P r i && DR T R r i) then cpl T P R (r % 12) x y else 0 := by
    intro r i hi
    unfold vCp DR
    rw [pDay_row hi, pDay_row hi, mth_row hi]
    unfold dAll
    by_cases z : cpl T P R (r % 12) x y = 0
    · rw [z]; split <;> split <;> rfl
    · obtain ⟨z1, z2⟩ := cpl_pos z
      simp [z1, z2]
  have rowS : ∀ r, sumN (fun i => vCp T P R x y (r * 30 + i)) 30 = cntN (fun i => DR T P r i && DR T R r i) 30 * cpl T P R (r % 12) x y := fun r => by
    rw [← sumN_if]; exact sumN_congr (fun i hi => row r i hi)
  have rowC : ∀ r, cpl T P R (r % 12) x y ≠ 0 → cntN (fun i => nz (vCp T P R x y) (r * 30 + i)) 30 = cntN (fun i => DR T P r i && DR T R r i) 30 := fun r hz => by
    refine cntN_congr (fun i hi => ?_)
    unfold nz
    rw [row r i hi]
    cases DR T P r i && DR T R r i <;> simp [hz]
  have rowC0 : ∀ r, cpl T P R (r % 12) x y = 0 → cntN (fun i => nz (vCp T P R x y) (r * 30 + i)) 30 = 0 := fun r hz => by
    refine cntN_tail (a := 0) (Nat.zero_le _) (fun i _ hi => ?_)
    unfold nz
    rw [row r i hi, hz]
    split <;> simp
  have vz : ∀ d, d < 3600 → cpl T P R (mth d) x y = 0 → nz (vCp T P R x y) d = false := fun d hd hz => by
    unfold nz vCp
    rw [hz]; split <;> simp
  have totS : sumN (vCp T P R x y) 3600 = sumN (fun mo => sumN (fun q => cntN (fun i => DR T P (mo + 12 * q) i && DR T R (mo + 12 * q) i) 30 * cpl T P R mo x y) 10) 12 := by
    rw [show (3600 : Nat) = 120 * 30 by rfl, sumN_blocks, by_month]
    exact sumN_congr (fun mo hm => sumN_congr (fun q _ => by rw [rowS, show (mo + 12 * q) % 12 = mo by omega]))
  have totC : cntN (nz (vCp T P R x y)) 3600 = sumN (fun mo => sumN (fun q => cntN (fun i => nz (vCp T P R x y) ((mo + 12 * q) * 30 + i)) 30) 10) 12 := by
    have := by_month (F := fun r => cntN (fun i => nz (vCp T P R x y) (r * 30 + i)) 30)
    rw [← this]
    exact sumN_blocks (f := fun d => if nz (vCp T P R x y) d then 1 else 0) (a := 120) (b := 30)
  generalize hv : vCp T P R x y = v at *
  generalize hFS : (fun mo => sumN (fun q => cntN (fun i => DR T P (mo + 12 * q) i && DR T R (mo + 12 * q) i) 30 * cpl T P R mo x y) 10) = FS at *
  generalize hFC : (fun mo => sumN (fun q => cntN (fun i => nz v ((mo + 12 * q) * 30 + i)) 30) 10) = FC at *
  have eFS : ∀ mo, FS mo = sumN (fun q => cntN (fun i => DR T P (mo + 12 * q) i && DR T R (mo + 12 * q) i) 30 * cpl T P R mo x y) 10 := fun mo => by rw [← hFS]
  have eFC : ∀ mo, FC mo = sumN (fun q => cntN (fun i => nz v ((mo + 12 * q) * 30 + i)) 30) 10 := fun mo => by rw [← hFC]
  have bFC : ∀ mo, FC mo ≤ 300 := fun mo => by rw [eFC]; exact sumN_le (b := 30) (n := 10) (fun _ _ => cntN_le)
  refine v_X11_couplesOf hN hK hN2 hK2 ?_
  unfold f_X11_couplesOf
  refine dn (P := fun mo => ∀ z : Int, fstP (nz v) (seen mo 0) z → p_X11_couplesOf_12 a p (iI x) (iI y) (iI w) (iL (sumN FS mo : Nat)) (nI (sumN FC mo)) (iI z) (nI mo) gi gl Q) (N := 12) ?_ ?_ 0 (by omega) (-1) (Or.inl ⟨rfl, fun d hd => by unfold seen at hd; omega⟩)
  · intro z hz
    have hz := fstP_low (n := 3600) (fun d => by
      unfold seen
      constructor
      · exact fun y => y.1
      · intro y; have := mth_lt y; omega) hz
    have lb := lowN_bd (f := nz v) 3600
    have cb := cntN_le (f := nz v) (n := 3600)
    refine v_X11_couplesOf_12 hN hK hN2 hK2 ?_
    unfold f_X11_couplesOf_12
    rw [← totS, ← totC, hz]
    generalize lowN (nz v) 3600 = zz at *
    generalize cntN (nz v) 3600 = cc at *
    refine ifT (by decide) ?_
    refine d_ne w 0 rfl rfl (by omega) (by omega) (fun w0 => ?_) (fun w0 => ?_)
    · rw [if_neg w0] at h
      refine d_ne w 1 rfl rfl (by omega) (by omega) (fun w1 => ?_) (fun w1 => ?_)
      · rw [if_neg w1] at h
        rw [iI_toL (by omega) (by omega)]; exact h
      · rw [if_pos w1] at h
        rw [← iI_n, iI_toL (by omega) (by omega)]; exact h
    · rw [if_pos w0] at h; exact h
  · intro mo hm ih z hz
    have hcl := cl mo
    have sC := sumN_le (f := FC) (b := 300) (n := mo) (fun i _ => bFC i)
    have nxt : ∀ z : Int, (fstP (nz v) (seen mo 10) z) → p_X11_couplesOf_12 a p (iI x) (iI y) (iI w) (iL (sumN FS (mo + 1) : Nat)) (nI (sumN FC (mo + 1))) (iI z) (nI mo + 1) gi gl Q := fun z hz => by
      rw [nI_1]
      refine ih z ?_
      have e : ∀ d, seen (mo + 1) 0 d ↔ seen mo 10 d := fun d => by unfold seen; omega
      rcases hz with ⟨g1, g2⟩ | ⟨k, g1, g2, g3, g4⟩
      · exact Or.inl ⟨g1, fun d hd => g2 d ((e d).1 hd)⟩
      · exact Or.inr ⟨k, g1, (e k).2 g2, g3, fun d hd => g4 d ((e d).1 hd)⟩
    refine v_X11_couplesOf_12 hN hK hN2 hK2 ?_
    unfold f_X11_couplesOf_12
    refine c_le 12 mo rfl rfl (by omega) (by omega) (fun z => by omega) (fun _ => ?_)
    refine s_X4_pairsIn hN hK hN2 hK2 m m2 hm hxy ?_
    by_cases c0 : cpl T P R mo x y = 0
    · refine v_X11_couplesOf_34 hN hK hN2 hK2 ?_
      unfold f_X11_couplesOf_34
      refine c_le 120 mo rfl rfl (by omega) (by omega) (fun z => by omega) (fun _ => ?_)
      refine c_le (cpl T P R mo x y) 0 rfl rfl (by omega) (by omega) (fun _ => ?_) (fun z => by omega)
      have e1 : FS mo = 0 := by rw [eFS]; exact sumN_0 10 (fun q _ => by rw [c0, Nat.mul_zero])
      have e2 : FC mo = 0 := by rw [eFC]; exact sumN_0 10 (fun q _ => rowC0 _ (by rw [show (mo + 12 * q) % 12 = mo by omega]; exact c0))
      have := nxt z (by
        rcases hz with ⟨g1, g2⟩ | ⟨k, g1, g2, g3, g4⟩
        · refine Or.inl ⟨g1, fun d hd => ?_⟩
          by_cases e : mth d = mo
          · exact vz d hd.1 (by rw [e]; exact c0)
          · exact g2 d (by unfold seen at hd ⊢; omega)
        · refine Or.inr ⟨k, g1, by unfold seen at g2 ⊢; omega, g3, fun d hd hv => ?_⟩
          by_cases e : mth d = mo
          · rw [vz d hd.1 (by rw [e]; exact c0)] at hv; cases hv
          · exact g4 d (by unfold seen at hd ⊢; omega) hv)
      rw [sumN_s, sumN_s, e1, e2] at this
      exact this
    · refine dn (P := fun q => ∀ z : Int, fstP (nz v) (seen mo q) z → p_X11_couplesOf_34 a p (iI x) (iI y) (iI w) (iL ((sumN FS mo + sumN (fun q => cntN (fun i => DR T P (mo + 12 * q) i && DR T R (mo + 12 * q) i) 30 * cpl T P R mo x y) q : Nat) : Int)) (nI (sumN FC mo + sumN (fun q => cntN (fun i => nz v ((mo + 12 * q) * 30 + i)) 30) q)) (iI z) (nI mo) (nI (cpl T P R mo x y)) (nI (mo + 12 * q)) gi gl Q) (N := 10) ?_ ?_ 0 (by omega) z hz
      · intro z hz
        refine v_X11_couplesOf_34 hN hK hN2 hK2 ?_
        unfold f_X11_couplesOf_34
        refine ifT (by rw [show (120 : Int32) = nI 120 by rfl, nI_leI (by omega) (by omega)]; omega) ?_
        rw [← eFS, ← eFC, ← sumN_s, ← sumN_s]
        exact nxt z hz
      · intro q hq ih2 z hz
        have hr : mo + 12 * q < 120 := by omega
        have hb0 := bN30 (f := fun i => DR T P (mo + 12 * q) i && DR T R (mo + 12 * q) i)
        have hr12 : (mo + 12 * q) % 12 = mo := by omega
        have hC := rowC (mo + 12 * q) (by rw [hr12]; exact c0)
        have hCb := cntN_le (f := fun i => DR T P (mo + 12 * q) i && DR T R (mo + 12 * q) i) (n := 30)
        have hCs := sumN_le (f := fun q => cntN (fun i => nz v ((mo + 12 * q) * 30 + i)) 30) (b := 30) (n := q) (fun _ _ => cntN_le)
        have dRw : ∀ {Q : Int32 → Gi → Gl → Prop} {a : Nat} {P : Pic}, a < NN → sK a = 4 → cMom T P gi a → Q (nI (bN (DR T P (mo + 12 * q)) 30)) gi gl → p_X4_dayRow a (nI (mo + 12 * q)) gi gl Q := by
          intro Q a P hN hK m h
          refine v_X4_dayRow hN hK ?_
          unfold f_X4_dayRow
          refine c_lt (mo + 12 * q) 0 rfl rfl (by omega) (by omega) (fun z => by omega) (fun _ => ?_)
          refine c_lt (mo + 12 * q) 120 rfl rfl (by omega) (by omega) (fun _ => ⟨vp_nI hr (by omega), ?_⟩) (fun z => by omega)
          rw [nI_cl (by omega), cm1 m hr]; exact h
        have inrow : ∀ d, seen mo (q + 1) d → ¬ seen mo q d → ∃ i, i < 30 ∧ d = (mo + 12 * q) * 30 + i := by
          intro d h1 h2
          unfold seen mth at h1 h2
          exact ⟨d % 30, by omega, by omega⟩
        have nzr : ∀ i, i < 30 → nz v ((mo + 12 * q) * 30 + i) = (DR T P (mo + 12 * q) i && DR T R (mo + 12 * q) i) := by
          intro i hi
          unfold nz
          rw [row _ i hi, hr12]
          cases DR T P (mo + 12 * q) i && DR T R (mo + 12 * q) i <;> simp [c0]
        have k96 : ∀ z' : Int, fstP (nz v) (seen mo (q + 1)) z' → p_X11_couplesOf_96 a p (iI x) (iI y) (iI w) (iL ((sumN FS mo + sumN (fun q => cntN (fun i => DR T P (mo + 12 * q) i && DR T R (mo + 12 * q) i) 30 * cpl T P R mo x y) q : Nat) : Int)) (nI (sumN FC mo + sumN (fun q => cntN (fun i => nz v ((mo + 12 * q) * 30 + i)) 30) q)) (iI z') (nI mo) (nI (cpl T P R mo x y)) (nI (mo + 12 * q)) (nI (bN (fun i => DR T P (mo + 12 * q) i && DR T R (mo + 12 * q) i) 30)) gi gl Q := by
          intro z' hz'
          refine v_X11_couplesOf_96 hN hK hN2 hK2 ?_
          unfold f_X11_couplesOf_96
          refine s_bitCount (by omega) ?_
          rw [pc_bN (by omega)]
          rintro z4 rfl
          refine s_bitCount (by omega) ?_
          rw [pc_bN (by omega)]
          rintro z8 rfl
          have ih2 := ih2 z' hz'
          rw [sumN_s, sumN_s, hC] at ih2
          have e1 : (iL ((sumN FS mo + sumN (fun q => cntN (fun i => DR T P (mo + 12 * q) i && DR T R (mo + 12 * q) i) 30 * cpl T P R mo x y) q : Nat) : Int)) + (nI (cpl T P R mo x y)).toInt64 * (nI (cntN (fun i => DR T P (mo + 12 * q) i && DR T R (mo + 12 * q) i) 30)).toInt64 = iL ((sumN FS mo + (sumN (fun q => cntN (fun i => DR T P (mo + 12 * q) i && DR T R (mo + 12 * q) i) 30 * cpl T P R mo x y) q + cntN (fun i => DR T P (mo + 12 * q) i && DR T R (mo + 12 * q) i) 30 * cpl T P R mo x y) : Nat) : Int) := by
            rw [← iI_n, ← iI_n, iI_toL (by omega) (by omega), iI_toL (by omega) (by omega), iL_mul, iL_add]
            congr 1
            rw [Int.mul_comm, ← Int.natCast_mul]
            generalize cntN (fun i => DR T P (mo + 12 * q) i && DR T R (mo + 12 * q) i) 30 * cpl T P R mo x y = u
            omega
          rw [e1, nI_add, Nat.add_assoc, show nI (mo + 12 * q) + 12 = nI (mo + 12 * (q + 1)) by rw [show (12 : Int32) = nI 12 by rfl, nI_add]; congr 1]
          exact ih2
        refine v_X11_couplesOf_34 hN hK hN2 hK2 ?_
        unfold f_X11_couplesOf_34
        refine c_le 120 (mo + 12 * q) rfl rfl (by omega) (by omega) (fun z => by omega) (fun _ => ?_)
        refine c_le (cpl T P R mo x y) 0 rfl rfl (by omega) (by omega) (fun z => by omega) (fun _ => ?_)
        refine dRw hN hK m ?_
        refine dRw hN2 hK2 m2 ?_
        rw [and30]
        rintro z7 rfl
        refine s_X11_lowest0 (fun lw hlw hlw2 => ?_)
        rintro z11 rfl
        refine c_eq _ 0 rfl rfl (by omega) (by omega) (fun b0 => ?_) (fun b0 => ?_)
        · have b0' := bN_0.1 b0
          have key := k96 z (by
            rcases hz with ⟨g1, g2⟩ | ⟨k, g1, g2, g3, g4⟩
            · refine Or.inl ⟨g1, fun d hd => ?_⟩
              by_cases e : seen mo q d
              · exact g2 d e
              · obtain ⟨i, hi, rfl⟩ := inrow d hd e
                rw [nzr i hi]; exact b0' i hi
            · refine Or.inr ⟨k, g1, by unfold seen at g2 ⊢; omega, g3, fun d hd hv => ?_⟩
              by_cases e : seen mo q d
              · exact g4 d e hv
              · obtain ⟨i, hi, rfl⟩ := inrow d hd e
                rw [nzr i hi, b0' i hi] at hv; cases hv)
          exact key
        · obtain ⟨e, le, e30, fe, emin⟩ : ∃ e : Nat, lowN (fun i => DR T P (mo + 12 * q) i && DR T R (mo + 12 * q) i) 30 = e ∧ e < 30 ∧ (DR T P (mo + 12 * q) e && DR T R (mo + 12 * q) e) = true ∧ ∀ i, i < e → (DR T P (mo + 12 * q) i && DR T R (mo + 12 * q) i) = false := by
            rcases lowN_spec (f := fun i => DR T P (mo + 12 * q) i && DR T R (mo + 12 * q) i) 30 with ⟨-, h2⟩ | ⟨k, h1, h2, h3, h4⟩
            · exact absurd (bN_0.2 h2) b0
            · exact ⟨k, h1, h2, h3, h4⟩
          rw [hlw e le, show (30 : Int32) = nI 30 by rfl, mulN, nI_add]
          have sd : seen mo (q + 1) ((mo + 12 * q) * 30 + e) := by unfold seen mth; omega
          have nd : nz v ((mo + 12 * q) * 30 + e) = true := by rw [nzr e e30]; exact fe
          have newz : (∀ k : Nat, seen mo q k → nz v k = true → (mo + 12 * q) * 30 + e ≤ k) → fstP (nz v) (seen mo (q + 1)) (((mo + 12 * q) * 30 + e : Nat) : Int) := by
            intro hh
            refine Or.inr ⟨(mo + 12 * q) * 30 + e, rfl, sd, nd, fun d hd hv => ?_⟩
            by_cases s1 : seen mo q d
            · exact hh d s1 hv
            · obtain ⟨i, hi, rfl⟩ := inrow d hd s1
              rw [nzr i hi] at hv
              have : ¬ i < e := fun z => by rw [emin i z] at hv; cases hv
              omega
          have oldz : ∀ k : Nat, z = k → seen mo q k → nz v k = true → (∀ d, seen mo q d → nz v d = true → k ≤ d) → k ≤ (mo + 12 * q) * 30 + e → fstP (nz v) (seen mo (q + 1)) z := by
            intro k g1 g2 g3 g4 hle
            refine Or.inr ⟨k, g1, by unfold seen at g2 ⊢; omega, g3, fun d hd hv => ?_⟩
            by_cases s1 : seen mo q d
            · exact g4 d s1 hv
            · obtain ⟨i, hi, rfl⟩ := inrow d hd s1
              rw [nzr i hi] at hv
              have : ¬ i < e := fun z => by rw [emin i z] at hv; cases hv
              omega
          rcases hz with ⟨g1, g2⟩ | ⟨k, g1, g2, g3, g4⟩
          · refine d_eq z (-1) rfl rfl (by omega) (by omega) (fun _ => ?_) (fun w => absurd g1 w)
            rw [← iI_n ((mo + 12 * q) * 30 + e)]
            exact k96 _ (newz (fun k hk hv => by rw [g2 k hk] at hv; cases hv))
          · have hk3 : k < 3600 := g2.1
            refine d_eq z (-1) rfl rfl (by omega) (by omega) (fun w => by omega) (fun _ => ?_)
            rw [← iI_n ((mo + 12 * q) * 30 + e)]
            refine d_le z (((mo + 12 * q) * 30 + e : Nat) : Int) rfl rfl (by omega) (by omega) (fun w => ?_) (fun w => ?_)
            · exact k96 z (oldz k g1 g2 g3 g4 (by omega))
            · exact k96 _ (newz (fun d hd hv => by have := g4 d hd hv; omega))
end CG
