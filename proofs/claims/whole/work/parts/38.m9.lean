/-! THE REFERENCE, eight: findDays, findMinutes -/
theorem nar_b (b : Bool) : vp_nar .boolean (b2i b) = b2i b := by cases b <;> rfl
theorem allK_f {f : Nat → Bool} {j : Nat} (h : allK f j = false) : ∀ n, j ≤ n → allK f n = false := by
  intro n hn
  obtain ⟨e, rfl⟩ : ∃ e, n = j + e := ⟨n - j, by omega⟩
  induction e with
  | zero => exact h
  | succ e ih => show (allK f (j + e) && f (j + e)) = false; rw [ih (by omega)]; rfl
theorem allK_s (f : Nat → Bool) (n : Nat) : allK f (n + 1) = (allK f n && f n) := rfl
theorem allK_iff {f : Nat → Bool} {n : Nat} : allK f n = true ↔ ∀ k, k < n → f k = true := by
  induction n with
  | zero => simp [allK]
  | succ n ih =>
    rw [allK_s, Bool.and_eq_true, ih]
    constructor
    · rintro ⟨h1, h2⟩ k hk
      rcases Nat.lt_or_ge k n with h | h
      · exact h1 k h
      · have : k = n := by omega
        subst this; exact h2
    · exact fun h => ⟨fun k hk => h k (by omega), h n (by omega)⟩
/-- the picture at x -/
def mPic (P : Pic) (x : Nat) (gi : Gi) : Prop := x < 40 ∧ P.1 ≤ 12 ∧ gi 356 x = nI P.1 ∧ ∀ k, k < P.1 → mSgn (P.2 k) (12 * x + k) gi
theorem mPic.congr {P : Pic} {x : Nat} {gi gi' : Gi} (h : mPic P x gi) (e : ∀ z, 356 ≤ z → z ≤ 361 → gi' z = gi z) : mPic P x gi' :=
  ⟨h.1, h.2.1, by rw [e 356 (by omega) (by omega)]; exact h.2.2.1, fun k hk => ⟨(h.2.2.2 k hk).1, fun w hw => by rw [e _ (by omega) (by omega)]; exact (h.2.2.2 k hk).2 w hw⟩⟩
theorem MI.mP {σ : Sta} {gi : Gi} {gl : Gl} (V : vSta σ) (m : MI σ gi gl) {i : Nat} (hi : i < (sShown σ).1) : mPic ((sShown σ).2.1 i) i gi := by
  have hA8 : (sShown σ).1 ≤ 8 := V.2.2.2.1.1
  exact ⟨by omega, (V.2.2.2.1.2.1 i hi).2.1, m.many hi, fun k hk => m.mS V hi hk⟩
section D9
variable {T : Twn} {p : Nat} {la : Int} {su : Int × Int} {gi : Gi} {gl : Gl} {P : Pic} {x : Nat}
theorem findDays_in {Q : Gi → Gl → Prop} (m : ME T p la su gi gl) (hP : mPic P x gi) (vP : ∀ k, k < P.1 → vSign T (P.2 k)) {d : Nat} (hd : d < 3600)
    (h : p_X12_findDays_2 (nI x) (nI (d + 1)) (uI gi 364 (upd (gi 364) d (b2i (pD T la su P d)))) gl Q) :
    ∀ n j, j + n = P.1 → p_X12_findDays_17 (nI x) (nI d) (b2i (allK (fun k => sD T la su (P.2 k) d) j)) (nI (12 * x + j)) gi gl Q := by
  obtain ⟨hx, hc, hn, hs⟩ := hP
  have hv : vp_in (nI x) 40 := vp_nI hx (by omega)
  have hvd : vp_in (nI d) 3600 := vp_nI hd (by omega)
  have e12 : (12 : Int32) * nI x = nI (12 * x) := pk_mul 12 x
  have fin : ∀ b, b = pD T la su P d → (vp_in (nI d) 3600 ∧ ∀ gi1 : Gi, gi1 = uI gi 364 (upd (gi 364) (nI d).toNatClampNeg (vp_nar .boolean (b2i b))) → p_X12_findDays_2 (nI x) (nI d + 1) gi1 gl Q) := by
    rintro b rfl
    refine ⟨hvd, ?_⟩
    rintro g1 rfl
    rw [nar_b, nI_cl (by omega), nI_1]; exact h
  intro n
  induction n with
  | zero =>
    intro j hj
    refine v_X12_findDays_17 ?_
    unfold f_X12_findDays_17
    rw [e12, nI_cl (by omega), hn, nI_add]
    refine ⟨hv, ?_⟩
    rw [if_pos (by rw [nI_leI (by omega) (by omega)]; omega)]
    have : j = P.1 := by omega
    subst this
    exact fin _ rfl
  | succ n ih =>
    intro j hj
    refine v_X12_findDays_17 ?_
    unfold f_X12_findDays_17
    rw [e12, nI_cl (by omega), hn, nI_add]
    refine ⟨hv, ?_⟩
    rw [if_neg (by rw [nI_leI (by omega) (by omega)]; omega)]
    cases hb : allK (fun k => sD T la su (P.2 k) d) j with
    | false =>
      rw [b2i_f, if_pos rfl]
      exact fin false (allK_f hb _ (by omega)).symm
    | true =>
      rw [b2i_t, if_neg (by decide)]
      refine s_X12_letsDay m (hs j (by omega)) (vP j (by omega)) hd ?_
      rw [nI_1, show 12 * x + j + 1 = 12 * x + (j + 1) by omega]
      have := ih (j + 1) (by omega)
      rw [allK_s, hb, Bool.true_and] at this
      exact this
theorem s_X12_findDays {Q : Gi → Gl → Prop} (m : ME T p la su gi gl) (hP : mPic P x gi) (vP : ∀ k, k < P.1 → vSign T (P.2 k))
    (h : ∀ gi', (∀ z, z ≠ 364 → gi' z = gi z) → (∀ d, d < 3600 → gi' 364 d = b2i (pD T la su P d)) → Q gi' gl) : p_X12_findDays (nI x) gi gl Q := by
  have hx := hP.1
  have lp : ∀ n d g, d + n = 3600 → (∀ z, z ≠ 364 → g z = gi z) → (∀ e, e < d → g 364 e = b2i (pD T la su P e)) → p_X12_findDays_2 (nI x) (nI d) g gl Q := by
    intro n
    induction n with
    | zero =>
      intro d g hd h1 h2
      refine v_X12_findDays_2 ?_
      unfold f_X12_findDays_2
      rw [if_pos (by rw [show (3600 : Int32) = nI 3600 by rfl, nI_leI (by omega) (by omega)]; omega)]
      exact h g h1 (fun e he => h2 e (by omega))
    | succ n ih =>
      intro d g hd h1 h2
      refine v_X12_findDays_2 ?_
      unfold f_X12_findDays_2
      rw [if_neg (by rw [show (3600 : Int32) = nI 3600 by rfl, nI_leI (by omega) (by omega)]; omega)]
      rintro z1 rfl
      have := findDays_in (Q := Q) (d := d) (m.congr (fun b _ _ => h1 b (by omega)) ⟨by rw [h1 _ (by omega)], by rw [h1 _ (by omega)], by rw [h1 _ (by omega)], by rw [h1 _ (by omega)]⟩) (hP.congr (fun z _ _ => h1 z (by omega))) vP (by omega)
        (ih (d + 1) _ (by omega) (fun z hz => by rw [uI_n hz]; exact h1 z hz) (fun e he => by
          rw [uI_s, updA]
          by_cases q : e = d
          · rw [if_pos q, q]
          · rw [if_neg q]; exact h2 e (by omega))) P.1 0 (by omega)
      rw [show (12 : Int32) * nI x = nI (12 * x + 0) from pk_mul 12 x]
      exact this
  refine v_X12_findDays ?_
  unfold f_X12_findDays
  exact lp 3600 0 gi (by omega) (fun _ _ => rfl) (fun e he => by omega)
/-- so far found, to month mo's minute t -/
def FMin (T : Twn) (P : Pic) (gi : Gi) (mo t : Nat) (g : Gi) : Prop :=
  (∀ z, z ≠ 329 → z ≠ 365 → z ≠ 366 → g z = gi z) ∧ (∀ k, k ≠ 46 ∧ k ≠ 47 ∧ k ≠ 48 → g 329 k = gi 329 k) ∧
  (∀ m' t', t' < 720 → 720 * m' + t' < 720 * mo + t → g 365 (720 * m' + t') = b2i (pM T P m' t')) ∧ (∀ m', m' < mo → g 366 m' = nI (pCnt T P m'))
theorem FMin.E {mo t : Nat} {g : Gi} (h : FMin T P gi mo t g) (m : ME T p la su gi gl) : ME T p la su g gl :=
  m.congr (fun b _ _ => h.1 b (by omega) (by omega) (by omega)) ⟨h.2.1 _ (by omega), h.2.1 _ (by omega), h.2.1 _ (by omega), h.2.1 _ (by omega)⟩
theorem FMin.mp {mo t : Nat} {g : Gi} (h : FMin T P gi mo t g) (m : mPic P x gi) : mPic P x g := m.congr (fun z _ _ => h.1 z (by omega) (by omega) (by omega))
theorem FMin.sn {mo t : Nat} {g g' : Gi} (h : FMin T P gi mo t g) (s : Sn g g') : FMin T P gi mo t g' :=
  ⟨fun z a b c => (s.1 z a).trans (h.1 z a b c), fun k hk => (s.2 k hk).trans (h.2.1 k hk), fun m' t' a b => by rw [s.1 _ (by omega)]; exact h.2.2.1 m' t' a b, fun m' a => by rw [s.1 _ (by omega)]; exact h.2.2.2 m' a⟩
theorem findMinutes_70 {Q : Gi → Gl → Prop} {mo t : Nat} (hm : mo < 12) (ht : t < 720) {g : Gi} (hf : FMin T P gi mo t g) (hc : g 366 mo = nI (cntN (fun t => pM T P mo t) t))
    (h : ∀ g', FMin T P gi mo (t + 1) g' → g' 366 mo = nI (cntN (fun t => pM T P mo t) (t + 1)) → p_X12_findMinutes_17 (nI x) (nI mo) (nI (t + 1)) g' gl Q) : p_X12_findMinutes_70 (nI x) (nI mo) (nI t) (b2i (pM T P mo t)) g gl Q := by
  refine v_X12_findMinutes_70 ?_
  unfold f_X12_findMinutes_70
  rw [show (720 : Int32) * nI mo = nI (720 * mo) from pk_mul 720 mo, nI_add, nar_b, nI_cl (by omega), nI_cl (by omega), nI_1]
  have hv : vp_in (nI mo) 12 := vp_nI hm (by omega)
  refine ⟨vp_nI (by omega) (by omega), ?_⟩
  rintro g1 rfl
  refine ⟨hv, ?_⟩
  rw [uI_n (b := 366) (by omega), hc]
  have main : ∀ v, v = nI (cntN (fun t => pM T P mo t) (t + 1)) → p_X12_findMinutes_17 (nI x) (nI mo) (nI (t + 1)) (uI (uI g 365 (upd (g 365) (720 * mo + t) (b2i (pM T P mo t)))) 366 (upd (g 366) mo v)) gl Q := by
    rintro v rfl
    refine h _ ⟨?_, ?_, ?_, ?_⟩ ?_
    · intro z a b c; rw [uI_n c, uI_n b]; exact hf.1 z a b c
    · intro k hk; rw [uI_n (by omega), uI_n (by omega)]; exact hf.2.1 k hk
    · intro m' t' a b
      rw [uI_n (by omega), uI_s, updA]
      by_cases q : 720 * m' + t' = 720 * mo + t
      · have e1 : m' = mo := by omega
        subst e1
        have e2 : t' = t := by omega
        subst e2
        rw [if_pos rfl]
      · rw [if_neg q]; exact hf.2.2.1 m' t' a (by omega)
    · intro m' a
      rw [uI_s, updA, if_neg (by omega)]; exact hf.2.2.2 m' a
    · rw [uI_s, updA, if_pos rfl]
  have le := cntN_le (f := fun t => pM T P mo t) (n := t)
  cases hb : pM T P mo t with
  | false =>
    rw [b2i_f, if_pos rfl]
    refine ⟨hv, ?_⟩
    rintro g2 rfl
    rw [hb, b2i_f] at main
    exact main _ (by rw [cntN_s, hb]; exact nI_add _ _)
  | true =>
    rw [b2i_t, if_neg (by decide)]
    refine ⟨hv, ?_⟩
    rintro g2 rfl
    rw [hb, b2i_t] at main
    exact main _ (by rw [cntN_s, hb, nI_1]; rfl)
theorem findMinutes_in {Q : Gi → Gl → Prop} (m : ME T p la su gi gl) (hP : mPic P x gi) (vP : ∀ k, k < P.1 → vSign T (P.2 k)) {mo t : Nat} (hm : mo < 12) (ht : t < 720)
    (h : ∀ g', FMin T P gi mo (t + 1) g' → g' 366 mo = nI (cntN (fun t => pM T P mo t) (t + 1)) → p_X12_findMinutes_17 (nI x) (nI mo) (nI (t + 1)) g' gl Q) :
    ∀ n j g, j + n = P.1 → FMin T P gi mo t g → g 366 mo = nI (cntN (fun t => pM T P mo t) t) → p_X12_findMinutes_33 (nI x) (nI mo) (nI t) (b2i (allK (fun k => sM T (P.2 k) mo t) j)) (nI (12 * x + j)) g gl Q := by
  have hx := hP.1
  have hc := hP.2.1
  have hv : vp_in (nI x) 40 := vp_nI hx (by omega)
  have e12 : (12 : Int32) * nI x = nI (12 * x) := pk_mul 12 x
  intro n
  induction n with
  | zero =>
    intro j g hj hf hcn
    refine v_X12_findMinutes_33 ?_
    unfold f_X12_findMinutes_33
    rw [e12, nI_cl (by omega), (hf.mp hP).2.2.1, nI_add]
    refine ⟨hv, ?_⟩
    rw [if_pos (by rw [nI_leI (by omega) (by omega)]; omega)]
    have : j = P.1 := by omega
    subst this
    exact findMinutes_70 hm ht hf hcn h
  | succ n ih =>
    intro j g hj hf hcn
    refine v_X12_findMinutes_33 ?_
    unfold f_X12_findMinutes_33
    rw [e12, nI_cl (by omega), (hf.mp hP).2.2.1, nI_add]
    refine ⟨hv, ?_⟩
    rw [if_neg (by rw [nI_leI (by omega) (by omega)]; omega)]
    cases hb : allK (fun k => sM T (P.2 k) mo t) j with
    | false =>
      rw [b2i_f, if_pos rfl]
      have := findMinutes_70 (x := x) hm ht hf hcn h
      rw [show pM T P mo t = false from allK_f hb _ (by omega)] at this
      exact this
    | true =>
      rw [b2i_t, if_neg (by decide)]
      refine s_X12_letsMinute (hf.E m) ((hf.mp hP).2.2.2 j (by omega)) (vP j (by omega)) hm ht (fun g2 hs => ?_)
      rw [nI_1, show 12 * x + j + 1 = 12 * x + (j + 1) by omega]
      have := ih (j + 1) g2 (by omega) (hf.sn hs) (by rw [hs.1 _ (by omega)]; exact hcn)
      rw [allK_s, hb, Bool.true_and] at this
      exact this
theorem findMinutes_row {Q : Gi → Gl → Prop} (m : ME T p la su gi gl) (hP : mPic P x gi) (vP : ∀ k, k < P.1 → vSign T (P.2 k)) {mo : Nat} (hm : mo < 12)
    (h : ∀ g', FMin T P gi (mo + 1) 0 g' → p_X12_findMinutes_2 (nI x) (nI (mo + 1)) g' gl Q) :
    ∀ n t g, t + n = 720 → FMin T P gi mo t g → g 366 mo = nI (cntN (fun t => pM T P mo t) t) → p_X12_findMinutes_17 (nI x) (nI mo) (nI t) g gl Q := by
  have hx := hP.1
  intro n
  induction n with
  | zero =>
    intro t g ht hf hc
    refine v_X12_findMinutes_17 ?_
    unfold f_X12_findMinutes_17
    rw [if_pos (by rw [show (720 : Int32) = nI 720 by rfl, nI_leI (by omega) (by omega)]; omega), nI_1]
    have e : t = 720 := by omega
    subst e
    exact h g ⟨hf.1, hf.2.1, fun m' t' a b => hf.2.2.1 m' t' a (by omega), fun m' a => by
      by_cases q : m' = mo
      · subst q; exact hc
      · exact hf.2.2.2 m' (by omega)⟩
  | succ n ih =>
    intro t g ht hf hc
    refine v_X12_findMinutes_17 ?_
    unfold f_X12_findMinutes_17
    rw [if_neg (by rw [show (720 : Int32) = nI 720 by rfl, nI_leI (by omega) (by omega)]; omega)]
    rintro z1 rfl
    have := findMinutes_in (Q := Q) m hP vP hm (t := t) (by omega) (fun g' a b => ih (t + 1) g' (by omega) a b) P.1 0 g (by omega) hf hc
    rw [show (12 : Int32) * nI x = nI (12 * x + 0) from pk_mul 12 x]
    exact this
theorem s_X12_findMinutes {Q : Gi → Gl → Prop} (m : ME T p la su gi gl) (hP : mPic P x gi) (vP : ∀ k, k < P.1 → vSign T (P.2 k))
    (h : ∀ gi', FMin T P gi 12 0 gi' → Q gi' gl) : p_X12_findMinutes (nI x) gi gl Q := by
  have lp : ∀ n mo g, mo + n = 12 → FMin T P gi mo 0 g → p_X12_findMinutes_2 (nI x) (nI mo) g gl Q := by
    intro n
    induction n with
    | zero =>
      intro mo g hm hf
      refine v_X12_findMinutes_2 ?_
      unfold f_X12_findMinutes_2
      rw [if_pos (by rw [show (12 : Int32) = nI 12 by rfl, nI_leI (by omega) (by omega)]; omega)]
      have e : mo = 12 := by omega
      subst e
      exact h g hf
    | succ n ih =>
      intro mo g hm hf
      refine v_X12_findMinutes_2 ?_
      unfold f_X12_findMinutes_2
      rw [if_neg (by rw [show (12 : Int32) = nI 12 by rfl, nI_leI (by omega) (by omega)]; omega), nI_cl (by omega)]
      refine ⟨vp_nI (by omega) (by omega), ?_⟩
      rintro g1 rfl
      refine findMinutes_row m hP vP (by omega) (fun g' h' => ih (mo + 1) g' (by omega) h') 720 0 _ (by omega) ⟨?_, ?_, ?_, ?_⟩ ?_
      · intro z a b c; rw [uI_n c]; exact hf.1 z a b c
      · intro k hk; rw [uI_n (by omega)]; exact hf.2.1 k hk
      · intro m' t' a b; rw [uI_n (by omega)]; exact hf.2.2.1 m' t' a b
      · intro m' a; rw [uI_s, updA, if_neg (by omega)]; exact hf.2.2.2 m' a
      · rw [uI_s, updA, if_pos rfl]; rfl
  refine v_X12_findMinutes ?_
  unfold f_X12_findMinutes
  exact lp 12 0 gi (by omega) ⟨fun _ _ _ _ => rfl, fun _ _ => rfl, fun m' t' _ a => by omega, fun m' a => by omega⟩
end D9
