/-! THE REFERENCE, nineteen: its scanner -/
theorem fl {g : Gi} {k j : Nat} {v : Int32} : uI g 329 (upd (g 329) k v) 329 j = if j = k then v else g 329 j := by rw [uI_s, updA]
def txW (l : List Nat) : Int := if l = [] then -1 else (pk 27 l : Nat)
def hv (f : Nat → Nat) (n p : Nat) : Int32 := if p < n then nI (f p) else -1
/-- the tape as characters -/
def tpR (f : Nat → Nat) (n : Nat) (gi : Gi) : Prop := n ≤ 1200 ∧ ∀ j, j < n → gi 363 j &&& 255 = nI (f j) ∧ f j < 256
def PS (f : Nat → Nat) (n a : Nat) (gi : Gi) (gl : Gl) : Prop :=
  tpR f n gi ∧ a ≤ n ∧ gi 329 38 = nI n ∧ gi 329 40 = nI a ∧ gi 329 39 = nI (en f n a) ∧ gi 329 41 = nI (kd f n a) ∧ gi 329 44 = 0 ∧ gi 329 37 = -1 ∧ gl 329 43 = iL (txW (wd f n a)) ∧ (kd f n a = 2 → gi 329 42 = nI (vl f n a))
def WS (e : Nat) (gi : Gi) : Prop := gi 329 44 = 1 ∧ gi 329 37 = nI e ∧ e ≤ 1200
def St (f : Nat → Nat) (n : Nat) (s : Ps) (gi : Gi) (gl : Gl) : Prop := match s with
  | .inl e => WS e gi
  | .inr a => PS f n a gi gl
def Fs (gi : Gi) (gl : Gl) (gi' : Gi) (gl' : Gl) : Prop := (∀ z, z ≠ 329 → gi' z = gi z) ∧ (∀ k, k ≠ 37 ∧ k ≠ 39 ∧ k ≠ 40 ∧ k ≠ 41 ∧ k ≠ 42 ∧ k ≠ 44 → gi' 329 k = gi 329 k) ∧ ∀ z, z ≠ 329 → gl' z = gl z
theorem Fs.rf {gi : Gi} {gl : Gl} : Fs gi gl gi gl := ⟨fun _ _ => rfl, fun _ _ => rfl, fun _ _ => rfl⟩
theorem Fs.tr {a b c : Gi} {a' b' c' : Gl} (h : Fs a a' b b') (k : Fs b b' c c') : Fs a a' c c' := ⟨fun z q => (k.1 z q).trans (h.1 z q), fun j q => (k.2.1 j q).trans (h.2.1 j q), fun z q => (k.2.2 z q).trans (h.2.2 z q)⟩
theorem Fs.fld {a b : Gi} {a' b' : Gl} (h : Fs a a' b b') {k : Nat} {v : Int32} (hk : k = 37 ∨ k = 39 ∨ k = 40 ∨ k = 41 ∨ k = 42 ∨ k = 44) : Fs a a' (uI b 329 (upd (b 329) k v)) b' := ⟨fun z q => by rw [uI_n q]; exact h.1 z q, fun j q => by rw [fl, if_neg (by omega)]; exact h.2.1 j q, h.2.2⟩
theorem Fs.fldL {a b : Gi} {a' b' : Gl} (h : Fs a a' b b') {g : Nat → Int64} : Fs a a' b (uL b' 329 g) := ⟨h.1, h.2.1, fun z q => by rw [uL_n q]; exact h.2.2 z q⟩
section RS
variable {f : Nat → Nat} {n : Nat} {gi : Gi} {gl : Gl}
theorem s_X12_here {Q : Int32 → Gi → Gl → Prop} (ht : tpR f n gi) {p : Nat} (hp : p ≤ n) (h38 : gi 329 38 = nI n) (h39 : gi 329 39 = nI p) (k : Q (hv f n p) gi gl) : p_X12_here gi gl Q := by
  have hn := ht.1
  refine v_X12_here ?_
  unfold f_X12_here
  rw [h38, h39]
  unfold hv at k
  refine c_le n p rfl rfl (by omega) (by omega) (fun q => ?_) (fun q => ⟨vp_nI (by omega) (by omega), ?_⟩)
  · rw [if_neg (by omega)] at k; exact k
  · rw [if_pos q] at k
    rw [nI_cl (by omega), (ht.2 p q).1]; exact k
theorem hv_in {p : Nat} (ht : tpR f n gi) (lo hi : Nat) (hlo : 0 < lo) : (decide ((lo : Int) ≤ (hv f n p).toInt) && decide ((hv f n p).toInt ≤ (hi : Int))) = (decide (p < n) && (decide (lo ≤ f p) && decide (f p ≤ hi))) := by
  unfold hv
  by_cases q : p < n
  · rw [if_pos q, nI_tI (by have := (ht.2 p q).2; omega), decide_eq_true q, Bool.true_and]
    congr 1
    · exact decide_eq_decide.2 (by omega)
    · exact decide_eq_decide.2 (by omega)
  · rw [if_neg q, show ((-1 : Int32).toInt) = -1 by rfl, decide_eq_false q, Bool.false_and, decide_eq_false (by omega), Bool.false_and]
theorem next_168 {Q : Gi → Gl → Prop} {a : Nat} (ha : a < n) (hd : cL (f a) = false) (hd2 : cD (f a) = true) {gi0 : Gi} {gl0 : Gl} (h : ∀ gi' gl', PS f n a gi' gl' → Fs gi0 gl0 gi' gl' → Q gi' gl') :
    ∀ m k g l, a + k + m = enP cD f n a → tpR f n g → g 329 38 = nI n → g 329 40 = nI a → g 329 39 = nI (a + k) → g 329 44 = 0 → g 329 37 = -1 → l 329 43 = -1 → (∃ w, g 329 42 = nI w ∧ w < 10000010 ∧ (k ≤ 4 → w = val f a k)) → Fs gi0 gl0 g l → p_X12_next_168 g l Q := by
  have hb := enP_bd (c := cD) (f := f) (n := n) (p := a) (by omega)
  have hen : en f n a = enP cD f n a := by unfold en; rw [if_neg (by omega), if_neg (by rw [hd]; decide), if_pos hd2]
  have hkd : kd f n a = if enP cD f n a - a ≤ 4 then 2 else 3 := by unfold kd; rw [if_neg (by omega), if_neg (by rw [hd]; decide), if_pos hd2]
  have hwd : wd f n a = [] := by unfold wd; rw [if_neg]; rintro ⟨q, -⟩; rw [hkd] at q; split at q <;> omega
  intro m
  induction m with
  | zero =>
    intro k g l hk ht e38 e40 e39 e44 e37 e43 ⟨w, ew, hw, hwv⟩ F
    have hn := ht.1
    refine v_X12_next_168 ?_
    unfold f_X12_next_168
    refine s_X12_here ht (by omega) e38 e39 ?_
    refine s_X12_within ?_
    rw [show ((48 : Int32).toInt) = ((48 : Nat) : Int) by rfl, show ((57 : Int32).toInt) = ((57 : Nat) : Int) by rfl, hv_in ht 48 57 (by omega)]
    have e0 : (decide (a + k < n) && (decide (48 ≤ f (a + k)) && decide (f (a + k) ≤ 57))) = false := by
      have z := hb.2.2.2
      rw [← hk, Nat.add_zero] at z
      rw [Bool.eq_false_iff]
      intro y
      rw [Bool.and_eq_true, decide_eq_true_eq] at y
      exact z y
    rw [e0, b2i_f]
    refine ifT rfl ?_
    rw [e39, e40, show nI (a + k) - nI a = nI k by rw [pk_sub (by omega)]; congr 1; omega]
    have hS : ∀ v : Nat, v = kd f n a → ∀ gx, gx = uI g 329 (upd (g 329) 41 (nI v)) → Q gx l := by
      rintro v rfl gx rfl
      refine h _ _ ⟨⟨hn, fun j hj => by rw [uI_n (by omega)]; exact ht.2 j hj⟩, by omega, ?_, ?_, ?_, ?_, ?_, ?_, ?_, ?_⟩ (F.fld (by simp))
      · rw [fl, if_neg (by omega)]; exact e38
      · rw [fl, if_neg (by omega)]; exact e40
      · rw [fl, if_neg (by omega), hen]; rw [e39]; congr 1
      · rw [fl, if_pos rfl]
      · rw [fl, if_neg (by omega)]; exact e44
      · rw [fl, if_neg (by omega)]; exact e37
      · rw [e43, hwd]; rfl
      · intro q
        rw [fl, if_neg (by omega), ew]
        have h4 : k ≤ 4 := by rw [hkd] at q; split at q <;> omega
        rw [hwv h4]
        unfold vl
        rw [hen]; congr 2; omega
    refine c_lt 4 k rfl rfl (by omega) (by omega) (fun q => ?_) (fun q => ?_)
    · rintro gx hx
      exact hS 3 (by rw [hkd, if_neg (by omega)]) gx hx
    · rintro gx hx
      exact hS 2 (by rw [hkd, if_pos (by omega)]) gx hx
  | succ m ih =>
    intro k g l hk ht e38 e40 e39 e44 e37 e43 ⟨w, ew, hw, hwv⟩ F
    have hn := ht.1
    have hc := hb.2.2.1 (a + k) (by omega) (by omega)
    have hc2 := cD_iff.1 hc
    refine v_X12_next_168 ?_
    unfold f_X12_next_168
    refine s_X12_here ht (by omega) e38 e39 ?_
    refine s_X12_within ?_
    rw [show ((48 : Int32).toInt) = ((48 : Nat) : Int) by rfl, show ((57 : Int32).toInt) = ((57 : Nat) : Int) by rfl, hv_in ht 48 57 (by omega)]
    have e0 : (decide (a + k < n) && (decide (48 ≤ f (a + k)) && decide (f (a + k) ≤ 57))) = true := by
      rw [Bool.and_eq_true, decide_eq_true_eq]
      exact ⟨by omega, hc⟩
    rw [e0, b2i_t, ew]
    refine ifF (by decide) ?_
    have tp2 : ∀ {g' : Gi}, (∀ z, z ≠ 329 → g' z = g z) → tpR f n g' := fun e => ⟨hn, fun j hj => by rw [e 363 (by omega)]; exact ht.2 j hj⟩
    refine c_le 1000000 w rfl rfl (by omega) (by omega) (fun q => ?_) (fun q => ?_)
    · have h4 : 4 < k := by
        apply Classical.byContradiction
        intro z
        have hv := val_lt (f := f) (a := a) k (fun i hi => hb.2.2.1 _ (by omega) (by omega))
        have p : 10 ^ k ≤ 10 ^ 4 := Nat.pow_le_pow_right (by omega) (by omega)
        have := hwv (by omega)
        omega
      rintro gx rfl
      rw [e39, nI_1]
      refine ih (k + 1) _ l (by omega) (tp2 (fun z hz => uI_n hz)) ?_ ?_ ?_ ?_ ?_ e43 ⟨w, ?_, hw, fun z => by omega⟩ (F.fld (by simp))
      · rw [fl, if_neg (by omega)]; exact e38
      · rw [fl, if_neg (by omega)]; exact e40
      · rw [fl, if_pos rfl]; rfl
      · rw [fl, if_neg (by omega)]; exact e44
      · rw [fl, if_neg (by omega)]; exact e37
      · rw [fl, if_neg (by omega)]; exact ew
    · refine s_X12_here ht (by omega) e38 e39 ?_
      rintro gx rfl gy rfl
      have ev : (10 : Int32) * nI w + hv f n (a + k) - 48 = nI (w * 10 + (f (a + k) - 48)) := by
        unfold hv
        rw [if_pos (by omega), show (10 : Int32) * nI w = nI (10 * w) from pk_mul 10 w, nI_add, show (48 : Int32) = nI 48 by rfl, pk_sub (by omega)]
        congr 1; omega
      rw [ev, fl, if_neg (by omega), e39, nI_1]
      refine ih (k + 1) _ l (by omega) (tp2 (fun z hz => by rw [uI_n hz, uI_n hz])) ?_ ?_ ?_ ?_ ?_ e43 ⟨w * 10 + (f (a + k) - 48), ?_, by omega, fun z => ?_⟩ ((F.fld (by simp)).fld (by simp))
      · rw [fl, if_neg (by omega), fl, if_neg (by omega)]; exact e38
      · rw [fl, if_neg (by omega), fl, if_neg (by omega)]; exact e40
      · rw [fl, if_pos rfl]; rfl
      · rw [fl, if_neg (by omega), fl, if_neg (by omega)]; exact e44
      · rw [fl, if_neg (by omega), fl, if_neg (by omega)]; exact e37
      · rw [fl, if_neg (by omega), fl, if_pos rfl]
      · show _ = val f a k * 10 + _
        rw [hwv (by omega)]
theorem next_89 {Q : Gi → Gl → Prop} {a : Nat} (ha : a < n) (hd : cL (f a) = true) {gi0 : Gi} {gl0 : Gl} (h : ∀ gi' gl', PS f n a gi' gl' → Fs gi0 gl0 gi' gl' → Q gi' gl') :
    ∀ m k g l, a + k + m = enP cL f n a → tpR f n g → g 329 38 = nI n → g 329 40 = nI a → g 329 39 = nI (a + k) → g 329 41 = 1 → g 329 44 = 0 → g 329 37 = -1 → l 329 43 = iL (if k ≤ 8 then ((pk 27 (ltrs f a k) : Nat) : Int) else -1) → Fs gi0 gl0 g l → p_X12_next_89 g l Q := by
  have hb := enP_bd (c := cL) (f := f) (n := n) (p := a) (by omega)
  have hen : en f n a = enP cL f n a := by unfold en; rw [if_neg (by omega), if_pos hd]
  have hkd : kd f n a = 1 := by unfold kd; rw [if_neg (by omega), if_pos hd]
  have h1 : a < enP cL f n a := by have := (en_bd (f := f) (n := n) (a := a) (by omega)).2.2 ha; omega
  intro m
  induction m with
  | zero =>
    intro k g l hk ht e38 e40 e39 e41 e44 e37 e43 F
    have hn := ht.1
    refine v_X12_next_89 ?_
    unfold f_X12_next_89
    refine s_X12_here ht (by omega) e38 e39 ?_
    refine s_X12_within ?_
    rw [show ((97 : Int32).toInt) = ((97 : Nat) : Int) by rfl, show ((122 : Int32).toInt) = ((122 : Nat) : Int) by rfl, hv_in ht 97 122 (by omega)]
    have e0 : (decide (a + k < n) && (decide (97 ≤ f (a + k)) && decide (f (a + k) ≤ 122))) = false := by
      have z := hb.2.2.2
      rw [← hk, Nat.add_zero] at z
      rw [Bool.eq_false_iff]
      intro y
      rw [Bool.and_eq_true, decide_eq_true_eq] at y
      exact z y
    rw [e0, b2i_f]
    refine ifT rfl ?_
    refine h _ _ ⟨ht, by omega, e38, e40, ?_, ?_, e44, e37, ?_, fun q => by omega⟩ F
    · rw [e39, hen]; congr 1
    · rw [e41, hkd]; rfl
    · rw [e43]
      have ek : en f n a - a = k := by omega
      by_cases q : k ≤ 8
      · obtain ⟨w1, w2⟩ := wd_ne ha hkd (by omega)
        rw [if_pos q]
        unfold txW
        rw [if_neg w2, w1, ek]
      · have : wd f n a = [] := by unfold wd; rw [if_neg (by omega)]
        rw [if_neg q, this]; rfl
  | succ m ih =>
    intro k g l hk ht e38 e40 e39 e41 e44 e37 e43 F
    have hn := ht.1
    have hc := hb.2.2.1 (a + k) (by omega) (by omega)
    have hc2 := cL_iff.1 hc
    refine v_X12_next_89 ?_
    unfold f_X12_next_89
    refine s_X12_here ht (by omega) e38 e39 ?_
    refine s_X12_within ?_
    rw [show ((97 : Int32).toInt) = ((97 : Nat) : Int) by rfl, show ((122 : Int32).toInt) = ((122 : Nat) : Int) by rfl, hv_in ht 97 122 (by omega)]
    have e0 : (decide (a + k < n) && (decide (97 ≤ f (a + k)) && decide (f (a + k) ≤ 122))) = true := by
      rw [Bool.and_eq_true, decide_eq_true_eq]
      exact ⟨by omega, hc⟩
    rw [e0, b2i_t]
    refine ifF (by decide) ?_
    have tp2 : ∀ {g' : Gi}, (∀ z, z ≠ 329 → g' z = g z) → tpR f n g' := fun e => ⟨hn, fun j hj => by rw [e 363 (by omega)]; exact ht.2 j hj⟩
    rw [show g 329 39 - g 329 40 = nI k by rw [e39, e40, pk_sub (by omega)]; congr 1; omega]
    refine c_le 8 k rfl rfl (by omega) (by omega) (fun q => ?_) (fun q => ?_)
    · rintro l1 rfl gx rfl
      rw [e39, nI_1]
      refine ih (k + 1) _ _ (by omega) (tp2 (fun z hz => uI_n hz)) ?_ ?_ ?_ ?_ ?_ ?_ ?_ ((F.fldL).fld (by simp))
      · rw [fl, if_neg (by omega)]; exact e38
      · rw [fl, if_neg (by omega)]; exact e40
      · rw [fl, if_pos rfl]; rfl
      · rw [fl, if_neg (by omega)]; exact e41
      · rw [fl, if_neg (by omega)]; exact e44
      · rw [fl, if_neg (by omega)]; exact e37
      · rw [uL_s, updLA, if_pos rfl, if_neg (by omega)]; rfl
    · refine s_X12_here ht (by omega) e38 e39 ?_
      rintro l1 rfl gx rfl
      rw [e39, nI_1]
      refine ih (k + 1) _ _ (by omega) (tp2 (fun z hz => uI_n hz)) ?_ ?_ ?_ ?_ ?_ ?_ ?_ ((F.fldL).fld (by simp))
      · rw [fl, if_neg (by omega)]; exact e38
      · rw [fl, if_neg (by omega)]; exact e40
      · rw [fl, if_pos rfl]; rfl
      · rw [fl, if_neg (by omega)]; exact e41
      · rw [fl, if_neg (by omega)]; exact e44
      · rw [fl, if_neg (by omega)]; exact e37
      · rw [uL_s, updLA, if_pos rfl, if_pos (by omega), e43, if_pos (by omega)]
        unfold hv
        rw [if_pos (by omega), show (96 : Int32) = nI 96 by rfl, pk_sub (by omega), ← iI_n, iI_toL (by omega) (by omega), show (27 : Int64) = iL 27 by rfl, iL_mul, iL_add]
        show _ = iL ((pk 27 (ltrs f a k ++ [f (a + k) - 96]) : Nat) : Int)
        rw [pk_app, Int.natCast_add, Int.natCast_mul]
        rfl
theorem s_X12_next0 {Q : Gi → Gl → Prop} {gi0 : Gi} {gl0 : Gl} : ∀ m p g l, p + m = n → tpR f n g → g 329 38 = nI n → g 329 39 = nI p → g 329 44 = 0 → g 329 37 = -1 → Fs gi0 gl0 g l → (∀ gi' gl', PS f n (skp f n p) gi' gl' → Fs gi0 gl0 gi' gl' → Q gi' gl') → f_X12_next_0 g l Q := by
  intro m
  induction m with
  | zero =>
    intro p g l hp ht e38 e39 e44 e37 F h
    have hn := ht.1
    obtain rfl : p = n := by omega
    have hsk : skp f p p = p := skp_e (by omega)
    rw [hsk] at h
    have hv0 : hv f p p = -1 := by unfold hv; rw [if_neg (by omega)]
    unfold f_X12_next_0
    refine s_X12_here ht (by omega) e38 e39 ?_
    rw [hv0]
    refine ifF (by decide) ?_
    refine s_X12_here ht (by omega) e38 e39 ?_
    rw [hv0]
    refine ifT (by decide) ?_
    rintro gx rfl
    refine s_X12_here (f := f) (n := p) (p := p) ⟨hn, fun j hj => by rw [uI_n (by omega)]; exact ht.2 j hj⟩ (by omega) (by rw [fl, if_neg (by omega)]; exact e38) (by rw [fl, if_neg (by omega)]; exact e39) ?_
    rintro l1 rfl gy rfl
    rw [hv0]
    refine ifF (by decide) ?_
    rintro gz rfl
    refine h _ _ ⟨⟨hn, fun j hj => by rw [uI_n (by omega), uI_n (by omega), uI_n (by omega)]; exact ht.2 j hj⟩, by omega, ?_, ?_, ?_, ?_, ?_, ?_, ?_, ?_⟩ ((((F.fld (by simp)).fldL).fld (by simp)).fld (by simp))
    · rw [fl, if_neg (by omega), fl, if_neg (by omega), fl, if_neg (by omega)]; exact e38
    · rw [fl, if_neg (by omega), fl, if_neg (by omega), fl, if_pos rfl]; exact e39
    · rw [fl, if_neg (by omega), fl, if_neg (by omega), fl, if_neg (by omega), e39]; unfold en; rw [if_pos (by omega)]
    · rw [fl, if_pos rfl, kd_0.2 (by omega)]; rfl
    · rw [fl, if_neg (by omega), fl, if_neg (by omega), fl, if_neg (by omega)]; exact e44
    · rw [fl, if_neg (by omega), fl, if_neg (by omega), fl, if_neg (by omega)]; exact e37
    · rw [uL_s, updLA, if_pos rfl]
      have : wd f p p = [] := by unfold wd; rw [if_neg (by rw [kd_0.2 (Nat.le_refl _)]; omega)]
      rw [this]; rfl
    · intro q; rw [kd_0.2 (by omega)] at q; omega
  | succ m ih =>
    intro p g l hp ht e38 e39 e44 e37 F h
    have hn := ht.1
    have hpn : p < n := by omega
    have hc := (ht.2 p hpn).2
    have hv0 : hv f n p = nI (f p) := by unfold hv; rw [if_pos hpn]
    have blank : (f p = 32 ∨ f p = 10) → ∀ gx, gx = uI g 329 (upd (g 329) 39 (g 329 39 + 1)) → p_X12_next_0 gx l Q := by
      rintro hb gx rfl
      refine v_X12_next_0 ?_
      rw [e39, nI_1]
      rw [skp_s hpn hb] at h
      refine ih (p + 1) _ l (by omega) ⟨hn, fun j hj => by rw [uI_n (by omega)]; exact ht.2 j hj⟩ ?_ ?_ ?_ ?_ (F.fld (by simp)) h
      · rw [fl, if_neg (by omega)]; exact e38
      · rw [fl, if_pos rfl]
      · rw [fl, if_neg (by omega)]; exact e44
      · rw [fl, if_neg (by omega)]; exact e37
    unfold f_X12_next_0
    refine s_X12_here ht (by omega) e38 e39 ?_
    rw [hv0]
    refine c_eq (f p) 32 rfl rfl (by omega) (by omega) (fun q => blank (Or.inl q)) (fun q => ?_)
    refine s_X12_here ht (by omega) e38 e39 ?_
    rw [hv0]
    refine c_ne (f p) 10 rfl rfl (by omega) (by omega) (fun q2 => ?_) (fun q2 => blank (Or.inr q2))
    rw [skp_e (by omega)] at h
    rintro gx hx
    have x38 : gx 329 38 = nI n := by rw [hx, fl, if_neg (by omega)]; exact e38
    have x39 : gx 329 39 = nI p := by rw [hx, fl, if_neg (by omega)]; exact e39
    have x40 : gx 329 40 = nI p := by rw [hx, fl, if_pos rfl]; exact e39
    have x44 : gx 329 44 = 0 := by rw [hx, fl, if_neg (by omega)]; exact e44
    have x37 : gx 329 37 = -1 := by rw [hx, fl, if_neg (by omega)]; exact e37
    have xt : tpR f n gx := ⟨hn, fun j hj => by rw [hx, uI_n (by omega)]; exact ht.2 j hj⟩
    have xF : Fs gi0 gl0 gx l := by rw [hx]; exact F.fld (by simp)
    clear hx
    refine s_X12_here xt (by omega) x38 x39 ?_
    rw [hv0]
    rintro l1 hl1 gy hy
    have y38 : gy 329 38 = nI n := by rw [hy, fl, if_neg (by omega)]; exact x38
    have y39 : gy 329 39 = nI p := by rw [hy, fl, if_neg (by omega)]; exact x39
    have y40 : gy 329 40 = nI p := by rw [hy, fl, if_neg (by omega)]; exact x40
    have y42 : gy 329 42 = 0 := by rw [hy, fl, if_pos rfl]
    have y44 : gy 329 44 = 0 := by rw [hy, fl, if_neg (by omega)]; exact x44
    have y37 : gy 329 37 = -1 := by rw [hy, fl, if_neg (by omega)]; exact x37
    have yt : tpR f n gy := ⟨hn, fun j hj => by rw [hy, uI_n (by omega)]; exact xt.2 j hj⟩
    have yF : Fs gi0 gl0 gy l1 := by rw [hy, hl1]; exact (xF.fldL).fld (by simp)
    have yl : l1 329 43 = -1 := by rw [hl1, uL_s, updLA, if_pos rfl]
    clear hy hl1
    refine c_le 0 (f p) rfl rfl (by omega) (by omega) (fun _ => ?_) (fun z => by omega)
    refine s_X12_within ?_
    rw [nI_tI (by omega), show ((97 : Int32).toInt) = ((97 : Nat) : Int) by rfl, show ((122 : Int32).toInt) = ((122 : Nat) : Int) by rfl, show (decide (((97 : Nat) : Int) ≤ (f p : Int)) && decide ((f p : Int) ≤ ((122 : Nat) : Int))) = cL (f p) by unfold cL; congr 1 <;> exact decide_eq_decide.2 (by omega)]
    refine c_b (fun nL => ?_) (fun iL' => ?_)
    · refine s_X12_within ?_
      rw [nI_tI (by omega), show ((48 : Int32).toInt) = ((48 : Nat) : Int) by rfl, show ((57 : Int32).toInt) = ((57 : Nat) : Int) by rfl, show (decide (((48 : Nat) : Int) ≤ (f p : Int)) && decide ((f p : Int) ≤ ((57 : Nat) : Int))) = cD (f p) by unfold cD; congr 1 <;> exact decide_eq_decide.2 (by omega)]
      refine c_b (fun nD => ?_) (fun iD => ?_)
      · have hen : en f n p = p + 1 := by unfold en; rw [if_neg (by omega), if_neg (by rw [nL]; decide), if_neg (by rw [nD]; decide)]
        have hkd : kd f n p = if f p = 59 then 59 else 3 := by unfold kd; rw [if_neg (by omega), if_neg (by rw [nL]; decide), if_neg (by rw [nD]; decide)]
        have hwd : wd f n p = [] := by unfold wd; rw [if_neg]; rintro ⟨z, -⟩; rw [hkd] at z; split at z <;> omega
        have fin : ∀ v : Nat, v = kd f n p → ∀ g20, g20 = uI gy 329 (upd (gy 329) 41 (nI v)) → ∀ g21, g21 = uI g20 329 (upd (g20 329) 39 (g20 329 39 + 1)) → Q g21 l1 := by
          rintro v rfl g20 rfl g21 rfl
          refine h _ _ ⟨⟨hn, fun j hj => by rw [uI_n (by omega), uI_n (by omega)]; exact yt.2 j hj⟩, by omega, ?_, ?_, ?_, ?_, ?_, ?_, ?_, ?_⟩ ((yF.fld (by simp)).fld (by simp))
          · rw [fl, if_neg (by omega), fl, if_neg (by omega)]; exact y38
          · rw [fl, if_neg (by omega), fl, if_neg (by omega)]; exact y40
          · rw [fl, if_pos rfl, fl, if_neg (by omega), y39, nI_1, hen]
          · rw [fl, if_neg (by omega), fl, if_pos rfl]
          · rw [fl, if_neg (by omega), fl, if_neg (by omega)]; exact y44
          · rw [fl, if_neg (by omega), fl, if_neg (by omega)]; exact y37
          · rw [yl, hwd]; rfl
          · intro z; rw [hkd] at z; split at z <;> omega
        refine c_ne (f p) 59 rfl rfl (by omega) (by omega) (fun z => ?_) (fun z => ?_)
        · intro g20 h20 g21 h21; exact fin 3 (by rw [hkd, if_neg z]) g20 h20 g21 h21
        · intro g20 h20 g21 h21; exact fin 59 (by rw [hkd, if_pos z]) g20 h20 g21 h21
      · have hb := enP_bd (c := cD) (f := f) (n := n) (p := p) (by omega)
        exact next_168 hpn nL iD h (enP cD f n p - p) 0 gy l1 (by omega) yt y38 y40 y39 y44 y37 yl ⟨0, y42, by omega, fun _ => rfl⟩ yF
    · have hb := enP_bd (c := cL) (f := f) (n := n) (p := p) (by omega)
      rintro g24 rfl l25 rfl
      refine next_89 hpn iL' h (enP cL f n p - p) 0 _ _ (by omega) ⟨hn, fun j hj => by rw [uI_n (by omega)]; exact yt.2 j hj⟩ ?_ ?_ ?_ ?_ ?_ ?_ ?_ ((yF.fld (by simp)).fldL)
      · rw [fl, if_neg (by omega)]; exact y38
      · rw [fl, if_neg (by omega)]; exact y40
      · rw [fl, if_neg (by omega)]; exact y39
      · rw [fl, if_pos rfl]
      · rw [fl, if_neg (by omega)]; exact y44
      · rw [fl, if_neg (by omega)]; exact y37
      · rw [uL_s, updLA, if_pos rfl]; rfl
theorem s_X12_nextAt {Q : Gi → Gl → Prop} {p : Nat} (hp : p ≤ n) (ht : tpR f n gi) (e38 : gi 329 38 = nI n) (e39 : gi 329 39 = nI p) (e44 : gi 329 44 = 0) (e37 : gi 329 37 = -1) (h : ∀ gi' gl', PS f n (skp f n p) gi' gl' → Fs gi gl gi' gl' → Q gi' gl') : p_X12_next gi gl Q := by
  refine v_X12_next ?_
  exact s_X12_next0 (n - p) p gi gl (by omega) ht e38 e39 e44 e37 Fs.rf h
theorem s_X12_next {Q : Gi → Gl → Prop} {a : Nat} (hS : PS f n a gi gl) (h : ∀ gi' gl', PS f n (nx f n a) gi' gl' → Fs gi gl gi' gl' → Q gi' gl') : p_X12_next gi gl Q := by
  obtain ⟨s1, s2, s3, s4, s5, s6, s7, s8, s9, s10⟩ := hS
  exact s_X12_nextAt (en_bd s2).2.1 s1 s3 s5 s7 s8 h
theorem s_X12_errs {Q : Gi → Gl → Prop} {s : Ps} (hS : St f n s gi gl) (h : ∀ gi' gl', St f n (erS s) gi' gl' → Fs gi gl gi' gl' → Q gi' gl') : p_X12_errs gi gl Q := by
  refine v_X12_errs ?_
  unfold f_X12_errs
  cases s with
  | inl e =>
    obtain ⟨w1, w2, w3⟩ := hS
    rw [w1]
    exact ifF (by decide) (h gi gl ⟨w1, w2, w3⟩ Fs.rf)
  | inr a =>
    obtain ⟨s1, s2, s3, s4, s5, s6, s7, s8, s9, s10⟩ := hS
    rw [s7]
    refine ifT rfl ?_
    rintro g1 rfl g2 rfl
    have := s1.1
    refine h _ _ ⟨?_, ?_, by omega⟩ ((Fs.rf.fld (by simp)).fld (by simp))
    · rw [fl, if_neg (by omega), fl, if_pos rfl]
    · rw [fl, if_pos rfl, fl, if_neg (by omega)]; exact s4
theorem tx_iff {l L : List Nat} (h1 : okL 27 l) (h2 : l.length ≤ 8) (h3 : okL 27 L) (h4 : L.length ≤ 8) (h5 : L ≠ []) : iL (txW l) = iL ((pk 27 L : Nat) : Int) ↔ l = L := by
  have e8 : ∀ m : List Nat, m.length ≤ 8 → 27 ^ m.length ≤ 27 ^ 8 := fun m h => Nat.pow_le_pow_right (by omega) h
  have b2 : pk 27 L < 27 ^ 8 := by
    rcases pkW_lt L h3 with q | q
    · exact Nat.lt_of_lt_of_le q (e8 L h4)
    · exact absurd q h5
  unfold txW
  by_cases q : l = []
  · rw [if_pos q, iL_eq (by omega) (by omega)]
    constructor
    · intro z; omega
    · intro z; exact absurd (z ▸ q) h5
  · rw [if_neg q]
    have b1 : pk 27 l < 27 ^ 8 := by
      rcases pkW_lt l h1 with z | z
      · exact Nat.lt_of_lt_of_le z (e8 l h2)
      · exact absurd z q
    rw [iL_eq (by omega) (by omega)]
    constructor
    · intro z; exact pk_inj 8 h2 h1 h3 (by omega)
    · intro z; rw [z]
def goodW (L : List Nat) : Prop := okL 27 L ∧ L.length ≤ 8 ∧ L ≠ []
theorem s_X12_is {Q : Int32 → Gi → Gl → Prop} {s : Ps} {L : List Nat} {w : Int64} (hL : goodW L) (hw : w = iL ((pk 27 L : Nat) : Int)) (hS : St f n s gi gl) (k : Q (b2i (isW f n L s)) gi gl) : p_X12_is w gi gl Q := by
  subst hw
  refine v_X12_is ?_
  unfold f_X12_is
  cases s with
  | inl e =>
    obtain ⟨w1, w2, w3⟩ := hS
    rw [w1]
    exact ifT (by decide) k
  | inr a =>
    obtain ⟨s1, s2, s3, s4, s5, s6, s7, s8, s9, s10⟩ := hS
    rw [s7, s6, s9]
    refine ifF (by decide) ?_
    have hk := kd_cases f n a
    have ok := wd_ok (f := f) (n := n) (a := a)
    refine c_ne (kd f n a) 1 rfl rfl (by omega) (by omega) (fun q => ?_) (fun q => ?_)
    · have : wd f n a = [] := by unfold wd; rw [if_neg (by omega)]
      have e : isW f n L (.inr a) = false := by
        show decide (wd f n a = L) = false
        rw [this, decide_eq_false_iff_not]
        exact fun z => hL.2.2 z.symm
      rw [e] at k
      exact k
    · by_cases z : wd f n a = L
      · rw [if_neg (not_not_intro ((tx_iff ok.1 ok.2 hL.1 hL.2.1 hL.2.2).2 z))]
        have e : isW f n L (.inr a) = true := decide_eq_true z
        rw [e] at k; exact k
      · rw [if_pos (fun y => z ((tx_iff ok.1 ok.2 hL.1 hL.2.1 hL.2.2).1 y))]
        have e : isW f n L (.inr a) = false := decide_eq_false z
        rw [e] at k; exact k
theorem s_X12_nextS {Q : Gi → Gl → Prop} {s : Ps} (hS : St f n s gi gl) (hr : ∃ a, s = .inr a) (h : ∀ gi' gl', St f n (nxS f n s) gi' gl' → Fs gi gl gi' gl' → Q gi' gl') : p_X12_next gi gl Q := by
  obtain ⟨a, rfl⟩ := hr
  exact s_X12_next hS h
theorem isW_r {L : List Nat} {s : Ps} (h : isW f n L s = true) : ∃ a, s = .inr a := by
  cases s with
  | inl e => cases h
  | inr a => exact ⟨a, rfl⟩
theorem s_X12_mustBe {Q : Gi → Gl → Prop} {s : Ps} {L : List Nat} {w : Int64} (hL : goodW L) (hw : w = iL ((pk 27 L : Nat) : Int)) (hS : St f n s gi gl) (h : ∀ gi' gl', St f n (muS f n L s) gi' gl' → Fs gi gl gi' gl' → Q gi' gl') : p_X12_mustBe w gi gl Q := by
  refine v_X12_mustBe ?_
  unfold f_X12_mustBe
  refine s_X12_is hL hw hS ?_
  unfold muS at h
  refine c_b (fun q => ?_) (fun q => ?_)
  · rw [if_neg (by rw [q]; decide)] at h
    exact s_X12_errs hS h
  · rw [if_pos q] at h
    exact s_X12_nextS hS (isW_r q) h
theorem nuV_r {lo hi : Int} {a : Nat} : nuV f n lo hi (.inr a) = if nuO f n lo hi (.inr a) then (vl f n a : Int) else 0 := rfl
theorem s_X12_numeral {Q : Int32 → Gi → Gl → Prop} {s : Ps} {lo hi : Int} (hlo : -10000 ≤ lo ∧ lo ≤ 10000) (hhi : -10000 ≤ hi ∧ hi ≤ 10000) (hS : St f n s gi gl) (h : ∀ gi' gl', St f n (nuS f n lo hi s) gi' gl' → Fs gi gl gi' gl' → Q (iI (nuV f n lo hi s)) gi' gl') : p_X12_numeral (iI lo) (iI hi) gi gl Q := by
  refine v_X12_numeral ?_
  unfold f_X12_numeral
  rintro z1 rfl
  unfold nuS at h
  cases s with
  | inl e =>
    have hS' := hS
    obtain ⟨w1, w2, w3⟩ := hS'
    rw [w1]
    refine ifF (by decide) ?_
    exact h gi gl hS Fs.rf
  | inr a =>
    have hS' := hS
    obtain ⟨s1, s2, s3, s4, s5, s6, s7, s8, s9, s10⟩ := hS'
    have hk := kd_cases f n a
    have bad : nuO f n lo hi (.inr a) = false → ∀ gi' gl', St f n (erS (.inr a)) gi' gl' → Fs gi gl gi' gl' → Q 0 gi' gl' := by
      intro q gi' gl' a1 a2
      rw [if_neg (by rw [q]; decide)] at h
      have := h gi' gl' a1 a2
      rw [nuV_r, if_neg (by rw [q]; decide)] at this
      exact this
    rw [s7, s6]
    refine ifT rfl ?_
    refine c_ne (kd f n a) 2 rfl rfl (by omega) (by omega) (fun q => ?_) (fun q => ?_)
    · exact s_X12_errs hS (bad (by unfold nuO; simp [q]))
    · have hvb := vl_bd q
      rw [s10 q, ← iI_n]
      refine d_lt (vl f n a) lo rfl rfl (by omega) (by omega) (fun q1 => ?_) (fun q1 => ?_)
      · exact s_X12_errs hS (bad (by unfold nuO; simp; omega))
      · refine d_le (vl f n a) hi rfl rfl (by omega) (by omega) (fun q2 => ?_) (fun q2 => ?_)
        · have e : nuO f n lo hi (.inr a) = true := by unfold nuO; simp; omega
          rw [if_pos e] at h
          refine s_X12_nextS hS ⟨a, rfl⟩ (fun gi' gl' a1 a2 => ?_)
          have := h gi' gl' a1 a2
          rw [nuV_r, if_pos e] at this
          exact this
        · exact s_X12_errs hS (bad (by unfold nuO; simp; omega))
theorem s_X12_semicolon {Q : Gi → Gl → Prop} {s : Ps} (hS : St f n s gi gl) (h : ∀ gi' gl', St f n (smS f n s) gi' gl' → Fs gi gl gi' gl' → Q gi' gl') : p_X12_semicolon gi gl Q := by
  refine v_X12_semicolon ?_
  unfold f_X12_semicolon
  unfold smS at h
  cases s with
  | inl e =>
    have hS' := hS
    obtain ⟨w1, w2, w3⟩ := hS'
    rw [w1]
    exact ifF (by decide) (h gi gl hS Fs.rf)
  | inr a =>
    have hS' := hS
    obtain ⟨s1, s2, s3, s4, s5, s6, s7, s8, s9, s10⟩ := hS'
    have hk := kd_cases f n a
    rw [s7, s6]
    refine ifT rfl ?_
    refine c_ne (kd f n a) 59 rfl rfl (by omega) (by omega) (fun q => ?_) (fun q => ?_)
    · have e : smO f n (.inr a) = false := decide_eq_false q
      rw [if_neg (by rw [e]; decide)] at h
      exact s_X12_errs hS h
    · have e : smO f n (.inr a) = true := decide_eq_true q
      rw [if_pos e] at h
      exact s_X12_nextS hS ⟨a, rfl⟩ h
theorem gGive : goodW wGive := by unfold goodW okL; decide
theorem s_X12_givenHere {Q : Int32 → Gi → Gl → Prop} {s : Ps} (hS : St f n s gi gl) (h : ∀ gi' gl', St f n (giS f n s) gi' gl' → Fs gi gl gi' gl' → Q (iI (giV f n s)) gi' gl') : p_X12_givenHere gi gl Q := by
  refine v_X12_givenHere ?_
  unfold f_X12_givenHere
  refine s_X12_is gGive (by decide +kernel) hS ?_
  unfold giS giV at h
  refine c_nb (fun q => ?_) (fun q => ?_)
  · simp only [q, if_true] at h
    refine s_X12_nextS hS (isW_r q) (fun g1 l1 a1 a2 => ?_)
    exact s_X12_numeral (lo := 0) (hi := 99) (by omega) (by omega) a1 (fun g2 l2 b1 b2 => h g2 l2 b1 (a2.tr b2))
  · simp only [q, Bool.false_eq_true, if_false] at h
    exact h gi gl hS Fs.rf
end RS
