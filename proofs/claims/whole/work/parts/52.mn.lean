/-! THE REFERENCE, twenty-one: names, things, trees, posts, clocks -/
def pt (G : Gi) (c i : Nat) (v : Int32) : Gi := uI G c (upd (G c) i v)
def ptL (L : Gl) (c i : Nat) (v : Int64) : Gl := uL L c (vp_updL (L c) i v)
theorem pt_at {G : Gi} {c i z j : Nat} {v : Int32} : pt G c i v z j = if z = c ∧ j = i then v else G z j := by
  unfold pt
  rw [uIA]
  by_cases h : z = c
  · subst h; rw [if_pos rfl, updA]; by_cases k : j = i <;> simp [k]
  · rw [if_neg h, if_neg (fun k => h k.1)]
theorem ptL_at {L : Gl} {c i z j : Nat} {v : Int64} : ptL L c i v z j = if z = c ∧ j = i then v else L z j := by
  unfold ptL
  rw [uLA]
  by_cases h : z = c
  · subst h; rw [if_pos rfl, updLA]; by_cases k : j = i <;> simp [k]
  · rw [if_neg h, if_neg (fun k => h k.1)]
theorem pt_n {G : Gi} {c i z : Nat} {v : Int32} (h : z ≠ c) : pt G c i v z = G z := uI_n h
def wdt (c : Nat) : Nat := if c ≤ 335 then 1 else if c = 336 then 12 else if c = 337 then 6 else if c = 338 then 10 else if c = 339 then 4 else if c ≤ 343 then 12 else if c ≤ 345 then 6 else if c ≤ 348 then 10 else if c ≤ 350 then 4 else 40
/-- only one half of the towns is written -/
def Half (q : Nat) (G : Gi) (L : Gl) (G' : Gi) (L' : Gl) : Prop :=
  (∀ z, (z < 330 ∨ 354 < z) → G' z = G z) ∧ (∀ z, 330 ≤ z → z ≤ 354 → ∀ j, ¬ (wdt z * q ≤ j ∧ j < wdt z * q + wdt z) → G' z j = G z j) ∧
  (∀ z, (z < 336 ∨ 339 < z) → L' z = L z) ∧ ∀ z, 336 ≤ z → z ≤ 339 → ∀ j, ¬ (wdt z * q ≤ j ∧ j < wdt z * q + wdt z) → L' z j = L z j
theorem Half.rf {q : Nat} {G : Gi} {L : Gl} : Half q G L G L := ⟨fun _ _ => rfl, fun _ _ _ _ _ => rfl, fun _ _ => rfl, fun _ _ _ _ _ => rfl⟩
theorem Half.tr {q : Nat} {a b c : Gi} {a' b' c' : Gl} (h : Half q a a' b b') (k : Half q b b' c c') : Half q a a' c c' := ⟨fun z y => (k.1 z y).trans (h.1 z y), fun z u v j y => (k.2.1 z u v j y).trans (h.2.1 z u v j y), fun z y => (k.2.2.1 z y).trans (h.2.2.1 z y), fun z u v j y => (k.2.2.2 z u v j y).trans (h.2.2.2 z u v j y)⟩
theorem Half.w {q : Nat} {G : Gi} {L : Gl} {G' : Gi} {L' : Gl} (h : Half q G L G' L') {c i : Nat} {v : Int32} (h1 : 330 ≤ c ∧ c ≤ 354) (h2 : wdt c * q ≤ i ∧ i < wdt c * q + wdt c) : Half q G L (pt G' c i v) L' :=
  ⟨fun z y => by rw [pt_n (by omega)]; exact h.1 z y, fun z u w j y => by
    rw [pt_at, if_neg]
    · exact h.2.1 z u w j y
    · rintro ⟨rfl, rfl⟩; exact y h2, h.2.2⟩
theorem Half.wL {q : Nat} {G : Gi} {L : Gl} {G' : Gi} {L' : Gl} (h : Half q G L G' L') {c i : Nat} {v : Int64} (h1 : 336 ≤ c ∧ c ≤ 339) (h2 : wdt c * q ≤ i ∧ i < wdt c * q + wdt c) : Half q G L G' (ptL L' c i v) :=
  ⟨h.1, h.2.1, fun z y => by rw [show ptL L' c i v z = L' z from uL_n (by omega)]; exact h.2.2.1 z y, fun z u w j y => by
    rw [ptL_at, if_neg]
    · exact h.2.2.2 z u w j y
    · rintro ⟨rfl, rfl⟩; exact y h2⟩
theorem mDr_add {T : Twn} {k : Nat} {nm : List Nat} {nu : Nat → Int} {G G' : Gi} {L L' : Gl} {q : Nat} (D : mDr T G L q)
    (e1 : ∀ c, c < 5 → G' (330 + c) q = if c = k then nI (tCnt T k + 1) else G (330 + c) q)
    (e2 : ∀ c, c < 4 → ∀ i, L' (336 + c) i = if c = k ∧ i = most k * q + tCnt T k then lN (pk 27 nm) else L (336 + c) i)
    (e3 : ∀ c, c < 4 → ∀ j, j < numsOf c → ∀ i, G' (colB c + j) i = if c = k ∧ i = most k * q + tCnt T k then iI (nu j) else G (colB c + j) i)
    (e4 : ∀ c, 351 ≤ c → c ≤ 354 → G' c = G c) : mDr (addK T k nm nu) G' L' q := by
  obtain ⟨d1, d2, d3⟩ := D
  have ec : ∀ c, tCnt (addK T k nm nu) c = if c = k then tCnt T c + 1 else tCnt T c := fun c => rfl
  have en' : ∀ c i, tName (addK T k nm nu) c i = if c = k ∧ i = tCnt T k then nm else tName T c i := fun c i => rfl
  have eu : ∀ c i j, tNum (addK T k nm nu) c i j = if c = k ∧ i = tCnt T k then nu j else tNum T c i j := fun c i j => rfl
  refine ⟨fun c hc => ?_, fun c hc i hi => ⟨?_, fun j hj => ?_⟩, fun r w hw => ?_⟩
  · rw [e1 c hc, ec]
    by_cases q : c = k
    · subst q; rw [if_pos rfl, if_pos rfl]
    · rw [if_neg q, if_neg q]; exact d1 c hc
  · rw [e2 c hc, en']
    rw [ec] at hi
    by_cases z : c = k
    · subst z
      rw [if_pos rfl] at hi
      by_cases y : i = tCnt T c
      · rw [if_pos ⟨rfl, by rw [y]⟩, if_pos ⟨rfl, y⟩]
      · rw [if_neg (by rintro ⟨-, w⟩; omega), if_neg (by rintro ⟨-, w⟩; exact y w)]; exact (d2 c hc i (by omega)).1
    · rw [if_neg z] at hi
      rw [if_neg (fun w => z w.1), if_neg (fun w => z w.1)]; exact (d2 c hc i hi).1
  · rw [e3 c hc j hj, eu]
    rw [ec] at hi
    by_cases z : c = k
    · subst z
      rw [if_pos rfl] at hi
      by_cases y : i = tCnt T c
      · rw [if_pos ⟨rfl, by rw [y]⟩, if_pos ⟨rfl, y⟩]
      · rw [if_neg (by rintro ⟨-, w⟩; omega), if_neg (by rintro ⟨-, w⟩; exact y w)]; exact (d2 c hc i (by omega)).2 j hj
    · rw [if_neg z] at hi
      rw [if_neg (fun w => z w.1), if_neg (fun w => z w.1)]; exact (d2 c hc i hi).2 j hj
  · rw [e4 351 (by omega) (by omega), e4 352 (by omega) (by omega), e4 353 (by omega) (by omega), e4 354 (by omega) (by omega)]; exact d3 r w hw
theorem pk_pos {l : List Nat} (h : okL 27 l) (h0 : l ≠ []) : 0 < pk 27 l := by
  rcases snoc_cases l with q | ⟨m, c, q⟩
  · exact absurd q h0
  · subst q
    have := (okL_app.1 h).2
    rw [pk_app]; omega
section KN
variable {f : Nat → Nat} {n : Nat} {s : Ps} {G : Gi} {L : Gl} {B : Nat → Int32} {gi : Gi} {gl : Gl}
variable {Qv : Gi → Gl → Prop} {Qi : Int32 → Gi → Gl → Prop} {Ql : Int64 → Gi → Gl → Prop} {T : Twn} {q : Nat}
theorem K.wr (h : K f n s G L B gi gl) {c i : Nat} {v : Int32} {gi' : Gi} (e : gi' = uI gi c (upd (gi c) i v)) (hc : c ≠ 329) (hc2 : c ≠ 363) : K f n s (pt G c i v) L B gi' gl := by
  rw [e]; exact h.put hc hc2
theorem K.wrL (h : K f n s G L B gi gl) {c i : Nat} {v : Int64} {gl' : Gl} (e : gl' = uL gl c (vp_updL (gl c) i v)) (hc : c ≠ 329) : K f n s G (ptL L c i v) B gi gl' := by
  rw [e]; exact h.putL hc
theorem K.b (h : K f n s G L B gi gl) (hB : B 45 = nI q) : gi 329 45 = nI q := (h.2.2.2 45 (by omega)).trans hB
theorem k_find {w : List Nat} (h : K f n s G L B gi gl) (hq : q < 2) (D : mDr T G L q) (vt : vTown T) {k : Nat} (hk : k < 4) (hw : goodW w) (kk : Qi (iI (lowN (fun i => decide (tName T k i = w)) (tCnt T k))) gi gl) : p_X12_find (336 + k) (nI (most k * q)) (nI (tCnt T k)) (iL ((pk 27 w : Nat) : Int)) gi gl Qi := by
  have hc := vt.1 k (by omega)
  have hm : (k = 0 ∧ most k = 12) ∨ (k = 1 ∧ most k = 6) ∨ (k = 2 ∧ most k = 10) ∨ (k = 3 ∧ most k = 4) := by
    rcases (show k = 0 ∨ k = 1 ∨ k = 2 ∨ k = 3 by omega) with rfl | rfl | rfl | rfl <;> simp [most]
  have hsK : sK (336 + k) = 101 := by rcases hm with ⟨rfl, -⟩ | ⟨rfl, -⟩ | ⟨rfl, -⟩ | ⟨rfl, -⟩ <;> decide +kernel
  have hsN : sN (336 + k) = 2 * most k := by rcases hm with ⟨rfl, -⟩ | ⟨rfl, -⟩ | ⟨rfl, -⟩ | ⟨rfl, -⟩ <;> decide +kernel
  have hmq : most k * q ≤ most k := by
    have := Nat.mul_le_mul_left (most k) (show q ≤ 1 by omega)
    omega
  refine s_X12_find (nm := tName T k) (by show 336 + k < 377; omega) hsK hw (fun i hi => vt.2.1 k hk i hi) (by omega) (by omega) (fun i hi => ?_) kk
  rw [h.2.2.1 _ (by omega)]
  exact (D.2.1 k hk i hi).1
theorem isR_nx {s : Ps} (h : isR s = true) : isR (nxS f n s) = true := by cases s <;> first | exact h | rfl
theorem nmO_ir {k a : Nat} : nmO f n T k (.inr a) = (decide (wd f n a ≠ []) && (decide (tCnt T k < most k) && (!decide (wd f n a ∈ resW) && !knB T (wd f n a)))) := rfl
theorem nmO_r {k : Nat} (h : nmO f n T k s = true) : ∃ a, s = .inr a := by
  cases s with
  | inl e => cases h
  | inr a => exact ⟨a, rfl⟩
theorem k_newName (h : K f n s G L B gi gl) (hB : B 45 = nI q) (hq : q < 2) (D : mDr T G L q) (vt : vTown T) {k : Nat} {r0 : Int32} (hr : r0 = b2i (decide (tCnt T k < most k)))
    (kk : ∀ gi' gl' r, K f n (nmS f n T k s) G L B gi' gl' → (nmO f n T k s = true → r = lN (pk 27 (wdS f n s))) → Ql r gi' gl') : p_X12_newName r0 gi gl Ql := by
  subst hr
  refine v_X12_newName ?_
  unfold f_X12_newName
  unfold nmS at kk
  cases s with
  | inl e =>
    rw [h.l]
    refine ifF (by decide) (kk gi gl 0 h (fun z => by cases z))
  | inr a =>
    obtain ⟨h44, h41, h43, -⟩ := h.r
    have ok := wd_ok (f := f) (n := n) (a := a)
    have hk := kd_cases f n a
    have bad : nmO f n T k (.inr a) = false → ∀ z1, p_X12_errs gi gl (fun gi2 gl3 => Ql z1 gi2 gl3) := by
      intro z z1
      rw [z] at kk
      simp only [Bool.false_eq_true, if_false] at kk
      exact k_errs h (fun gi' gl' hK => kk gi' gl' z1 hK (fun y => y.elim))
    rw [h44]
    refine ifT rfl ?_
    rintro z1 rfl
    rw [h41]
    refine c_ne (kd f n a) 1 rfl rfl (by omega) (by omega) (fun z => bad ?_ _) (fun z => ?_)
    · have : wd f n a = [] := by
        apply Classical.byContradiction
        intro y; exact z (wd_kd y)
      rw [nmO_ir, this]; simp
    · rw [h43]
      by_cases w0 : wd f n a = []
      · refine ifT (by rw [w0]; decide) (bad ?_ _)
        rw [nmO_ir, w0]; simp
      · have hp := pk_pos ok.1 w0
        have hlt : pk 27 (wd f n a) < 27 ^ 8 := by
          rcases pkW_lt _ ok.1 with y | y
          · exact Nat.lt_of_lt_of_le y (Nat.pow_le_pow_right (by omega) ok.2)
          · exact absurd y w0
        have etx : txW (wd f n a) = ((pk 27 (wd f n a) : Nat) : Int) := by unfold txW; rw [if_neg w0]
        have hw : goodW (wd f n a) := ⟨ok.1, ok.2, w0⟩
        refine ifF (by rw [etx, show (0 : Int64) = iL 0 by rfl, iL_le (by omega) (by omega)]; omega) ?_
        refine c_b (fun y => bad ?_ _) (fun y => ?_)
        · rw [nmO_ir, y]; simp
        · refine s_X12_isKeyword ok.1 ok.2 h43 ?_
          refine c_nb (fun y2 => bad ?_ _) (fun y2 => ?_)
          · rw [nmO_ir, y2]; simp
          · have h45 := h.b hB
            have cnt : ∀ c, c < 5 → gi (330 + c) q = nI (tCnt T c) := fun c hc => by rw [h.2.1 _ (by omega)]; exact D.1 c hc
            have hv : vp_in (nI q) 2 := vp_nI hq (by omega)
            rw [h45, nI_cl (by omega), show gi 330 q = nI (tCnt T 0) from cnt 0 (by omega), etx, show (12 : Int32) * nI q = nI (12 * q) from pk_mul 12 q]
            have knt : ∀ c, c < 4 → ¬ lowN (fun i => decide (tName T c i = wd f n a)) (tCnt T c) < 0 → nmO f n T k (.inr a) = false := by
              intro c hc hl
              have : knB T (wd f n a) = true := by
                unfold knB
                rw [Bool.not_eq_true']
                rw [Bool.eq_false_iff]
                intro al
                have := allK_iff.1 al c hc
                simp at this
                exact hl this
              rw [nmO_ir, this]; simp
            have lb : ∀ c, -1 ≤ lowN (fun i => decide (tName T c i = wd f n a)) (tCnt T c) ∧ lowN (fun i => decide (tName T c i = wd f n a)) (tCnt T c) < tCnt T c := fun c => lowN_bd _
            have mo : ∀ c, c < 4 → tCnt T c ≤ 12 := fun c hc => by
              have := vt.1 c (by omega)
              rcases (show c = 0 ∨ c = 1 ∨ c = 2 ∨ c = 3 by omega) with rfl | rfl | rfl | rfl <;> simp [most] at this <;> omega
            have q0 := lb 0
            have q1 := lb 1
            have q2 := lb 2
            have q3 := lb 3
            have o0 := mo 0 (by omega)
            have o1 := mo 1 (by omega)
            have o2 := mo 2 (by omega)
            have o3 := mo 3 (by omega)
            refine ⟨hv, k_find (k := 0) h hq D vt (by omega) hw ?_⟩
            refine d_le 0 _ rfl rfl (by omega) (by omega) (fun y3 => bad (knt 0 (by omega) (by omega)) _) (fun y3 => ?_)
            rw [h45, nI_cl (by omega), show gi 331 q = nI (tCnt T 1) from cnt 1 (by omega), show (6 : Int32) * nI q = nI (6 * q) from pk_mul 6 q]
            refine ⟨hv, k_find (k := 1) h hq D vt (by omega) hw ?_⟩
            refine d_le 0 _ rfl rfl (by omega) (by omega) (fun y3 => bad (knt 1 (by omega) (by omega)) _) (fun y4 => ?_)
            rw [h45, nI_cl (by omega), show gi 332 q = nI (tCnt T 2) from cnt 2 (by omega), show (10 : Int32) * nI q = nI (10 * q) from pk_mul 10 q]
            refine ⟨hv, k_find (k := 2) h hq D vt (by omega) hw ?_⟩
            refine d_le 0 _ rfl rfl (by omega) (by omega) (fun y3 => bad (knt 2 (by omega) (by omega)) _) (fun y5 => ?_)
            rw [h45, nI_cl (by omega), show gi 333 q = nI (tCnt T 3) from cnt 3 (by omega), show (4 : Int32) * nI q = nI (4 * q) from pk_mul 4 q]
            refine ⟨hv, k_find (k := 3) h hq D vt (by omega) hw ?_⟩
            refine d_le 0 _ rfl rfl (by omega) (by omega) (fun y3 => bad (knt 3 (by omega) (by omega)) _) (fun y6 => ?_)
            have good : nmO f n T k (.inr a) = true := by
              have : knB T (wd f n a) = false := by
                unfold knB
                rw [Bool.not_eq_false']
                refine allK_iff.2 (fun c hc => ?_)
                rw [decide_eq_true_eq]
                rcases (show c = 0 ∨ c = 1 ∨ c = 2 ∨ c = 3 by omega) with rfl | rfl | rfl | rfl <;> assumption
              rw [nmO_ir, this, y, y2, decide_eq_true w0]; rfl
            rw [good] at kk
            simp only [if_true] at kk
            exact k_next h ⟨a, rfl⟩ (fun gi' gl' hK => kk gi' gl' _ hK (fun _ => by rw [iL_lN]; rfl))
theorem nuV_bd {lo hi : Int} (h0 : 0 ≤ lo) (hh : 0 ≤ hi) : 0 ≤ nuV f n lo hi s ∧ nuV f n lo hi s ≤ hi := by
  cases s with
  | inl e => exact ⟨Int.le_refl 0, hh⟩
  | inr a =>
    rw [nuV_r]
    by_cases q : nuO f n lo hi (.inr a) = true
    · rw [if_pos q]
      unfold nuO at q
      simp at q
      omega
    · rw [if_neg q]; omega
theorem nm_case {k : Nat} {X : Prop} (h : nmO f n T k s = true → (∃ a, nmS f n T k s = .inr a) → X) (h2 : nmO f n T k s = false → nmS f n T k s = erS s → (∃ e, nmS f n T k s = .inl e) → X) : X := by
  cases q : nmO f n T k s with
  | true =>
    obtain ⟨a, rfl⟩ := nmO_r q
    exact h q ⟨nx f n a, by unfold nmS; rw [q]; rfl⟩
  | false =>
    have e : nmS f n T k s = erS s := by unfold nmS; rw [q]; rfl
    refine h2 q e ?_
    rw [e]
    cases s with
    | inl e0 => exact ⟨e0, rfl⟩
    | inr a => exact ⟨a, rfl⟩
theorem iI_m1 : iI (-1) = -1 := by decide
theorem cols {c j : Nat} (hc : c < 4) (hj : j < numsOf c) : (c = 0 ∧ j = 0) ∨ (c = 0 ∧ j = 1) ∨ (c = 0 ∧ j = 2) ∨ (c = 0 ∧ j = 3) ∨ (c = 1 ∧ j = 0) ∨ (c = 1 ∧ j = 1) ∨ (c = 2 ∧ j = 0) ∨ (c = 2 ∧ j = 1) ∨ (c = 2 ∧ j = 2) ∨ (c = 3 ∧ j = 0) ∨ (c = 3 ∧ j = 1) := by
  rcases (show c = 0 ∨ c = 1 ∨ c = 2 ∨ c = 3 by omega) with rfl | rfl | rfl | rfl <;> simp [numsOf] at hj <;> omega
theorem nmO_lt {k : Nat} (h : nmO f n T k s = true) : tCnt T k < most k := by
  obtain ⟨a, rfl⟩ := nmO_r h
  rw [nmO_ir] at h
  simp at h
  exact h.2.1
theorem k_readThing (h : K f n s G L B gi gl) (hB : B 45 = nI q) (hq : q < 2) (D : mDr T G L q) (vt : vTown T)
    (kk : ∀ gi' gl' G' L', K f n (rdThing f n T s).2 G' L' B gi' gl' → mDr (rdThing f n T s).1 G' L' q → Half q G L G' L' → Qv gi' gl') : p_X12_readThing gi gl Qv := by
  have h45 := h.b hB
  have c0 : tCnt T 0 ≤ 12 := vt.1 0 (by omega)
  have d0 : G 330 q = nI (tCnt T 0) := D.1 0 (by omega)
  have cnt : gi 330 q = nI (tCnt T 0) := by rw [h.2.1 _ (by omega)]; exact d0
  have hv : vp_in (nI q) 2 := vp_nI hq (by omega)
  have main : p_X12_readThing_38 (nI (12 * q + tCnt T 0)) (b2i (decide (tCnt T 0 < most 0))) gi gl Qv := by
    refine v_X12_readThing_38 ?_
    unfold f_X12_readThing_38
    refine k_newName h hB hq D vt (k := 0) rfl (fun g1 l1 r3 h1 hr => ?_)
    unfold rdThing at kk
    refine nm_case (f := f) (n := n) (T := T) (s := s) (k := 0) (fun hO hR => ?_) (fun hO hE hL' => ?_)
    · obtain ⟨a1, ha1⟩ := hR
      have e2 : nmS f n T 0 s = nxS f n s := by unfold nmS; rw [if_pos hO]
      have h1' := h1
      rw [ha1] at h1'
      refine h1'.w (fun _ _ => ?_) (fun e he => by cases he)
      have hlt : tCnt T 0 < 12 := nmO_lt hO
      have hvx : vp_in (nI (12 * q + tCnt T 0)) 24 := vp_nI (by omega) (by omega)
      have hcx : (nI (12 * q + tCnt T 0)).toNatClampNeg = 12 * q + tCnt T 0 := nI_cl (by omega)
      rw [hr hO, hcx]
      rw [e2] at h1
      rw [if_pos hO] at kk
      refine ⟨hvx, ?_⟩
      intro l4 e4
      have h4 := h1.wrL e4 (by omega)
      have v0b := nuV_bd (f := f) (n := n) (s := th1 f n s) (lo := 0) (hi := 3599) (by omega) (by omega)
      refine k_mustBe h4 gFrom (by decide +kernel) (fun g5 l5 h5 => ?_)
      refine k_numeral (lo := 0) (hi := 3599) h5 rfl rfl (by omega) (by omega) (fun g7 l7 h7 => ⟨hvx, ?_⟩)
      intro g10 e10
      have h10 := h7.wr e10 (by omega) (by omega)
      refine k_givenHere h10 (fun g11 l11 h11 => ⟨hvx, ?_⟩)
      intro g14 e14
      have h14 := h11.wr e14 (by omega) (by omega)
      refine ⟨hvx, ?_⟩
      intro g15 e15
      have h15 := h14.wr e15 (by omega) (by omega)
      refine ⟨hvx, ?_⟩
      intro g16 e16
      have h16 := h15.wr e16 (by omega) (by omega)
      clear e10 e14 e15 e16
      refine k_is h16 gTill (by decide +kernel) ?_
      refine c_b (fun y => ?_) (fun y => ?_)
      · have y : isW f n wTill (th3 f n s) = false := y
        rw [if_neg (by rw [y]; decide)] at kk
        have b9 := h16.b hB
        have c9 : g16 330 q = nI (tCnt T 0) := by rw [h16.2.1 _ (by omega)]; simp [pt_at, d0]
        rw [b9, nI_cl (show q < 2147483648 by omega), c9, nI_1]
        refine ⟨hv, hv, ?_⟩
        intro g20 e20
        have h20 := h16.wr e20 (by omega) (by omega)
        refine kk _ _ _ _ h20 (mDr_add D (fun c hc => ?_) (fun c hc i => ?_) (fun c hc j hj i => ?_) (fun c hc1 hc2 => ?_)) ((((((Half.rf.wL (c := 336) (i := 12 * q + tCnt T 0) (by omega) (by simp [wdt]; omega)).w (c := 340) (i := 12 * q + tCnt T 0) (by omega) (by simp [wdt]; omega)).w (c := 341) (i := 12 * q + tCnt T 0) (by omega) (by simp [wdt]; omega)).w (c := 342) (i := 12 * q + tCnt T 0) (by omega) (by simp [wdt]; omega)).w (c := 343) (i := 12 * q + tCnt T 0) (by omega) (by simp [wdt]; omega)).w (c := 330) (i := q) (by omega) (by simp [wdt]))
        · rcases (show c = 0 ∨ c = 1 ∨ c = 2 ∨ c = 3 ∨ c = 4 by omega) with rfl | rfl | rfl | rfl | rfl <;> simp [pt_at]
        · rcases (show c = 0 ∨ c = 1 ∨ c = 2 ∨ c = 3 by omega) with rfl | rfl | rfl | rfl <;> simp [ptL_at, most]
        · rcases cols hc hj with ⟨rfl, rfl⟩ | ⟨rfl, rfl⟩ | ⟨rfl, rfl⟩ | ⟨rfl, rfl⟩ | ⟨rfl, rfl⟩ | ⟨rfl, rfl⟩ | ⟨rfl, rfl⟩ | ⟨rfl, rfl⟩ | ⟨rfl, rfl⟩ | ⟨rfl, rfl⟩ | ⟨rfl, rfl⟩ <;> by_cases yy : i = 12 * q + tCnt T 0 <;> simp [pt_at, colB, most, nu4, yy, thV0, thV1, thV2, thV3, th1, th2, th3, th4, iI_0, iI_m1]
        · rw [pt_n (by omega), pt_n (by omega), pt_n (by omega), pt_n (by omega), pt_n (by omega)]
      · have y' : isW f n wTill (th3 f n s) = true := y
        rw [if_pos y'] at kk
        refine k_next h16 (isW_r y) (fun g21 l21 h21 => ⟨hvx, ?_⟩)
        have e340 : g21 340 (12 * q + tCnt T 0) = iI (thV0 f n s) := by rw [h21.2.1 _ (by omega)]; simp [pt_at]; rfl
        rw [e340]
        have v0c : 0 ≤ thV0 f n s ∧ thV0 f n s ≤ 3599 := v0b
        refine k_numeral (lo := thV0 f n s) (hi := 3599) h21 rfl rfl (by omega) (by omega) (fun g23 l23 h23 => ⟨hvx, ?_⟩)
        intro g26 e26
        have h26 := h23.wr e26 (by omega) (by omega)
        refine k_givenHere h26 (fun g27 l27 h27 => ⟨hvx, ?_⟩)
        intro g30 e30
        have h30 := h27.wr e30 (by omega) (by omega)
        clear e26 e30
        have b9 := h30.b hB
        have c9 : g30 330 q = nI (tCnt T 0) := by rw [h30.2.1 _ (by omega)]; simp [pt_at, d0]
        rw [b9, nI_cl (show q < 2147483648 by omega), c9, nI_1]
        refine ⟨hv, hv, ?_⟩
        intro g20 e20
        have h20 := h30.wr e20 (by omega) (by omega)
        refine kk _ _ _ _ h20 (mDr_add D (fun c hc => ?_) (fun c hc i => ?_) (fun c hc j hj i => ?_) (fun c hc1 hc2 => ?_)) ((((((((Half.rf.wL (c := 336) (i := 12 * q + tCnt T 0) (by omega) (by simp [wdt]; omega)).w (c := 340) (i := 12 * q + tCnt T 0) (by omega) (by simp [wdt]; omega)).w (c := 341) (i := 12 * q + tCnt T 0) (by omega) (by simp [wdt]; omega)).w (c := 342) (i := 12 * q + tCnt T 0) (by omega) (by simp [wdt]; omega)).w (c := 343) (i := 12 * q + tCnt T 0) (by omega) (by simp [wdt]; omega)).w (c := 342) (i := 12 * q + tCnt T 0) (by omega) (by simp [wdt]; omega)).w (c := 343) (i := 12 * q + tCnt T 0) (by omega) (by simp [wdt]; omega)).w (c := 330) (i := q) (by omega) (by simp [wdt]))
        · rcases (show c = 0 ∨ c = 1 ∨ c = 2 ∨ c = 3 ∨ c = 4 by omega) with rfl | rfl | rfl | rfl | rfl <;> simp [pt_at]
        · rcases (show c = 0 ∨ c = 1 ∨ c = 2 ∨ c = 3 by omega) with rfl | rfl | rfl | rfl <;> simp [ptL_at, most]
        · rcases cols hc hj with ⟨rfl, rfl⟩ | ⟨rfl, rfl⟩ | ⟨rfl, rfl⟩ | ⟨rfl, rfl⟩ | ⟨rfl, rfl⟩ | ⟨rfl, rfl⟩ | ⟨rfl, rfl⟩ | ⟨rfl, rfl⟩ | ⟨rfl, rfl⟩ | ⟨rfl, rfl⟩ | ⟨rfl, rfl⟩ <;> by_cases yy : i = 12 * q + tCnt T 0 <;> simp [pt_at, colB, most, nu4, yy, thV0, thV1, thV2, thV3, th1, th2, th3, th4, iI_0, iI_m1]
        · rw [pt_n (by omega), pt_n (by omega), pt_n (by omega), pt_n (by omega), pt_n (by omega), pt_n (by omega), pt_n (by omega)]
    · obtain ⟨e, he⟩ := hL'
      rw [if_neg (by rw [hO]; decide)] at kk
      have h1' := h1
      rw [he] at h1'
      refine h1'.w (fun a ha => by cases ha) (fun _ _ => ?_)
      rw [hE] at h1
      exact kk _ _ _ _ h1 D Half.rf
  refine v_X12_readThing ?_
  unfold f_X12_readThing
  rw [h45, nI_cl (by omega), cnt]
  refine ⟨hv, ?_⟩
  rintro z1 rfl
  rw [show (12 : Int32) * nI q = nI (12 * q) from pk_mul 12 q, nI_add]
  refine ⟨hv, ?_⟩
  have em : most 0 = 12 := rfl
  rw [em] at main
  refine c_le 12 (tCnt T 0) rfl rfl (by omega) (by omega) (fun y => ?_) (fun y => ?_)
  · rw [decide_eq_false (by omega)] at main; exact main
  · rw [decide_eq_true y] at main; exact main
theorem k_readPost (h : K f n s G L B gi gl) (hB : B 45 = nI q) (hq : q < 2) (D : mDr T G L q) (vt : vTown T)
    (kk : ∀ gi' gl' G' L', K f n (rdPost f n T s).2 G' L' B gi' gl' → mDr (rdPost f n T s).1 G' L' q → Half q G L G' L' → Qv gi' gl') : p_X12_readPost gi gl Qv := by
  have h45 := h.b hB
  have c0 : tCnt T 2 ≤ 10 := vt.1 2 (by omega)
  have d0 : G 332 q = nI (tCnt T 2) := D.1 2 (by omega)
  have cnt : gi 332 q = nI (tCnt T 2) := by rw [h.2.1 _ (by omega)]; exact d0
  have hv : vp_in (nI q) 2 := vp_nI hq (by omega)
  have main : p_X12_readPost_38 (nI (10 * q + tCnt T 2)) (b2i (decide (tCnt T 2 < most 2))) gi gl Qv := by
    refine v_X12_readPost_38 ?_
    unfold f_X12_readPost_38
    refine k_newName h hB hq D vt (k := 2) rfl (fun g1 l1 r3 h1 hr => ?_)
    unfold rdPost at kk
    refine nm_case (f := f) (n := n) (T := T) (s := s) (k := 2) (fun hO hR => ?_) (fun hO hE hL' => ?_)
    · obtain ⟨a1, ha1⟩ := hR
      have e2 : nmS f n T 2 s = nxS f n s := by unfold nmS; rw [if_pos hO]
      have h1' := h1
      rw [ha1] at h1'
      refine h1'.w (fun _ _ => ?_) (fun e he => by cases he)
      have hlt : tCnt T 2 < 10 := nmO_lt hO
      have hvx : vp_in (nI (10 * q + tCnt T 2)) 20 := vp_nI (by omega) (by omega)
      have hcx : (nI (10 * q + tCnt T 2)).toNatClampNeg = 10 * q + tCnt T 2 := nI_cl (by omega)
      rw [hr hO, hcx]
      rw [e2] at h1
      rw [if_pos hO] at kk
      refine ⟨hvx, ?_⟩
      intro l4 e4
      have h4 := h1.wrL e4 (by omega)
      refine k_numeral (lo := 0) (hi := 31) h4 rfl rfl (by omega) (by omega) (fun g5 l5 h5 => ⟨hvx, ?_⟩)
      intro g8 e8
      have h8 := h5.wr e8 (by omega) (by omega)
      refine k_numeral (lo := 0) (hi := 31) h8 rfl rfl (by omega) (by omega) (fun g9 l9 h9 => ⟨hvx, ?_⟩)
      intro g12 e12
      have h12 := h9.wr e12 (by omega) (by omega)
      refine k_numeral (lo := 1) (hi := 20) h12 rfl rfl (by omega) (by omega) (fun g13 l13 h13 => ⟨hvx, ?_⟩)
      intro g16 e16
      have h16 := h13.wr e16 (by omega) (by omega)
      clear e8 e12 e16
      have b9 := h16.b hB
      have c9 : g16 332 q = nI (tCnt T 2) := by rw [h16.2.1 _ (by omega)]; simp [pt_at, d0]
      rw [b9, nI_cl (show q < 2147483648 by omega), c9, nI_1]
      refine ⟨hv, hv, ?_⟩
      intro g20 e20
      have h20 := h16.wr e20 (by omega) (by omega)
      refine kk _ _ _ _ h20 (mDr_add D (fun c hc => ?_) (fun c hc i => ?_) (fun c hc j hj i => ?_) (fun c hc1 hc2 => ?_)) (((((Half.rf.wL (c := 338) (i := 10 * q + tCnt T 2) (by omega) (by simp [wdt]; omega)).w (c := 346) (i := 10 * q + tCnt T 2) (by omega) (by simp [wdt]; omega)).w (c := 347) (i := 10 * q + tCnt T 2) (by omega) (by simp [wdt]; omega)).w (c := 348) (i := 10 * q + tCnt T 2) (by omega) (by simp [wdt]; omega)).w (c := 332) (i := q) (by omega) (by simp [wdt]))
      · rcases (show c = 0 ∨ c = 1 ∨ c = 2 ∨ c = 3 ∨ c = 4 by omega) with rfl | rfl | rfl | rfl | rfl <;> simp [pt_at]
      · rcases (show c = 0 ∨ c = 1 ∨ c = 2 ∨ c = 3 by omega) with rfl | rfl | rfl | rfl <;> simp [ptL_at, most]
      · rcases cols hc hj with ⟨rfl, rfl⟩ | ⟨rfl, rfl⟩ | ⟨rfl, rfl⟩ | ⟨rfl, rfl⟩ | ⟨rfl, rfl⟩ | ⟨rfl, rfl⟩ | ⟨rfl, rfl⟩ | ⟨rfl, rfl⟩ | ⟨rfl, rfl⟩ | ⟨rfl, rfl⟩ | ⟨rfl, rfl⟩ <;> by_cases yy : i = 10 * q + tCnt T 2 <;> simp [pt_at, colB, most, nu4, yy, po1, po2, iI_0, iI_m1]
      · rw [pt_n (by omega), pt_n (by omega), pt_n (by omega), pt_n (by omega)]
    · obtain ⟨e, he⟩ := hL'
      rw [if_neg (by rw [hO]; decide)] at kk
      have h1' := h1
      rw [he] at h1'
      refine h1'.w (fun a ha => by cases ha) (fun _ _ => ?_)
      rw [hE] at h1
      exact kk _ _ _ _ h1 D Half.rf
  refine v_X12_readPost ?_
  unfold f_X12_readPost
  rw [h45, nI_cl (by omega), cnt]
  refine ⟨hv, ?_⟩
  rintro z1 rfl
  rw [show (10 : Int32) * nI q = nI (10 * q) from pk_mul 10 q, nI_add]
  refine ⟨hv, ?_⟩
  have em : most 2 = 10 := rfl
  rw [em] at main
  refine c_le 10 (tCnt T 2) rfl rfl (by omega) (by omega) (fun y => ?_) (fun y => ?_)
  · rw [decide_eq_false (by omega)] at main; exact main
  · rw [decide_eq_true y] at main; exact main
theorem k_readClock (h : K f n s G L B gi gl) (hB : B 45 = nI q) (hq : q < 2) (D : mDr T G L q) (vt : vTown T)
    (kk : ∀ gi' gl' G' L', K f n (rdClock f n T s).2 G' L' B gi' gl' → mDr (rdClock f n T s).1 G' L' q → Half q G L G' L' → Qv gi' gl') : p_X12_readClock gi gl Qv := by
  have h45 := h.b hB
  have c0 : tCnt T 3 ≤ 4 := vt.1 3 (by omega)
  have d0 : G 333 q = nI (tCnt T 3) := D.1 3 (by omega)
  have cnt : gi 333 q = nI (tCnt T 3) := by rw [h.2.1 _ (by omega)]; exact d0
  have hv : vp_in (nI q) 2 := vp_nI hq (by omega)
  have main : p_X12_readClock_36 (nI (4 * q + tCnt T 3)) (b2i (decide (tCnt T 3 < most 3))) gi gl Qv := by
    refine v_X12_readClock_36 ?_
    unfold f_X12_readClock_36
    refine k_newName h hB hq D vt (k := 3) rfl (fun g1 l1 r3 h1 hr => ?_)
    unfold rdClock at kk
    refine nm_case (f := f) (n := n) (T := T) (s := s) (k := 3) (fun hO hR => ?_) (fun hO hE hL' => ?_)
    · obtain ⟨a1, ha1⟩ := hR
      have e2 : nmS f n T 3 s = nxS f n s := by unfold nmS; rw [if_pos hO]
      have h1' := h1
      rw [ha1] at h1'
      refine h1'.w (fun _ _ => ?_) (fun e he => by cases he)
      have hlt : tCnt T 3 < 4 := nmO_lt hO
      have hvx : vp_in (nI (4 * q + tCnt T 3)) 8 := vp_nI (by omega) (by omega)
      have hcx : (nI (4 * q + tCnt T 3)).toNatClampNeg = 4 * q + tCnt T 3 := nI_cl (by omega)
      rw [hr hO, hcx]
      rw [e2] at h1
      rw [if_pos hO] at kk
      refine ⟨hvx, ?_⟩
      intro l4 e4
      have h4 := h1.wrL e4 (by omega)
      refine k_mustBe h4 gSlow (by decide +kernel) (fun g5 l5 h5 => ?_)
      refine k_numeral (lo := 0) (hi := 99) h5 rfl rfl (by omega) (by omega) (fun g7 l7 h7 => ⟨hvx, ?_⟩)
      intro g10 e10
      have h10 := h7.wr e10 (by omega) (by omega)
      refine k_mustBe h10 gFast (by decide +kernel) (fun g11 l11 h11 => ?_)
      refine k_numeral (lo := 0) (hi := 99) h11 rfl rfl (by omega) (by omega) (fun g13 l13 h13 => ⟨hvx, ?_⟩)
      intro g16 e16
      have h16 := h13.wr e16 (by omega) (by omega)
      clear e10 e16
      have b9 := h16.b hB
      have c9 : g16 333 q = nI (tCnt T 3) := by rw [h16.2.1 _ (by omega)]; simp [pt_at, d0]
      rw [b9, nI_cl (show q < 2147483648 by omega), c9, nI_1]
      refine ⟨hv, hv, ?_⟩
      intro g20 e20
      have h20 := h16.wr e20 (by omega) (by omega)
      refine kk _ _ _ _ h20 (mDr_add D (fun c hc => ?_) (fun c hc i => ?_) (fun c hc j hj i => ?_) (fun c hc1 hc2 => ?_)) ((((Half.rf.wL (c := 339) (i := 4 * q + tCnt T 3) (by omega) (by simp [wdt]; omega)).w (c := 349) (i := 4 * q + tCnt T 3) (by omega) (by simp [wdt]; omega)).w (c := 350) (i := 4 * q + tCnt T 3) (by omega) (by simp [wdt]; omega)).w (c := 333) (i := q) (by omega) (by simp [wdt]))
      · rcases (show c = 0 ∨ c = 1 ∨ c = 2 ∨ c = 3 ∨ c = 4 by omega) with rfl | rfl | rfl | rfl | rfl <;> simp [pt_at]
      · rcases (show c = 0 ∨ c = 1 ∨ c = 2 ∨ c = 3 by omega) with rfl | rfl | rfl | rfl <;> simp [ptL_at, most]
      · rcases cols hc hj with ⟨rfl, rfl⟩ | ⟨rfl, rfl⟩ | ⟨rfl, rfl⟩ | ⟨rfl, rfl⟩ | ⟨rfl, rfl⟩ | ⟨rfl, rfl⟩ | ⟨rfl, rfl⟩ | ⟨rfl, rfl⟩ | ⟨rfl, rfl⟩ | ⟨rfl, rfl⟩ | ⟨rfl, rfl⟩ <;> by_cases yy : i = 4 * q + tCnt T 3 <;> simp [pt_at, colB, most, nu4, yy, ck1, ck2, iI_0, iI_m1]
      · rw [pt_n (by omega), pt_n (by omega), pt_n (by omega)]
    · obtain ⟨e, he⟩ := hL'
      rw [if_neg (by rw [hO]; decide)] at kk
      have h1' := h1
      rw [he] at h1'
      refine h1'.w (fun a ha => by cases ha) (fun _ _ => ?_)
      rw [hE] at h1
      exact kk _ _ _ _ h1 D Half.rf
  refine v_X12_readClock ?_
  unfold f_X12_readClock
  rw [h45, nI_cl (by omega), cnt]
  refine ⟨hv, ?_⟩
  rintro z1 rfl
  rw [show (4 : Int32) * nI q = nI (4 * q) from pk_mul 4 q, nI_add]
  refine ⟨hv, ?_⟩
  have em : most 3 = 4 := rfl
  rw [em] at main
  refine c_le 4 (tCnt T 3) rfl rfl (by omega) (by omega) (fun y => ?_) (fun y => ?_)
  · rw [decide_eq_false (by omega)] at main; exact main
  · rw [decide_eq_true y] at main; exact main
theorem k_readTree (h : K f n s G L B gi gl) (hB : B 45 = nI q) (hq : q < 2) (D : mDr T G L q) (vt : vTown T)
    (kk : ∀ gi' gl' G' L', K f n (rdTree f n T s).2 G' L' B gi' gl' → mDr (rdTree f n T s).1 G' L' q → Half q G L G' L' → Qv gi' gl') : p_X12_readTree gi gl Qv := by
  have h45 := h.b hB
  have c0 : tCnt T 1 ≤ 6 := vt.1 1 (by omega)
  have d0 : G 331 q = nI (tCnt T 1) := D.1 1 (by omega)
  have cnt : gi 331 q = nI (tCnt T 1) := by rw [h.2.1 _ (by omega)]; exact d0
  have hv : vp_in (nI q) 2 := vp_nI hq (by omega)
  have main : p_X12_readTree_38 (nI (6 * q + tCnt T 1)) (b2i (decide (tCnt T 1 < most 1))) gi gl Qv := by
    refine v_X12_readTree_38 ?_
    unfold f_X12_readTree_38
    refine k_newName h hB hq D vt (k := 1) rfl (fun g1 l1 r3 h1 hr => ?_)
    unfold rdTree at kk
    refine nm_case (f := f) (n := n) (T := T) (s := s) (k := 1) (fun hO hR => ?_) (fun hO hE hL' => ?_)
    · obtain ⟨a1, ha1⟩ := hR
      have e2 : nmS f n T 1 s = nxS f n s := by unfold nmS; rw [if_pos hO]
      have h1' := h1
      rw [ha1] at h1'
      refine h1'.w (fun _ _ => ?_) (fun e he => by cases he)
      have hlt : tCnt T 1 < 6 := nmO_lt hO
      have hvx : vp_in (nI (6 * q + tCnt T 1)) 12 := vp_nI (by omega) (by omega)
      have hcx : (nI (6 * q + tCnt T 1)).toNatClampNeg = 6 * q + tCnt T 1 := nI_cl (by omega)
      rw [hr hO, hcx]
      rw [e2] at h1
      rw [if_pos hO] at kk
      refine ⟨hvx, ?_⟩
      intro l4 e4
      have h4 := h1.wrL e4 (by omega)
      have v0b := nuV_bd (f := f) (n := n) (s := tr1 f n s) (lo := 0) (hi := 359) (by omega) (by omega)
      have v0c : 0 ≤ trV0 f n s ∧ trV0 f n s ≤ 359 := v0b
      refine k_mustBe h4 gLeaf (by decide +kernel) (fun g5 l5 h5 => ?_)
      refine k_numeral (lo := 0) (hi := 359) h5 rfl rfl (by omega) (by omega) (fun g7 l7 h7 => ⟨hvx, ?_⟩)
      intro g10 e10
      have h10 := h7.wr e10 (by omega) (by omega)
      refine k_mustBe h10 gBare (by decide +kernel) (fun g11 l11 h11 => ⟨hvx, ?_⟩)
      intro g13 e13
      have h13 := h11.wr e13 (by omega) (by omega)
      clear e10
      generalize g11 329 42 = junk at h13
      have h13 : K f n (tr2 f n s) _ _ B g13 l11 := h13
      have fin : ∀ g14 l14, K f n (tr3 f n s) (pt (pt G 344 (6 * q + tCnt T 1) (iI (trV0 f n s))) 345 (6 * q + tCnt T 1) junk) (ptL L 337 (6 * q + tCnt T 1) (lN (pk 27 (wdS f n s)))) B g14 l14 → p_X12_readTree_127 (nI (6 * q + tCnt T 1)) g14 l14 Qv := by
        intro g14 l14 h14
        refine v_X12_readTree_127 ?_
        unfold f_X12_readTree_127
        rw [hcx]
        refine k_numeral (lo := 0) (hi := 359) h14 rfl rfl (by omega) (by omega) (fun g15 l15 h15 => ⟨hvx, ?_⟩)
        intro g16 e16
        have h16 := h15.wr e16 (by omega) (by omega)
        clear e16
        have b9 := h16.b hB
        have c9 : g16 331 q = nI (tCnt T 1) := by rw [h16.2.1 _ (by omega)]; simp [pt_at, d0]
        rw [b9, nI_cl (show q < 2147483648 by omega), c9, nI_1]
        refine ⟨hv, hv, ?_⟩
        intro g20 e20
        have h20 := h16.wr e20 (by omega) (by omega)
        refine kk _ _ _ _ h20 (mDr_add D (fun c hc => ?_) (fun c hc i => ?_) (fun c hc j hj i => ?_) (fun c hc1 hc2 => ?_)) (((((Half.rf.wL (c := 337) (i := 6 * q + tCnt T 1) (by omega) (by simp [wdt]; omega)).w (c := 344) (i := 6 * q + tCnt T 1) (by omega) (by simp [wdt]; omega)).w (c := 345) (i := 6 * q + tCnt T 1) (by omega) (by simp [wdt]; omega)).w (c := 345) (i := 6 * q + tCnt T 1) (by omega) (by simp [wdt]; omega)).w (c := 331) (i := q) (by omega) (by simp [wdt]))
        · rcases (show c = 0 ∨ c = 1 ∨ c = 2 ∨ c = 3 ∨ c = 4 by omega) with rfl | rfl | rfl | rfl | rfl <;> simp [pt_at]
        · rcases (show c = 0 ∨ c = 1 ∨ c = 2 ∨ c = 3 by omega) with rfl | rfl | rfl | rfl <;> simp [ptL_at, most]
        · rcases cols hc hj with ⟨rfl, rfl⟩ | ⟨rfl, rfl⟩ | ⟨rfl, rfl⟩ | ⟨rfl, rfl⟩ | ⟨rfl, rfl⟩ | ⟨rfl, rfl⟩ | ⟨rfl, rfl⟩ | ⟨rfl, rfl⟩ | ⟨rfl, rfl⟩ | ⟨rfl, rfl⟩ | ⟨rfl, rfl⟩ <;> by_cases yy : i = 6 * q + tCnt T 1 <;> simp [pt_at, colB, most, nu4, yy, trV0, trV1, tr1, tr2, tr3, iI_0, iI_m1]
        · rw [pt_n (by omega), pt_n (by omega), pt_n (by omega), pt_n (by omega)]
      have e344 : g13 344 (6 * q + tCnt T 1) = iI (trV0 f n s) := by rw [h13.2.1 _ (by omega)]; simp [pt_at]; rfl
      rw [e344]
      have asis : eqO f n (trV0 f n s) (tr2 f n s) = false → p_X12_readTree_127 (nI (6 * q + tCnt T 1)) g13 l11 Qv := by
        intro y
        refine fin _ _ ?_
        unfold tr3
        rw [if_neg (by rw [y]; decide)]
        exact h13
      have key : ∀ s2, tr2 f n s = s2 → (if ¬ g13 329 44 = 0 then p_X12_readTree_127 (nI (6 * q + tCnt T 1)) g13 l11 Qv else if ¬ g13 329 41 = (2 : Int32) then p_X12_readTree_127 (nI (6 * q + tCnt T 1)) g13 l11 Qv else (vp_in (nI (6 * q + tCnt T 1)) 12 ∧ if ¬ g13 329 42 = iI (trV0 f n s) then p_X12_readTree_127 (nI (6 * q + tCnt T 1)) g13 l11 Qv else p_X12_errs g13 l11 (fun gi14 gl15 => p_X12_readTree_127 (nI (6 * q + tCnt T 1)) gi14 gl15 Qv))) := by
        intro s2 hs2
        have h13' := h13
        rw [hs2] at h13' asis
        cases s2 with
        | inl e => rw [h13'.l]; exact ifT (by decide) (asis rfl)
        | inr a =>
          obtain ⟨u44, u41, -, u42⟩ := h13'.r
          have hk := kd_cases f n a
          rw [u44, u41]
          refine ifF (by decide) ?_
          refine c_ne (kd f n a) 2 rfl rfl (by omega) (by omega) (fun y => asis ?_) (fun y => ⟨hvx, ?_⟩)
          · show (decide (kd f n a = 2) && _) = false
            rw [decide_eq_false y]; rfl
          · have hvb := vl_bd y
            rw [u42 y]
            refine d_ne (vl f n a) (trV0 f n s) (iI_n _).symm rfl (by omega) (by omega) (fun z => asis ?_) (fun z => ?_)
            · show (decide (kd f n a = 2) && decide ((vl f n a : Int) = trV0 f n s)) = false
              rw [decide_eq_false z, Bool.and_false]
            · refine k_errs h13 (fun g14 l14 h14 => fin _ _ ?_)
              unfold tr3
              rw [if_pos]
              · exact h14
              · rw [hs2]
                show (decide (kd f n a = 2) && decide ((vl f n a : Int) = trV0 f n s)) = true
                rw [decide_eq_true y, decide_eq_true z]; rfl
      exact key _ rfl
    · obtain ⟨e, he⟩ := hL'
      rw [if_neg (by rw [hO]; decide)] at kk
      have h1' := h1
      rw [he] at h1'
      refine h1'.w (fun a ha => by cases ha) (fun _ _ => ?_)
      rw [hE] at h1
      exact kk _ _ _ _ h1 D Half.rf
  refine v_X12_readTree ?_
  unfold f_X12_readTree
  rw [h45, nI_cl (by omega), cnt]
  refine ⟨hv, ?_⟩
  rintro z1 rfl
  rw [show (6 : Int32) * nI q = nI (6 * q) from pk_mul 6 q, nI_add]
  refine ⟨hv, ?_⟩
  have em : most 1 = 6 := rfl
  rw [em] at main
  refine c_le 6 (tCnt T 1) rfl rfl (by omega) (by omega) (fun y => ?_) (fun y => ?_)
  · rw [decide_eq_false (by omega)] at main; exact main
  · rw [decide_eq_true y] at main; exact main
end KN
