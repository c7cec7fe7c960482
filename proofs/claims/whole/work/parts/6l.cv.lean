/-! THE CLASS, twenty-two: names of a town as it is read -/
theorem pk32_lt {l : List Nat} (h1 : okL 27 l) (h2 : l.length ≤ 8) : pk 32 l < 1099511627777 := by
  rcases pkW_lt (b := 32) l (okL_32 h1) with z | z
  · have p : 32 ^ l.length ≤ 32 ^ 8 := Nat.pow_le_pow_right (by omega) h2
    have : (32 : Nat) ^ 8 = 1099511627776 := by decide
    omega
  · rw [z]; decide
theorem pk32_iff {l w : List Nat} (h1 : okL 27 l) (h2 : l.length ≤ 8) (w1 : okL 27 w) (w2 : w.length ≤ 8) : lN (pk 32 l) = iL (pk 32 w : Nat) ↔ l = w := by
  have b1 := pk32_lt h1 h2
  have b2 := pk32_lt w1 w2
  rw [← iL_lN, iL_eq (by omega) (by omega)]
  constructor
  · intro h
    exact pk_inj 8 h2 (okL_32 h1) (okL_32 w1) (by omega)
  · intro h; rw [h]
theorem ok27 {l : List Nat} (h : wordOk l) : okL 27 l := fun c hc => by have := h.2.2 c hc; omega
/-- a town whose last one of kind k has its name only -/
def MdT (T : Twn) (k : Nat) (w : List Nat) (gi : Gi) (gl : Gl) : Prop :=
  (∀ c, c < 6 → gi 9 c = nI (if c = k then tCnt T c + 1 else tCnt T c)) ∧ (∀ c, c < 4 → ∀ i, i < tCnt T c → gl 10 (c * 12 + i) = lN (pk 32 (tName T c i)) ∧ ∀ j, j < numsOf c → gi 11 ((c * 12 + i) * 4 + j) = iI (tNum T c i j)) ∧ gl 10 (k * 12 + tCnt T k) = lN (pk 32 w) ∧
  (∀ m, m < 12 → gi 12 m = nI (rowsOf T m).length ∧ ∀ (r : Nat) (q : Nat × Nat × Int × Int), (rowsOf T m)[r]? = some q → gi 13 ((m * 40 + r) * 3) = nI q.2.1 ∧ gi 13 ((m * 40 + r) * 3 + 1) = iI q.2.2.1 ∧ gi 13 ((m * 40 + r) * 3 + 2) = iI q.2.2.2)
theorem MdT.fr {T : Twn} {k : Nat} {w : List Nat} {gi g : Gi} {gl : Gl} (h : MdT T k w gi gl) (e : F22 gi g) : MdT T k w g gl := by
  unfold MdT
  rw [e 9 (by omega), e 11 (by omega), e 12 (by omega), e 13 (by omega)]
  exact h
/-- what reading a town writes -/
def Rd (gi : Gi) (gl : Gl) (g : Gi) (l : Gl) : Prop := (∀ z, z ≠ 9 → z ≠ 11 → z ≠ 12 → z ≠ 13 → z ≠ 22 → g z = gi z) ∧ ∀ z, z ≠ 10 → l z = gl z
theorem Rd.rf {gi : Gi} {gl : Gl} : Rd gi gl gi gl := ⟨fun _ _ _ _ _ _ => rfl, fun _ _ => rfl⟩
theorem Rd.tr {a b c : Gi} {a' b' c' : Gl} (h : Rd a a' b b') (k : Rd b b' c c') : Rd a a' c c' := ⟨fun z q1 q2 q3 q4 q5 => (k.1 z q1 q2 q3 q4 q5).trans (h.1 z q1 q2 q3 q4 q5), fun z q => (k.2 z q).trans (h.2 z q)⟩
theorem F22.R {gi g : Gi} {gl : Gl} (h : F22 gi g) : Rd gi gl g gl := ⟨fun z _ _ _ _ q => h z q, fun _ _ => rfl⟩
section CV
variable {f : Nat → Nat} {n a : Nat} {gi : Gi} {gl : Gl} {Q : Gi → Gl → Prop} {Qi : Int32 → Gi → Gl → Prop} {T : Twn}
theorem s_X10_find {b : Nat} (hN : b < NN) (hK : sK b = 10) (D : cTown T gi gl b) (vt : vTown T) {k : Nat} (hk : k < 4) {w : List Nat} (hw : okL 27 w) (hw8 : w.length ≤ 8) (h : Qi (iI (lowN (fun i => decide (tName T k i = w)) (tCnt T k))) gi gl) : p_X10_find b (nI k) (iL (pk 32 w : Nat)) gi gl Qi := by
  have hc := cnt4 vt hk
  refine v_X10_find hN hK ?_
  unfold f_X10_find
  refine c_lt k 0 rfl rfl (by omega) (by omega) (fun y => by omega) (fun _ => ?_)
  refine c_lt k 4 rfl rfl (by omega) (by omega) (fun _ => ⟨vp_nI (by omega) (by omega), ?_⟩) (fun y => by omega)
  rw [nI_cl (by omega), D.1 k (by omega)]
  rintro z1 rfl
  refine dn (P := fun j => lowN (fun i => decide (tName T k i = w)) j < 0 → p_X10_find_24 b (nI k) (iL (pk 32 w : Nat)) (nI (tCnt T k)) (nI j) gi gl Qi) (N := tCnt T k) ?_ ?_ 0 (Nat.zero_le _) (by show (-1 : Int) < 0; omega)
  · intro hl
    refine v_X10_find_24 hN hK ?_
    unfold f_X10_find_24
    refine ifT (by rw [nI_leI (by omega) (by omega)]; omega) ?_
    have := (lowN_bd (f := fun i => decide (tName T k i = w)) (tCnt T k)).1
    rw [show lowN (fun i => decide (tName T k i = w)) (tCnt T k) = -1 by omega] at h
    exact h
  · intro j hj ih hl
    have hs := lowN_neg hl
    refine v_X10_find_24 hN hK ?_
    unfold f_X10_find_24
    refine c_le (tCnt T k) j rfl rfl (by omega) (by omega) (fun q => by omega) (fun _ => ?_)
    refine c_le 12 j rfl rfl (by omega) (by omega) (fun q => by omega) (fun _ => ?_)
    rw [show (12 : Int32) = nI 12 by rfl, mulN, nI_add, nI_cl (by omega), (D.2.1 k hk j hj).1, nI_1]
    refine ⟨vp_nI (by omega) (by omega), ?_⟩
    have ok := vt.2.1 k hk j hj
    have iff := pk32_iff (ok27 ok) ok.2.1 hw hw8
    by_cases q : tName T k j = w
    · refine ifF (not_not_intro (iff.2 q)) ?_
      have l1 : lowN (fun i => decide (tName T k i = w)) (j + 1) = j := by rw [hs, if_pos (by simp [q])]
      have l2 := lowN_keep (f := fun i => decide (tName T k i = w)) (t := j + 1) (n := tCnt T k) (by omega) (by omega)
      rw [l2, l1, iI_n] at h
      exact h
    · refine ifT (fun z => q (iff.1 z)) ?_
      exact ih (by rw [hs, if_neg (by simp [q])]; omega)
theorem s_X10_knows {b : Nat} (hN : b < NN) (hK : sK b = 10) (D : cTown T gi gl b) (vt : vTown T) {w : List Nat} (hw : okL 27 w) (hw8 : w.length ≤ 8) (h : Qi (b2i (knB T w)) gi gl) : p_X10_knows b (iL (pk 32 w : Nat)) gi gl Qi := by
  unfold knB at h
  refine v_X10_knows hN hK ?_
  unfold f_X10_knows
  refine dn (P := fun k => allK (fun k => decide (lowN (fun i => decide (tName T k i = w)) (tCnt T k) < 0)) k = true → p_X10_knows_2 b (iL (pk 32 w : Nat)) (nI k) gi gl Qi) (N := 4) ?_ ?_ 0 (by omega) rfl
  · intro hA
    refine v_X10_knows_2 hN hK ?_
    unfold f_X10_knows_2
    refine ifT (by decide) ?_
    rw [hA] at h; exact h
  · intro k hk ih hA
    rw [allK_s, hA, Bool.true_and] at ih
    refine v_X10_knows_2 hN hK ?_
    unfold f_X10_knows_2
    refine c_le 4 k rfl rfl (by omega) (by omega) (fun q => by omega) (fun _ => ?_)
    refine s_X10_find hN hK D vt hk hw hw8 ?_
    have hc := cnt4 vt hk
    have lb := lowN_bd (f := fun i => decide (tName T k i = w)) (tCnt T k)
    refine d_eq (lowN (fun i => decide (tName T k i = w)) (tCnt T k)) (-1) rfl rfl (by omega) (by omega) (fun q => ?_) (fun q => ?_)
    · rw [nI_1]; exact ih (decide_eq_true (by omega))
    · have hF : allK (fun k => decide (lowN (fun i => decide (tName T k i = w)) (tCnt T k) < 0)) (k + 1) = false := by
        rw [allK_s, decide_eq_false (show ¬ lowN (fun i => decide (tName T k i = w)) (tCnt T k) < 0 by omega), Bool.and_false]
      rw [allK_f hF 4 (by omega)] at h
      exact h
theorem s_X10_takesMore (D : cTown T gi gl 8) (vt : vTown T) {k : Nat} (hk : k < 4) (h : Qi (b2i (decide (tCnt T k < most k))) gi gl) : p_X10_takesMore 8 (nI k) gi gl Qi := by
  have hc := cnt4 vt hk
  have e : (([12, 6, 10, 4] : List Int32).getD k 0) = nI (most k) ∧ most k ≤ 12 := by
    rcases (show k = 0 ∨ k = 1 ∨ k = 2 ∨ k = 3 by omega) with rfl | rfl | rfl | rfl <;> exact ⟨rfl, by decide⟩
  refine v_X10_takesMore zl_8 zk_8 ?_
  unfold f_X10_takesMore
  refine c_ne k 4 rfl rfl (by omega) (by omega) (fun _ => ?_) (fun y => by omega)
  refine c_lt k 0 rfl rfl (by omega) (by omega) (fun y => by omega) (fun _ => ?_)
  refine c_le 4 k rfl rfl (by omega) (by omega) (fun y => by omega) (fun _ => ⟨vp_nI (by omega) (by omega), vp_nI (by omega) (by omega), ?_⟩)
  rw [nI_cl (by omega), D.1 k (by omega), e.1]
  refine c_le (most k) (tCnt T k) rfl rfl (by omega) (by omega) (fun y => ?_) (fun y => ?_)
  · rw [decide_eq_false (by omega)] at h; exact h
  · rw [decide_eq_true y] at h; exact h
theorem s_X10_tell (D : cTown T gi gl 8) (vt : vTown T) {k : Nat} (hk : k < 4) (hm : tCnt T k < most k) {y : Int64} (h : ∀ g l, g = uI gi 9 (upd (gi 9) k (nI (tCnt T k + 1))) → l = uL gl 10 (vp_updL (gl 10) (k * 12 + tCnt T k) y) → Q g l) : p_X10_tell 8 (nI k) y gi gl Q := by
  have hc := cnt4 vt hk
  have hm12 : most k ≤ 12 := by rcases (show k = 0 ∨ k = 1 ∨ k = 2 ∨ k = 3 by omega) with rfl | rfl | rfl | rfl <;> decide
  refine v_X10_tell zl_8 zk_8 ?_
  unfold f_X10_tell
  refine c_lt k 0 rfl rfl (by omega) (by omega) (fun y => by omega) (fun _ => ?_)
  refine c_le 4 k rfl rfl (by omega) (by omega) (fun y => by omega) (fun _ => ?_)
  refine s_X10_takesMore D vt hk ?_
  rw [decide_eq_true hm]
  refine ifF (by decide) ⟨vp_nI (by omega) (by omega), ?_⟩
  rw [nI_cl (by omega), D.1 k (by omega), show (12 : Int32) = nI 12 by rfl, mulN, nI_add, nI_cl (by omega), nI_1]
  refine ⟨vp_nI (by omega) (by omega), ?_⟩
  intro l4 e4
  refine ⟨vp_nI (by omega) (by omega), vp_nI (by omega) (by omega), ?_⟩
  intro g5 e5
  exact h g5 l4 e5 e4
theorem told_Md (D : cTown T gi gl 8) (vt : vTown T) {k : Nat} (hk : k < 4) (hm : tCnt T k < most k) {w : List Nat} {g : Gi} {l : Gl} (eg : g = uI gi 9 (upd (gi 9) k (nI (tCnt T k + 1)))) (el : l = uL gl 10 (vp_updL (gl 10) (k * 12 + tCnt T k) (lN (pk 32 w)))) : MdT T k w g l := by
  have hm12 : most k ≤ 12 := by rcases (show k = 0 ∨ k = 1 ∨ k = 2 ∨ k = 3 by omega) with rfl | rfl | rfl | rfl <;> decide
  subst eg el
  refine ⟨fun c hc => ?_, fun c hc i hi => ⟨?_, fun j hj => ?_⟩, ?_, fun m hm => ?_⟩
  · rw [uI_s, updA]
    by_cases e : c = k
    · rw [if_pos e, if_pos e, e]
    · rw [if_neg e, if_neg e]; exact D.1 c hc
  · have h1 := cnt4 vt hc
    rw [uL_s, updLA, if_neg (by
      intro e
      have : c = k ∧ i = tCnt T k := by omega
      obtain ⟨e1, e2⟩ := this
      subst e1; omega)]
    exact (D.2.1 c hc i hi).1
  · rw [uI_n (by omega)]; exact (D.2.1 c hc i hi).2 j hj
  · rw [uL_s, updLA, if_pos rfl]
  · rw [uI_n (by omega), uI_n (by omega)]; exact D.2.2 m hm
theorem s_takesNewName (m : SC f n a gi) (D : cTown T gi gl 8) (vt : vTown T) {k : Nat} (hk : k < 4)
    (h1 : nmO f n T k (.inr a) = true → ∀ g l, SC f n (nx f n a) g → MdT T k (wd f n a) g l → Rd gi gl g l → Qi 1 g l) (h0 : nmO f n T k (.inr a) = false → Qi 0 gi gl) : p_X7_takesNewName (nI k) gi gl Qi := by
  have wo := wd_ok (f := f) (n := n) (a := a)
  have eO : nmO f n T k (.inr a) = (decide (wd f n a ≠ []) && (decide (tCnt T k < most k) && (!decide (wd f n a ∈ resW) && !knB T (wd f n a)))) := rfl
  rw [eO] at h1 h0
  have hb := pk32_lt wo.1 wo.2
  refine v_X7_takesNewName ?_
  unfold f_X7_takesNewName
  refine s_X8_wordHere m ?_
  have p0 : iL (pk 32 (wd f n a) : Nat) = 0 ↔ wd f n a = [] := by
    rw [show (0 : Int64) = iL 0 by rfl, iL_eq (by omega) (by omega)]
    constructor
    · intro q
      exact pk_inj 8 wo.2 (okL_32 wo.1) (fun c hc => by cases hc) (by rw [pk_nil]; omega)
    · intro q; rw [q]; rfl
  by_cases hw : wd f n a = []
  · refine ifT (p0.2 hw) (h0 (by rw [hw]; rfl))
  refine ifF (fun q => hw (p0.1 q)) ?_
  have han : a < n := by
    rcases Nat.lt_or_ge a n with z | z
    · exact z
    · exfalso
      apply hw
      have := (kd_0 (f := f) (n := n) (a := a)).2 z
      unfold wd
      rw [if_neg (by omega)]
  rw [decide_eq_true hw, Bool.true_and] at h1 h0
  refine s_X8_isReserved m hw ?_
  refine c_nb (fun q => h0 (by rw [q]; simp)) (fun q => ?_)
  rw [q] at h1 h0
  refine s_X10_takesMore D vt hk ?_
  refine c_b (fun q2 => h0 (by rw [q2]; rfl)) (fun q2 => ?_)
  rw [q2] at h1 h0
  have hm := of_decide_eq_true q2
  refine s_X10_knows zl_8 zk_8 D vt wo.1 wo.2 ?_
  refine c_b (fun q3 => ?_) (fun q3 => h0 (by rw [q3]; rfl))
  rw [q3] at h1
  refine s_X10_tell D vt hk hm (fun g l eg el => ?_)
  rw [iL_lN] at el
  have fr : ∀ z, z ≠ 9 → g z = gi z := fun z hz => by rw [eg]; exact uI_n hz
  have m2 : SC f n a g := by
    obtain ⟨s1, s2⟩ := m
    refine ⟨⟨s1.1, fun j hj => by rw [fr 1 (by omega)]; exact s1.2 j hj⟩, ?_⟩
    rw [fr 22 (by omega)]; exact s2
  have md := told_Md D vt hk hm eg el
  refine m2.step han (fun g' fg mg => ?_)
  exact h1 rfl g' l mg (md.fr fg) (Rd.tr ⟨fun z q1 _ _ _ _ => fr z q1, fun z q => by rw [el]; exact uL_n q⟩ fg.R)
end CV
