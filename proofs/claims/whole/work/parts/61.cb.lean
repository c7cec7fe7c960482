/-! THE CLASS, two: what a town, a picture tells; the sun -/
/-- the class looks at a town -/
def CE (T : Twn) (gi : Gi) (gl : Gl) : Prop := cTown T gi gl 2 ∧ vTown T
theorem cTown_congr {T : Twn} {gi gi' : Gi} {gl gl' : Gl} {a : Nat} (h : ∀ b, a + 1 ≤ b → b ≤ a + 5 → gi' b = gi b) (hl : gl' (a + 2) = gl (a + 2)) (m : cTown T gi gl a) : cTown T gi' gl' a := by
  obtain ⟨m1, m2, m3⟩ := m
  refine ⟨fun k hk => by rw [h _ (by omega) (by omega)]; exact m1 k hk, fun k hk i hi => ⟨by rw [hl]; exact (m2 k hk i hi).1, fun j hj => by rw [h _ (by omega) (by omega)]; exact (m2 k hk i hi).2 j hj⟩, fun m hm => ⟨by rw [h _ (by omega) (by omega)]; exact (m3 m hm).1, fun r q hq => by rw [h _ (by omega) (by omega)]; exact (m3 m hm).2 r q hq⟩⟩
/-- the same but for where the sun stands -/
def Cn (gi gi' : Gi) : Prop := ∀ z, z ≠ 23 → gi' z = gi z
theorem Cn.rf {gi : Gi} : Cn gi gi := fun _ _ => rfl
theorem Cn.tr {a b c : Gi} (h : Cn a b) (k : Cn b c) : Cn a c := fun z hz => (k z hz).trans (h z hz)
theorem Cn.fld {a b : Gi} (h : Cn a b) {f : Nat → Int32} : Cn a (uI b 23 f) := fun z hz => by rw [uI_n hz]; exact h z hz
theorem Cn.E {T : Twn} {gi gi' : Gi} {gl : Gl} (h : Cn gi gi') (m : CE T gi gl) : CE T gi' gl := ⟨cTown_congr (fun b _ _ => h b (by omega)) rfl m.1, m.2⟩
/-- a picture's signs at p -/
def CS (T : Twn) (P : Pic) (gi : Gi) (p : Nat) : Prop := cSgn P gi p ∧ P.1 ≤ 12 ∧ (∀ k, k < P.1 → vSign T (P.2 k)) ∧ p < NN ∧ sK p = 5 ∧ p ≠ 23
theorem CS.congr {T : Twn} {P : Pic} {gi gi' : Gi} {p : Nat} (h : CS T P gi p) (e1 : gi' p = gi p) (e2 : gi' (p + 1) = gi (p + 1)) : CS T P gi' p := ⟨⟨by rw [e1]; exact h.1.1, fun k hk w hw => by rw [e2]; exact h.1.2 k hk w hw⟩, h.2⟩
theorem pic_ne {p : Nat} (hp : p < NN) (hk : sK p = 5) : p ≠ 23 ∧ p + 1 ≠ 23 := by
  have := (show ∀ a, a < 377 → sK a = 5 → a ≠ 23 ∧ a + 1 ≠ 23 by decide +kernel) p hp hk
  exact this
theorem Cn.S {T : Twn} {P : Pic} {gi gi' : Gi} {p : Nat} (h : Cn gi gi') (m : CS T P gi p) : CS T P gi' p := m.congr (h _ m.2.2.2.2.2) (h _ (pic_ne m.2.2.2.1 m.2.2.2.2.1).2)
section CB
variable {T : Twn} {P : Pic} {p : Nat} {gi : Gi} {gl : Gl} {Q : Int32 → Gi → Gl → Prop}
theorem cnt4 (vt : vTown T) {k : Nat} (hk : k < 4) : tCnt T k ≤ 12 := by
  have := vt.1 k (by omega)
  rcases (show k = 0 ∨ k = 1 ∨ k = 2 ∨ k = 3 by omega) with rfl | rfl | rfl | rfl <;> simp [most] at this <;> omega
theorem s_X10_of (m : CE T gi gl) {k i j : Nat} (hk : k < 4) (hi : i < tCnt T k) (hj : j < numsOf k) (h : Q (iI (tNum T k i j)) gi gl) : p_X10_of 2 (nI k) (nI i) (nI j) gi gl Q := by
  have hc := cnt4 m.2 hk
  have hj4 : j < 4 := by rcases cols hk hj with ⟨rfl, rfl⟩ | ⟨rfl, rfl⟩ | ⟨rfl, rfl⟩ | ⟨rfl, rfl⟩ | ⟨rfl, rfl⟩ | ⟨rfl, rfl⟩ | ⟨rfl, rfl⟩ | ⟨rfl, rfl⟩ | ⟨rfl, rfl⟩ | ⟨rfl, rfl⟩ | ⟨rfl, rfl⟩ <;> omega
  refine v_X10_of zl_2 zk_2 ?_
  unfold f_X10_of
  refine c_lt k 0 rfl rfl (by omega) (by omega) (fun y => by omega) (fun _ => ?_)
  refine c_le 4 k rfl rfl (by omega) (by omega) (fun y => by omega) (fun _ => ?_)
  refine c_lt i 0 rfl rfl (by omega) (by omega) (fun y => by omega) (fun _ => ⟨vp_nI (by omega) (by omega), ?_⟩)
  rw [nI_cl (by omega), m.1.1 k (by omega)]
  refine c_le (tCnt T k) i rfl rfl (by omega) (by omega) (fun y => by omega) (fun _ => ?_)
  refine c_lt j 0 rfl rfl (by omega) (by omega) (fun y => by omega) (fun _ => ?_)
  refine c_lt j 4 rfl rfl (by omega) (by omega) (fun _ => ?_) (fun y => by omega)
  rw [show (12 : Int32) = nI 12 by rfl, show (4 : Int32) = nI 4 by rfl, mulN, nI_add, mulN, nI_add, nI_cl (by omega), (m.1.2.1 k hk i hi).2 j hj]
  exact ⟨vp_nI (by omega) (by omega), h⟩
theorem s_X10_sunRowsIn (m : CE T gi gl) {mo : Nat} (hm : mo < 12) (h : Q (nI (rowsOf T mo).length) gi gl) : p_X10_sunRowsIn 2 (nI mo) gi gl Q := by
  refine v_X10_sunRowsIn zl_2 zk_2 ?_
  unfold f_X10_sunRowsIn
  refine c_lt mo 0 rfl rfl (by omega) (by omega) (fun y => by omega) (fun _ => ?_)
  refine c_lt mo 12 rfl rfl (by omega) (by omega) (fun _ => ⟨vp_nI hm (by omega), ?_⟩) (fun y => by omega)
  rw [nI_cl (by omega), (m.1.2.2 mo hm).1]
  exact h
theorem rows_len {mo : Nat} (vt : vTown T) : (rowsOf T mo).length ≤ 40 := by
  have h1 := vt.2.2.1
  have h2 := vt.1 4 (by omega)
  have h3 : (rowsOf T mo).length ≤ (tSun T).length := List.length_filter_le _ _
  have h2 : tCnt T 4 ≤ 40 := h2
  omega
def rowJ (q : Nat × Nat × Int × Int) (j : Nat) : Int := if j = 0 then (q.2.1 : Nat) else if j = 1 then q.2.2.1 else q.2.2.2
theorem s_X10_sunNumber (m : CE T gi gl) {mo r j : Nat} (hm : mo < 12) {q : Nat × Nat × Int × Int} (hq : (rowsOf T mo)[r]? = some q) (hj : j < 3) (h : Q (iI (rowJ q j)) gi gl) : p_X10_sunNumber 2 (nI mo) (nI r) (nI j) gi gl Q := by
  have hr := (List.getElem?_eq_some_iff.mp hq).1
  have hl := rows_len (mo := mo) m.2
  obtain ⟨g0, g1, g2⟩ := (m.1.2.2 mo hm).2 r q hq
  refine v_X10_sunNumber zl_2 zk_2 ?_
  unfold f_X10_sunNumber
  refine c_lt mo 0 rfl rfl (by omega) (by omega) (fun y => by omega) (fun _ => ?_)
  refine c_le 12 mo rfl rfl (by omega) (by omega) (fun y => by omega) (fun _ => ?_)
  refine c_lt r 0 rfl rfl (by omega) (by omega) (fun y => by omega) (fun _ => ⟨vp_nI hm (by omega), ?_⟩)
  rw [nI_cl (by omega), (m.1.2.2 mo hm).1]
  refine c_le (rowsOf T mo).length r rfl rfl (by omega) (by omega) (fun y => by omega) (fun _ => ?_)
  refine c_lt j 0 rfl rfl (by omega) (by omega) (fun y => by omega) (fun _ => ?_)
  refine c_lt j 3 rfl rfl (by omega) (by omega) (fun _ => ?_) (fun y => by omega)
  rw [show (40 : Int32) = nI 40 by rfl, show (3 : Int32) = nI 3 by rfl, mulN, nI_add, mulN, nI_add, nI_cl (by omega)]
  refine ⟨vp_nI (by omega) (by omega), ?_⟩
  unfold rowJ at h
  rcases (show j = 0 ∨ j = 1 ∨ j = 2 by omega) with rfl | rfl | rfl
  · have g0' : gi (2 + 5) ((mo * 40 + r) * 3 + 0) = nI q.2.1 := g0
    rw [g0', ← iI_n]; exact h
  · rw [g1]; exact h
  · rw [g2]; exact h
theorem s_X5_tells (hs : CS T P gi p) {k w : Nat} (hk : k < P.1) (hw : w < 5) (h : Q (iI (P.2 k w)) gi gl) : p_X5_tells p (nI k) (nI w) gi gl Q := by
  obtain ⟨⟨h1, h2⟩, hc, -, hN, hK, -⟩ := hs
  refine v_X5_tells hN hK ?_
  unfold f_X5_tells
  refine v_X5_has hN hK ?_
  unfold f_X5_has
  rw [h1]
  refine c_lt k 0 rfl rfl (by omega) (by omega) (fun y => by omega) (fun _ => ?_)
  refine c_le P.1 k rfl rfl (by omega) (by omega) (fun y => by omega) (fun _ => ?_)
  refine c_le 12 k rfl rfl (by omega) (by omega) (fun y => by omega) (fun _ => ?_)
  refine ifF (by decide) ?_
  refine c_lt w 0 rfl rfl (by omega) (by omega) (fun y => by omega) (fun _ => ?_)
  refine c_lt w 5 rfl rfl (by omega) (by omega) (fun _ => ?_) (fun y => by omega)
  rw [show (5 : Int32) = nI 5 by rfl, mulN, nI_add, nI_cl (by omega), h2 k hk w hw]
  exact ⟨vp_nI (by omega) (by omega), h⟩
theorem s_X5_size (hs : CS T P gi p) (h : Q (nI P.1) gi gl) : p_X5_size p gi gl Q := by
  refine v_X5_size hs.2.2.2.1 hs.2.2.2.2.1 ?_
  unfold f_X5_size
  rw [hs.1.1]; exact h
/-- a post is gone to -/
theorem s_X9_goesTo (m : CE T gi gl) {i : Nat} (hi : i < tCnt T 2) (h : ∀ gi', Cn gi gi' → gi' 23 1 = iI (tNum T 2 i 0) → gi' 23 2 = iI (tNum T 2 i 1) → gi' 23 3 = iI (tNum T 2 i 2) → Q 1 gi' gl) : p_X9_goesTo (nI i) gi gl Q := by
  have hc := cnt4 m.2 (k := 2) (by omega)
  refine v_X9_goesTo ?_
  unfold f_X9_goesTo
  refine v_X10_has zl_2 zk_2 ?_
  unfold f_X10_has
  refine ifF (by decide) (ifF (by decide) ?_)
  refine c_lt i 0 rfl rfl (by omega) (by omega) (fun y => by omega) (fun _ => ⟨vp_nI (n := 2) (by omega) (by omega), ?_⟩)
  rw [show (2 : Int32).toNatClampNeg = 2 by rfl, m.1.1 2 (by omega)]
  refine c_le (tCnt T 2) i rfl rfl (by omega) (by omega) (fun y => by omega) (fun _ => ?_)
  refine ifT (by decide) ?_
  refine s_X10_of m (k := 2) (i := i) (j := 0) (by omega) hi (by decide) ?_
  intro g7 e7
  have m7 : CE T g7 gl := (show Cn gi g7 by rw [e7]; exact Cn.rf.fld).E m
  refine s_X10_of m7 (k := 2) (i := i) (j := 1) (by omega) hi (by decide) ?_
  intro g11 e11
  have m11 : CE T g11 gl := (show Cn g7 g11 by rw [e11]; exact Cn.rf.fld).E m7
  refine s_X10_of m11 (k := 2) (i := i) (j := 2) (by omega) hi (by decide) ?_
  intro g15 e15
  refine h g15 (by rw [e15, e11, e7]; exact ((Cn.rf.fld).fld).fld) ?_ ?_ ?_
  · rw [e15, uI_s, upd_n (by omega), e11, uI_s, upd_n (by omega), e7, uI_s, upd_s]
  · rw [e15, uI_s, upd_n (by omega), e11, uI_s, upd_s]
  · rw [e15, uI_s, upd_s]
/-- where a month's sun stands: fields of the sun's cell -/
def SunAt (gi : Gi) (q : Int × Int × Int) : Prop := gi 23 4 = iI q.1 ∧ gi 23 5 = iI q.2.1 ∧ gi 23 6 = iI q.2.2
/-- the row that a minute comes ahead of -/
theorem lit_cut {mo : Nat} {t : Int} (vt : vTown T) {r : Nat} (h1 : ∀ i q, i < r → (rowsOf T mo)[i]? = some q → (q.2.1 : Int) < t) (h2 : ∀ q, (rowsOf T mo)[r]? = some q → t ≤ (q.2.1 : Int)) (hr : r ≤ (rowsOf T mo).length) :
    ((rowsOf T mo).filter (fun r => decide (t ≤ (r.2.1 : Int)))).head? = (rowsOf T mo)[r]? ∧
    ((rowsOf T mo).filter (fun r => decide ((r.2.1 : Int) ≤ t))).getLast? = (match (rowsOf T mo)[r]? with
      | some q => if (q.2.1 : Int) = t then some q else if r = 0 then none else (rowsOf T mo)[r - 1]?
      | none => if r = 0 then none else (rowsOf T mo)[r - 1]?) := by
  have pw := vt.2.2.2.2.2.2.2.2 mo
  generalize rowsOf T mo = R at *
  have eR : R = R.take r ++ R.drop r := (List.take_append_drop r R).symm
  have ft : ∀ q ∈ R.take r, (q.2.1 : Int) < t := by
    intro q hq
    obtain ⟨i, hi⟩ := List.getElem?_of_mem hq
    have hl := (List.getElem?_eq_some_iff.mp hi).1
    rw [List.length_take] at hl
    rw [List.getElem?_take_of_lt (by omega)] at hi
    exact h1 i q (by omega) hi
  have fA1 : (R.take r).filter (fun r => decide (t ≤ (r.2.1 : Int))) = [] := List.filter_eq_nil_iff.2 (fun q hq => by have := ft q hq; simp; omega)
  have fA2 : (R.take r).filter (fun r => decide ((r.2.1 : Int) ≤ t)) = R.take r := List.filter_eq_self.2 (fun q hq => by have := ft q hq; simp; omega)
  have lastT : r ≠ 0 → (R.take r).getLast? = R[r - 1]? := by
    intro h0
    rw [List.getLast?_eq_getElem?, List.length_take, Nat.min_eq_left hr, List.getElem?_take_of_lt (by omega)]
  have last0 : r = 0 → (R.take r).getLast? = none := by intro h0; subst h0; rfl
  cases hd : R.drop r with
  | nil =>
    have hrl : R[r]? = none := by
      rw [List.getElem?_eq_none_iff]
      have : (R.drop r).length = 0 := by rw [hd]; rfl
      rw [List.length_drop] at this; omega
    rw [hrl]
    refine ⟨?_, ?_⟩
    · conv => lhs; rw [eR, hd, List.append_nil, fA1]
      rfl
    · show _ = if r = 0 then none else R[r - 1]?
      conv => lhs; rw [eR, hd, List.append_nil, fA2]
      by_cases h0 : r = 0
      · rw [if_pos h0]; exact last0 h0
      · rw [if_neg h0]; exact lastT h0
  | cons q tl =>
    have hrl : R[r]? = some q := by
      have : (R.drop r)[0]? = some q := by rw [hd]; rfl
      rw [List.getElem?_drop] at this
      exact this
    have hq := h2 q hrl
    rw [hrl]
    have pw2 : (q :: tl).Pairwise (fun a b => a.2.1 < b.2.1) := by
      rw [← hd]; exact pw.sublist (List.drop_sublist r R)
    have gt : ∀ x ∈ tl, q.2.1 < x.2.1 := fun x hx => (List.pairwise_cons.1 pw2).1 x hx
    have fB1 : ((q :: tl).filter (fun r => decide (t ≤ (r.2.1 : Int)))).head? = some q := by rw [List.filter_cons_of_pos (by simpa using hq)]; rfl
    have fB2 : (q :: tl).filter (fun r => decide ((r.2.1 : Int) ≤ t)) = if (q.2.1 : Int) = t then [q] else [] := by
      have ftl : tl.filter (fun r => decide ((r.2.1 : Int) ≤ t)) = [] := List.filter_eq_nil_iff.2 (fun x hx => by have := gt x hx; simp; omega)
      by_cases e : (q.2.1 : Int) = t
      · rw [if_pos e, List.filter_cons_of_pos (by simp; omega), ftl]
      · rw [if_neg e, List.filter_cons_of_neg (by simp; omega), ftl]
    refine ⟨?_, ?_⟩
    · conv => lhs; rw [eR, hd, List.filter_append, fA1, List.nil_append]
      exact fB1
    · show _ = if (q.2.1 : Int) = t then some q else if r = 0 then none else R[r - 1]?
      conv => lhs; rw [eR, hd, List.filter_append, fA2, fB2]
      by_cases e : (q.2.1 : Int) = t
      · rw [if_pos e, if_pos e, List.getLast?_append]; rfl
      · rw [if_neg e, if_neg e, List.append_nil]
        by_cases h0 : r = 0
        · rw [if_pos h0]; exact last0 h0
        · rw [if_neg h0]; exact lastT h0
end CB
