/-! THE CLASS, three: where the sun stands; shadows -/
theorem tdiv_n {z : Int} {n : Nat} (h : z = n) (d : Nat) : z.tdiv d = ((n / d : Nat) : Int) := by subst h; rfl
section CC3
variable {T : Twn} {P : Pic} {p : Nat} {gi : Gi} {gl : Gl} {Q : Int32 → Gi → Gl → Prop}
/-- the posts' fields stay -/
def Po (gi gi' : Gi) : Prop := Cn gi gi' ∧ ∀ j, j ≤ 3 → gi' 23 j = gi 23 j
theorem Po.rf {gi : Gi} : Po gi gi := ⟨Cn.rf, fun _ _ => rfl⟩
theorem Po.tr {a b c : Gi} (h : Po a b) (k : Po b c) : Po a c := ⟨h.1.tr k.1, fun j hj => (k.2 j hj).trans (h.2 j hj)⟩
theorem Po.fld {a b : Gi} (h : Po a b) {i : Nat} {v : Int32} (hi : 4 ≤ i) : Po a (uI b 23 (upd (b 23) i v)) := ⟨h.1.fld, fun j hj => by rw [uI_s, upd_n (by omega)]; exact h.2 j hj⟩
theorem rowJ_0 {q : Nat × Nat × Int × Int} : rowJ q 0 = (q.2.1 : Nat) := rfl
theorem rowJ_1 {q : Nat × Nat × Int × Int} : rowJ q 1 = q.2.2.1 := rfl
theorem rowJ_2 {q : Nat × Nat × Int × Int} : rowJ q 2 = q.2.2.2 := rfl
theorem shines_144 (m : CE T gi gl) {mo ra rb : Nat} (hm : mo < 12) {a b : Nat × Nat × Int × Int} (ha : (rowsOf T mo)[ra]? = some a) (hb : (rowsOf T mo)[rb]? = some b) {d w : Int}
    (h : ∀ gi', Po gi gi' → SunAt gi' (a.2.2.1 * w + (b.2.2.1 - a.2.2.1) * d, a.2.2.2 * w + (b.2.2.2 - a.2.2.2) * d, w) → Q 1 gi' gl) : p_X9_shines_144 (nI mo) (nI rb) (nI ra) (iI d) (iI w) gi gl Q := by
  refine v_X9_shines_144 ?_
  unfold f_X9_shines_144
  intro g1 e1
  have o1 : Po gi g1 := by rw [e1]; exact Po.rf.fld (by omega)
  have w1 : g1 23 6 = iI w := by rw [e1, uI_s, upd_s]
  rw [w1, iI_sub]
  rintro z2 rfl
  have m1 := o1.1.E m
  refine s_X10_sunNumber m1 (j := 1) hm ha (by omega) ?_
  refine s_X10_sunNumber m1 (j := 1) hm hb (by omega) ?_
  rw [rowJ_1, rowJ_1, iI_mul, iI_mul, iI_add]
  intro g9 e9
  have o9 : Po gi g9 := by rw [e9]; exact o1.fld (by omega)
  have m9 := o9.1.E m
  refine s_X10_sunNumber m9 (j := 2) hm ha (by omega) ?_
  refine s_X10_sunNumber m9 (j := 2) hm hb (by omega) ?_
  rw [rowJ_2, rowJ_2, iI_mul, iI_mul, iI_add]
  intro g16 e16
  have al : ∀ u v : Int, u * (w - d) + v * d = u * w + (v - u) * d := fun u v => by rw [Int.mul_sub, Int.sub_mul]; omega
  refine h g16 (by rw [e16]; exact o9.fld (by omega)) ⟨?_, ?_, ?_⟩
  · rw [e16, uI_s, upd_n (by omega), e9, uI_s, upd_s, al]
  · rw [e16, uI_s, upd_s, al]
  · rw [e16, uI_s, upd_n (by omega), e9, uI_s, upd_n (by omega)]; exact w1
theorem row_bd {mo r : Nat} (vt : vTown T) {q : Nat × Nat × Int × Int} (hq : (rowsOf T mo)[r]? = some q) : q.2.1 < 720 := by
  have := List.mem_of_getElem? hq
  exact (vt.2.2.2.2.2.2.2.1 q (mem_rows this).1).2.1
theorem shines_99 (m : CE T gi gl) {mo t ra rb : Nat} (hm : mo < 12) (ht : t < 720) {a b : Nat × Nat × Int × Int} (ha : (rowsOf T mo)[ra]? = some a) (hb : (rowsOf T mo)[rb]? = some b) {ex : Bool} {w : Int} (hw : w = if ex then 1 else (b.2.1 : Int) - a.2.1)
    (h : ∀ gi', Po gi gi' → SunAt gi' (a.2.2.1 * w + (b.2.2.1 - a.2.2.1) * ((t : Int) - a.2.1), a.2.2.2 * w + (b.2.2.2 - a.2.2.2) * ((t : Int) - a.2.1), w) → Q 1 gi' gl) : p_X9_shines_99 (nI mo) (nI t) (nI rb) (b2i ex) (nI ra) gi gl Q := by
  refine v_X9_shines_99 ?_
  unfold f_X9_shines_99
  refine s_X10_sunNumber m (j := 0) hm ha (by omega) ?_
  rw [rowJ_0, ← iI_n t, iI_sub]
  rintro z4 rfl
  refine c_b (fun y => ?_) (fun y => ?_)
  · rw [y] at hw
    refine s_X10_sunNumber m (j := 0) hm hb (by omega) ?_
    rw [rowJ_0, iI_sub]
    have hw : w = (b.2.1 : Int) - a.2.1 := hw
    rw [← hw]
    exact shines_144 m hm ha hb h
  · rw [y] at hw
    have hw : w = 1 := hw
    rw [← iI_1, ← hw]
    exact shines_144 m hm ha hb h
theorem s_X9_shines (m : CE T gi gl) {mo t : Nat} (hm : mo < 12) (ht : t < 720) (k0 : lit T mo t = none → Q 0 gi gl) (k1 : ∀ q, lit T mo t = some q → ∀ gi', Po gi gi' → SunAt gi' q → Q 1 gi' gl) : p_X9_shines (nI mo) (nI t) gi gl Q := by
  have hl := rows_len (mo := mo) m.2
  have pw := m.2.2.2.2.2.2.2.2.2 mo
  have at' : ∀ {r : Nat}, r < (rowsOf T mo).length → ∃ q, (rowsOf T mo)[r]? = some q := fun hr => ⟨_, List.getElem?_eq_getElem hr⟩
  have k39 : ∀ r, r ≤ (rowsOf T mo).length → (∀ i q, i < r → (rowsOf T mo)[i]? = some q → (q.2.1 : Int) < t) → (∀ q, (rowsOf T mo)[r]? = some q → (t : Int) ≤ (q.2.1 : Int)) → p_X9_shines_39 (nI mo) (nI t) (nI (rowsOf T mo).length) (nI r) gi gl Q := by
    intro r hr h1 h2
    obtain ⟨l1, l2⟩ := lit_cut (t := (t : Int)) m.2 h1 h2 hr
    refine v_X9_shines_39 ?_
    unfold f_X9_shines_39
    refine c_le (rowsOf T mo).length r rfl rfl (by omega) (by omega) (fun y => ?_) (fun y => ?_)
    · refine v_X9_shines_65 ?_
      unfold f_X9_shines_65
      refine ifT (by rw [nI_leI (by omega) (by omega)]; omega) (k0 ?_)
      have : (rowsOf T mo)[r]? = none := List.getElem?_eq_none (by omega)
      unfold lit
      rw [l1, this]
      split
      · rename_i z1 z2; cases z2
      · rfl
    · obtain ⟨b, hb⟩ := at' y
      have hb7 := row_bd m.2 hb
      have h2 := h2 b hb
      rw [hb] at l1 l2
      have l2 : ((rowsOf T mo).filter (fun r => decide ((r.2.1 : Int) ≤ t))).getLast? = (if (b.2.1 : Int) = t then some b else if r = 0 then none else (rowsOf T mo)[r - 1]?) := l2
      refine s_X10_sunNumber m (j := 0) hm hb (by omega) ?_
      rw [rowJ_0, iI_n]
      refine c_ne b.2.1 t rfl rfl (by omega) (by omega) (fun ne => ?_) (fun e => ?_)
      · rw [if_neg (by omega)] at l2
        refine v_X9_shines_65 ?_
        unfold f_X9_shines_65
        refine c_le (rowsOf T mo).length r rfl rfl (by omega) (by omega) (fun z => by omega) (fun _ => ?_)
        refine c_ne r 0 rfl rfl (by omega) (by omega) (fun r0 => ?_) (fun r0 => ?_)
        · refine ifT rfl ?_
          rw [sub1 (by omega)]
          obtain ⟨a, ha⟩ := at' (r := r - 1) (by omega)
          have ha7 := row_bd m.2 ha
          have hlt := h1 (r - 1) a (by omega) ha
          rw [if_neg r0, ha] at l2
          refine shines_99 m hm ht ha hb (ex := false) (w := (b.2.1 : Int) - a.2.1) rfl (fun g' o s => k1 _ ?_ g' o s)
          unfold lit
          rw [l1, l2]
          show some (let w := if (b.2.1 : Int) - a.2.1 = 0 then 1 else (b.2.1 : Int) - a.2.1; (a.2.2.1 * w + (b.2.2.1 - a.2.2.1) * ((t : Int) - a.2.1), a.2.2.2 * w + (b.2.2.2 - a.2.2.2) * ((t : Int) - a.2.1), w)) = _
          rw [if_neg (by omega)]
        · refine ifF (by decide) (k0 ?_)
          rw [if_pos r0] at l2
          unfold lit
          rw [l2]
      · rw [if_pos (by omega)] at l2
        have fin : p_X9_shines_99 (nI mo) (nI t) (nI r) 1 (nI r) gi gl Q := by
          refine shines_99 m hm ht hb hb (ex := true) (w := 1) rfl (fun g' o s => k1 _ ?_ g' o s)
          unfold lit
          rw [l1, l2]
          show some (let w := if (b.2.1 : Int) - b.2.1 = 0 then 1 else (b.2.1 : Int) - b.2.1; (b.2.2.1 * w + (b.2.2.1 - b.2.2.1) * ((t : Int) - b.2.1), b.2.2.2 * w + (b.2.2.2 - b.2.2.2) * ((t : Int) - b.2.1), w)) = _
          rw [if_pos (by omega)]
        refine v_X9_shines_65 ?_
        unfold f_X9_shines_65
        refine c_le (rowsOf T mo).length r rfl rfl (by omega) (by omega) (fun z => by omega) (fun _ => ?_)
        refine c_ne r 0 rfl rfl (by omega) (by omega) (fun r0 => ?_) (fun r0 => ?_)
        · exact ifF (by decide) fin
        · exact ifT (by decide) (ifF (by decide) fin)
  refine v_X9_shines ?_
  unfold f_X9_shines
  refine s_X10_sunRowsIn m hm ?_
  refine dn (P := fun r => (∀ i q, i < r → (rowsOf T mo)[i]? = some q → (q.2.1 : Int) < t) → p_X9_shines_12 (nI mo) (nI t) (nI (rowsOf T mo).length) (nI r) gi gl Q) (N := (rowsOf T mo).length) ?_ ?_ 0 (Nat.zero_le _) (fun i q y => by omega)
  · intro h1
    refine v_X9_shines_12 ?_
    unfold f_X9_shines_12
    refine ifT (by rw [nI_leI (by omega) (by omega)]; omega) ?_
    refine k39 _ (Nat.le_refl _) h1 (fun q hq => ?_)
    have := (List.getElem?_eq_some_iff.mp hq).1
    omega
  · intro r hr ih h1
    obtain ⟨b, hb⟩ := at' hr
    have hb7 := row_bd m.2 hb
    refine v_X9_shines_12 ?_
    unfold f_X9_shines_12
    refine c_le (rowsOf T mo).length r rfl rfl (by omega) (by omega) (fun z => by omega) (fun _ => ?_)
    refine s_X10_sunNumber m (j := 0) hm hb (by omega) ?_
    rw [rowJ_0, iI_n, nI_1]
    refine c_le t b.2.1 rfl rfl (by omega) (by omega) (fun y => ?_) (fun y => ?_)
    · exact k39 r (by omega) h1 (fun q hq => by rw [hb] at hq; cases hq; omega)
    · refine ih (fun i q hi hq => ?_)
      by_cases e : i = r
      · subst e; rw [hb] at hq; cases hq; omega
      · exact h1 i q (by omega) hq
theorem jabs_I {z : Int} (h : -2147483647 ≤ z ∧ z ≤ 2147483647) : jabs (iI z) = iI (z.natAbs : Int) := by
  unfold jabs
  rw [show (0 : Int32) = iI 0 by rfl]
  by_cases y : iI 0 ≤ iI z
  · rw [if_pos y]
    rw [iI_le (by omega) (by omega)] at y
    rw [Int.natAbs_of_nonneg y]
  · rw [if_neg y]
    rw [iI_le (by omega) (by omega)] at y
    rw [iI_sub]; congr 1; omega
/-- a post stands in the sun's cell -/
def PostAt (T : Twn) (i : Nat) (gi : Gi) : Prop := gi 23 1 = iI (tNum T 2 i 0) ∧ gi 23 2 = iI (tNum T 2 i 1) ∧ gi 23 3 = iI (tNum T 2 i 2)
theorem s_X9_lower {q : Int × Int × Int} (s : SunAt gi q) (h : Q (iI (shLow q)) gi gl) : p_X9_lower gi gl Q := by
  refine v_X9_lower ?_
  unfold f_X9_lower
  rw [s.2.2, show (10 : Int32) = iI 10 by rfl, iI_mul]; exact h
theorem s_X9_upperX {i : Nat} {q : Int × Int × Int} (a : PostAt T i gi) (s : SunAt gi q) (h : Q (iI (tNum T 2 i 0 * shLow q + tNum T 2 i 2 * q.1)) gi gl) : p_X9_upperX gi gl Q := by
  refine v_X9_upperX ?_
  unfold f_X9_upperX
  refine s_X9_lower s ?_
  rw [a.1, a.2.2, s.1, iI_mul, iI_mul, iI_add]; exact h
theorem s_X9_upperY {i : Nat} {q : Int × Int × Int} (a : PostAt T i gi) (s : SunAt gi q) (h : Q (iI (tNum T 2 i 1 * shLow q + tNum T 2 i 2 * q.2.1)) gi gl) : p_X9_upperY gi gl Q := by
  refine v_X9_upperY ?_
  unfold f_X9_upperY
  refine s_X9_lower s ?_
  rw [a.2.1, a.2.2, s.2.1, iI_mul, iI_mul, iI_add]; exact h
theorem s_X9_fallsTo (vt : vTown T) {s : Nat → Int} {i : Nat} (hi : s 1 = i) (hi2 : i < tCnt T 2) (hv : 0 ≤ s 2 ∧ s 2 ≤ 31 ∧ 0 ≤ s 3 ∧ s 3 ≤ 31 ∧ 0 ≤ s 4 ∧ s 4 ≤ 99) {q : Int × Int × Int} (hq : 1 ≤ q.2.2 ∧ q.2.2 ≤ 719 ∧ -213543 ≤ q.1 ∧ q.1 ≤ 213543 ∧ -213543 ≤ q.2.1 ∧ q.2.1 ≤ 213543) (a : PostAt T i gi) (su : SunAt gi q) (h : Q (b2i (near T s q)) gi gl) : p_X9_fallsTo (iI (s 2)) (iI (s 3)) (iI (s 4)) gi gl Q := by
  obtain ⟨r1, r2, r3, r4, r5, r6⟩ := vt.2.2.2.2.2.1 i hi2
  obtain ⟨v2, v2b, v3, v3b, v4, v4b⟩ := hv
  have b1 := mul_bd (a := (tNum T 2 i 0 - s 2) * 10) (b := q.2.2) (A := 310) (B := 719) (by omega) (by omega) (by omega) (by omega)
  have b2 := mul_bd (a := tNum T 2 i 2) (b := q.1) (A := 20) (B := 213543) (by omega) (by omega) (by omega) (by omega)
  have b3 := mul_bd (a := (tNum T 2 i 1 - s 3) * 10) (b := q.2.2) (A := 310) (B := 719) (by omega) (by omega) (by omega) (by omega)
  have b4 := mul_bd (a := tNum T 2 i 2) (b := q.2.1) (A := 20) (B := 213543) (by omega) (by omega) (by omega) (by omega)
  have b5 := mul_bd (a := s 4 * 10) (b := q.2.2) (A := 990) (B := 719) (by omega) (by omega) (by omega) (by omega)
  have ev : near T s q = true ↔ ((tNum T 2 i 0 - s 2) * 10 * q.2.2 + tNum T 2 i 2 * q.1 ≤ s 4 * 10 * q.2.2 ∧ -((tNum T 2 i 0 - s 2) * 10 * q.2.2 + tNum T 2 i 2 * q.1) ≤ s 4 * 10 * q.2.2 ∧ (tNum T 2 i 1 - s 3) * 10 * q.2.2 + tNum T 2 i 2 * q.2.1 ≤ s 4 * 10 * q.2.2 ∧ -((tNum T 2 i 1 - s 3) * 10 * q.2.2 + tNum T 2 i 2 * q.2.1) ≤ s 4 * 10 * q.2.2) := by
    simp only [near, hi, Int.toNat_natCast, Bool.and_eq_true, decide_eq_true_eq, and_assoc]
  have al : ∀ u v : Int, u * (10 * q.2.2) + tNum T 2 i 2 * v - 0 = u * (10 * q.2.2) + tNum T 2 i 2 * v := fun u v => by omega
  have e1 : tNum T 2 i 0 * shLow q + tNum T 2 i 2 * q.1 - s 2 * 10 * q.2.2 = (tNum T 2 i 0 - s 2) * 10 * q.2.2 + tNum T 2 i 2 * q.1 := by
    unfold shLow
    rw [Int.sub_mul, Int.sub_mul, ← Int.mul_assoc]; omega
  have e2 : tNum T 2 i 1 * shLow q + tNum T 2 i 2 * q.2.1 - s 3 * 10 * q.2.2 = (tNum T 2 i 1 - s 3) * 10 * q.2.2 + tNum T 2 i 2 * q.2.1 := by
    unfold shLow
    rw [Int.sub_mul, Int.sub_mul, ← Int.mul_assoc]; omega
  refine v_X9_fallsTo ?_
  unfold f_X9_fallsTo
  rw [su.2.2, show (10 : Int32) = iI 10 by rfl, iI_mul, iI_mul]
  rintro z1 rfl
  refine s_X9_upperX a su ?_
  rw [su.2.2, iI_mul, iI_mul, iI_sub, e1]
  have bX : -5000000 ≤ (tNum T 2 i 0 - s 2) * 10 * q.2.2 + tNum T 2 i 2 * q.1 ∧ (tNum T 2 i 0 - s 2) * 10 * q.2.2 + tNum T 2 i 2 * q.1 ≤ 5000000 := by omega
  have bY : -5000000 ≤ (tNum T 2 i 1 - s 3) * 10 * q.2.2 + tNum T 2 i 2 * q.2.1 ∧ (tNum T 2 i 1 - s 3) * 10 * q.2.2 + tNum T 2 i 2 * q.2.1 ≤ 5000000 := by omega
  clear b1 b2 b3 b4
  rw [jabs_I (by omega)]
  refine d_lt (s 4 * 10 * q.2.2) _ rfl rfl (by omega) (by omega) (fun y => ?_) (fun y => ?_)
  · exact qq0 (P := fun r => Q r gi gl) h (by rw [ev]; omega)
  · refine s_X9_upperY a su ?_
    rw [su.2.2, iI_mul, iI_mul, iI_sub, e2, jabs_I (by omega)]
    refine d_lt (s 4 * 10 * q.2.2) _ rfl rfl (by omega) (by omega) (fun y2 => ?_) (fun y2 => ?_)
    · exact qq0 (P := fun r => Q r gi gl) h (by rw [ev]; omega)
    · exact qq1 (P := fun r => Q r gi gl) h (by rw [ev]; omega)
end CC3
