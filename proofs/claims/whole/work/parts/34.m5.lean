/-! THE REFERENCE, five: the sun, and what a sign lets of minutes -/
theorem mul_bd {a b A B : Int} (h1 : -A ≤ a) (h2 : a ≤ A) (h3 : -B ≤ b) (h4 : b ≤ B) : -(A * B) ≤ a * b ∧ a * b ≤ A * B := by
  have ha : a.natAbs ≤ A.toNat := by omega
  have hb : b.natAbs ≤ B.toNat := by omega
  have h := Nat.mul_le_mul ha hb
  rw [← Int.natAbs_mul] at h
  have e : (A * B) = ((A.toNat * B.toNat : Nat) : Int) := by
    rw [Int.natCast_mul, Int.toNat_of_nonneg (by omega), Int.toNat_of_nonneg (by omega)]
  rw [e]
  omega
theorem mem_rows {T : Twn} {m : Nat} {r : Nat × Nat × Int × Int} (h : r ∈ rowsOf T m) : r ∈ tSun T ∧ r.1 = m := by
  unfold rowsOf at h
  rw [List.mem_filter] at h
  exact ⟨h.1, by simpa using h.2⟩
theorem lit_of {T : Twn} {m : Nat} {t : Int} {q : Int × Int × Int} (h : lit T m t = some q) : ∃ a b, a ∈ rowsOf T m ∧ b ∈ rowsOf T m ∧ (a.2.1 : Int) ≤ t ∧ t ≤ b.2.1 ∧ q.2.2 = (if (b.2.1 : Int) - a.2.1 = 0 then 1 else (b.2.1 : Int) - a.2.1) ∧ q.1 = a.2.2.1 * q.2.2 + (b.2.2.1 - a.2.2.1) * (t - a.2.1) ∧ q.2.1 = a.2.2.2 * q.2.2 + (b.2.2.2 - a.2.2.2) * (t - a.2.1) := by
  unfold lit at h
  split at h
  · rename_i a b ha hb
    have h1 := List.mem_of_getLast? ha
    have h2 := List.mem_of_head? hb
    rw [List.mem_filter] at h1 h2
    cases h
    exact ⟨a, b, h1.1, h2.1, by simpa using h1.2, by simpa using h2.2, rfl, rfl, rfl⟩
  · cases h
theorem lit_bd {T : Twn} {m : Nat} {t : Int} {q : Int × Int × Int} (vt : vTown T) (h : lit T m t = some q) : 1 ≤ q.2.2 ∧ q.2.2 ≤ 719 ∧ -213543 ≤ q.1 ∧ q.1 ≤ 213543 ∧ -213543 ≤ q.2.1 ∧ q.2.1 ≤ 213543 := by
  obtain ⟨a, b, ha, hb, h1, h2, h3, h4, h5⟩ := lit_of h
  have va := vt.2.2.2.2.2.2.2.1 a (mem_rows ha).1
  have vb := vt.2.2.2.2.2.2.2.1 b (mem_rows hb).1
  have w1 : 1 ≤ q.2.2 ∧ q.2.2 ≤ 719 := by rw [h3]; split <;> omega
  have b1 := mul_bd (a := a.2.2.1) (b := q.2.2) (A := 99) (B := 719) (by omega) (by omega) (by omega) (by omega)
  have b2 := mul_bd (a := b.2.2.1 - a.2.2.1) (b := t - a.2.1) (A := 198) (B := 719) (by omega) (by omega) (by omega) (by omega)
  have b3 := mul_bd (a := a.2.2.2) (b := q.2.2) (A := 99) (B := 719) (by omega) (by omega) (by omega) (by omega)
  have b4 := mul_bd (a := b.2.2.2 - a.2.2.2) (b := t - a.2.1) (A := 198) (B := 719) (by omega) (by omega) (by omega) (by omega)
  rw [h4, h5]
  omega
def sunG (gi : Gi) (q : Int × Int × Int) : Gi := uI gi 329 (upd (upd (upd (gi 329) 48 (iI q.2.2)) 46 (iI q.1)) 47 (iI q.2.1))
theorem sunG_o {gi : Gi} {q : Int × Int × Int} {z : Nat} (h : z ≠ 329) : sunG gi q z = gi z := uI_n h
theorem sunG_k {gi : Gi} {q : Int × Int × Int} {k : Nat} (h : k ≠ 46 ∧ k ≠ 47 ∧ k ≠ 48) : sunG gi q 329 k = gi 329 k := by
  unfold sunG
  rw [uI_s, upd_n h.2.1, upd_n h.1, upd_n h.2.2]
theorem sunG_48 {gi : Gi} {q : Int × Int × Int} : sunG gi q 329 48 = iI q.2.2 ∧ sunG gi q 329 46 = iI q.1 ∧ sunG gi q 329 47 = iI q.2.1 := by
  unfold sunG
  rw [uI_s]
  refine ⟨?_, ?_, ?_⟩
  · rw [upd_n (by omega), upd_n (by omega), upd_s]
  · rw [upd_n (by omega), upd_s]
  · rw [upd_s]
theorem ME.sun {T : Twn} {p : Nat} {la : Int} {su : Int × Int} {gi : Gi} {gl : Gl} {q : Int × Int × Int} (m : ME T p la su gi gl) : ME T p la su (sunG gi q) gl :=
  m.congr (fun b _ _ => sunG_o (by omega)) ⟨sunG_k (by omega), sunG_k (by omega), sunG_k (by omega), sunG_k (by omega)⟩
section D5
variable {T : Twn} {p : Nat} {la : Int} {su : Int × Int} {gi : Gi} {gl : Gl} {Q : Int32 → Gi → Gl → Prop}
theorem sun_at (m : ME T p la su gi gl) {k : Nat} {r : Nat × Nat × Int × Int} (h : (tSun T)[k]? = some r) : k < 40 ∧ gi 351 (40 * p + k) = nI r.1 ∧ gi 352 (40 * p + k) = nI r.2.1 ∧ gi 353 (40 * p + k) = iI r.2.2.1 ∧ gi 354 (40 * p + k) = iI r.2.2.2 := by
  have hl := (List.getElem?_eq_some_iff.mp h).1
  have vt := m.2.2.2.1
  have c4 : tCnt T 4 ≤ 40 := vt.1 4 (by omega)
  have := vt.2.2.1
  exact ⟨by omega, m.2.2.1.2.2.2.2.2.2 k r h⟩
theorem sun_n (m : ME T p la su gi gl) : gi 329 0 = nI p ∧ gi 334 p = nI (tSun T).length ∧ (tSun T).length ≤ 40 ∧ p < 2 := by
  have vt := m.2.2.2.1
  have c4 : tCnt T 4 ≤ 40 := vt.1 4 (by omega)
  have e := vt.2.2.1
  have := m.2.2.1.1 4 (by omega)
  exact ⟨m.2.1, by rw [e]; exact this, by omega, m.1⟩
theorem s_X12_hasRows (m : ME T p la su gi gl) {mo : Nat} (hm : mo < 12) (k : Q (b2i (decide (rowsOf T mo ≠ []))) gi gl) : p_X12_hasRows (nI mo) gi gl Q := by
  obtain ⟨e0, e4, hl, hp⟩ := sun_n m
  have lp : ∀ n j, j + n = (tSun T).length → (∀ i r, i < j → (tSun T)[i]? = some r → r.1 ≠ mo) → p_X12_hasRows_8 (nI mo) (nI (40 * p + j)) gi gl Q := by
    intro n
    induction n with
    | zero =>
      intro j hj hno
      refine v_X12_hasRows_8 ?_
      unfold f_X12_hasRows_8
      rw [e0, nI_cl (show p < 2147483648 by omega), e4, show (40 : Int32) = nI 40 by rfl, mulN, nI_add]
      refine ⟨vp_nI hp (by omega), ?_⟩
      rw [if_pos (by rw [nI_leI (by omega) (by omega)]; omega)]
      refine qq0 (P := fun r => Q r gi gl) k ?_
      rw [decide_eq_true_eq]
      intro q
      apply q
      unfold rowsOf
      rw [List.filter_eq_nil_iff]
      intro r hr
      obtain ⟨i, hi⟩ := List.getElem?_of_mem hr
      have hil := (List.getElem?_eq_some_iff.mp hi).1
      have := hno i r (by omega) hi
      simpa using this
    | succ n ih =>
      intro j hj hno
      have hlt : j < (tSun T).length := by omega
      obtain ⟨-, s1, s2, s3, s4⟩ := sun_at m (List.getElem?_eq_getElem hlt)
      have vr := m.2.2.2.1.2.2.2.2.2.2.2.1 _ (List.getElem_mem hlt)
      refine v_X12_hasRows_8 ?_
      unfold f_X12_hasRows_8
      rw [e0, nI_cl (show p < 2147483648 by omega), e4, show (40 : Int32) = nI 40 by rfl, mulN, nI_add]
      refine ⟨vp_nI hp (by omega), ?_⟩
      rw [if_neg (by rw [nI_leI (by omega) (by omega)]; omega), nI_cl (by omega), s1]
      refine ⟨vp_nI (by omega) (by omega), ?_⟩
      by_cases a : nI (tSun T)[j].1 = nI mo
      · rw [if_neg (not_not_intro a)]
        rw [nI_eq (by omega) (by omega)] at a
        refine qq1 (P := fun r => Q r gi gl) k ?_
        rw [decide_eq_true_eq]
        intro q
        have : (tSun T)[j] ∈ rowsOf T mo := by
          unfold rowsOf
          rw [List.mem_filter]
          exact ⟨List.getElem_mem hlt, by simpa using a⟩
        rw [q] at this
        cases this
      · rw [if_pos a, nI_1, Nat.add_assoc]
        rw [nI_eq (by omega) (by omega)] at a
        refine ih (j + 1) (by omega) (fun i r hi hr => ?_)
        by_cases q : i = j
        · subst q
          rw [List.getElem?_eq_getElem hlt] at hr
          cases hr; exact a
        · exact hno i r (by omega) hr
  refine v_X12_hasRows ?_
  unfold f_X12_hasRows
  rintro z1 rfl
  rw [e0, show (40 : Int32) = nI 40 by rfl, mulN]
  exact lp (tSun T).length 0 (by omega) (fun i r hi => by omega)
/-- what an int that may be NONE says: a place of the suns -/
def enc (p : Nat) : Option Nat → Int32
  | none => -1
  | some j => nI (40 * p + j)
theorem enc_neg {o : Option Nat} (hp : p < 2) (ho : ∀ j, o = some j → j < 40) : (enc p o < 0) ↔ o = none := by
  cases o with
  | none => simp [enc]
  | some j =>
    have := ho j rfl
    simp only [enc, reduceCtorEq, iff_false]
    exact nI_pos (by omega)
def sunP (mo : Nat) (t : Int) (r : Nat × Nat × Int × Int) : Bool := r.1 == mo && decide ((r.2.1 : Int) ≤ t)
def sunR (mo : Nat) (t : Int) (r : Nat × Nat × Int × Int) : Bool := r.1 == mo && decide (t ≤ (r.2.1 : Int))
theorem lit_eq {mo : Nat} {t : Int} : ((rowsOf T mo).filter (fun r => decide ((r.2.1 : Int) ≤ t))).getLast? = ((tSun T).filter (sunP mo t)).getLast? ∧ ((rowsOf T mo).filter (fun r => decide (t ≤ (r.2.1 : Int)))).head? = ((tSun T).filter (sunR mo t)).head? := by
  unfold rowsOf
  rw [List.filter_filter, List.filter_filter]
  refine ⟨?_, ?_⟩
  · congr 2; funext r; simp [sunP, Bool.and_comm]
  · congr 2; funext r; simp [sunR, Bool.and_comm]
theorem take_s {α : Type} {l : List α} {k : Nat} (h : k < l.length) : l.take (k + 1) = l.take k ++ [l[k]] := by rw [List.take_succ, List.getElem?_eq_getElem h]; rfl
theorem s_X12_isLit (m : ME T p la su gi gl) {mo t : Nat} (hm : mo < 12) (ht : t < 720) (k0 : lit T mo t = none → Q 0 gi gl) (k1 : ∀ q, lit T mo t = some q → Q 1 (sunG gi q) gl) : p_X12_isLit (nI mo) (nI t) gi gl Q := by
  obtain ⟨e0, e4, hl, hp⟩ := sun_n m
  have lp : ∀ n j (o3 o4 : Option Nat), j + n = (tSun T).length → (∀ i, o3 = some i → i < 40) → (∀ i, o4 = some i → i < 40) → o3.bind (fun i => (tSun T)[i]?) = (((tSun T).take j).filter (sunP mo t)).getLast? → (o3 = none → (((tSun T).take j).filter (sunP mo t)).getLast? = none) → o4.bind (fun i => (tSun T)[i]?) = (((tSun T).take j).filter (sunR mo t)).head? → (o4 = none → (((tSun T).take j).filter (sunR mo t)).head? = none) → (∀ i, o3 = some i → i < (tSun T).length) → (∀ i, o4 = some i → i < (tSun T).length) →
      p_X12_isLit_14 (nI mo) (nI t) (enc p o3) (enc p o4) (nI (40 * p + j)) gi gl Q := by
    intro n
    induction n with
    | zero =>
      intro j o3 o4 hj h3 h4 b3 n3 b4 n4 l3 l4
      rw [show j = (tSun T).length by omega, List.take_length] at b3 n3 b4 n4
      have lq := lit_eq (T := T) (mo := mo) (t := (t : Int))
      refine v_X12_isLit_14 ?_
      unfold f_X12_isLit_14
      rw [e0, nI_cl (show p < 2147483648 by omega), e4, show (40 : Int32) = nI 40 by rfl, mulN, nI_add]
      refine ⟨vp_nI hp (by omega), ?_⟩
      rw [if_pos (by rw [nI_leI (by omega) (by omega)]; omega)]
      cases o3 with
      | none =>
        rw [if_pos ((enc_neg hp h3).mpr rfl)]
        apply k0
        unfold lit
        rw [lq.1, n3 rfl]
      | some i3 =>
        rw [if_neg (fun q => by have := (enc_neg hp h3).mp q; cases this)]
        have hi3 := l3 i3 rfl
        have g3 := List.getElem?_eq_getElem hi3
        cases o4 with
        | none =>
          rw [if_neg (by rw [Int32.not_le]; exact (enc_neg hp h4).mpr rfl)]
          apply k0
          unfold lit
          rw [lq.1, lq.2, n4 rfl]
          split
          · rename_i z1 z2; cases z2
          · rfl
        | some i4 =>
          have hi4 := l4 i4 rfl
          have g4 := List.getElem?_eq_getElem hi4
          rw [if_pos (by rw [← Int32.not_lt]; exact fun q => by have := (enc_neg hp h4).mp q; cases this)]
          obtain ⟨u3, -, s32, s33, s34⟩ := sun_at m g3
          obtain ⟨u4, -, s42, s43, s44⟩ := sun_at m g4
          have v3 : vp_in (enc p (some i3)) 80 := vp_nI (by omega) (by omega)
          have v4 : vp_in (enc p (some i4)) 80 := vp_nI (by omega) (by omega)
          have c3 : (enc p (some i3)).toNatClampNeg = 40 * p + i3 := nI_cl (by omega)
          have c4 : (enc p (some i4)).toNatClampNeg = 40 * p + i4 := nI_cl (by omega)
          have vr3 := m.2.2.2.1.2.2.2.2.2.2.2.1 _ (List.getElem_mem hi3)
          have vr4 := m.2.2.2.1.2.2.2.2.2.2.2.1 _ (List.getElem_mem hi4)
          generalize (tSun T)[i3] = a at *
          generalize (tSun T)[i4] = b at *
          have hL : lit T mo t = some (let w := if (b.2.1 : Int) - a.2.1 = 0 then 1 else (b.2.1 : Int) - a.2.1; (a.2.2.1 * w + (b.2.2.1 - a.2.2.1) * ((t : Int) - a.2.1), a.2.2.2 * w + (b.2.2.2 - a.2.2.2) * ((t : Int) - a.2.1), w)) := by
            unfold lit
            rw [lq.1, lq.2, ← b3, ← b4]
            show (match (tSun T)[i3]?, (tSun T)[i4]? with | some a, some b => _ | _, _ => _) = _
            rw [g3, g4]
          have k1 := k1 _ hL
          refine ⟨v4, v3, ?_⟩
          rintro z1 rfl
          refine ⟨v3, ?_⟩
          rintro z2 rfl
          rw [c3, c4, s32, s42, ← iI_n, ← iI_n, ← iI_n t, iI_sub, iI_sub]
          have fin : ∀ w : Int, w = (if (b.2.1 : Int) - a.2.1 = 0 then 1 else (b.2.1 : Int) - a.2.1) → p_X12_isLit_139 (enc p (some i3)) (enc p (some i4)) (iI ((t : Int) - a.2.1)) (iI w) gi gl Q := by
            intro w hw
            refine v_X12_isLit_139 ?_
            unfold f_X12_isLit_139
            rintro gi1 hg1
            refine ⟨v3, v4, v3, ?_⟩
            rintro gi2 hg2
            refine ⟨v3, v4, v3, ?_⟩
            rintro gi3 hg3
            have o1 : ∀ z, z ≠ 329 → gi1 z = gi z := fun z hz => by rw [hg1]; exact uI_n hz
            have o2 : ∀ z, z ≠ 329 → gi2 z = gi z := fun z hz => by rw [hg2, uI_n hz]; exact o1 z hz
            have e48 : gi1 329 48 = iI w := by rw [hg1, uI_s, upd_s]
            have e48b : gi2 329 48 = iI w := by rw [hg2, uI_s, upd_n (by omega)]; exact e48
            rw [c3, c4, o1 353 (by omega), e48, s33, s43, iI_mul, iI_sub, iI_mul, iI_add] at hg2
            rw [c3, c4, o2 354 (by omega), e48b, s34, s44, iI_mul, iI_sub, iI_mul, iI_add] at hg3
            have eg : gi3 = sunG gi (a.2.2.1 * w + (b.2.2.1 - a.2.2.1) * ((t : Int) - a.2.1), a.2.2.2 * w + (b.2.2.2 - a.2.2.2) * ((t : Int) - a.2.1), w) := by
              funext z
              by_cases hz : z = 329
              · subst hz
                rw [hg3, uI_s, hg2, uI_s, hg1, uI_s]
                unfold sunG
                rw [uI_s]
              · rw [sunG_o hz, hg3, uI_n hz]; exact o2 z hz
            rw [eg]
            rw [← hw] at k1
            exact k1
          rw [show (0 : Int32) = iI 0 by rfl]
          by_cases hw : iI ((b.2.1 : Int) - a.2.1) = iI 0
          · rw [if_neg (not_not_intro hw)]
            rw [iI_eq (by omega) (by omega)] at hw
            exact fin 1 (by rw [if_pos hw])
          · rw [if_pos hw]
            rw [iI_eq (by omega) (by omega)] at hw
            exact fin _ (by rw [if_neg hw])
    | succ n ih =>
      intro j o3 o4 hj h3 h4 b3 n3 b4 n4 l3 l4
      have hlt : j < (tSun T).length := by omega
      have gj := List.getElem?_eq_getElem hlt
      obtain ⟨-, s1, s2, -, -⟩ := sun_at m gj
      have vr := m.2.2.2.1.2.2.2.2.2.2.2.1 _ (List.getElem_mem hlt)
      have tk := take_s hlt
      generalize hr : (tSun T)[j] = r at *
      have vj : vp_in (nI (40 * p + j)) 80 := vp_nI (by omega) (by omega)
      have cj : (nI (40 * p + j)).toNatClampNeg = 40 * p + j := nI_cl (by omega)
      have ih := ih (j + 1)
      rw [tk, List.filter_append, List.filter_append] at ih
      refine v_X12_isLit_14 ?_
      unfold f_X12_isLit_14
      rw [e0, nI_cl (show p < 2147483648 by omega), e4, show (40 : Int32) = nI 40 by rfl, mulN, nI_add]
      refine ⟨vp_nI hp (by omega), ?_⟩
      rw [if_neg (by rw [nI_leI (by omega) (by omega)]; omega), cj, s1, s2, nI_1, Nat.add_assoc]
      refine ⟨vj, ?_⟩
      by_cases hmo : nI r.1 = nI mo
      · rw [if_pos hmo]
        rw [nI_eq (by omega) (by omega)] at hmo
        refine ⟨vj, ?_⟩
        have k64 : ∀ o3' : Option Nat, (∀ i, o3' = some i → i < 40) → o3'.bind (fun i => (tSun T)[i]?) = (((tSun T).take j).filter (sunP mo t) ++ [r].filter (sunP mo t)).getLast? → (o3' = none → (((tSun T).take j).filter (sunP mo t) ++ [r].filter (sunP mo t)).getLast? = none) → (∀ i, o3' = some i → i < (tSun T).length) →
            p_X12_isLit_64 (nI mo) (nI t) (enc p o3') (enc p o4) (nI (40 * p + j)) gi gl Q := by
          intro o3' h3' b3' n3' l3'
          refine v_X12_isLit_64 ?_
          unfold f_X12_isLit_64
          rw [cj, s2, nI_1, Nat.add_assoc]
          cases o4 with
          | some i4 =>
            rw [if_pos (by rw [← Int32.not_lt]; exact fun q => by have := (enc_neg hp h4).mp q; cases this)]
            have hi4 := l4 i4 rfl
            have hb : some (tSun T)[i4] = (((tSun T).take j).filter (sunR mo t)).head? := by rw [← b4]; exact (List.getElem?_eq_getElem hi4).symm
            refine ih o3' (some i4) (by omega) h3' h4 b3' n3' ?_ (fun q => by cases q) l3' l4
            rw [List.head?_append, ← hb]
            exact List.getElem?_eq_getElem hi4
          | none =>
            rw [if_neg (by rw [Int32.not_le]; exact (enc_neg hp h4).mpr rfl)]
            refine ⟨vj, ?_⟩
            have hn := n4 rfl
            by_cases hlt2 : nI r.2.1 < nI t
            · rw [if_pos hlt2]
              rw [nI_ltI (by omega) (by omega)] at hlt2
              have hf : sunR mo t r = false := by simp [sunR]; omega
              refine ih o3' none (by omega) h3' (fun i q => by cases q) b3' n3' ?_ (fun _ => ?_) l3' (fun i q => by cases q)
              · rw [List.head?_append, hn, List.filter_cons_of_neg (by rw [hf]; simp)]; rfl
              · rw [List.head?_append, hn, List.filter_cons_of_neg (by rw [hf]; simp)]; rfl
            · rw [if_neg hlt2]
              rw [nI_ltI (by omega) (by omega)] at hlt2
              have hf : sunR mo t r = true := by simp [sunR, hmo]; omega
              refine ih o3' (some j) (by omega) h3' (fun i q => by cases q; omega) b3' n3' ?_ (fun q => by cases q) l3' (fun i q => by cases q; exact hlt)
              rw [List.head?_append, hn, List.filter_cons_of_pos hf]
              exact gj
        by_cases hle : nI t < nI r.2.1
        · rw [if_pos hle]
          rw [nI_ltI (by omega) (by omega)] at hle
          have hf : sunP mo t r = false := by simp [sunP]; omega
          refine k64 o3 h3 ?_ (fun q => ?_) l3
          · rw [List.filter_cons_of_neg (by rw [hf]; simp), List.filter_nil, List.append_nil]; exact b3
          · rw [List.filter_cons_of_neg (by rw [hf]; simp), List.filter_nil, List.append_nil]; exact n3 q
        · rw [if_neg hle]
          rw [nI_ltI (by omega) (by omega)] at hle
          have hf : sunP mo t r = true := by simp [sunP, hmo]; omega
          refine k64 (some j) (fun i q => by cases q; omega) ?_ (fun q => by cases q) (fun i q => by cases q; exact hlt)
          rw [List.filter_cons_of_pos hf, List.filter_nil, List.getLast?_append]
          exact gj
      · rw [if_neg hmo]
        rw [nI_eq (by omega) (by omega)] at hmo
        have f1 : sunP mo t r = false := by simp [sunP, hmo]
        have f2 : sunR mo t r = false := by simp [sunR, hmo]
        refine ih o3 o4 (by omega) h3 h4 ?_ (fun q => ?_) ?_ (fun q => ?_) l3 l4
        · rw [List.filter_cons_of_neg (by rw [f1]; simp), List.filter_nil, List.append_nil]; exact b3
        · rw [List.filter_cons_of_neg (by rw [f1]; simp), List.filter_nil, List.append_nil]; exact n3 q
        · rw [List.filter_cons_of_neg (by rw [f2]; simp), List.filter_nil, List.append_nil]; exact b4
        · rw [List.filter_cons_of_neg (by rw [f2]; simp), List.filter_nil, List.append_nil]; exact n4 q
  refine v_X12_isLit ?_
  unfold f_X12_isLit
  rintro z1 rfl
  rw [e0, show (40 : Int32) = nI 40 by rfl, mulN]
  exact lp (tSun T).length 0 none none (by omega) (fun i q => by cases q) (fun i q => by cases q) (by simp) (fun _ => by simp) (by simp) (fun _ => by simp) (fun i q => by cases q) (fun i q => by cases q)
end D5
