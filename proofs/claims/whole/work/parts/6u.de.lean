/-! THE CLASS, thirty-one: signs of one name, of one number -/
section DE2
variable {f : Nat → Nat} {n a : Nat} {gi : Gi} {gl : Gl} {Q : Gi → Gl → Prop} {Qi : Int32 → Gi → Gl → Prop} {T : Twn} {P : Pic}
def Rs (gi g : Gi) : Prop := ∀ z, z ≠ 14 → z ≠ 15 → z ≠ 22 → g z = gi z
theorem Rs.rf {g : Gi} : Rs g g := fun _ _ _ _ => rfl
theorem Rs.tr {a b c : Gi} (h : Rs a b) (k : Rs b c) : Rs a c := fun z q1 q2 q3 => (k z q1 q2 q3).trans (h z q1 q2 q3)
theorem F22.S {gi g : Gi} (h : F22 gi g) : Rs gi g := fun z _ _ q => h z q
/-- what reading a sign's rest owes -/
def Os (f : Nat → Nat) (n : Nat) (P : Pic) (r : (Nat → Int) × Ps) (gi : Gi) (gl : Gl) (Qi : Int32 → Gi → Gl → Prop) : Prop :=
  (∀ b g, r.2 = .inr b → SC f n b g → cSgn (pAdd P r.1) g 14 → Rs gi g → Qi 1 g gl) ∧ ∀ e g, r.2 = .inl e → SC f n e g → Rs gi g → Qi 0 g gl
theorem cSgn_F22 {g : Gi} (h : F22 gi g) (d : cSgn P gi 14) : cSgn P g 14 := ⟨by rw [h 14 (by omega)]; exact d.1, fun k hk w hw => by rw [h 15 (by omega)]; exact d.2 k hk w hw⟩
theorem s_addEnd {g0 : Gi} (d : cSgn P gi 14) (hP : P.1 ≤ 11) (m : SC f n a gi) (R : Rs g0 gi) {w x y z v : Int} {K : Int32 → Gi → Gl → Prop} (k : ∀ g, cSgn (pAdd P (sg5 w x y z v)) g 14 → SC f n a g → Rs g0 g → K 1 g gl) : p_X5_add 14 (iI w) (iI x) (iI y) (iI z) (iI v) gi gl K :=
  s_X5_add d hP (fun g dg fr => k g dg (m.fr (fun z hz => fr z (by omega) (by omega))) (R.tr (fun z q1 q2 _ => fr z q1 q2)))
theorem na_t {k : Nat} (h : 0 ≤ naI f n T k (.inr a)) : naS f n T k (-1) (.inr a) = .inr (nx f n a) ∧ naV f n T k (-1) (.inr a) = naI f n T k (.inr a) := by
  have e : naO f n T k (-1) (.inr a) = true := by
    unfold naO
    rw [decide_eq_true h, decide_eq_true (show naI f n T k (.inr a) ≠ -1 by omega)]; rfl
  unfold naS naV
  rw [e]; exact ⟨rfl, rfl⟩
theorem na_f {k : Nat} (h : naI f n T k (.inr a) = -1) : naS f n T k (-1) (.inr a) = .inl a := by
  have e : naO f n T k (-1) (.inr a) = false := by
    unfold naO
    rw [h]; rfl
  unfold naS
  rw [e]; rfl
theorem s_readsNamed (m : SC f n a gi) (D : cTown T gi gl 2) (vt : vTown T) (d : cSgn P gi 14) (hP : P.1 ≤ 11) {w k : Nat} (hk : k < 4) (h : Os f n P (sg5 w (naV f n T k (-1) (.inr a)) (-1) (-1) (-1), naS f n T k (-1) (.inr a)) gi gl Qi) : p_X7_readsNamed (nI w) (nI k) gi gl Qi := by
  have hc := cnt4 vt hk
  have el := naI_low (f := f) (n := n) (a := a) vt hk
  have lb := lowN_bd (f := fun i => decide (tName T k i = wd f n a)) (tCnt T k)
  unfold Os at h
  refine v_X7_readsNamed ?_
  unfold f_X7_readsNamed
  refine s_takeTold m D vt hk (fun q g fg mg => ?_) (fun q => ?_)
  · rw [(na_t q).1, (na_t q).2] at h
    refine d_eq (naI f n T k (.inr a)) (-1) rfl rfl (by omega) (by omega) (fun y => by omega) (fun _ => ?_)
    rw [← iI_n w, m1_i]
    refine s_addEnd (cSgn_F22 fg d) hP mg fg.S (fun g2 d2 m2 R2 => ?_)
    exact ifF (by decide) (h.1 _ g2 rfl m2 d2 R2)
  · rw [na_f q] at h
    exact ifT rfl (h.2 a gi rfl m Rs.rf)
theorem s_readsNumbered (m : SC f n a gi) (d : cSgn P gi 14) (hP : P.1 ≤ 11) {w hi : Nat} (hh : hi ≤ 1000) (h : Os f n P (sg5 w (nuV f n 0 hi (.inr a)) (-1) (-1) (-1), nuS f n 0 hi (.inr a)) gi gl Qi) : p_X7_readsNumbered (nI w) (nI hi) gi gl Qi := by
  unfold Os at h
  refine v_X7_readsNumbered ?_
  unfold f_X7_readsNumbered
  rw [← iI_n hi, show (0 : Int32) = iI 0 by rfl]
  refine s_X8_takeNumber (lo := 0) (hi := hi) (by omega) (by omega) m (fun q g fg mg => ?_) (fun q => ?_)
  · have hv := (nuO_hi q).2.1
    rw [(nu_t q).1, (nu_t q).2] at h
    refine d_eq (vl f n a : Int) (-1) (iI_n _).symm rfl (by omega) (by omega) (fun y => by omega) (fun _ => ?_)
    rw [← iI_n w, ← iI_n (vl f n a), m1_i]
    refine s_addEnd (cSgn_F22 fg d) hP mg fg.S (fun g2 d2 m2 R2 => ?_)
    exact ifF (by decide) (h.1 _ g2 rfl m2 d2 R2)
  · rw [nu_f q] at h
    exact ifT rfl (h.2 a gi rfl m Rs.rf)
end DE2
