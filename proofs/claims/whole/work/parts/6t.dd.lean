/-! THE CLASS, thirty: a told name -/
section DD2
variable {f : Nat → Nat} {n a : Nat} {gi : Gi} {gl : Gl} {Q : Gi → Gl → Prop} {Qi : Int32 → Gi → Gl → Prop} {T : Twn}
/-- the name's place, the class's way -/
theorem naI_low (vt : vTown T) {k : Nat} (hk : k < 4) : naI f n T k (.inr a) = lowN (fun i => decide (tName T k i = wd f n a)) (tCnt T k) := by
  show (if wd f n a = [] then (-1 : Int) else lowN (fun i => decide (tName T k i = wd f n a)) (tCnt T k)) = _
  by_cases h : wd f n a = []
  · rw [if_pos h]
    rcases lowN_spec (f := fun i => decide (tName T k i = wd f n a)) (tCnt T k) with ⟨e, -⟩ | ⟨e, -, e2, e3, -⟩
    · exact e.symm
    · have := of_decide_eq_true e3
      rw [h] at this
      exact absurd this (vt.2.1 k hk e e2).1
  · rw [if_neg h]
theorem s_takeTold (m : SC f n a gi) (D : cTown T gi gl 2) (vt : vTown T) {k : Nat} (hk : k < 4) (h1 : 0 ≤ naI f n T k (.inr a) → ∀ g, F22 gi g → SC f n (nx f n a) g → Qi (iI (naI f n T k (.inr a))) g gl) (h0 : naI f n T k (.inr a) = -1 → Qi (-1) gi gl) : p_X7_takeTold (nI k) gi gl Qi := by
  have wo := wd_ok (f := f) (n := n) (a := a)
  have hc := cnt4 vt hk
  have el := naI_low (f := f) (n := n) (a := a) vt hk
  have lb := lowN_bd (f := fun i => decide (tName T k i = wd f n a)) (tCnt T k)
  rw [el] at h1 h0
  refine v_X7_takeTold ?_
  unfold f_X7_takeTold
  refine s_X8_wordHere m ?_
  refine s_X10_find zl_2 zk_2 D vt hk wo.1 wo.2 ?_
  refine d_eq (lowN (fun i => decide (tName T k i = wd f n a)) (tCnt T k)) (-1) rfl rfl (by omega) (by omega) (fun q => ?_) (fun q => ?_)
  · rw [q]; exact h0 q
  · have han : a < n := by
      rcases Nat.lt_or_ge a n with z | z
      · exact z
      · exfalso
        have hw : wd f n a = [] := by
          have := (kd_0 (f := f) (n := n) (a := a)).2 z
          unfold wd
          rw [if_neg (by omega)]
        have : naI f n T k (.inr a) = -1 := by
          show (if wd f n a = [] then (-1 : Int) else _) = -1
          rw [if_pos hw]
        omega
    exact m.step han (h1 (by omega))
end DD2
