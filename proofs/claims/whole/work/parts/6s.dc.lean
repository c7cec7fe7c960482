/-! THE CLASS, twenty-nine: signs, as they are read -/
section DC2
variable {f : Nat → Nat} {n a : Nat} {gi : Gi} {gl : Gl} {Q : Gi → Gl → Prop} {Qi : Int32 → Gi → Gl → Prop} {T : Twn} {P : Pic}
/-- a sign more -/
def pAdd (P : Pic) (s : Nat → Int) : Pic := (P.1 + 1, fun k => if k = P.1 then s else P.2 k)
theorem s_X5_add (h : cSgn P gi 14) (hP : P.1 ≤ 11) {w x y z v : Int} (k : ∀ g, cSgn (pAdd P (sg5 w x y z v)) g 14 → (∀ z, z ≠ 14 → z ≠ 15 → g z = gi z) → Qi 1 g gl) : p_X5_add 14 (iI w) (iI x) (iI y) (iI z) (iI v) gi gl Qi := by
  refine v_X5_add (by decide +kernel) (by decide +kernel) ?_
  unfold f_X5_add
  rw [h.1]
  refine c_lt P.1 0 rfl rfl (by omega) (by omega) (fun y => by omega) (fun _ => ?_)
  refine c_lt P.1 12 rfl rfl (by omega) (by omega) (fun _ => ?_) (fun y => by omega)
  rintro z1 rfl
  rw [show (5 : Int32) = nI 5 by rfl, mulN, show (1 : Int32) = nI 1 by rfl, show (2 : Int32) = nI 2 by rfl, show (3 : Int32) = nI 3 by rfl, show (4 : Int32) = nI 4 by rfl, nI_add, nI_add, nI_add, nI_add, nI_cl (by omega), nI_cl (by omega), nI_cl (by omega), nI_cl (by omega), nI_cl (by omega)]
  refine ⟨vp_nI (by omega) (by omega), ?_⟩
  intro g2 e2
  refine ⟨vp_nI (by omega) (by omega), ?_⟩
  intro g3 e3
  refine ⟨vp_nI (by omega) (by omega), ?_⟩
  intro g4 e4
  refine ⟨vp_nI (by omega) (by omega), ?_⟩
  intro g5 e5
  refine ⟨vp_nI (by omega) (by omega), ?_⟩
  intro g6 e6 g7 e7
  have fr : ∀ z, z ≠ 14 → z ≠ 15 → g7 z = gi z := fun z h1 h2 => by rw [e7, uI_n h1, e6, uI_n h2, e5, uI_n h2, e4, uI_n h2, e3, uI_n h2, e2, uI_n h2]
  have a14 : g6 14 = gi 14 := by rw [e6, uI_n (by omega), e5, uI_n (by omega), e4, uI_n (by omega), e3, uI_n (by omega), e2, uI_n (by omega)]
  have at15 : ∀ j, g7 15 j = if j = P.1 * 5 + 4 then iI v else if j = P.1 * 5 + 3 then iI z else if j = P.1 * 5 + 2 then iI y else if j = P.1 * 5 + 1 then iI x else if j = P.1 * 5 then iI w else gi 15 j := fun j => by
    rw [e7, uI_n (by omega), e6, uI_s, updA, e5, uI_s, updA, e4, uI_s, updA, e3, uI_s, updA, e2, uI_s, updA]
  refine k g7 ⟨?_, fun k hk u hu => ?_⟩ fr
  · show g7 14 2 = nI (P.1 + 1)
    rw [e7, uI_s, upd_s, a14, h.1, nI_add]
  · have hk : k < P.1 + 1 := hk
    show g7 15 (k * 5 + u) = iI ((if k = P.1 then sg5 w x y z v else P.2 k) u)
    rw [at15]
    by_cases e : k = P.1
    · rw [if_pos e, e]
      unfold sg5
      rcases (show u = 0 ∨ u = 1 ∨ u = 2 ∨ u = 3 ∨ u = 4 by omega) with rfl | rfl | rfl | rfl | rfl
      · rw [if_neg (by omega), if_neg (by omega), if_neg (by omega), if_neg (by omega), if_pos (by omega)]; rfl
      · rw [if_neg (by omega), if_neg (by omega), if_neg (by omega), if_pos (by omega)]; rfl
      · rw [if_neg (by omega), if_neg (by omega), if_pos (by omega)]; rfl
      · rw [if_neg (by omega), if_pos (by omega)]; rfl
      · rw [if_pos (by omega)]; rfl
    · rw [if_neg e, if_neg (by omega), if_neg (by omega), if_neg (by omega), if_neg (by omega), if_neg (by omega)]
      exact h.2 k (by omega) u hu
end DC2
