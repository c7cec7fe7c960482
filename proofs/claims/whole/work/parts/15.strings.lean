/-! strings: length() and charAt(int) of a constant -/
theorem bytJt_ok : ∀ i, i < nJt → (bytJt.getD i []).length = lenJt.getD i 0 ∧ ∀ j, j < lenJt.getD i 0 → let v := (bytJt.getD i []).getD j 0; 0 ≤ v ∧ v < 128 ∧ ((v &&& 255).toUInt32 % 65536).toInt32 = v ∧ narrow .char (.int v) = .int v := by decide +kernel
/-- the char at place j of text i -/
def chJ (i j : Nat) : Int32 := (bytJt.getD i []).getD j 0
section ST
variable {gi : Gi} {gl : Gl}
theorem s_coder {a : Nat} {Q : Value → Kp → Gi → Gl → Prop} (ha : a < nJt) (h : Q (.int 0) κF gi gl) : PAt mJ0_coder_7d493 NN NN κF 0 (ent 1 [.ref (ROB + a)]) [] gi gl Q := by
  show PAt mJ0_coder_7d493 NN NN κF 0 [some (.ref (ROB + a))] [] gi gl _
  refine px_getsCS dJ0_coder_7d493_0 w_470 ?_
  refine px_if_eq_f (tgt := 13) dJ0_coder_7d493_3 (by decide) (by decide) ?_
  refine px_aload_n dJ0_coder_7d493_6 rfl rfl ?_
  refine px_strC dJ0_coder_7d493_7 ha w_1770 ?_
  refine px_goto (tgt := 14) dJ0_coder_7d493_10 (by decide) ?_
  exact px_ireturn dJ0_coder_7d493_14 rfl ⟨.byte, rfl, rfl, by decide⟩ h
theorem s_isLatin1 {a : Nat} {Q : Value → Kp → Gi → Gl → Prop} (ha : a < nJt) (h : Q (.int 1) κF gi gl) : PAt mJ0_isLatin1_aae02 NN NN κF 0 (ent 1 [.ref (ROB + a)]) [] gi gl Q := by
  show PAt mJ0_isLatin1_aae02 NN NN κF 0 [some (.ref (ROB + a))] [] gi gl _
  refine px_getsCS dJ0_isLatin1_aae02_0 w_470 ?_
  refine px_if_eq_f (tgt := 17) dJ0_isLatin1_aae02_3 (by decide) (by decide) ?_
  refine px_aload_n dJ0_isLatin1_aae02_6 rfl rfl ?_
  refine px_strC dJ0_isLatin1_aae02_7 ha w_1770 ?_
  refine px_if_ne_f (tgt := 17) dJ0_isLatin1_aae02_10 (by decide) (by decide) ?_
  refine px_iconst (v := 1) dJ0_isLatin1_aae02_13 (by decide) ?_
  refine px_goto (tgt := 18) dJ0_isLatin1_aae02_14 (by decide) ?_
  exact px_ireturn dJ0_isLatin1_aae02_18 rfl ⟨.boolean, rfl, rfl, by decide⟩ h
theorem s_length {a : Nat} {Q : Int32 → Gi → Gl → Prop} (ha : a < nJt) (h : Q (nI (lenJt.getD a 0)) gi gl) : p_J0_length_8abf5 a gi gl Q := by
  show PAt mJ0_length_8abf5 NN NN κF 0 [some (.ref (ROB + a))] [] gi gl _
  refine px_aload_n dJ0_length_8abf5_0 rfl rfl ?_
  refine px_strV dJ0_length_8abf5_1 ha w_1769 ?_
  refine px_strL (v := nI (lenJt.getD a 0)) dJ0_length_8abf5_4 ha rfl ?_
  refine px_aload_n dJ0_length_8abf5_5 rfl rfl ?_
  refine px_callVS_I (As := []) (st := [.int (nI (lenJt.getD a 0))]) dJ0_length_8abf5_6 lk_J0_335.1 lk_J0_335.2 (b := a) ha rfl (by decide) rfl (Nat.le_of_ble_eq_true rfl) rfl rfl (Nat.le_of_ble_eq_true rfl) ⟨Nat.le_refl _, Nat.le_refl _, Nat.le_refl _⟩ ?_
  refine s_coder ha ?_
  refine px_ishr dJ0_length_8abf5_9 ?_
  refine px_namei (y := nI (lenJt.getD a 0)) (sb_shr0 _).symm ?_
  exact px_ireturn dJ0_length_8abf5_10 rfl ⟨.int, rfl, rfl, rfl⟩ ⟨rfl, _, rfl, h⟩
theorem s_pcheck {x n : Int32} {v : Value} {Q : Value → Kp → Gi → Gl → Prop} (hv : v.category = 1) (h0 : ¬ x < 0) (hn : x < n) (h : Q (.int x) κF gi gl) : PAt mJ3_checkIndex_8e157 NN NN κF 0 (ent 3 [.int x, .int n, v]) [] gi gl Q := by
  have e : ent 3 [.int x, .int n, v] = [some (.int x), some (.int n), some v] := by
    cases v <;> first | rfl | (simp [Value.category] at hv)
  rw [e]
  refine px_iload_n dJ3_checkIndex_8e157_0 rfl rfl ?_
  refine px_if_lt_f (tgt := 9) dJ3_checkIndex_8e157_1 (by decide) h0 ?_
  refine px_iload_n dJ3_checkIndex_8e157_4 rfl rfl ?_
  refine px_iload_n dJ3_checkIndex_8e157_5 rfl rfl ?_
  refine px_icmp_lt_t (tgt := 16) dJ3_checkIndex_8e157_6 (by decide) hn ?_
  refine px_iload_n dJ3_checkIndex_8e157_16 rfl rfl ?_
  exact px_ireturn dJ3_checkIndex_8e157_17 rfl ⟨.int, rfl, rfl, rfl⟩ h
theorem s_checkIndex {x n : Int32} {Q : Value → Kp → Gi → Gl → Prop} (h0 : ¬ x < 0) (hn : x < n) (h : Q .null κF gi gl) : PAt mJ0_checkIndex_df160 NN NN κF 0 (ent 2 [.int x, .int n]) [] gi gl Q := by
  show PAt mJ0_checkIndex_df160 NN NN κF 0 [some (.int x), some (.int n)] [] gi gl _
  refine px_iload_n dJ0_checkIndex_df160_0 rfl rfl ?_
  refine px_iload_n dJ0_checkIndex_df160_1 rfl rfl ?_
  refine px_getsFm dJ0_checkIndex_df160_2 w_486 ?_ ?_
  · refine px_callS_I (As := [.int x, .int n, .null]) (st := []) dJ0_checkIndex_df160_5 lk_J0_1059.1 lk_J0_1059.2 (by decide) rfl (Nat.le_of_ble_eq_true rfl) rfl rfl (Nat.le_of_ble_eq_true rfl) ⟨Nat.le_refl _, Nat.le_refl _, Nat.le_refl _⟩ ?_
    refine s_pcheck rfl h0 hn ?_
    refine px_pop dJ0_checkIndex_df160_8 rfl ?_
    exact px_return dJ0_checkIndex_df160_9 rfl rfl h
  · refine px_callS_I (As := [.int x, .int n, .ref (ROB + 300)]) (st := []) dJ0_checkIndex_df160_5 lk_J0_1059.1 lk_J0_1059.2 (by decide) rfl (Nat.le_of_ble_eq_true rfl) rfl rfl (Nat.le_of_ble_eq_true rfl) ⟨Nat.le_refl _, Nat.le_refl _, Nat.le_refl _⟩ ?_
    refine s_pcheck rfl h0 hn ?_
    refine px_pop dJ0_checkIndex_df160_8 rfl ?_
    exact px_return dJ0_checkIndex_df160_9 rfl rfl h
theorem s_charAtL {a j : Nat} {Q : Value → Kp → Gi → Gl → Prop} (ha : a < nJt) (hj : j < lenJt.getD a 0) (h : Q (.int (chJ a j)) κF gi gl) : PAt mJ1_charAt_3b067 NN NN κF 0 (ent 2 [.ref (ROB + (100 + a)), .int (nI j)]) [] gi gl Q := by
  have hb := (bytJt_ok a ha).2 j hj
  have hl : lenJt.getD a 0 < 2 ^ 31 := (show ∀ i, i < nJt → lenJt.getD i 0 < 2 ^ 31 by decide +kernel) a ha
  show PAt mJ1_charAt_3b067 NN NN κF 0 [some (.ref (ROB + (100 + a))), some (.int (nI j))] [] gi gl _
  refine px_iload_n dJ1_charAt_3b067_0 rfl rfl ?_
  refine px_aload_n dJ1_charAt_3b067_1 rfl rfl ?_
  refine px_strL (v := nI (lenJt.getD a 0)) dJ1_charAt_3b067_2 ha rfl ?_
  refine px_callS_V (As := [.int (nI j), .int (nI (lenJt.getD a 0))]) (st := []) dJ1_charAt_3b067_3 lk_J1_9.1 lk_J1_9.2 (by decide) rfl (Nat.le_of_ble_eq_true rfl) rfl rfl (Nat.le_of_ble_eq_true rfl) ⟨Nat.le_refl _, Nat.le_refl _, Nat.le_refl _⟩ ?_
  refine s_checkIndex (nI_pos (by omega)) (nI_lt hj hl) ?_
  refine px_aload_n dJ1_charAt_3b067_6 rfl rfl ?_
  refine px_iload_n dJ1_charAt_3b067_7 rfl rfl ?_
  refine px_strB (v := chJ a j) dJ1_charAt_3b067_8 ha (vp_in_nI hj hl) (by rw [nI_clamp (by omega)]; rfl) ?_
  refine px_sipush (v := 255) dJ1_charAt_3b067_9 (by decide) ?_
  refine px_iand dJ1_charAt_3b067_12 ?_
  refine px_i2c dJ1_charAt_3b067_13 ?_
  refine px_namei (y := chJ a j) hb.2.2.1.symm ?_
  exact px_ireturn dJ1_charAt_3b067_14 rfl ⟨.char, rfl, rfl, hb.2.2.2⟩ h
theorem s_charAt {a j : Nat} {Q : Int32 → Gi → Gl → Prop} (ha : a < nJt) (hj : j < lenJt.getD a 0) (h : Q (chJ a j) gi gl) : p_J0_charAt_5068e a (nI j) gi gl Q := by
  have hb := (bytJt_ok a ha).2 j hj
  show PAt mJ0_charAt_5068e NN NN κF 0 [some (.ref (ROB + a)), some (.int (nI j))] [] gi gl _
  refine px_aload_n dJ0_charAt_5068e_0 rfl rfl ?_
  refine px_callVS_I (As := []) (st := []) dJ0_charAt_5068e_1 lk_J0_492.1 lk_J0_492.2 (b := a) ha rfl (by decide) rfl (Nat.le_of_ble_eq_true rfl) rfl rfl (Nat.le_of_ble_eq_true rfl) ⟨Nat.le_refl _, Nat.le_refl _, Nat.le_refl _⟩ ?_
  refine s_isLatin1 ha ?_
  refine px_if_eq_f (tgt := 16) dJ0_charAt_5068e_4 (by decide) (by decide) ?_
  refine px_aload_n dJ0_charAt_5068e_7 rfl rfl ?_
  refine px_strV dJ0_charAt_5068e_8 ha w_1769 ?_
  refine px_iload_n dJ0_charAt_5068e_11 rfl rfl ?_
  refine px_callS_I (As := [.ref (ROB + (100 + a)), .int (nI j)]) (st := []) dJ0_charAt_5068e_12 lk_J0_495.1 lk_J0_495.2 (by decide) rfl (Nat.le_of_ble_eq_true rfl) rfl rfl (Nat.le_of_ble_eq_true rfl) ⟨Nat.le_refl _, Nat.le_refl _, Nat.le_refl _⟩ ?_
  refine s_charAtL ha hj ?_
  exact px_ireturn dJ0_charAt_5068e_15 rfl ⟨.char, rfl, rfl, hb.2.2.2⟩ ⟨rfl, _, rfl, h⟩
end ST
