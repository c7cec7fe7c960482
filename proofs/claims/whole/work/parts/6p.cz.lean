/-! THE CLASS, twenty-six: a statement, as it is read -/
section CZ
variable {f : Nat → Nat} {n a : Nat} {gi : Gi} {gl : Gl} {Q : Gi → Gl → Prop} {Qi : Int32 → Gi → Gl → Prop} {T : Twn}
theorem cTown8_F22 {g : Gi} (h : F22 gi g) (D : cTown T gi gl 8) : cTown T g gl 8 := cTown_congr (fun b _ _ => h b (by omega)) rfl D
theorem s_readsSun (m : SC f n a gi) (D : cTown T gi gl 8) (vt : vTown T) (h : Ow f n (rdSun f n T (.inr a)) gi gl Qi) : p_X7_readsSun gi gl Qi := by
  unfold Ow rdSun at h
  have h40 : tCnt T 4 ≤ 40 := vt.1 4 (by omega)
  have e0 : su0 T (.inr a) = if tCnt T 4 = 40 then .inl a else .inr a := rfl
  have eM : suM f n T (.inr a) = nuV f n 0 11 (su0 T (.inr a)) := rfl
  have e1 : su1 f n T (.inr a) = nuS f n 0 11 (su0 T (.inr a)) := rfl
  have e2 : su2 f n T (.inr a) = nuS f n (lastMin T (suM f n T (.inr a)).toNat + 1) 719 (su1 f n T (.inr a)) := rfl
  have eT : suT f n T (.inr a) = nuV f n (lastMin T (suM f n T (.inr a)).toNat + 1) 719 (su1 f n T (.inr a)) := rfl
  have e3 : su3 f n T (.inr a) = faS f n wEast wWest (su2 f n T (.inr a)) := rfl
  have e4 : su4 f n T (.inr a) = faS f n wNorth wSouth (su3 f n T (.inr a)) := rfl
  refine v_X7_readsSun ?_
  unfold f_X7_readsSun
  refine s_takesSun D vt ?_
  refine c_nb (fun q => ?_) (fun q => ?_)
  · have q := of_decide_eq_true q
    rw [if_neg q] at e0
    rw [e0] at eM e1
    refine s_X8_takeNumber (lo := 0) (hi := 11) (by omega) (by omega) m (fun w1 g1 f1 m1 => ?_) (fun w1 => ?_)
    · rw [(nu_t w1).1] at e1
      rw [(nu_t w1).2] at eM
      have hv := (nuO_hi w1).2.1
      rw [e1, eM, Int.toNat_natCast] at e2 eT
      generalize nx f n a = a1 at *
      generalize vl f n a = mo at *
      rw [eM, Int.toNat_natCast] at h
      have D1 := cTown8_F22 f1 D
      have lb := lastMin_bd (m := mo) vt
      refine c_ne' mo (by omega) ?_
      refine s_lastMin D1 vt (by omega) ?_
      rw [show (1 : Int32) = iI 1 by rfl, iI_add]
      refine s_X8_takeNumber (lo := lastMin T mo + 1) (hi := 719) (by omega) (by omega) m1 (fun w2 g2 f2 m2 => ?_) (fun w2 => ?_)
      · rw [(nu_t w2).1] at e2
        rw [(nu_t w2).2] at eT
        have hv2 := (nuO_hi w2).2.1
        generalize nx f n a1 = a2 at *
        generalize vl f n a1 = t at *
        rw [e2] at e3
        rw [eT, e2, Int.toNat_natCast] at h
        have F2 := f1.tr f2
        refine c_ne' t (by omega) ?_
        refine s_takeLong tx_13 tx_14 m2 (fun b g3 k3 f3 m3 l1 l2 => ?_) (fun e g3 k3 f3 m3 => ?_)
        · rw [k3] at e3
          rw [e3] at e4 h
          refine d_ne _ 100 rfl rfl (by omega) (by omega) (fun _ => ?_) (fun y => by omega)
          have F3 := F2.tr f3
          refine s_takeLong tx_15 tx_16 m3 (fun b g4 k4 f4 m4 l3 l4 => ?_) (fun e g4 k4 f4 m4 => ?_)
          · rw [k4] at e4
            rw [e4] at h
            have F4 := F3.tr f4
            refine v_X7_readsSun_105 ?_
            unfold f_X7_readsSun_105
            refine d_ne _ 100 rfl rfl (by omega) (by omega) (fun _ => ?_) (fun y => by omega)
            refine s_X10_tellSun (cTown8_F22 F4 D) vt q (by omega) (fun g5 D5 fr => ?_)
            exact h.1 b g5 gl rfl (m4.fr (fun z hz => fr z (by omega) (by omega) (by omega))) D5 (F4.R.tr ⟨fun z q1 _ q3 q4 _ => fr z q1 q3 q4, fun _ _ => rfl⟩)
          · rw [k4] at e4
            rw [e4] at h
            refine v_X7_readsSun_105 ?_
            unfold f_X7_readsSun_105
            exact ifF (by decide) (h.2 e g4 gl rfl m4 (F3.tr f4).R)
        · rw [k3] at e3
          have e4' : su4 f n T (.inr a) = .inl e := by rw [e4, e3]; rfl
          rw [e4'] at h
          refine ifF (by decide) ?_
          refine v_X7_readsSun_105 ?_
          unfold f_X7_readsSun_105
          exact ifF (by decide) (h.2 e g3 gl rfl m3 (F2.tr f3).R)
      · rw [nu_f w2] at e2
        have e4' : su4 f n T (.inr a) = .inl a1 := by rw [e4, e3, e2]; rfl
        rw [e4'] at h
        refine ifF (by decide) ?_
        refine v_X7_readsSun_105 ?_
        unfold f_X7_readsSun_105
        exact ifF (by decide) (h.2 a1 g1 gl rfl m1 f1.R)
    · rw [nu_f w1] at e1
      have e4' : su4 f n T (.inr a) = .inl a := by rw [e4, e3, e2, e1]; rfl
      rw [e4'] at h
      exact ifF (by decide) (h.2 a gi gl rfl m Rd.rf)
  · have q := of_decide_eq_false q
    rw [if_pos (by omega)] at e0
    have e4' : su4 f n T (.inr a) = .inl a := by rw [e4, e3, e2, e1, e0]; rfl
    rw [e4'] at h
    exact h.2 a gi gl rfl m Rd.rf
end CZ
