/-! THE CLASS, twenty-seven: a town's text -/
/-- a statement but its end -/
def rsS (f : Nat → Nat) (n : Nat) (T : Twn) (s : Ps) : Twn × Ps :=
  if isW f n wThing s then rdThing f n T (nxS f n s) else if isW f n wTree s then rdTree f n T (nxS f n s)
  else if isW f n wPost s then rdPost f n T (nxS f n s) else if isW f n wClock s then rdClock f n T (nxS f n s)
  else if isW f n wSun s then rdSun f n T (nxS f n s) else (T, erS s)
theorem rdStat_rs {f : Nat → Nat} {n a : Nat} {T : Twn} : rdStat f n T (.inr a) = smR f n (rsS f n T (.inr a)) := by
  unfold rdStat rsS
  by_cases h1 : isW f n wThing (.inr a) = true
  · rw [if_pos h1, if_pos h1]
  rw [if_neg h1, if_neg h1]
  by_cases h2 : isW f n wTree (.inr a) = true
  · rw [if_pos h2, if_pos h2]
  rw [if_neg h2, if_neg h2]
  by_cases h3 : isW f n wPost (.inr a) = true
  · rw [if_pos h3, if_pos h3]
  rw [if_neg h3, if_neg h3]
  by_cases h4 : isW f n wClock (.inr a) = true
  · rw [if_pos h4, if_pos h4]
  rw [if_neg h4, if_neg h4]
  by_cases h5 : isW f n wSun (.inr a) = true
  · rw [if_pos h5, if_pos h5]
  rw [if_neg h5, if_neg h5]; rfl
section DA
variable {f : Nat → Nat} {n a : Nat} {gi : Gi} {gl : Gl} {Q : Gi → Gl → Prop} {Qi : Int32 → Gi → Gl → Prop} {T : Twn}
theorem Ow.fr {r : Twn × Ps} {g : Gi} {l : Gl} (h : Ow f n r gi gl Qi) (R : Rd gi gl g l) : Ow f n r g l Qi := ⟨fun b g' l' h1 h2 h3 h4 => h.1 b g' l' h1 h2 h3 (R.tr h4), fun e g' l' h1 h2 h4 => h.2 e g' l' h1 h2 (R.tr h4)⟩
theorem Ow.two {r : Twn × Ps} (h : Ow f n r gi gl Qi) : Ow f n r gi gl (fun v g l => (v = 0 ∨ v = 1) ∧ Qi v g l) := ⟨fun b g' l' h1 h2 h3 h4 => ⟨Or.inr rfl, h.1 b g' l' h1 h2 h3 h4⟩, fun e g' l' h1 h2 h4 => ⟨Or.inl rfl, h.2 e g' l' h1 h2 h4⟩⟩
theorem Ow.iff0 {r : Twn × Ps} (h : Ow f n r gi gl Qi) : Ow f n r gi gl (fun v g l => if v = 0 then Qi 0 g l else Qi 1 g l) := ⟨fun b g' l' h1 h2 h3 h4 => ifF (by decide) (h.1 b g' l' h1 h2 h3 h4), fun e g' l' h1 h2 h4 => ifT rfl (h.2 e g' l' h1 h2 h4)⟩
theorem s_readsStatement (m : SC f n a gi) (D : cTown T gi gl 8) (vt : vTown T) (h : Ow f n (rsS f n T (.inr a)) gi gl Qi) : p_X7_readsStatement gi gl Qi := by
  have ei : ∀ w, isW f n w (.inr a) = decide (wd f n a = w) := fun _ => rfl
  have en0 : nxS f n (.inr a) = .inr (nx f n a) := rfl
  unfold rsS at h
  rw [en0, ei, ei, ei, ei, ei] at h
  refine v_X7_readsStatement ?_
  unfold f_X7_readsStatement
  refine s_X8_takes tx_0 m (fun w g fg mg => ?_) (fun w => ?_)
  · rw [decide_eq_true w] at h
    refine ifF (by decide) ?_
    exact s_readsThing mg (cTown8_F22 fg D) vt (h.fr fg.R).two
  rw [decide_eq_false w, if_neg Bool.false_ne_true] at h
  refine ifT rfl ?_
  refine s_X8_takes tx_5 m (fun w g fg mg => ?_) (fun w => ?_)
  · rw [decide_eq_true w] at h
    refine ifF (by decide) ?_
    exact s_readsTree mg (cTown8_F22 fg D) vt (h.fr fg.R).two
  rw [decide_eq_false w, if_neg Bool.false_ne_true] at h
  refine ifT rfl ?_
  refine s_X8_takes tx_8 m (fun w g fg mg => ?_) (fun w => ?_)
  · rw [decide_eq_true w] at h
    refine ifF (by decide) ?_
    exact s_readsPost mg (cTown8_F22 fg D) vt (h.fr fg.R).two
  rw [decide_eq_false w, if_neg Bool.false_ne_true] at h
  refine ifT rfl ?_
  refine s_X8_takes tx_9 m (fun w g fg mg => ?_) (fun w => ?_)
  · rw [decide_eq_true w] at h
    refine ifF (by decide) ?_
    exact s_readsClock mg (cTown8_F22 fg D) vt (h.fr fg.R).two
  rw [decide_eq_false w, if_neg Bool.false_ne_true] at h
  refine ifT rfl ?_
  refine s_X8_takes tx_12 m (fun w g fg mg => ?_) (fun w => ?_)
  · rw [decide_eq_true w] at h
    refine ifF (by decide) ?_
    exact s_readsSun mg (cTown8_F22 fg D) vt (h.fr fg.R).iff0
  rw [decide_eq_false w, if_neg Bool.false_ne_true] at h
  exact ifT rfl (h.2 a gi gl rfl m Rd.rf)
theorem s_readsTown_17 : ∀ k a g l T, tCnt T 5 + k = 60 → SC f n a g → cTown T g l 8 → vTown T → Ow f n (tnL f n (k + 1) T (.inr a)) g l Qi → p_X7_readsTown_17 (nI (tCnt T 5)) g l Qi := by
  intro k
  induction k with
  | zero =>
    intro a g l T hk m D vt h
    have e : tnL f n 1 T (.inr a) = if enS n (.inr a) then (T, .inr a) else (T, .inl a) := rfl
    rw [e] at h
    have eE : enS n (.inr a) = decide (n ≤ a) := rfl
    rw [eE] at h
    refine v_X7_readsTown_17 ?_
    unfold f_X7_readsTown_17
    refine ifT (by rw [show (60 : Int32) = nI 60 by rfl, nI_leI (by omega) (by omega)]; omega) ?_
    refine m.ended ?_
    cases hd : decide (n ≤ a) with
    | true =>
      rw [hd] at h
      exact ⟨Or.inr rfl, h.1 a g l rfl m D Rd.rf⟩
    | false =>
      rw [hd] at h
      exact ⟨Or.inl rfl, h.2 a g l rfl m Rd.rf⟩
  | succ k ih =>
    intro a g l T hk m D vt h
    have e : tnL f n (k + 1 + 1) T (.inr a) = if enS n (.inr a) then (T, .inr a) else tnL f n (k + 1) (addSt (rdStat f n T (.inr a)).1) (rdStat f n T (.inr a)).2 := by
      show (if enS n (.inr a) then (T, Sum.inr a) else if k + 1 = 0 then (T, erS (.inr a)) else tnL f n (k + 1) (addSt (rdStat f n T (.inr a)).1) (rdStat f n T (.inr a)).2) = _
      rw [if_neg (show ¬ k + 1 = 0 by omega)]
    rw [e] at h
    have eE : enS n (.inr a) = decide (n ≤ a) := rfl
    rw [eE] at h
    refine v_X7_readsTown_17 ?_
    unfold f_X7_readsTown_17
    refine c_le 60 (tCnt T 5) rfl rfl (by omega) (by omega) (fun y => by omega) (fun _ => ?_)
    refine m.ended ?_
    cases hd : decide (n ≤ a) with
    | true =>
      rw [hd] at h
      refine ifT (by decide) ?_
      refine m.ended ?_
      rw [hd]
      exact ⟨Or.inr rfl, h.1 a g l rfl m D Rd.rf⟩
    | false =>
      rw [hd, if_neg Bool.false_ne_true] at h
      refine ifF (by decide) ?_
      have hv := v_rdStat (f := f) (n := n) (s := .inr a) vt
      have h5 := rdStat_5 (f := f) (n := n) (T := T) (s := .inr a)
      have er := rdStat_rs (f := f) (n := n) (a := a) (T := T)
      have stop : ∀ e' T' g' l', SC f n e' g' → Rd g l g' l' → rdStat f n T (.inr a) = (T', .inl e') → Qi 0 g' l' := fun e' T' g' l' m' R' e2 => by
        rw [e2] at h
        exact h.2 e' g' l' rfl m' R'
      refine s_readsStatement m D vt ⟨fun b g1 l1 k1 m1 D1 R1 => ?_, fun e' g1 l1 k1 m1 R1 => ?_⟩
      · refine ifF (by decide) ?_
        have er2 : rdStat f n T (.inr a) = ((rsS f n T (.inr a)).1, smS f n (.inr b)) := by rw [er]; unfold smR; rw [k1]
        refine s_X8_takesSemicolon m1 (fun w g2 f2 m2 => ?_) (fun w => ?_)
        · have es : smS f n (.inr b) = .inr (nx f n b) := by
            unfold smS
            rw [show smO f n (.inr b) = true from decide_eq_true w]; rfl
          rw [es] at er2
          rw [er2] at h hv h5
          have hv := hv rfl
          have h5 : tCnt (rsS f n T (.inr a)).1 5 = tCnt T 5 := h5
          refine ifT (by decide) ?_
          refine v_X10_tellStatement zl_8 zk_8 ?_
          unfold f_X10_tellStatement
          intro g3 e3
          have D2 := cTown8_F22 f2 D1
          have c9 : g2 (8 + 1) 5 = nI (tCnt T 5) := by rw [← h5]; exact D2.1 5 (by omega)
          rw [show (5 : Int32).toNatClampNeg = 5 by rfl, c9, nI_1] at e3
          have f3 : ∀ z, z ≠ 9 → g3 z = g2 z := fun z hz => by rw [e3]; exact uI_n hz
          have c5 : tCnt (addSt (rsS f n T (.inr a)).1) 5 = tCnt T 5 + 1 := by
            have : tCnt (addSt (rsS f n T (.inr a)).1) 5 = tCnt (rsS f n T (.inr a)).1 5 + 1 := rfl
            rw [this, h5]
          rw [nI_1, ← c5]
          refine ih (nx f n b) g3 l1 _ (by omega) (m2.fr (fun z hz => f3 z (by omega))) ⟨fun c hc => ?_, fun c hc i hi => ⟨(D2.2.1 c hc i (by
            have hi : i < (if c = 5 then tCnt (rsS f n T (.inr a)).1 c + 1 else tCnt (rsS f n T (.inr a)).1 c) := hi
            rw [if_neg (by omega)] at hi; exact hi)).1, fun j hj => ?_⟩, fun m hm => ?_⟩ (v_addSt hv (by omega)) (h.fr ((R1.tr f2.R).tr ⟨fun z q _ _ _ _ => f3 z q, fun _ _ => rfl⟩))
          · show g3 9 c = nI (if c = 5 then tCnt (rsS f n T (.inr a)).1 c + 1 else tCnt (rsS f n T (.inr a)).1 c)
            rw [e3]
            show uI g2 9 (upd (g2 9) 5 (nI (tCnt T 5 + 1))) 9 c = _
            rw [uI_s, updA]
            by_cases e : c = 5
            · rw [if_pos e, if_pos e, e, h5]
            · rw [if_neg e, if_neg e]; exact D2.1 c hc
          · show g3 11 _ = _
            rw [f3 11 (by omega)]
            exact (D2.2.1 c hc i (by
              have hi : i < (if c = 5 then tCnt (rsS f n T (.inr a)).1 c + 1 else tCnt (rsS f n T (.inr a)).1 c) := hi
              rw [if_neg (by omega)] at hi; exact hi)).2 j hj
          · show g3 12 m = _ ∧ _
            rw [f3 12 (by omega)]
            refine ⟨(D2.2.2 m hm).1, fun r q hq => ?_⟩
            show g3 13 _ = _ ∧ g3 13 _ = _ ∧ g3 13 _ = _
            rw [f3 13 (by omega)]
            exact (D2.2.2 m hm).2 r q hq
        · have es : smS f n (.inr b) = .inl b := by
            unfold smS
            rw [show smO f n (.inr b) = false from decide_eq_false w]; rfl
          rw [es] at er2
          exact ifF (by decide) (stop b _ g1 l1 m1 R1 er2)
      · refine ifT rfl ?_
        have er2 : rdStat f n T (.inr a) = ((rsS f n T (.inr a)).1, .inl e') := by
          rw [er]; unfold smR; rw [k1]; rfl
        exact stop e' _ g1 l1 m1 R1 er2
end DA
