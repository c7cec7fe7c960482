/-! THE CLASS, seventeen: look, next -/
theorem b2i_or (a b : Bool) : b2i a ||| b2i b = b2i (a || b) := by cases a <;> cases b <;> decide
section CQ
variable {σ : Sta} {c : Nat} {gi : Gi} {gl : Gl} {Q : Gi → Gl → Prop} {Qi : Int32 → Gi → Gl → Prop} {Ql : Int64 → Gi → Gl → Prop} {T : Twn} {P : Pic} {p : Nat}
def Lk (gi g : Gi) : Prop := ∀ z, z ≠ 31 → z ≠ 32 → g z = gi z
theorem Lk.E {g : Gi} {l : Gl} (h : Lk gi g) (hl : l 4 = gl 4) (m : CE T gi gl) : CE T g l := ⟨cTown_congr (fun b _ _ => h b (by omega) (by omega)) hl m.1, m.2⟩
theorem Lk.S {g : Gi} (h : Lk gi g) (hp : 35 < p) (m : CS T P gi p) : CS T P g p := m.congr (h _ (by omega) (by omega)) (h _ (by omega) (by omega))
theorem Lk.M {g : Gi} (h : Lk gi g) (hp : 35 < p) (m : cMom T P gi (p + 2)) : cMom T P g (p + 2) := ⟨fun r hr => by rw [h _ (by omega) (by omega)]; exact m.1 r hr, fun mo hm r hr => by rw [h _ (by omega) (by omega)]; exact m.2.1 mo hm r hr, fun mo hm => by rw [h _ (by omega) (by omega)]; exact m.2.2.1 mo hm, fun mo hm => by rw [h _ (by omega) (by omega)]; exact m.2.2.2 mo hm⟩
theorem s_X5_names (vt : vTown T) (hs : CS T P gi p) {k i : Nat} (hk : k < P.1) (hi : i < 100) (h : Qi (b2i (nmK P i k)) gi gl) : p_X5_names p (nI k) (nI i) gi gl Qi := by
  have vs := hs.vs hk
  have r0 := vSign_r0 vs
  have c0 := cnt4 vt (k := 0) (by omega)
  have r1 : P.2 k 0 ≤ 1 → 0 ≤ P.2 k 1 ∧ P.2 k 1 < 100 := fun h => by
    rcases vs with ⟨q | q, a, b, -⟩ | ⟨q | q, -⟩ | ⟨q, -⟩ | ⟨q, -⟩ | ⟨q, -⟩ | ⟨q, -⟩ | ⟨q | q, -⟩ <;> omega
  have two : P.2 k 0 ≤ 1 → p_X5_tells p (nI k) 1 gi gl (fun r6 gi4 gl5 => if ¬ r6 = nI i then Qi 0 gi4 gl5 else Qi 1 gi4 gl5) := fun h1 => by
    have r1 := r1 h1
    unfold nmK at h
    rw [decide_eq_true h1, Bool.true_and] at h
    refine s_X5_tells hs (w := 1) hk (by omega) ?_
    refine d_ne (P.2 k 1) i rfl (iI_n _).symm (by omega) (by omega) (fun q => ?_) (fun q => ?_)
    · rw [decide_eq_false q] at h; exact h
    · rw [decide_eq_true q] at h; exact h
  refine v_X5_names hs.2.2.2.1 hs.2.2.2.2.1 ?_
  unfold f_X5_names
  refine s_X5_tells hs (w := 0) hk (by omega) ?_
  refine d_eq (P.2 k 0) 0 rfl rfl (by omega) (by omega) (fun q => two (by omega)) (fun q => ?_)
  refine d_ne (P.2 k 0) 1 rfl rfl (by omega) (by omega) (fun q2 => ?_) (fun q2 => two (by omega))
  unfold nmK at h
  rw [decide_eq_false (by omega), Bool.false_and] at h
  exact h
theorem s_X3_countAhead (m : CE T gi gl) (hs : CS T P gi p) (hm : cMom T P gi (p + 2)) (hp : 35 < p) {i : Nat} (hi : i < 100)
    (h : ∀ g, Lk gi g → g 31 3 = b2i (fSt P i P.1) → g 31 4 = b2i (fLa P i P.1) → (∀ n, n ≤ 3600 → g 32 n = nI (sumN (wD T P i) n)) → Q g gl) : p_X3_countAhead p (nI i) gi gl Q := by
  have hN := hs.2.2.2.1
  have hK := hs.2.2.2.2.1
  have hc := hs.2.1
  obtain ⟨hN2, hK2⟩ := mom_k hN hK
  -- the days
  have days : ∀ r, r ≤ 120 → ∀ g, Lk gi g → g 31 3 = b2i (fSt P i P.1) → g 31 4 = b2i (fLa P i P.1) → (∀ n, n < r * 30 → g 32 n = nI (sumN (wD T P i) n)) → p_X3_countAhead_91 p (nI i) (nI (sumN (wD T P i) (r * 30))) (nI r) g gl Q := by
    refine dn ?_ ?_
    · intro g w f3 f4 f32
      refine v_X3_countAhead_91 hN hK ?_
      unfold f_X3_countAhead_91
      refine ifT (by decide) ?_
      rintro g1 rfl
      refine h _ (fun z h1 h2 => by rw [uI_n h2]; exact w z h1 h2) (by rw [uI_n (by omega)]; exact f3) (by rw [uI_n (by omega)]; exact f4) (fun n hn => ?_)
      rw [uI_s, updA, show (3600 : Int32).toNatClampNeg = 3600 by rfl]
      by_cases e : n = 3600
      · rw [if_pos e, e]
      · rw [if_neg e]; exact f32 n (by omega)
    · intro r hr ih g w f3 f4 f32
      refine v_X3_countAhead_91 hN hK ?_
      unfold f_X3_countAhead_91
      refine c_le 120 r rfl rfl (by omega) (by omega) (fun y => by omega) (fun _ => ?_)
      have hs' := w.S hp hs
      have hm' := w.M hp hm
      have hE' := w.E (l := gl) rfl m
      have last : ∀ f : Nat → Bool, (∀ j, j < 30 → f j = bsD T P i (r * 30 + j)) → p_X5_moments p g gl (fun o10 gi4 gl5 => (o10 = none → False) ∧ (∀ b6 : Nat, o10 = some b6 → b6 < NN → sK b6 = 4 → p_X4_minutesIn b6 (jr (nI r) 12) gi4 gl5 (fun r9 gi7 gl8 => p_X3_countAhead_175 p (nI i) (nI (sumN (wD T P i) (r * 30))) (nI r) (nI (bN f 30)) r9 0 gi7 gl8 Q))) := by
        intro f hf
        refine c_mom hN hK ?_
        rw [jr12 (by omega)]
        refine s_X4_minutesIn hN2 hK2 hm' (by omega) ?_
        refine dn (P := fun j => ∀ g2, Lk gi g2 → g2 31 3 = b2i (fSt P i P.1) → g2 31 4 = b2i (fLa P i P.1) → (∀ n, n < r * 30 + j → g2 32 n = nI (sumN (wD T P i) n)) → p_X3_countAhead_175 p (nI i) (nI (sumN (wD T P i) (r * 30 + j))) (nI r) (nI (bN f 30)) (nI (pCnt T P (r % 12))) (nI j) g2 gl Q) (N := 30) ?_ ?_ 0 (by omega) g w f3 f4 f32
        · intro g2 w2 k3 k4 k32
          refine v_X3_countAhead_175 hN hK ?_
          unfold f_X3_countAhead_175
          refine ifT (by decide) ?_
          rw [nI_1]
          rw [Nat.add_mul, Nat.one_mul] at ih
          exact ih g2 w2 k3 k4 k32
        · intro j hj ih2 g2 w2 k3 k4 k32
          refine v_X3_countAhead_175 hN hK ?_
          unfold f_X3_countAhead_175
          refine c_le 30 j rfl rfl (by omega) (by omega) (fun y => by omega) (fun _ => ?_)
          rw [show (30 : Int32) = nI 30 by rfl, mulN, nI_add, nI_cl (by omega)]
          refine ⟨vp_nI (by omega) (by omega), ?_⟩
          rintro g1 rfl z2 rfl
          rw [jab_b hj, hf j hj, nI_1]
          have e : nI (sumN (wD T P i) (r * 30 + j)) + b2i (bsD T P i (r * 30 + j)) * nI (pCnt T P (r % 12)) = nI (sumN (wD T P i) (r * 30 + (j + 1))) := by
            show _ = nI (sumN (wD T P i) (r * 30 + j + 1))
            rw [sumN_s]
            unfold wD
            rw [mth_row hj]
            cases bsD T P i (r * 30 + j) with
            | true => rw [b2i_t, show (1 : Int32) = nI 1 by rfl, mulN, nI_add, Nat.one_mul]; rfl
            | false => rw [b2i_f, show (0 : Int32) = nI 0 by rfl, mulN, nI_add, Nat.zero_mul]; rfl
          rw [e]
          refine ih2 _ (fun z h1 h2 => by rw [uI_n h2]; exact w2 z h1 h2) (by rw [uI_n (by omega)]; exact k3) (by rw [uI_n (by omega)]; exact k4) (fun n hn => ?_)
          rw [uI_s, updA]
          by_cases q : n = r * 30 + j
          · rw [if_pos q, q]
          · rw [if_neg q]; exact k32 n (by omega)
      refine dn (P := fun k => p_X3_countAhead_105 p (nI i) (nI (sumN (wD T P i) (r * 30))) (nI r) (nI (bN (fun j => allK (fun k => nmK P i k || sD T 0 nosu (P.2 k) (r * 30 + j : Nat)) k) 30)) (nI k) g gl Q) (N := P.1) ?_ ?_ 0 (Nat.zero_le _) |> (fun z => by rw [fullN]; exact z)
      · refine v_X3_countAhead_105 hN hK ?_
        unfold f_X3_countAhead_105
        refine s_X5_size hs' (ifT (by rw [nI_leI (by omega) (by omega)]; omega) ?_)
        exact last _ (fun j _ => rfl)
      · intro k hk ih2
        refine v_X3_countAhead_105 hN hK ?_
        unfold f_X3_countAhead_105
        refine s_X5_size hs' ?_
        refine c_le P.1 k rfl rfl (by omega) (by omega) (fun y => by omega) (fun _ => ?_)
        have b30 := bN30 (f := fun j => allK (fun k => nmK P i k || sD T 0 nosu (P.2 k) (r * 30 + j : Nat)) k)
        refine c_eq _ 0 rfl rfl (by omega) (by omega) (fun z => ?_) (fun _ => ?_)
        · refine last _ (fun j hj => ?_)
          have z' := bN_0.1 z j hj
          rw [z']
          exact (allK_f z' _ (by omega)).symm
        · refine s_X5_names m.2 hs' hk hi ?_
          refine c_b (fun q => ?_) (fun q => ?_)
          · refine s_X2_daysLet (la := 0) hE' hs' hk hr (by omega) ?_
            rintro z24 rfl
            rw [and30, nI_1]
            have : bN (fun j => allK (fun k => nmK P i k || sD T 0 nosu (P.2 k) (r * 30 + j : Nat)) (k + 1)) 30 = bN (fun j => allK (fun k => nmK P i k || sD T 0 nosu (P.2 k) (r * 30 + j : Nat)) k && dRow T 0 (P.2 k) r j) 30 := bN_congr (fun j _ => by rw [allK_s, q, Bool.false_or]; rfl)
            rw [this] at ih2; exact ih2
          · rintro z25 rfl
            rw [fullN, and30, nI_1]
            have : bN (fun j => allK (fun k => nmK P i k || sD T 0 nosu (P.2 k) (r * 30 + j : Nat)) (k + 1)) 30 = bN (fun j => allK (fun k => nmK P i k || sD T 0 nosu (P.2 k) (r * 30 + j : Nat)) k && true) 30 := bN_congr (fun j _ => by rw [allK_s, q, Bool.true_or])
            rw [this] at ih2; exact ih2
  refine v_X3_countAhead hN hK ?_
  unfold f_X3_countAhead
  intro g1 e1 g2 e2
  refine dn (P := fun k => ∀ g, Lk gi g → g 31 3 = b2i (fSt P i k) → g 31 4 = b2i (fLa P i k) → p_X3_countAhead_12 p (nI i) (nI k) g gl Q) (N := P.1) ?_ ?_ 0 (Nat.zero_le _) g2 (fun z h1 h2 => by rw [e2, uI_n h1, e1, uI_n h1]) (by rw [e2, uI_s, upd_n (by omega), e1, uI_s, upd_s]; rfl) (by rw [e2, uI_s, upd_s]; rfl)
  · intro g w f3 f4
    refine v_X3_countAhead_12 hN hK ?_
    unfold f_X3_countAhead_12
    refine s_X5_size (w.S hp hs) (ifT (by rw [nI_leI (by omega) (by omega)]; omega) ?_)
    exact days 0 (by omega) g w f3 f4 (fun n hn => by omega)
  · intro k hk ih g w f3 f4
    have hs' := w.S hp hs
    have r0 := vSign_r0 (hs.vs hk)
    have eS : fSt P i (k + 1) = (fSt P i k || (nmK P i k && decide (P.2 k 0 = 0))) := by
      unfold fSt; rw [allK_s]
      cases allK (fun k => !(nmK P i k && decide (P.2 k 0 = 0))) k <;> cases (nmK P i k && decide (P.2 k 0 = 0)) <;> rfl
    have eL : fLa P i (k + 1) = (fLa P i k || (nmK P i k && decide (P.2 k 0 = 1))) := by
      unfold fLa; rw [allK_s]
      cases allK (fun k => !(nmK P i k && decide (P.2 k 0 = 1))) k <;> cases (nmK P i k && decide (P.2 k 0 = 1)) <;> rfl
    rw [eS, eL] at ih
    refine v_X3_countAhead_12 hN hK ?_
    unfold f_X3_countAhead_12
    refine s_X5_size hs' ?_
    refine c_le P.1 k rfl rfl (by omega) (by omega) (fun y => by omega) (fun _ => ?_)
    refine s_X5_names m.2 hs' hk hi ?_
    refine c_b (fun q => ?_) (fun q => ?_)
    · rw [q, Bool.false_and, Bool.false_and, Bool.or_false, Bool.or_false] at ih
      rw [nI_1]
      exact ih g w f3 f4
    · rw [q, Bool.true_and, Bool.true_and] at ih
      have body : p_X3_countAhead_51 p (nI i) (nI k) (b2i (fSt P i k || decide (P.2 k 0 = 0))) g gl Q := by
        refine v_X3_countAhead_51 hN hK ?_
        unfold f_X3_countAhead_51
        refine ⟨b2i_01 _, ?_⟩
        intro g3 e3
        have w3 : Lk gi g3 := fun z h1 h2 => by rw [e3, uI_n h1]; exact w z h1 h2
        have f4' : g3 31 4 = b2i (fLa P i k) := by rw [e3, uI_s, upd_n (by omega)]; exact f4
        have f3' : g3 31 3 = b2i (fSt P i k || decide (P.2 k 0 = 0)) := by rw [e3, uI_s, upd_s]
        rw [f4']
        refine c_nb (fun qa => ?_) (fun qa => ?_)
        · intro g5 e5
          rw [nI_1]
          rw [qa, Bool.true_or] at ih
          exact ih g5 (fun z h1 h2 => by rw [e5, uI_n h1]; exact w3 z h1 h2) (by rw [e5, uI_s, upd_n (by omega)]; exact f3') (by rw [e5, uI_s, upd_s]; rfl)
        · rw [qa, Bool.false_or] at ih
          refine s_X5_tells (w3.S hp hs) (w := 0) hk (by omega) ?_
          refine d_ne (P.2 k 0) 1 rfl rfl (by omega) (by omega) (fun n1 => ?_) (fun n1 => ?_)
          · intro g5 e5
            rw [nI_1]
            rw [decide_eq_false n1] at ih
            exact ih g5 (fun z h1 h2 => by rw [e5, uI_n h1]; exact w3 z h1 h2) (by rw [e5, uI_s, upd_n (by omega)]; exact f3') (by rw [e5, uI_s, upd_s]; rfl)
          · intro g5 e5
            rw [nI_1]
            rw [decide_eq_true n1] at ih
            exact ih g5 (fun z h1 h2 => by rw [e5, uI_n h1]; exact w3 z h1 h2) (by rw [e5, uI_s, upd_n (by omega)]; exact f3') (by rw [e5, uI_s, upd_s]; rfl)
      rw [f3]
      refine c_nb (fun qs => ?_) (fun qs => ?_)
      · rw [qs, Bool.true_or] at body
        exact body
      · rw [qs, Bool.false_or] at body
        refine s_X5_tells hs' (w := 0) hk (by omega) ?_
        refine d_ne (P.2 k 0) 0 rfl rfl (by omega) (by omega) (fun n0 => ?_) (fun n0 => ?_)
        · rw [decide_eq_false n0] at body
          exact body
        · rw [decide_eq_true n0] at body
          exact body
end CQ
