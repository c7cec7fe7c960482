/-! THE CLASS, five: all of a picture found -/
theorem cntN_split {f : Nat → Bool} {a : Nat} : ∀ n, cntN f (a + n) = cntN f a + cntN (fun i => f (a + i)) n
  | 0 => rfl
  | n + 1 => by rw [show a + (n + 1) = a + n + 1 by omega, cntN_s, cntN_s, cntN_split n]; omega
theorem sumN_split {f : Nat → Nat} {a : Nat} : ∀ n, sumN f (a + n) = sumN f a + sumN (fun i => f (a + i)) n
  | 0 => rfl
  | n + 1 => by rw [show a + (n + 1) = a + n + 1 by omega, sumN_s, sumN_s, sumN_split n]; omega
theorem cnt_find {f : Nat → Bool} {j : Nat} : ∀ n, j < cntN f n → ∃ e, e < n ∧ f e = true ∧ cntN f e = j
  | 0, h => absurd h (Nat.not_lt_zero _)
  | n + 1, h => by
    rw [cntN_s] at h
    by_cases c : j < cntN f n
    · obtain ⟨e, h1, h2, h3⟩ := cnt_find n c
      exact ⟨e, by omega, h2, h3⟩
    · by_cases b : f n = true
      · rw [if_pos b] at h; exact ⟨n, by omega, b, by omega⟩
      · rw [if_neg b] at h; omega
theorem sumN_if {g : Nat → Bool} {c : Nat} : ∀ n, sumN (fun i => if g i then c else 0) n = cntN g n * c
  | 0 => by simp [sumN, cntN]
  | n + 1 => by
    rw [sumN_s, cntN_s, sumN_if n, Nat.add_mul]
    cases g n <;> simp
theorem mth_row {r i : Nat} (hi : i < 30) : mth (r * 30 + i) = r % 12 := by unfold mth; omega
theorem jr12 {r : Nat} (hr : r < 2147483648) : jr (nI r) 12 = nI (r % 12) := jr_n (b := 12) hr (by omega) (by omega)
theorem mom_k {p : Nat} (hp : p < NN) (hk : sK p = 5) : p + 2 < NN ∧ sK (p + 2) = 4 := ⟨ly5_lt2 hp hk, ly5_k2 hp hk⟩
theorem mom_ne {p : Nat} (hp : p < NN) (hk : sK p = 5) : ∀ j, j ≤ 6 → p + j ≠ 23 ∧ (p + j < 2 ∨ 7 < p + j) := by
  have := (show ∀ a, a < 377 → sK a = 5 → ∀ j, j < 7 → a + j ≠ 23 ∧ (a + j < 2 ∨ 7 < a + j) by decide +kernel) p hp hk
  intro j hj; exact this j (by omega)
section CE5
variable {T : Twn} {P : Pic} {p : Nat} {gi : Gi} {gl : Gl}
def dAll (T : Twn) (la : Int) (P : Pic) (r i : Nat) : Bool := pD T la nosu P (r * 30 + i)
def mAll (T : Twn) (P : Pic) (mo r i : Nat) : Bool := pM T P mo (r * 30 + i)
theorem s_X2_daysLater {Q : Int32 → Gi → Gl → Prop} (m : CE T gi gl) (hs : CS T P gi p) {r : Nat} (hr : r < 120) {la : Int} (hla : 0 ≤ la ∧ la ≤ 99) (h : Q (nI (bN (dAll T la P r) 30)) gi gl) : p_X2_daysLater p (nI r) (iI la) gi gl Q := by
  have hc := hs.2.1
  have hN := hs.2.2.2.1
  have hK := hs.2.2.2.2.1
  refine v_X2_daysLater hN hK ?_
  unfold f_X2_daysLater
  rw [fullN]
  refine dn (P := fun j => p_X2_daysLater_7 p (nI r) (iI la) (nI (bN (fun i => allK (fun k => sD T la nosu (P.2 k) ((r * 30 + i : Nat) : Int)) j) 30)) (nI j) gi gl Q) (N := P.1) ?_ ?_ 0 (Nat.zero_le _)
  · refine v_X2_daysLater_7 hN hK ?_
    unfold f_X2_daysLater_7
    refine s_X5_size hs (ifT (by rw [nI_leI (by omega) (by omega)]; omega) h)
  · intro j hj ih
    refine v_X2_daysLater_7 hN hK ?_
    unfold f_X2_daysLater_7
    refine s_X5_size hs ?_
    refine c_le P.1 j rfl rfl (by omega) (by omega) (fun z => by omega) (fun _ => ?_)
    have b0 := bN30 (f := fun i => allK (fun k => sD T la nosu (P.2 k) ((r * 30 + i : Nat) : Int)) j)
    refine c_eq _ 0 rfl rfl (by omega) (by omega) (fun z => ?_) (fun z => ?_)
    · have z' := bN_0.1 z
      rw [show bN (dAll T la P r) 30 = 0 from bN_0.2 (fun i hi => allK_f (z' i hi) _ (by omega))] at h
      rw [z]; exact h
    · refine s_X2_daysLet m hs hj hr hla ?_
      rintro z7 rfl
      rw [and30, nI_1]
      exact ih
theorem fill_30 {Q : Gi → Gl → Prop} (m : CE T gi gl) (hs : CS T P gi p) {mo r : Nat} (hm : mo < 12) (hr : r < 24)
    (h : ∀ g, Cn gi g → p_X2_fill_16 p (p + 2) (nI mo) (nI (r + 1)) (uI g (p + 4) (upd (g (p + 4)) (mo * 24 + r) (nI (bN (mAll T P mo r) 30)))) gl Q) : p_X2_fill_30 p (p + 2) (nI mo) (nI r) 1073741823 0 gi gl Q := by
  have hc := hs.2.1
  have hN := hs.2.2.2.1
  have hK := hs.2.2.2.2.1
  obtain ⟨hN2, hK2⟩ := mom_k hN hK
  have set : ∀ (x : Nat), x = bN (mAll T P mo r) 30 → ∀ g, Cn gi g → p_X4_setMinuteRow (p + 2) (nI mo) (nI r) (nI x) g gl (fun gi4 gl5 => p_X2_fill_16 p (p + 2) (nI mo) (nI r + 1) gi4 gl5 Q) := by
    rintro x rfl g hg
    refine v_X4_setMinuteRow hN2 hK2 ?_
    unfold f_X4_setMinuteRow
    refine c_lt mo 0 rfl rfl (by omega) (by omega) (fun z => by omega) (fun _ => ?_)
    refine c_le 12 mo rfl rfl (by omega) (by omega) (fun z => by omega) (fun _ => ?_)
    refine c_lt r 0 rfl rfl (by omega) (by omega) (fun z => by omega) (fun _ => ?_)
    refine c_le 24 r rfl rfl (by omega) (by omega) (fun z => by omega) (fun _ => ?_)
    rw [show (24 : Int32) = nI 24 by rfl, mulN, nI_add, nI_cl (by omega), nI_1]
    refine ⟨vp_nI (by omega) (by omega), ?_⟩
    rintro g1 rfl
    exact h g hg
  rw [fullN]
  refine dn (P := fun j => ∀ g, Cn gi g → p_X2_fill_30 p (p + 2) (nI mo) (nI r) (nI (bN (fun i => allK (fun k => sM T (P.2 k) mo ((r * 30 + i : Nat) : Int)) j) 30)) (nI j) g gl Q) (N := P.1) ?_ ?_ 0 (Nat.zero_le _) gi Cn.rf
  · intro g hg
    refine v_X2_fill_30 hN hK hN2 hK2 ?_
    unfold f_X2_fill_30
    refine s_X5_size (hg.S hs) (ifT (by rw [nI_leI (by omega) (by omega)]; omega) (set _ rfl g hg))
  · intro j hj ih g hg
    refine v_X2_fill_30 hN hK hN2 hK2 ?_
    unfold f_X2_fill_30
    refine s_X5_size (hg.S hs) ?_
    refine c_le P.1 j rfl rfl (by omega) (by omega) (fun z => by omega) (fun _ => ?_)
    have b0 := bN30 (f := fun i => allK (fun k => sM T (P.2 k) mo ((r * 30 + i : Nat) : Int)) j)
    refine c_eq _ 0 rfl rfl (by omega) (by omega) (fun z => ?_) (fun z => ?_)
    · have z' := bN_0.1 z
      exact set _ (by rw [z]; exact (bN_0.2 (fun i hi => allK_f (z' i hi) _ (by omega))).symm) g hg
    · refine s_X2_minutesLet (hg.E m) (hg.S hs) hj hm hr (fun g2 hg2 => ?_)
      rintro z11 rfl
      rw [and30, nI_1]
      exact ih g2 (hg.tr hg2)
/-- minutes and runs of a month, by rows -/
theorem pCnt_rows {mo : Nat} : pCnt T P mo = sumN (fun r => cntN (mAll T P mo r) 30) 24 := sumN_blocks (f := fun t => if pM T P mo t then 1 else 0) (a := 24) (b := 30)
theorem pRun_rows {mo : Nat} : pRun T P mo = sumN (fun r => cntN (fun i => rB T P mo (r * 30 + i)) 30) 24 := sumN_blocks (f := fun t => if rB T P mo t then 1 else 0) (a := 24) (b := 30)
theorem pDay_row {r i : Nat} (hi : i < 30) : pDay T P (r * 30 + i) = (dAll T 0 P r i && decide (pCnt T P (r % 12) ≠ 0)) := by unfold pDay dAll; rw [mth_row hi]
/-- the bit before a row -/
def bef (T : Twn) (P : Pic) (mo r : Nat) : Bool := if r = 0 then false else pM T P mo (r * 30 - 1)
theorem run_row {mo r : Nat} : nI (bN (mAll T P mo r) 30) &&& (((jl (nI (bN (mAll T P mo r) 30)) 1) ||| b2i (bef T P mo r)) ^^^ (-1)) = nI (bN (fun i => rB T P mo (r * 30 + i)) 30) := by
  have b0 := bN30 (f := mAll T P mo r)
  have hl : jl (nI (bN (mAll T P mo r) 30)) 1 = nI (bN (mAll T P mo r) 30 * 2) := by
    have := jl_m (n := bN (mAll T P mo r) 30) (k := 1) (by omega) (by omega)
    rw [Nat.pow_one] at this
    exact this
  have hb : b2i (bef T P mo r) = nI (if bef T P mo r then 1 else 0) := by cases bef T P mo r <;> rfl
  rw [hl, hb, nx_or, m1_nI, nx_xor, nx_and]
  congr 1
  apply bN_ext
  · exact Nat.lt_of_le_of_lt Nat.and_le_left bN_lt
  · intro i hi
    rw [Nat.testBit_and, Nat.testBit_xor, Nat.testBit_or, Nat.testBit_two_pow_sub_one, bN_bit, show bN (mAll T P mo r) 30 * 2 = 2 ^ 1 * bN (mAll T P mo r) 30 + 0 by omega, Nat.testBit_two_pow_mul_add _ (by omega)]
    unfold rB mAll
    by_cases h0 : i = 0
    · subst h0
      rw [if_pos (by omega)]
      simp only [Nat.zero_testBit, Bool.false_or, Nat.add_zero]
      unfold bef
      by_cases r0 : r = 0
      · subst r0; simp
      · rw [if_neg r0]
        have : ¬ r * 30 = 0 := by omega
        cases pM T P mo (r * 30 - 1) <;> simp [this]
    · rw [if_neg (by omega), bN_bit]
      have e1 : (r * 30 + i == 0) = false := by simp; omega
      have e2 : (if bef T P mo r = true then 1 else 0 : Nat).testBit i = false := by
        cases bef T P mo r
        · simp
        · exact Nat.testBit_lt_two_pow (Nat.lt_of_lt_of_le (by decide : 1 < 2 ^ 1) (Nat.pow_le_pow_right (by omega) (by omega)))
      rw [e1, e2, show r * 30 + i - 1 = r * 30 + (i - 1) by omega]
      simp [hi, show i - 1 < 30 by omega, show i < 32 by omega]
theorem X4_minuteRow {Q : Int32 → Gi → Gl → Prop} {a : Nat} (hN : a < NN) (hK : sK a = 4) {mo r : Nat} (hm : mo < 12) (hr : r < 24) (h : Q (gi (a + 2) (mo * 24 + r)) gi gl) : p_X4_minuteRow a (nI mo) (nI r) gi gl Q := by
  refine v_X4_minuteRow hN hK ?_
  unfold f_X4_minuteRow
  refine c_lt mo 0 rfl rfl (by omega) (by omega) (fun z => by omega) (fun _ => ?_)
  refine c_le 12 mo rfl rfl (by omega) (by omega) (fun z => by omega) (fun _ => ?_)
  refine c_lt r 0 rfl rfl (by omega) (by omega) (fun z => by omega) (fun _ => ?_)
  refine c_lt r 24 rfl rfl (by omega) (by omega) (fun _ => ?_) (fun z => by omega)
  rw [show (24 : Int32) = nI 24 by rfl, mulN, nI_add, nI_cl (by omega)]
  exact ⟨vp_nI (by omega) (by omega), h⟩
theorem s_X4_settle {Q : Gi → Gl → Prop} {a : Nat} (hN : a < NN) (hK : sK a = 4) (h1 : ∀ r, r < 120 → gi (a + 1) r = nI (bN (dAll T 0 P r) 30)) (h2 : ∀ mo, mo < 12 → ∀ r, r < 24 → gi (a + 2) (mo * 24 + r) = nI (bN (mAll T P mo r) 30))
    (h : ∀ g, (∀ z, z ≠ a + 1 → z ≠ a + 3 → z ≠ a + 4 → g z = gi z) → cMom T P g a → Q g gl) : p_X4_settle a gi gl Q := by
  have pc := fun mo => pCnt_le (T := T) (P := P) (m := mo)
  have pr : ∀ mo, pRun T P mo ≤ 720 := fun mo => cntN_le
  refine v_X4_settle hN hK ?_
  unfold f_X4_settle
  refine dn (P := fun mo => ∀ g, (∀ z, z ≠ a + 1 → z ≠ a + 3 → z ≠ a + 4 → g z = gi z) → (∀ r, r < 120 → g (a + 1) r = nI (bN (fun i => if r % 12 < mo then pDay T P (r * 30 + i) else dAll T 0 P r i) 30)) → (∀ m', m' < mo → g (a + 3) m' = nI (pCnt T P m') ∧ g (a + 4) m' = nI (pRun T P m')) → p_X4_settle_2 a (nI mo) g gl Q) (N := 12) ?_ ?_ 0 (by omega) gi (fun _ _ _ _ => rfl) (fun r hr => by rw [h1 r hr]; rfl) (fun _ y => by omega)
  · intro g e1 e2 e3
    refine v_X4_settle_2 hN hK ?_
    unfold f_X4_settle_2
    refine ifT (by decide) (h g e1 ⟨fun r hr => ?_, fun mo hm r hr => ?_, fun mo hm => (e3 mo hm).1, fun mo hm => (e3 mo hm).2⟩)
    · rw [e2 r hr]; congr 1; exact bN_congr (fun i _ => by rw [if_pos (by omega)])
    · rw [e1 _ (by omega) (by omega) (by omega)]; exact h2 mo hm r hr
  · intro mo hm ih g e1 e2 e3
    refine v_X4_settle_2 hN hK ?_
    unfold f_X4_settle_2
    refine c_le 12 mo rfl rfl (by omega) (by omega) (fun z => by omega) (fun _ => ⟨vp_nI hm (by omega), ?_⟩)
    rintro g1 rfl
    refine ⟨vp_nI hm (by omega), ?_⟩
    rintro g2 rfl
    rw [nI_cl (by omega), uI_n (show a + 4 ≠ a + 3 by omega)]
    -- days of the month, when it has no minutes
    have k93 : ∀ g', (∀ z, z ≠ a + 1 → z ≠ a + 3 → z ≠ a + 4 → g' z = gi z) → (∀ m', m' < mo + 1 → g' (a + 3) m' = nI (pCnt T P m') ∧ g' (a + 4) m' = nI (pRun T P m')) → g' (a + 1) = g (a + 1) → p_X4_settle_93 a (nI mo) (nI mo) g' gl Q := by
      intro g' f1 f3 f2
      by_cases hz : pCnt T P mo = 0
      · refine dn (P := fun q => ∀ g', (∀ z, z ≠ a + 1 → z ≠ a + 3 → z ≠ a + 4 → g' z = gi z) → (∀ m', m' < mo + 1 → g' (a + 3) m' = nI (pCnt T P m') ∧ g' (a + 4) m' = nI (pRun T P m')) → (∀ r, r < 120 → g' (a + 1) r = nI (bN (fun i => if r % 12 < mo ∨ (r % 12 = mo ∧ r / 12 < q) then pDay T P (r * 30 + i) else dAll T 0 P r i) 30)) → p_X4_settle_93 a (nI mo) (nI (mo + 12 * q)) g' gl Q) (N := 10) ?_ ?_ 0 (by omega) g' f1 f3 (fun r hr => ?_)
        · intro g' f1 f3 f2
          refine v_X4_settle_93 hN hK ?_
          unfold f_X4_settle_93
          refine ifT (by rw [show (120 : Int32) = nI 120 by rfl, nI_leI (by omega) (by omega)]; omega) ?_
          rw [nI_1]
          refine ih g' f1 (fun r hr => ?_) f3
          rw [f2 r hr]; congr 1; exact bN_congr (fun i _ => by
            by_cases y : r % 12 < mo + 1
            · rw [if_pos y, if_pos (by omega)]
            · rw [if_neg y, if_neg (by omega)])
        · intro q hq ih2 g' f1 f3 f2
          refine v_X4_settle_93 hN hK ?_
          unfold f_X4_settle_93
          refine c_le 120 (mo + 12 * q) rfl rfl (by omega) (by omega) (fun z => by omega) (fun _ => ⟨vp_nI hm (by omega), ?_⟩)
          rw [nI_cl (by omega), (f3 mo (by omega)).1, hz]
          refine ifF (by decide) ⟨vp_nI (by omega) (by omega), ?_⟩
          rintro g3 rfl
          rw [nI_cl (by omega), show nI (mo + 12 * q) + 12 = nI (mo + 12 * (q + 1)) by rw [show (12 : Int32) = nI 12 by rfl, nI_add]; congr 1]
          refine ih2 _ (fun z a1 a2 a3 => by rw [uI_n a1]; exact f1 z a1 a2 a3) (fun m' hm' => by rw [uI_n (by omega), uI_n (by omega)]; exact f3 m' hm') (fun r hr => ?_)
          rw [uI_s, updA]
          by_cases y : r = mo + 12 * q
          · rw [if_pos y]
            rw [show bN (fun i => if r % 12 < mo ∨ (r % 12 = mo ∧ r / 12 < q + 1) then pDay T P (r * 30 + i) else dAll T 0 P r i) 30 = 0 from bN_0.2 (fun i hi => by
              rw [if_pos (by omega), pDay_row hi, show r % 12 = mo by omega, hz]; simp)]
            rfl
          · rw [if_neg y, f2 r hr]; congr 1; exact bN_congr (fun i _ => by
              by_cases w : r % 12 < mo ∨ (r % 12 = mo ∧ r / 12 < q)
              · rw [if_pos w, if_pos (by omega)]
              · rw [if_neg w, if_neg (by omega)])
        · rw [f2, e2 r hr]; congr 1; exact bN_congr (fun i _ => by
            by_cases y : r % 12 < mo
            · rw [if_pos y, if_pos (by omega)]
            · rw [if_neg y, if_neg (by omega)])
      · refine v_X4_settle_93 hN hK ?_
        unfold f_X4_settle_93
        refine c_le 120 mo rfl rfl (by omega) (by omega) (fun z => by omega) (fun _ => ⟨vp_nI hm (by omega), ?_⟩)
        have pcm := pc mo
        rw [nI_cl (by omega), (f3 mo (by omega)).1, nI_1]
        refine c_ne (pCnt T P mo) 0 rfl rfl (by omega) (by omega) (fun _ => ?_) (fun z => absurd z hz)
        refine ih g' f1 (fun r hr => ?_) f3
        rw [f2, e2 r hr]; congr 1; exact bN_congr (fun i hi => by
          by_cases y : r % 12 < mo
          · rw [if_pos y, if_pos (by omega)]
          · rw [if_neg y]
            by_cases y2 : r % 12 < mo + 1
            · rw [if_pos y2, pDay_row hi, show r % 12 = mo by omega]; simp [hz]
            · rw [if_neg y2])
    refine dn (P := fun r => ∀ g', (∀ z, z ≠ a + 3 → z ≠ a + 4 → g' z = g z) → (∀ m', m' < mo → g' (a + 3) m' = nI (pCnt T P m') ∧ g' (a + 4) m' = nI (pRun T P m')) → g' (a + 3) mo = nI (sumN (fun r => cntN (mAll T P mo r) 30) r) → g' (a + 4) mo = nI (sumN (fun r => cntN (fun i => rB T P mo (r * 30 + i)) 30) r) → p_X4_settle_26 a (nI mo) (b2i (bef T P mo r)) (nI r) g' gl Q) (N := 24) ?_ ?_ 0 (by omega) _ ?_ ?_ ?_ ?_
    · intro g' f1 f2 f3 f4
      refine v_X4_settle_26 hN hK ?_
      unfold f_X4_settle_26
      refine ifT (by decide) (k93 g' (fun z a1 a2 a3 => (f1 z a2 a3).trans (e1 z a1 a2 a3)) (fun m' hm' => ?_) (f1 _ (by omega) (by omega)))
      by_cases y : m' = mo
      · subst y; rw [pCnt_rows, pRun_rows]; exact ⟨f3, f4⟩
      · exact f2 m' (by omega)
    · intro r hr ih2 g' f1 f2 f3 f4
      refine v_X4_settle_26 hN hK ?_
      unfold f_X4_settle_26
      refine c_le 24 r rfl rfl (by omega) (by omega) (fun z => by omega) (fun _ => ?_)
      refine X4_minuteRow hN hK hm hr ?_
      have ev : g' (a + 2) (mo * 24 + r) = nI (bN (mAll T P mo r) 30) := by rw [f1 _ (by omega) (by omega), e1 _ (by omega) (by omega) (by omega)]; exact h2 mo hm r hr
      rw [ev]
      have hv : vp_in (nI mo) 12 := vp_nI hm (by omega)
      have b0 := bN30 (f := mAll T P mo r)
      have b1 := bN30 (f := fun i => rB T P mo (r * 30 + i))
      refine ⟨hv, s_bitCount (by omega) ⟨hv, ?_⟩⟩
      rw [pc_bN (by omega), nI_cl (by omega), f3, nI_add]
      rintro g7 rfl
      rw [run_row]
      refine ⟨hv, s_bitCount (by omega) ⟨hv, ?_⟩⟩
      rw [pc_bN (by omega), uI_n (show a + 4 ≠ a + 3 by omega), f4, nI_add]
      rintro g11 rfl z12 rfl
      rw [show (29 : Int32) = nI 29 by rfl, jab_b (by omega), nI_1]
      have eb : mAll T P mo r 29 = bef T P mo (r + 1) := by
        unfold mAll bef
        rw [if_neg (by omega)]; congr 1; omega
      rw [eb]
      refine ih2 _ (fun z a1 a2 => by rw [uI_n a2, uI_n a1]; exact f1 z a1 a2) (fun m' hm' => ?_) ?_ ?_
      · rw [uI_n (by omega), uI_s, uI_s, updA, updA, if_neg (by omega), if_neg (by omega)]; exact f2 m' hm'
      · rw [uI_n (by omega), uI_s, upd_s]; rfl
      · rw [uI_s, upd_s]; rfl
    · intro z a1 a2; rw [uI_n a2, uI_n a1]
    · intro m' hm'; rw [uI_n (by omega), uI_s, uI_s, updA, updA, if_neg (by omega), if_neg (by omega)]; exact e3 m' hm'
    · rw [uI_n (by omega), uI_s, upd_s]; rfl
    · rw [uI_s, upd_s]; rfl
theorem s_X2_fill {Q : Gi → Gl → Prop} (m : CE T gi gl) (hs : CS T P gi p) (hp : 7 < p) (h : ∀ g, (∀ z, z ≠ 23 → (z < p + 3 ∨ p + 6 < z) → g z = gi z) → cMom T P g (p + 2) → Q g gl) : p_X2_fill p gi gl Q := by
  have hN := hs.2.2.2.1
  have hK := hs.2.2.2.2.1
  obtain ⟨hN2, hK2⟩ := mom_k hN hK
  have ne := mom_ne hN hK
  have fE : ∀ {g : Gi}, (∀ z, z ≠ 23 → (z < p + 3 ∨ p + 6 < z) → g z = gi z) → CE T g gl := fun e => ⟨cTown_congr (fun b _ _ => e b (by omega) (by omega)) rfl m.1, m.2⟩
  have fS : ∀ {g : Gi}, (∀ z, z ≠ 23 → (z < p + 3 ∨ p + 6 < z) → g z = gi z) → CS T P g p := fun e => hs.congr (e p (ne 0 (by omega)).1 (by omega)) (e (p + 1) (ne 1 (by omega)).1 (by omega))
  refine v_X2_fill hN hK ?_
  unfold f_X2_fill
  refine v_X5_moments hN hK ?_
  unfold f_X5_moments
  refine ⟨fun y => (by cases y), fun b3 hb _ _ => ?_⟩
  cases hb
  have k88 : ∀ r, r ≤ 120 → ∀ g, (∀ z, z ≠ 23 → (z < p + 3 ∨ p + 6 < z) → g z = gi z) → (∀ mo, mo < 12 → ∀ r, r < 24 → g (p + 4) (mo * 24 + r) = nI (bN (mAll T P mo r) 30)) → (∀ r', r' < r → g (p + 3) r' = nI (bN (dAll T 0 P r') 30)) → p_X2_fill_88 p (p + 2) (nI r) g gl Q := by
    refine dn ?_ ?_
    · intro g e1 e2 e3
      refine v_X2_fill_88 hN hK hN2 hK2 ?_
      unfold f_X2_fill_88
      refine ifT (by decide) ?_
      refine s_X4_settle (T := T) (P := P) hN2 hK2 e3 e2 (fun g2 f1 f2 => h g2 (fun z a b => ?_) f2)
      rw [f1 z (by omega) (by omega) (by omega)]; exact e1 z a b
    · intro r hr ih g e1 e2 e3
      refine v_X2_fill_88 hN hK hN2 hK2 ?_
      unfold f_X2_fill_88
      refine c_le 120 r rfl rfl (by omega) (by omega) (fun z => by omega) (fun _ => ?_)
      refine s_X2_daysLater (fE e1) (fS e1) hr (la := 0) (by omega) ?_
      refine v_X4_setDayRow hN2 hK2 ?_
      unfold f_X4_setDayRow
      refine c_lt r 0 rfl rfl (by omega) (by omega) (fun z => by omega) (fun _ => ?_)
      refine c_le 120 r rfl rfl (by omega) (by omega) (fun z => by omega) (fun _ => ⟨vp_nI hr (by omega), ?_⟩)
      rintro g1 rfl
      rw [nI_cl (by omega), nI_1]
      refine ih _ (fun z a b => by rw [uI_n (by omega)]; exact e1 z a b) (fun mo hm r' hr' => by rw [uI_n (by omega)]; exact e2 mo hm r' hr') (fun r' hr' => ?_)
      show uI g (p + 3) (upd (g (p + 3)) r (nI (bN (dAll T 0 P r) 30))) (p + 3) r' = _
      rw [uI_s, updA]
      by_cases y : r' = r
      · rw [if_pos y, y]
      · rw [if_neg y]; exact e3 r' (by omega)
  refine dn (P := fun mo => ∀ g, (∀ z, z ≠ 23 → (z < p + 3 ∨ p + 6 < z) → g z = gi z) → (∀ m', m' < mo → ∀ r, r < 24 → g (p + 4) (m' * 24 + r) = nI (bN (mAll T P m' r) 30)) → p_X2_fill_7 p (p + 2) (nI mo) g gl Q) (N := 12) ?_ ?_ 0 (by omega) gi (fun _ _ _ => rfl) (fun _ y => by omega)
  · intro g e1 e2
    refine v_X2_fill_7 hN hK hN2 hK2 ?_
    unfold f_X2_fill_7
    exact ifT (by decide) (k88 0 (by omega) g e1 e2 (fun _ y => by omega))
  · intro mo hm ih g e1 e2
    refine v_X2_fill_7 hN hK hN2 hK2 ?_
    unfold f_X2_fill_7
    refine c_le 12 mo rfl rfl (by omega) (by omega) (fun z => by omega) (fun _ => ?_)
    refine dn (P := fun r => ∀ g, (∀ z, z ≠ 23 → (z < p + 3 ∨ p + 6 < z) → g z = gi z) → (∀ m' r', r' < 24 → (m' < mo ∨ (m' = mo ∧ r' < r)) → g (p + 4) (m' * 24 + r') = nI (bN (mAll T P m' r') 30)) → p_X2_fill_16 p (p + 2) (nI mo) (nI r) g gl Q) (N := 24) ?_ ?_ 0 (by omega) g e1 (fun m' r' hr' y => by rcases y with y | y; exact e2 m' y r' hr'; omega)
    · intro g e1 e2
      refine v_X2_fill_16 hN hK hN2 hK2 ?_
      unfold f_X2_fill_16
      refine ifT (by decide) ?_
      rw [nI_1]
      exact ih g e1 (fun m' hm' r hr => e2 m' r hr (by omega))
    · intro r hr ih2 g e1 e2
      refine v_X2_fill_16 hN hK hN2 hK2 ?_
      unfold f_X2_fill_16
      refine c_le 24 r rfl rfl (by omega) (by omega) (fun z => by omega) (fun _ => ?_)
      refine fill_30 (fE e1) (fS e1) hm hr (fun g2 hc => ?_)
      refine ih2 _ (fun z a b => by rw [uI_n (by omega), hc z a]; exact e1 z a b) (fun m' r' hr' y => ?_)
      have n4 := (ne 4 (by omega)).1
      rw [uI_s, updA]
      by_cases w : m' * 24 + r' = mo * 24 + r
      · rw [if_pos w, show m' = mo by omega, show r' = r by omega]
      · rw [if_neg w, hc _ n4]; exact e2 m' r' hr' (by omega)
end CE5
