/-! BOTH SIDES, one: the states that calls lead to; each call, the class's and then the reference's -/
section DI
variable {σ : Sta} {c : Nat} {gi gi' : Gi} {gl gl' : Gl}
theorem CI.up (m : CI σ c gi gl) : CI σ (c + 1) gi gl := by
  obtain ⟨m1, m2, m3, m4, m5, m6, m7, m8, m9⟩ := m
  exact ⟨m1, m2, m3, m4, m5, m6, m7, m8, m9.up⟩
theorem CI.frM (V : vSta σ) (m : CI σ c gi gl) (h : FrM gi gl gi' gl') : CI σ c gi' gl' := by
  have hk : sKept σ ≤ 4 := V.2.2.2.2.1
  have e : ∀ z, z < 329 → gi' z = gi z := fun z hz => (h z hz).1
  obtain ⟨m1, m2, m3, m4, m5, m6, m7, m8, m9⟩ := m
  exact ⟨by rw [e 0 (by omega)]; exact m1, fun j hj => by rw [e 1 (by omega)]; exact m2 j hj, by rw [e 0 (by omega)]; exact m3, by rw [e 0 (by omega)]; exact m4, by rw [e 0 (by omega)]; exact m5, cTown_congr (fun b _ _ => e b (by omega)) (h (2 + 2) (by omega)).2 m6, cAlb_congr V.2.2.2.1.1 (fun z a1 a2 => e z (by omega)) m7, fun i hi => cAlb_congr (V.2.2.2.2.2.1 i hi).1 (fun z a1 a2 => e z (by omega)) (m8 i hi), m9.fr (e 25 (by omega)) (e 27 (by omega))⟩
theorem MI.frC (m : MI σ gi gl) (h : FrC gi gl gi' gl') : MI σ gi' gl' := MI_frameL m (fun z h1 _ => (h z (by omega)).1) (fun k _ => by rw [(h 329 (by omega)).1]) (fun b h1 _ => (h b (by omega)).2)
theorem nI_inj {a b : Nat} (ha : a ≤ 2000) (hb : b ≤ 2000) (h : nI a = nI b) : a = b := by
  have := congrArg Int32.toInt h
  rw [nI_tI (by omega), nI_tI (by omega)] at this
  omega
theorem v_feed (V : vSta σ) (h : sN_ σ + 20 ≤ 1200) {a b d e f : Int32} : vSta (dFeed σ a b d e f) := ⟨h, V.2⟩
theorem byte_rng (x : Int32) : ∃ z : Int, vp_nar .byte x = iI z ∧ -128 ≤ z ∧ z ≤ 127 := by
  refine ⟨(vp_nar .byte x).toInt, iI_of _, ?_, ?_⟩
  · show -128 ≤ (x.toInt8.toInt32).toInt
    rw [Int8.toInt_toInt32]
    have := Int8.le_toInt x.toInt8
    omega
  · show (x.toInt8.toInt32).toInt ≤ 127
    rw [Int8.toInt_toInt32]
    have := Int8.toInt_lt x.toInt8
    omega
theorem t_feed (tb : tB σ) {a b d e f : Int32} : tB (dFeed σ a b d e f) := fun j hj => by
  show ∃ z : Int, (if sN_ σ ≤ j ∧ j < sN_ σ + 20 then fbyte a b d e f (j - sN_ σ) else sTape σ j) = iI z ∧ _
  have hj : j < sN_ σ + 20 := hj
  by_cases q : sN_ σ ≤ j
  · rw [if_pos ⟨q, hj⟩]; exact byte_rng _
  · rw [if_neg (fun w => q w.1)]; exact tb j (by omega)
theorem t_0 {τ : Sta} (h : sN_ τ = 0) : tB τ := fun j hj => absurd hj (by rw [h]; exact Nat.not_lt_zero j)
theorem v_ill (V : vSta σ) {e : Nat} (he : e ≤ 1200) : vSta (dIll σ e) := by
  obtain ⟨v1, v2, v3, v4, v5, v6, v7, v8⟩ := V
  exact ⟨Nat.zero_le _, v2, v3, v4, v5, v6, (by omega : -1 ≤ (e : Int)), (by omega : (e : Int) ≤ 1200)⟩
theorem v_town (ht : sTowns σ ≤ 900) {T : Twn} (vt : vTown T) : vSta (dTown σ T) :=
  ⟨Nat.zero_le _, (by omega : sTowns σ + 1 ≤ 1000), vt, ⟨Nat.zero_le _, fun i hi => absurd hi (Nat.not_lt_zero i), fun m hm => (by decide : 1 ≤ 99)⟩, Nat.zero_le _, fun i hi => absurd hi (Nat.not_lt_zero i), (by decide : (-1 : Int) ≤ -1), (by decide : (-1 : Int) ≤ 1200)⟩
theorem v_pic (V : vSta σ) (h8 : (sShown σ).1 < 8) {P : Pic} (vp : vPic (sTown σ) P) : vSta (dPic σ P) := by
  obtain ⟨v1, v2, v3, v4, v5, v6, v7, v8⟩ := V
  refine ⟨Nat.zero_le _, v2, v3, ⟨(by omega : (sShown σ).1 + 1 ≤ 8), fun i hi => ?_, v4.2.2⟩, v5, v6, (by decide : (-1 : Int) ≤ -1), (by decide : (-1 : Int) ≤ 1200)⟩
  have hi : i < (sShown σ).1 + 1 := hi
  show vPic (sTown σ) (if i = (sShown σ).1 then P else (sShown σ).2.1 i)
  by_cases e : i = (sShown σ).1
  · rw [if_pos e]; exact vp
  · rw [if_neg e]; exact v4.2.1 i (by omega)
theorem v_more (V : vSta σ) {k : Nat} {P : Pic} (vp : vPic (sTown σ) P) : vSta (dMore σ k P) := by
  obtain ⟨v1, v2, v3, v4, v5, v6, v7, v8⟩ := V
  refine ⟨Nat.zero_le _, v2, v3, ⟨v4.1, fun i hi => ?_, v4.2.2⟩, v5, v6, (by decide : (-1 : Int) ≤ -1), (by decide : (-1 : Int) ≤ 1200)⟩
  have hi : i < (sShown σ).1 := hi
  show vPic (sTown σ) (if i = k then P else (sShown σ).2.1 i)
  by_cases e : i = k
  · rw [if_pos e]; exact vp
  · rw [if_neg e]; exact v4.2.1 i hi
theorem v_weight (V : vSta σ) {x y : Int32} (h : okW x y = true) : vSta (dWeight σ x y) := by
  obtain ⟨v1, v2, v3, v4, v5, v6, v7, v8⟩ := V
  refine ⟨v1, v2, v3, ⟨v4.1, v4.2.1, fun m hm => ?_⟩, v5, v6, v7, v8⟩
  show (if m = x.toInt.toNat then y.toInt.toNat else (sShown σ).2.2 m) ≤ 99
  unfold okW at h
  simp only [Bool.and_eq_true, decide_eq_true_eq] at h
  by_cases e : m = x.toInt.toNat
  · rw [if_pos e]; omega
  · rw [if_neg e]; exact v4.2.2 m hm
theorem v_image (V : vSta σ) (h : sKept σ < 4) : vSta (dImage σ) := by
  obtain ⟨v1, v2, v3, v4, v5, v6, v7, v8⟩ := V
  refine ⟨v1, v2, v3, v4, (by omega : sKept σ + 1 ≤ 4), fun i hi => ?_, v7, v8⟩
  have hi : i < sKept σ + 1 := hi
  show vAlb (sTown σ) (if i = sKept σ then sShown σ else sKeep σ i)
  by_cases e : i = sKept σ
  · rw [if_pos e]; exact v4
  · rw [if_neg e]; exact v6 i (by omega)
theorem v_back (V : vSta σ) {i : Nat} (h : i < sKept σ) : vSta (dBack σ i) := by
  obtain ⟨v1, v2, v3, v4, v5, v6, v7, v8⟩ := V
  exact ⟨v1, v2, v3, v6 i h, v5, v6, v7, v8⟩
/-- both sides hold one state, after c calls -/
def J (σ : Sta) (c : Nat) (gi : Gi) (gl : Gl) : Prop := CI σ c gi gl ∧ MI σ gi gl ∧ vSta σ ∧ tB σ ∧ sTowns σ ≤ c
/-- after one call more -/
def J1 (c : Nat) (gi : Gi) (gl : Gl) : Prop := ∃ σ', J σ' (c + 1) gi gl
theorem J.same (j : J σ c gi gl) : J1 c gi gl := ⟨σ, j.1.up, j.2.1, j.2.2.1, j.2.2.2.1, by have := j.2.2.2.2; omega⟩
theorem b_feed (j : J σ c gi gl) (hc : c ≤ 600) {a b d e f : Int32} : p_X11_feed a b d e f gi gl (fun r g l => p_X12_feed a b d e f g l (fun r2 g2 l2 => r = r2 ∧ J1 c g2 l2)) := by
  obtain ⟨C, M, V, tb, ht⟩ := id j
  refine c_feed V C (fun h g hC hF => ?_) (fun h => ?_)
  · exact m_feed V (M.frC hF) (fun _ g2 M2 f2 => ⟨rfl, _, hC.frM (v_feed V h) (fun z hz => ⟨f2 z hz, rfl⟩), M2, v_feed V h, t_feed tb, (by omega : sTowns σ ≤ c + 1)⟩) (fun q => absurd h q)
  · exact m_feed V M (fun q => absurd q h) (fun _ => ⟨rfl, j.same⟩)
theorem b_fault (j : J σ c gi gl) (hc : c ≤ 600) : p_X11_fault  gi gl (fun r g l => p_X12_fault  g l (fun r2 g2 l2 => r = r2 ∧ J1 c g2 l2)) := by
  obtain ⟨C, M, V, tb, ht⟩ := id j
  refine c_fault V C (fun g l hC hF => ?_)
  have M1 := M.frC hF
  exact m_fault M1 ⟨rfl, σ, hC, M1, V, tb, by omega⟩
theorem b_told (j : J σ c gi gl) (hc : c ≤ 600) {x : Int32} : p_X11_told x gi gl (fun r g l => p_X12_told x g l (fun r2 g2 l2 => r = r2 ∧ J1 c g2 l2)) := by
  obtain ⟨C, M, V, tb, ht⟩ := id j
  refine c_told V C (fun g l hC hF => ?_)
  have M1 := M.frC hF
  exact m_told V M1 ⟨rfl, σ, hC, M1, V, tb, by omega⟩
theorem b_sign (j : J σ c gi gl) (hc : c ≤ 600) {x y w : Int32} : p_X11_sign x y w gi gl (fun r g l => p_X12_sign x y w g l (fun r2 g2 l2 => r = r2 ∧ J1 c g2 l2)) := by
  obtain ⟨C, M, V, tb, ht⟩ := id j
  refine c_sign V C (fun g l hC hF => ?_)
  have M1 := M.frC hF
  exact m_sign V M1 ⟨rfl, σ, hC, M1, V, tb, by omega⟩
theorem b_lets (j : J σ c gi gl) (hc : c ≤ 600) {x y d t : Int32} : p_X11_lets x y d t gi gl (fun r g l => p_X12_lets x y d t g l (fun r2 g2 l2 => r = r2 ∧ J1 c g2 l2)) := by
  obtain ⟨C, M, V, tb, ht⟩ := id j
  refine c_lets V C (fun g l hC hF => ?_)
  have M1 := M.frC hF
  exact m_lets V M1 (fun g2 s => ⟨rfl, σ, hC.frM V s.F, s.I M1, V, tb, by omega⟩)
theorem b_shadow (j : J σ c gi gl) (hc : c ≤ 600) {x y t w : Int32} : p_X11_shadow x y t w gi gl (fun r g l => p_X12_shadow x y t w g l (fun r2 g2 l2 => r = r2 ∧ J1 c g2 l2)) := by
  obtain ⟨C, M, V, tb, ht⟩ := id j
  refine c_shadow V C (fun g l hC hF => ?_)
  have M1 := M.frC hF
  exact m_shadow V M1 (fun g2 s => ⟨rfl, σ, hC.frM V s.F, s.I M1, V, tb, by omega⟩)
theorem b_all (j : J σ c gi gl) (hc : c ≤ 600) {x : Int32} : p_X11_all x gi gl (fun r g l => p_X12_all x g l (fun r2 g2 l2 => r = r2 ∧ J1 c g2 l2)) := by
  obtain ⟨C, M, V, tb, ht⟩ := id j
  refine c_all V C (fun g l hC hF => ?_)
  have M1 := M.frC hF
  exact m_all V M1 (fun g2 s => ⟨rfl, σ, hC.frM V s.F, s.I M1, V, tb, by omega⟩)
theorem b_days (j : J σ c gi gl) (hc : c ≤ 600) {x y : Int32} : p_X11_days x y gi gl (fun r g l => p_X12_days x y g l (fun r2 g2 l2 => r = r2 ∧ J1 c g2 l2)) := by
  obtain ⟨C, M, V, tb, ht⟩ := id j
  refine c_days V C (fun g l hC hF => ?_)
  have M1 := M.frC hF
  exact m_days V M1 (fun g2 s => ⟨rfl, σ, hC.frM V s.F, s.I M1, V, tb, by omega⟩)
theorem b_runs (j : J σ c gi gl) (hc : c ≤ 600) {x y w : Int32} : p_X11_runs x y w gi gl (fun r g l => p_X12_runs x y w g l (fun r2 g2 l2 => r = r2 ∧ J1 c g2 l2)) := by
  obtain ⟨C, M, V, tb, ht⟩ := id j
  refine c_runs V C (fun g l hC hF => ?_)
  have M1 := M.frC hF
  exact m_runs V M1 (fun g2 s => ⟨rfl, σ, hC.frM V s.F, s.I M1, V, tb, by omega⟩)
theorem b_judge (j : J σ c gi gl) (hc : c ≤ 600) {x d t : Int32} : p_X11_judge x d t gi gl (fun r g l => p_X12_judge x d t g l (fun r2 g2 l2 => r = r2 ∧ J1 c g2 l2)) := by
  obtain ⟨C, M, V, tb, ht⟩ := id j
  refine c_judge V C (fun g l hC hF => ?_)
  have M1 := M.frC hF
  exact m_judge V M1 (fun g2 s => ⟨rfl, σ, hC.frM V s.F, s.I M1, V, tb, by omega⟩)
theorem b_quarrel (j : J σ c gi gl) (hc : c ≤ 600) {x : Int32} : p_X11_quarrel x gi gl (fun r g l => p_X12_quarrel x g l (fun r2 g2 l2 => r = r2 ∧ J1 c g2 l2)) := by
  obtain ⟨C, M, V, tb, ht⟩ := id j
  refine c_quarrel V C (by omega) (fun g l hC hF => ?_)
  have M1 := M.frC hF
  exact m_quarrel V M1 (fun g2 s => ⟨rfl, σ, hC.frM V s.F, s.I M1, V, tb, by omega⟩)
theorem b_doubt (j : J σ c gi gl) (hc : c ≤ 600) {x w : Int32} : p_X11_doubt x w gi gl (fun r g l => p_X12_doubt x w g l (fun r2 g2 l2 => r = r2 ∧ J1 c g2 l2)) := by
  obtain ⟨C, M, V, tb, ht⟩ := id j
  refine c_doubt V C (by omega) (fun g l hC hF => ?_)
  have M1 := M.frC hF
  exact m_doubt V M1 (fun g2 s => ⟨rfl, σ, hC.frM V s.F, s.I M1, V, tb, by omega⟩)
theorem b_stood (j : J σ c gi gl) (hc : c ≤ 600) {x y : Int32} {over : Bool} : p_X11_stood x (b2i over) y gi gl (fun r g l => p_X12_stood x (b2i over) y g l (fun r2 g2 l2 => r = r2 ∧ J1 c g2 l2)) := by
  obtain ⟨C, M, V, tb, ht⟩ := id j
  refine c_stood V C (fun g l hC hF => ?_)
  have M1 := M.frC hF
  exact m_stood V M1 ⟨rfl, σ, hC, M1, V, tb, by omega⟩
theorem b_late (j : J σ c gi gl) (hc : c ≤ 600) {x y : Int32} : p_X11_late x y gi gl (fun r g l => p_X12_late x y g l (fun r2 g2 l2 => r = r2 ∧ J1 c g2 l2)) := by
  obtain ⟨C, M, V, tb, ht⟩ := id j
  refine c_late V C (fun g l hC hF => ?_)
  have M1 := M.frC hF
  exact m_late V M1 (fun g2 s => ⟨rfl, σ, hC.frM V s.F, s.I M1, V, tb, by omega⟩)
theorem b_couples (j : J σ c gi gl) (hc : c ≤ 600) {x y a b w : Int32} : p_X11_couples x y a b w gi gl (fun r g l => p_X12_couples x y a b w g l (fun r2 g2 l2 => r = r2 ∧ J1 c g2 l2)) := by
  obtain ⟨C, M, V, tb, ht⟩ := id j
  refine c_couples V C (fun g l hC hF => ?_)
  have M1 := M.frC hF
  exact m_couples V M1 (fun g2 l2 M2 f2 => ⟨rfl, σ, hC.frM V f2, M2, V, tb, by omega⟩)
theorem b_weight (j : J σ c gi gl) (hc : c ≤ 600) {x y : Int32} : p_X11_weight x y gi gl (fun r g l => p_X12_weight x y g l (fun r2 g2 l2 => r = r2 ∧ J1 c g2 l2)) := by
  obtain ⟨C, M, V, tb, ht⟩ := id j
  refine c_weight V C (fun h g hC hF => ?_) (fun h => ?_)
  · exact m_weight (M.frC hF) (fun _ g2 M2 f2 => ⟨rfl, _, hC.frM (v_weight V h) f2, M2, v_weight V h, tb, (by omega : sTowns σ ≤ c + 1)⟩) (fun q => absurd h (by rw [q]; decide))
  · exact m_weight M (fun q => absurd h (by rw [q]; decide)) (fun _ => ⟨rfl, j.same⟩)
theorem b_likely (j : J σ c gi gl) (hc : c ≤ 600) {x w : Int32} : p_X11_likely x w gi gl (fun r g l => p_X12_likely x w g l (fun r2 g2 l2 => r = r2 ∧ J1 c g2 l2)) := by
  obtain ⟨C, M, V, tb, ht⟩ := id j
  refine c_likely V C (fun g l hC hF => ?_)
  have M1 := M.frC hF
  exact m_likely V M1 (fun g2 s => ⟨rfl, σ, hC.frM V s.F, s.I M1, V, tb, by omega⟩)
theorem b_look (j : J σ c gi gl) (hc : c ≤ 600) {x y w : Int32} : p_X11_look x y w gi gl (fun r g l => p_X12_look x y w g l (fun r2 g2 l2 => r = r2 ∧ J1 c g2 l2)) := by
  obtain ⟨C, M, V, tb, ht⟩ := id j
  refine c_look V C (fun g l hC hF => ?_)
  have M1 := M.frC hF
  exact m_look V M1 (fun g2 l2 M2 f2 => ⟨rfl, σ, hC.frM V f2, M2, V, tb, by omega⟩)
theorem b_next (j : J σ c gi gl) (hc : c ≤ 600) {x : Int32} : p_X11_next x gi gl (fun r g l => p_X12_next_ x g l (fun r2 g2 l2 => r = r2 ∧ J1 c g2 l2)) := by
  obtain ⟨C, M, V, tb, ht⟩ := id j
  refine c_next V C (fun g l hC hF => ?_)
  have M1 := M.frC hF
  exact m_next V M1 (fun g2 l2 M2 f2 => ⟨rfl, σ, hC.frM V f2, M2, V, tb, by omega⟩)
theorem b_cloud (j : J σ c gi gl) (hc : c ≤ 600) {x w : Int32} : p_X11_cloud x w gi gl (fun r g l => p_X12_cloud x w g l (fun r2 g2 l2 => r = r2 ∧ J1 c g2 l2)) := by
  obtain ⟨C, M, V, tb, ht⟩ := id j
  refine c_cloud V C (fun g l hC hF => ?_)
  have M1 := M.frC hF
  exact m_cloud V M1 (fun g2 s => ⟨rfl, σ, hC.frM V s.F, s.I M1, V, tb, by omega⟩)
theorem b_image (j : J σ c gi gl) (hc : c ≤ 600) : p_X11_image  gi gl (fun r g l => p_X12_image  g l (fun r2 g2 l2 => r = r2 ∧ J1 c g2 l2)) := by
  obtain ⟨C, M, V, tb, ht⟩ := id j
  refine c_image V C (fun h g hC hF => ?_) (fun h => ?_)
  · exact m_image V (M.frC hF) (fun _ g2 M2 f2 => ⟨rfl, _, hC.frM (v_image V h) f2, M2, v_image V h, tb, (by omega : sTowns σ ≤ c + 1)⟩) (fun q => by omega)
  · exact m_image V M (fun q => by omega) (fun _ => ⟨rfl, j.same⟩)
theorem b_back (j : J σ c gi gl) (hc : c ≤ 600) {x : Int32} : p_X11_back x gi gl (fun r g l => p_X12_back x g l (fun r2 g2 l2 => r = r2 ∧ J1 c g2 l2)) := by
  obtain ⟨C, M, V, tb, ht⟩ := id j
  have hk : sKept σ ≤ 4 := V.2.2.2.2.1
  refine c_back V C (fun i hi ex g hC hF => ?_) (fun h => ?_)
  · refine m_back V (M.frC hF) (fun i2 hi2 ex2 g2 M2 f2 => ?_) (fun q => ?_)
    · obtain rfl : i2 = i := nI_inj (by omega) (by omega) (ex2.symm.trans ex)
      exact ⟨rfl, _, hC.frM (v_back V hi) f2, M2, v_back V hi, tb, (by omega : sTowns σ ≤ c + 1)⟩
    · rw [ex, nI_tI (by omega)] at q; omega
  · refine m_back V M (fun i2 hi2 ex2 g2 M2 f2 => ?_) (fun _ => ⟨rfl, j.same⟩)
    rw [ex2, nI_tI (by omega)] at h; omega
theorem b_count (j : J σ c gi gl) (hc : c ≤ 600) {x : Int32} : p_X11_count x gi gl (fun r g l => p_X12_count x g l (fun r2 g2 l2 => r = r2 ∧ J1 c g2 l2)) := by
  obtain ⟨C, M, V, tb, ht⟩ := id j
  refine c_count V C (fun g l hC hF => ?_)
  have M1 := M.frC hF
  exact m_count V M1 ⟨rfl, σ, hC, M1, V, tb, by omega⟩
theorem b_town (j : J σ c gi gl) (hc : c ≤ 600) {x : Int32} : p_X11_town x gi gl (fun r g l => p_X12_town x g l (fun r2 g2 l2 => r = r2 ∧ J1 c g2 l2)) := by
  obtain ⟨C, M, V, tb, ht⟩ := id j
  have V1 := V.1
  refine c_town V C tb (fun h => ?_) (fun n hn ex e hen he g l hC hF => ?_) (fun n hn ex hr g l hC hF => ?_)
  · exact m_town V M (fun _ => ⟨rfl, j.same⟩) (fun n hn ex => by rw [ex, nI_tI (by omega)] at h; omega) (fun n hn ex => by rw [ex, nI_tI (by omega)] at h; omega)
  · refine m_town V (M.frC hF) (fun h => by rw [ex, nI_tI (by omega)] at h; omega) (fun n2 hn2 ex2 e2 he2 g2 l2 M2 f2 => ?_) (fun n2 hn2 ex2 hr2 => ?_)
    · obtain rfl : n2 = n := nI_inj (by omega) (by omega) (ex2.symm.trans ex)
      rw [he] at he2
      cases he2
      exact ⟨rfl, _, hC.frM (v_ill V (by omega)) f2, M2, v_ill V (by omega), t_0 rfl, (by omega : sTowns σ ≤ c + 1)⟩
    · obtain rfl : n2 = n := nI_inj (by omega) (by omega) (ex2.symm.trans ex)
      rw [he] at hr2; cases hr2
  · refine m_town V (M.frC hF) (fun h => by rw [ex, nI_tI (by omega)] at h; omega) (fun n2 hn2 ex2 e2 he2 => ?_) (fun n2 hn2 ex2 hr2 g2 l2 M2 f2 => ?_)
    · obtain rfl : n2 = n := nI_inj (by omega) (by omega) (ex2.symm.trans ex)
      rw [he2] at hr; cases hr
    · obtain rfl : n2 = n := nI_inj (by omega) (by omega) (ex2.symm.trans ex)
      have vv := v_town (σ := σ) (by omega) (v_rdTown hr)
      exact ⟨rfl, _, hC.frM vv f2, M2, vv, t_0 rfl, (by omega : sTowns σ + 1 ≤ c + 1)⟩
theorem b_picture (j : J σ c gi gl) (hc : c ≤ 600) {x : Int32} : p_X11_picture x gi gl (fun r g l => p_X12_picture x g l (fun r2 g2 l2 => r = r2 ∧ J1 c g2 l2)) := by
  obtain ⟨C, M, V, tb, ht⟩ := id j
  have V1 := V.1
  refine c_picture V C tb (fun h => ?_) (fun n hn ex h8 => ?_) (fun n hn ex h8 e hen he g l hC hF => ?_) (fun n hn ex h8 hr g l hC hF => ?_)
  · exact m_picture V M (fun _ => ⟨rfl, j.same⟩) (fun n hn ex => by rw [ex, nI_tI (by omega)] at h; omega) (fun n hn ex => by rw [ex, nI_tI (by omega)] at h; omega) (fun n hn ex => by rw [ex, nI_tI (by omega)] at h; omega)
  · exact m_picture V M (fun h => by rw [ex, nI_tI (by omega)] at h; omega) (fun _ _ _ _ => ⟨rfl, j.same⟩) (fun _ _ _ q => by omega) (fun _ _ _ q => by omega)
  · refine m_picture V (M.frC hF) (fun h => by rw [ex, nI_tI (by omega)] at h; omega) (fun _ _ _ q => by omega) (fun n2 hn2 ex2 _ e2 he2 g2 l2 M2 f2 => ?_) (fun n2 hn2 ex2 _ hr2 => ?_)
    · obtain rfl : n2 = n := nI_inj (by omega) (by omega) (ex2.symm.trans ex)
      rw [he] at he2
      cases he2
      exact ⟨rfl, _, hC.frM (v_ill V (by omega)) f2, M2, v_ill V (by omega), t_0 rfl, (by omega : sTowns σ ≤ c + 1)⟩
    · obtain rfl : n2 = n := nI_inj (by omega) (by omega) (ex2.symm.trans ex)
      rw [he] at hr2; cases hr2
  · refine m_picture V (M.frC hF) (fun h => by rw [ex, nI_tI (by omega)] at h; omega) (fun _ _ _ q => by omega) (fun n2 hn2 ex2 _ e2 he2 => ?_) (fun n2 hn2 ex2 _ hr2 g2 l2 M2 f2 => ?_)
    · obtain rfl : n2 = n := nI_inj (by omega) (by omega) (ex2.symm.trans ex)
      rw [he2] at hr; cases hr
    · obtain rfl : n2 = n := nI_inj (by omega) (by omega) (ex2.symm.trans ex)
      have vv := v_pic V h8 (v_rdSigns (Nat.zero_le _) (fun k hk => absurd hk (Nat.not_lt_zero k)) hr).1
      exact ⟨rfl, _, hC.frM vv f2, M2, vv, t_0 rfl, (by omega : sTowns σ ≤ c + 1)⟩
theorem b_more (j : J σ c gi gl) (hc : c ≤ 600) {y x : Int32} : p_X11_more y x gi gl (fun r g l => p_X12_more y x g l (fun r2 g2 l2 => r = r2 ∧ J1 c g2 l2)) := by
  obtain ⟨C, M, V, tb, ht⟩ := id j
  have V1 := V.1
  have hA8 : (sShown σ).1 ≤ 8 := V.2.2.2.1.1
  have bad : ∀ {i n : Nat}, i < (sShown σ).1 → y = nI i → n ≤ sN_ σ → x = nI n → ¬ (isP (sShown σ) y = false ∨ x.toInt < 0 ∨ (sN_ σ : Int) < x.toInt) := fun hi ey hn ex h => by
    rw [ex, nI_tI (by omega)] at h
    rcases h with h | h | h
    · unfold isP at h
      rw [ey, nI_tI (by omega), decide_eq_true (by omega), decide_eq_true (by omega)] at h
      cases h
    · omega
    · omega
  refine c_more V C tb (fun h => ?_) (fun i n hi ey hn ex e hen he g l hC hF => ?_) (fun i n hi ey hn ex hr g l hC hF => ?_)
  · exact m_more V M (fun _ => ⟨rfl, j.same⟩) (fun i n hi ey hn ex => absurd h (bad hi ey hn ex)) (fun i n hi ey hn ex => absurd h (bad hi ey hn ex))
  · refine m_more V (M.frC hF) (fun h => absurd h (bad hi ey hn ex)) (fun i2 n2 hi2 ey2 hn2 ex2 e2 he2 g2 l2 M2 f2 => ?_) (fun i2 n2 hi2 ey2 hn2 ex2 hr2 => ?_)
    · obtain rfl : n2 = n := nI_inj (by omega) (by omega) (ex2.symm.trans ex)
      obtain rfl : i2 = i := nI_inj (by omega) (by omega) (ey2.symm.trans ey)
      rw [he] at he2
      cases he2
      exact ⟨rfl, _, hC.frM (v_ill V (by omega)) f2, M2, v_ill V (by omega), t_0 rfl, (by omega : sTowns σ ≤ c + 1)⟩
    · obtain rfl : n2 = n := nI_inj (by omega) (by omega) (ex2.symm.trans ex)
      obtain rfl : i2 = i := nI_inj (by omega) (by omega) (ey2.symm.trans ey)
      rw [he] at hr2; cases hr2
  · refine m_more V (M.frC hF) (fun h => absurd h (bad hi ey hn ex)) (fun i2 n2 hi2 ey2 hn2 ex2 e2 he2 => ?_) (fun i2 n2 hi2 ey2 hn2 ex2 hr2 g2 l2 M2 f2 => ?_)
    · obtain rfl : n2 = n := nI_inj (by omega) (by omega) (ex2.symm.trans ex)
      obtain rfl : i2 = i := nI_inj (by omega) (by omega) (ey2.symm.trans ey)
      rw [he2] at hr; cases hr
    · obtain rfl : n2 = n := nI_inj (by omega) (by omega) (ex2.symm.trans ex)
      obtain rfl : i2 = i := nI_inj (by omega) (by omega) (ey2.symm.trans ey)
      have vi := V.2.2.2.1.2.1 i2 hi
      have vv := v_more V (k := i2) (v_rdSigns vi.2.1 vi.2.2 hr).1
      exact ⟨rfl, _, hC.frM vv f2, M2, vv, t_0 rfl, (by omega : sTowns σ ≤ c + 1)⟩
end DI
