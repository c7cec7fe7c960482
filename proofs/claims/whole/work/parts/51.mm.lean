/-! TEXTS: what a town's text tells, statement by statement -/
def addK (T : Twn) (k : Nat) (nm : List Nat) (nu : Nat → Int) : Twn := (fun c => if c = k then T.1 c + 1 else T.1 c, fun c i j => if c = k ∧ i = T.1 k then nu j else T.2.1 c i j, fun c i => if c = k ∧ i = T.1 k then nm else T.2.2.1 c i, T.2.2.2)
def addSun (T : Twn) (r : Nat × Nat × Int × Int) : Twn := (fun c => if c = 4 then T.1 c + 1 else T.1 c, T.2.1, T.2.2.1, T.2.2.2 ++ [r])
def addSt (T : Twn) : Twn := (fun c => if c = 5 then T.1 c + 1 else T.1 c, T.2)
def knB (T : Twn) (w : List Nat) : Bool := !allK (fun k => decide (lowN (fun i => decide (tName T k i = w)) (tCnt T k) < 0)) 4
def nu4 (a b c d : Int) (j : Nat) : Int := if j = 0 then a else if j = 1 then b else if j = 2 then c else d
def lastMin (T : Twn) (m : Nat) : Int := match (rowsOf T m).getLast? with
  | none => -1
  | some r => (r.2.1 : Nat)
section SPC
variable (f : Nat → Nat) (n : Nat)
def nmO (T : Twn) (k : Nat) : Ps → Bool
  | .inl _ => false
  | .inr a => decide (wd f n a ≠ []) && (decide (tCnt T k < most k) && (!decide (wd f n a ∈ resW) && !knB T (wd f n a)))
def nmS (T : Twn) (k : Nat) (s : Ps) : Ps := if nmO f n T k s then nxS f n s else erS s
def th1 (s : Ps) : Ps := muS f n wFrom (nxS f n s)
def th2 (s : Ps) : Ps := nuS f n 0 3599 (th1 f n s)
def th3 (s : Ps) : Ps := giS f n (th2 f n s)
def thV0 (s : Ps) : Int := nuV f n 0 3599 (th1 f n s)
def thV1 (s : Ps) : Int := giV f n (th2 f n s)
def th4 (s : Ps) : Ps := nuS f n (thV0 f n s) 3599 (nxS f n (th3 f n s))
def thV2 (s : Ps) : Int := nuV f n (thV0 f n s) 3599 (nxS f n (th3 f n s))
def thV3 (s : Ps) : Int := giV f n (th4 f n s)
def rdThing (T : Twn) (s : Ps) : Twn × Ps :=
  if nmO f n T 0 s then
    (if isW f n wTill (th3 f n s) then (addK T 0 (wdS f n s) (nu4 (thV0 f n s) (thV1 f n s) (thV2 f n s) (thV3 f n s)), giS f n (th4 f n s))
     else (addK T 0 (wdS f n s) (nu4 (thV0 f n s) (thV1 f n s) (-1) 0), th3 f n s))
  else (T, erS s)
def tr1 (s : Ps) : Ps := muS f n wLeaf (nxS f n s)
def tr2 (s : Ps) : Ps := muS f n wBare (nuS f n 0 359 (tr1 f n s))
def trV0 (s : Ps) : Int := nuV f n 0 359 (tr1 f n s)
def eqO (v : Int) : Ps → Bool
  | .inl _ => false
  | .inr a => decide (kd f n a = 2) && decide ((vl f n a : Int) = v)
def tr3 (s : Ps) : Ps := if eqO f n (trV0 f n s) (tr2 f n s) then erS (tr2 f n s) else tr2 f n s
def trV1 (s : Ps) : Int := nuV f n 0 359 (tr3 f n s)
def rdTree (T : Twn) (s : Ps) : Twn × Ps := if nmO f n T 1 s then (addK T 1 (wdS f n s) (nu4 (trV0 f n s) (trV1 f n s) (-1) (-1)), nuS f n 0 359 (tr3 f n s)) else (T, erS s)
def po1 (s : Ps) : Ps := nuS f n 0 31 (nxS f n s)
def po2 (s : Ps) : Ps := nuS f n 0 31 (po1 f n s)
def rdPost (T : Twn) (s : Ps) : Twn × Ps := if nmO f n T 2 s then (addK T 2 (wdS f n s) (nu4 (nuV f n 0 31 (nxS f n s)) (nuV f n 0 31 (po1 f n s)) (nuV f n 1 20 (po2 f n s)) (-1)), nuS f n 1 20 (po2 f n s)) else (T, erS s)
def ck1 (s : Ps) : Ps := muS f n wSlow (nxS f n s)
def ck2 (s : Ps) : Ps := muS f n wFast (nuS f n 0 99 (ck1 f n s))
def rdClock (T : Twn) (s : Ps) : Twn × Ps := if nmO f n T 3 s then (addK T 3 (wdS f n s) (nu4 (nuV f n 0 99 (ck1 f n s)) (nuV f n 0 99 (ck2 f n s)) (-1) (-1)), nuS f n 0 99 (ck2 f n s)) else (T, erS s)
def faS (u w : List Nat) (s : Ps) : Ps := if isW f n u s then nuS f n 0 99 (nxS f n s) else if isW f n w s then nuS f n 0 99 (nxS f n s) else erS s
def faV (u w : List Nat) (s : Ps) : Int := if isW f n u s then nuV f n 0 99 (nxS f n s) else if isW f n w s then -(nuV f n 0 99 (nxS f n s)) else 0
def su0 (T : Twn) (s : Ps) : Ps := if tCnt T 4 = 40 then erS s else s
def suM (T : Twn) (s : Ps) : Int := nuV f n 0 11 (su0 T s)
def su1 (T : Twn) (s : Ps) : Ps := nuS f n 0 11 (su0 T s)
def su2 (T : Twn) (s : Ps) : Ps := nuS f n (lastMin T (suM f n T s).toNat + 1) 719 (su1 f n T s)
def suT (T : Twn) (s : Ps) : Int := nuV f n (lastMin T (suM f n T s).toNat + 1) 719 (su1 f n T s)
def su3 (T : Twn) (s : Ps) : Ps := faS f n wEast wWest (su2 f n T s)
def su4 (T : Twn) (s : Ps) : Ps := faS f n wNorth wSouth (su3 f n T s)
def isR : Ps → Bool
  | .inl _ => false
  | .inr _ => true
def rdSun (T : Twn) (s : Ps) : Twn × Ps := (if isR (su4 f n T s) then addSun T ((suM f n T s).toNat, (suT f n T s).toNat, faV f n wEast wWest (su2 f n T s), faV f n wNorth wSouth (su3 f n T s)) else T, su4 f n T s)
def smR (r : Twn × Ps) : Twn × Ps := (r.1, smS f n r.2)
def rdStat (T : Twn) (s : Ps) : Twn × Ps :=
  if isW f n wThing s then smR f n (rdThing f n T (nxS f n s)) else if isW f n wTree s then smR f n (rdTree f n T (nxS f n s))
  else if isW f n wPost s then smR f n (rdPost f n T (nxS f n s)) else if isW f n wClock s then smR f n (rdClock f n T (nxS f n s))
  else if isW f n wSun s then smR f n (rdSun f n T (nxS f n s)) else (T, erS s)
def enS : Ps → Bool
  | .inl _ => true
  | .inr a => decide (n ≤ a)
/-- the statements from here on; k + 1 of them are room for, the last of these none -/
def tnL : Nat → Twn → Ps → Twn × Ps
  | 0, T, s => (T, s)
  | k + 1, T, s => if enS n s then (T, s) else if k = 0 then (T, erS s) else tnL k (addSt (rdStat f n T s).1) (rdStat f n T s).2
def T0 : Twn := (fun _ => 0, fun _ _ _ => 0, fun _ _ => [], [])
def rdTown : Twn × Ps := tnL f n 61 T0 (.inr (skp f n 0))
end SPC
/-! THE REFERENCE, twenty: what it holds while it reads -/
def colB (k : Nat) : Nat := [340, 344, 346, 349].getD k 0
def mDr (T : Twn) (gi : Gi) (gl : Gl) (q : Nat) : Prop :=
  (∀ k, k < 5 → gi (330 + k) q = nI (tCnt T k)) ∧ (∀ k, k < 4 → ∀ i, i < tCnt T k → gl (336 + k) (most k * q + i) = lN (pk 27 (tName T k i)) ∧ ∀ j, j < numsOf k → gi (colB k + j) (most k * q + i) = iI (tNum T k i j)) ∧
  (∀ (r : Nat) (w : Nat × Nat × Int × Int), (tSun T)[r]? = some w → gi 351 (40 * q + r) = nI w.1 ∧ gi 352 (40 * q + r) = nI w.2.1 ∧ gi 353 (40 * q + r) = iI w.2.2.1 ∧ gi 354 (40 * q + r) = iI w.2.2.2)
def K (f : Nat → Nat) (n : Nat) (s : Ps) (G : Gi) (L : Gl) (B : Nat → Int32) (gi : Gi) (gl : Gl) : Prop :=
  St f n s gi gl ∧ (∀ z, z ≠ 329 → gi z = G z) ∧ (∀ z, z ≠ 329 → gl z = L z) ∧ ∀ k, k ≠ 37 ∧ k ≠ 39 ∧ k ≠ 40 ∧ k ≠ 41 ∧ k ≠ 42 ∧ k ≠ 44 → gi 329 k = B k
section KK
variable {f : Nat → Nat} {n : Nat} {s : Ps} {G : Gi} {L : Gl} {B : Nat → Int32} {gi : Gi} {gl : Gl}
theorem K.to {gi' : Gi} {gl' : Gl} {s' : Ps} (h : K f n s G L B gi gl) (hs : St f n s' gi' gl') (F : Fs gi gl gi' gl') : K f n s' G L B gi' gl' := ⟨hs, fun z q => (F.1 z q).trans (h.2.1 z q), fun z q => (F.2.2 z q).trans (h.2.2.1 z q), fun k q => (F.2.1 k q).trans (h.2.2.2 k q)⟩
theorem St.off {gi' : Gi} {gl' : Gl} (h : St f n s gi gl) (e1 : gi' 329 = gi 329) (e2 : gl' 329 = gl 329) (e3 : gi' 363 = gi 363) : St f n s gi' gl' := by
  cases s with
  | inl e => exact ⟨by rw [e1]; exact h.1, by rw [e1]; exact h.2.1, h.2.2⟩
  | inr a =>
    obtain ⟨s1, s2, s3, s4, s5, s6, s7, s8, s9, s10⟩ := h
    exact ⟨⟨s1.1, fun j hj => by rw [e3]; exact s1.2 j hj⟩, s2, by rw [e1]; exact s3, by rw [e1]; exact s4, by rw [e1]; exact s5, by rw [e1]; exact s6, by rw [e1]; exact s7, by rw [e1]; exact s8, by rw [e2]; exact s9, fun q => by rw [e1]; exact s10 q⟩
theorem K.put (h : K f n s G L B gi gl) {c i : Nat} {v : Int32} (hc : c ≠ 329) (hc2 : c ≠ 363) : K f n s (uI G c (upd (G c) i v)) L B (uI gi c (upd (gi c) i v)) gl :=
  ⟨h.1.off (uI_n (by omega)) rfl (uI_n (by omega)), fun z q => by rw [uIA, uIA, h.2.1 c hc, h.2.1 z q], h.2.2.1, fun k q => by rw [uI_n (by omega)]; exact h.2.2.2 k q⟩
theorem K.putL (h : K f n s G L B gi gl) {c i : Nat} {v : Int64} (hc : c ≠ 329) : K f n s G (uL L c (vp_updL (L c) i v)) B gi (uL gl c (vp_updL (gl c) i v)) :=
  ⟨h.1.off rfl (uL_n (by omega)) rfl, h.2.1, fun z q => by rw [uLA, uLA, h.2.2.1 c hc, h.2.2.1 z q], h.2.2.2⟩
theorem K.r {a : Nat} (h : K f n (.inr a) G L B gi gl) : gi 329 44 = 0 ∧ gi 329 41 = nI (kd f n a) ∧ gl 329 43 = iL (txW (wd f n a)) ∧ (kd f n a = 2 → gi 329 42 = nI (vl f n a)) := ⟨h.1.2.2.2.2.2.2.1, h.1.2.2.2.2.2.1, h.1.2.2.2.2.2.2.2.2.1, h.1.2.2.2.2.2.2.2.2.2⟩
theorem K.l {e : Nat} (h : K f n (.inl e) G L B gi gl) : gi 329 44 = 1 := h.1.1
theorem K.w (h : K f n s G L B gi gl) {X Y : Prop} (kr : ∀ a, s = .inr a → X) (kl : ∀ e, s = .inl e → Y) : if gi 329 44 = 0 then X else Y := by
  cases s with
  | inl e => rw [h.l]; exact ifF (by decide) (kl e rfl)
  | inr a => rw [h.r.1]; exact ifT rfl (kr a rfl)
theorem K.wn (h : K f n s G L B gi gl) {X Y : Prop} (kl : ∀ e, s = .inl e → X) (kr : ∀ a, s = .inr a → Y) : if ¬ gi 329 44 = 0 then X else Y := by
  cases s with
  | inl e => rw [h.l]; exact ifT (by decide) (kl e rfl)
  | inr a => rw [h.r.1]; exact ifF (by decide) (kr a rfl)
variable {Qv : Gi → Gl → Prop} {Qi : Int32 → Gi → Gl → Prop} {Ql : Int64 → Gi → Gl → Prop}
theorem k_next (h : K f n s G L B gi gl) (hr : ∃ a, s = .inr a) (k : ∀ gi' gl', K f n (nxS f n s) G L B gi' gl' → Qv gi' gl') : p_X12_next gi gl Qv := s_X12_nextS h.1 hr (fun gi' gl' a b => k gi' gl' (h.to a b))
theorem k_errs (h : K f n s G L B gi gl) (k : ∀ gi' gl', K f n (erS s) G L B gi' gl' → Qv gi' gl') : p_X12_errs gi gl Qv := s_X12_errs h.1 (fun gi' gl' a b => k gi' gl' (h.to a b))
theorem k_is {w : List Nat} {v : Int64} (h : K f n s G L B gi gl) (hL : goodW w) (hv : v = iL ((pk 27 w : Nat) : Int)) (k : Qi (b2i (isW f n w s)) gi gl) : p_X12_is v gi gl Qi := s_X12_is hL hv h.1 k
theorem k_mustBe {w : List Nat} {v : Int64} (h : K f n s G L B gi gl) (hL : goodW w) (hv : v = iL ((pk 27 w : Nat) : Int)) (k : ∀ gi' gl', K f n (muS f n w s) G L B gi' gl' → Qv gi' gl') : p_X12_mustBe v gi gl Qv := s_X12_mustBe hL hv h.1 (fun gi' gl' a b => k gi' gl' (h.to a b))
theorem k_numeral {lo hi : Int} {x y : Int32} (h : K f n s G L B gi gl) (hx : x = iI lo) (hy : y = iI hi) (hlo : -10000 ≤ lo ∧ lo ≤ 10000) (hhi : -10000 ≤ hi ∧ hi ≤ 10000) (k : ∀ gi' gl', K f n (nuS f n lo hi s) G L B gi' gl' → Qi (iI (nuV f n lo hi s)) gi' gl') : p_X12_numeral x y gi gl Qi := by
  subst hx; subst hy
  exact s_X12_numeral hlo hhi h.1 (fun gi' gl' a b => k gi' gl' (h.to a b))
theorem k_semicolon (h : K f n s G L B gi gl) (k : ∀ gi' gl', K f n (smS f n s) G L B gi' gl' → Qv gi' gl') : p_X12_semicolon gi gl Qv := s_X12_semicolon h.1 (fun gi' gl' a b => k gi' gl' (h.to a b))
theorem k_givenHere (h : K f n s G L B gi gl) (k : ∀ gi' gl', K f n (giS f n s) G L B gi' gl' → Qi (iI (giV f n s)) gi' gl') : p_X12_givenHere gi gl Qi := s_X12_givenHere h.1 (fun gi' gl' a b => k gi' gl' (h.to a b))
theorem iL_lN (m : Nat) : iL (m : Int) = lN m := by
  unfold lN
  exact Int64.ofInt_eq_ofNat
/-- a name looked up -/
theorem s_X12_find {c base cnt : Nat} {nm : Nat → List Nat} {w : List Nat} (hNc : c < NN) (hkc : sK c = 101) (hw : goodW w) (hnm : ∀ i, i < cnt → wordOk (nm i)) (hb : base + cnt ≤ sN c) (hb2 : sN c < 5000) (e : ∀ i, i < cnt → gl c (base + i) = lN (pk 27 (nm i))) (k : Qi (iI (lowN (fun i => decide (nm i = w)) cnt)) gi gl) : p_X12_find c (nI base) (nI cnt) (iL ((pk 27 w : Nat) : Int)) gi gl Qi := by
  refine v_X12_find hNc hkc ?_
  unfold f_X12_find
  refine dn (P := fun j => lowN (fun i => decide (nm i = w)) j < 0 → p_X12_find_3 c (nI base) (nI cnt) (iL ((pk 27 w : Nat) : Int)) (nI j) gi gl Qi) (N := cnt) ?_ ?_ 0 (Nat.zero_le _) (by show (-1 : Int) < 0; omega)
  · intro hl
    refine v_X12_find_3 hNc hkc ?_
    unfold f_X12_find_3
    refine ifT (by rw [nI_leI (by omega) (by omega)]; omega) ?_
    have := (lowN_bd (f := fun i => decide (nm i = w)) cnt).1
    rw [show lowN (fun i => decide (nm i = w)) cnt = -1 by omega] at k
    exact k
  · intro j hj ih hl
    have hs := lowN_neg hl
    refine v_X12_find_3 hNc hkc ?_
    unfold f_X12_find_3
    refine c_le cnt j rfl rfl (by omega) (by omega) (fun q => by omega) (fun _ => ?_)
    rw [nI_add, nI_cl (by omega), e j hj, ← iL_lN, nI_1]
    refine ⟨vp_nI (by omega) (by omega), ?_⟩
    have ok := hnm j hj
    have hok : okL 27 (nm j) := fun c hc => by have := ok.2.2 c hc; omega
    have iff : iL ((pk 27 (nm j) : Nat) : Int) = iL ((pk 27 w : Nat) : Int) ↔ nm j = w := by
      have := tx_iff hok ok.2.1 hw.1 hw.2.1 hw.2.2
      unfold txW at this
      rw [if_neg ok.1] at this
      exact this
    by_cases q : nm j = w
    · rw [if_neg (not_not_intro (iff.2 q))]
      have l1 : lowN (fun i => decide (nm i = w)) (j + 1) = j := by rw [hs, if_pos (by simp [q])]
      have l2 := lowN_keep (f := fun i => decide (nm i = w)) (t := j + 1) (n := cnt) (by omega) (by omega)
      rw [l2, l1, iI_n] at k
      exact k
    · rw [if_pos (fun z => q (iff.1 z))]
      exact ih (by rw [hs, if_neg (by simp [q])]; omega)
theorem kw1 {w L' : List Nat} {x c : Int64} {X Y : Prop} (hx : x = iL (txW w)) (h1 : okL 27 w) (h2 : w.length ≤ 8) (hL : goodW L') (hc : c = iL ((pk 27 L' : Nat) : Int)) (kt : w = L' → X) (kf : w ≠ L' → Y) : if x = c then X else Y := by
  subst hx; subst hc
  have := tx_iff h1 h2 hL.1 hL.2.1 hL.2.2
  by_cases q : w = L'
  · exact ifT (this.2 q) (kt q)
  · exact ifF (fun z => q (this.1 z)) (kf q)
theorem kw2 {w L' : List Nat} {x c : Int64} {X Y : Prop} (hx : x = iL (txW w)) (h1 : okL 27 w) (h2 : w.length ≤ 8) (hL : goodW L') (hc : c = iL ((pk 27 L' : Nat) : Int)) (kf : w ≠ L' → X) (kt : w = L' → Y) : if ¬ x = c then X else Y := by
  subst hx; subst hc
  have := tx_iff h1 h2 hL.1 hL.2.1 hL.2.2
  by_cases q : w = L'
  · exact ifF (not_not_intro (this.2 q)) (kt q)
  · exact ifT (fun z => q (this.1 z)) (kf q)
theorem gThing : goodW wThing := by unfold goodW okL; decide
theorem gFrom : goodW wFrom := by unfold goodW okL; decide
theorem gTill : goodW wTill := by unfold goodW okL; decide
theorem gTree : goodW wTree := by unfold goodW okL; decide
theorem gLeaf : goodW wLeaf := by unfold goodW okL; decide
theorem gBare : goodW wBare := by unfold goodW okL; decide
theorem gPost : goodW wPost := by unfold goodW okL; decide
theorem gClock : goodW wClock := by unfold goodW okL; decide
theorem gSlow : goodW wSlow := by unfold goodW okL; decide
theorem gFast : goodW wFast := by unfold goodW okL; decide
theorem gSun : goodW wSun := by unfold goodW okL; decide
theorem gEast : goodW wEast := by unfold goodW okL; decide
theorem gWest : goodW wWest := by unfold goodW okL; decide
theorem gNorth : goodW wNorth := by unfold goodW okL; decide
theorem gSouth : goodW wSouth := by unfold goodW okL; decide
theorem gStands : goodW wStands := by unfold goodW okL; decide
theorem gLacks : goodW wLacks := by unfold goodW okL; decide
theorem gShadow : goodW wShadow := by unfold goodW okL; decide
theorem gWeek : goodW wWeek := by unfold goodW okL; decide
theorem gYear : goodW wYear := by unfold goodW okL; decide
theorem gBefore : goodW wBefore := by unfold goodW okL; decide
theorem gLeft : goodW wLeft := by unfold goodW okL; decide
theorem s_X12_isKeyword {w : List Nat} (h1 : okL 27 w) (h2 : w.length ≤ 8) (hx : gl 329 43 = iL (txW w)) (k : Qi (b2i (decide (w ∈ resW))) gi gl) : p_X12_isKeyword gi gl Qi := by
  have yes : w ∈ resW → Qi 1 gi gl := fun q => by rw [decide_eq_true q] at k; exact k
  refine v_X12_isKeyword ?_
  unfold f_X12_isKeyword
  refine kw1 hx h1 h2 gThing (by decide +kernel) (fun q => yes (by rw [q]; decide)) (fun n0 => ?_)
  refine kw1 hx h1 h2 gFrom (by decide +kernel) (fun q => yes (by rw [q]; decide)) (fun n1 => ?_)
  refine kw1 hx h1 h2 gGive (by decide +kernel) (fun q => yes (by rw [q]; decide)) (fun n2 => ?_)
  refine kw1 hx h1 h2 gTill (by decide +kernel) (fun q => yes (by rw [q]; decide)) (fun n3 => ?_)
  refine kw1 hx h1 h2 gTree (by decide +kernel) (fun q => yes (by rw [q]; decide)) (fun n4 => ?_)
  refine kw1 hx h1 h2 gLeaf (by decide +kernel) (fun q => yes (by rw [q]; decide)) (fun n5 => ?_)
  refine kw1 hx h1 h2 gBare (by decide +kernel) (fun q => yes (by rw [q]; decide)) (fun n6 => ?_)
  refine kw2 hx h1 h2 gPost (by decide +kernel) (fun n7 => ?_) (fun q => yes (by rw [q]; decide))
  refine kw1 hx h1 h2 gClock (by decide +kernel) (fun q => yes (by rw [q]; decide)) (fun n8 => ?_)
  refine kw1 hx h1 h2 gSlow (by decide +kernel) (fun q => yes (by rw [q]; decide)) (fun n9 => ?_)
  refine kw1 hx h1 h2 gFast (by decide +kernel) (fun q => yes (by rw [q]; decide)) (fun n10 => ?_)
  refine kw1 hx h1 h2 gSun (by decide +kernel) (fun q => yes (by rw [q]; decide)) (fun n11 => ?_)
  refine kw1 hx h1 h2 gEast (by decide +kernel) (fun q => yes (by rw [q]; decide)) (fun n12 => ?_)
  refine kw1 hx h1 h2 gWest (by decide +kernel) (fun q => yes (by rw [q]; decide)) (fun n13 => ?_)
  refine kw1 hx h1 h2 gNorth (by decide +kernel) (fun q => yes (by rw [q]; decide)) (fun n14 => ?_)
  refine kw2 hx h1 h2 gSouth (by decide +kernel) (fun n15 => ?_) (fun q => yes (by rw [q]; decide))
  refine kw1 hx h1 h2 gStands (by decide +kernel) (fun q => yes (by rw [q]; decide)) (fun n16 => ?_)
  refine kw1 hx h1 h2 gLacks (by decide +kernel) (fun q => yes (by rw [q]; decide)) (fun n17 => ?_)
  refine kw1 hx h1 h2 gShadow (by decide +kernel) (fun q => yes (by rw [q]; decide)) (fun n18 => ?_)
  refine kw1 hx h1 h2 gWeek (by decide +kernel) (fun q => yes (by rw [q]; decide)) (fun n19 => ?_)
  refine kw1 hx h1 h2 gYear (by decide +kernel) (fun q => yes (by rw [q]; decide)) (fun n20 => ?_)
  refine kw1 hx h1 h2 gBefore (by decide +kernel) (fun q => yes (by rw [q]; decide)) (fun n21 => ?_)
  refine kw2 hx h1 h2 gLeft (by decide +kernel) (fun n22 => ?_) (fun q => yes (by rw [q]; decide))
  have no : ¬ w ∈ resW := by
    unfold resW
    simp only [List.mem_cons, List.not_mem_nil, or_false, not_or]
    exact ⟨n0, n1, n2, n3, n4, n5, n6, n7, n8, n9, n10, n11, n12, n13, n14, n15, n16, n17, n18, n19, n20, n21, n22⟩
  rw [decide_eq_false no] at k
  exact k
end KK
