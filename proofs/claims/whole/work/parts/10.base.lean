/-! facts that a program decides; names; the layout -/
abbrev κF : Kp := (NN, fun _ _ => false)
abbrev RvQ (Q : Gi → Gl → Prop) : Value → Kp → Gi → Gl → Prop := fun v κ gi gl => κ = κF ∧ v = .null ∧ Q gi gl
abbrev RiQ (Q : Int32 → Gi → Gl → Prop) : Value → Kp → Gi → Gl → Prop := fun v κ gi gl => κ = κF ∧ ∃ r : Int32, v = .int r ∧ Q r gi gl
abbrev RlQ (Q : Int64 → Gi → Gl → Prop) : Value → Kp → Gi → Gl → Prop := fun v κ gi gl => κ = κF ∧ ∃ r : Int64, v = .long r ∧ Q r gi gl
abbrev RrQ (k : Nat) (Q : Option Nat → Gi → Gl → Prop) : Value → Kp → Gi → Gl → Prop := fun v κ gi gl => κ = κF ∧ ((v = .null ∧ Q none gi gl) ∨ ∃ b : Nat, v = .ref b ∧ b < NN ∧ sK b = k ∧ Q (some b) gi gl)
abbrev jr (x y : Int32) : Int32 := x - x / y * y
abbrev jrl (x y : Int64) : Int64 := x - x / y * y
abbrev jl (x y : Int32) : Int32 := x <<< (y &&& 31)
abbrev ja (x y : Int32) : Int32 := x >>> (y &&& 31)
abbrev ju (x y : Int32) : Int32 := (x.toUInt32 >>> (y.toUInt32 &&& Int32.toUInt32 31)).toInt32
abbrev jmax (x y : Int32) : Int32 := if x < y then y else x
abbrev jmin (x y : Int32) : Int32 := if y < x then y else x
abbrev jabs (x : Int32) : Int32 := if 0 ≤ x then x else 0 - x
abbrev jabsl (x : Int64) : Int64 := if 0 < x then x else -x
theorem vp_lit {i : Int32} {n : Nat} (h : ¬ (i < 0 ∨ n ≤ i.toNatClampNeg)) : vp_in i n := h
theorem nar01 {x : Int32} (h : x = 0 ∨ x = 1) : narrow .boolean (.int x) = .int x := by
  rcases h with rfl | rfl <;> decide
section PN
variable {M : MD} {nE nX : Nat} {κ : Kp} {pc : Nat} {ls : List (Option Value)} {st : List Value} {gi : Gi} {gl : Gl} {Q : Value → Kp → Gi → Gl → Prop}
theorem px_namei {x y : Int32} (h : y = x) (k : PAt M nE nX κ pc ls (.int y :: st) gi gl Q) : PAt M nE nX κ pc ls (.int x :: st) gi gl Q := h ▸ k
theorem px_namel {x y : Int64} (h : y = x) (k : PAt M nE nX κ pc ls (.long y :: st) gi gl Q) : PAt M nE nX κ pc ls (.long x :: st) gi gl Q := h ▸ k
theorem px_namegi {g : Gi} (h : g = gi) (k : PAt M nE nX κ pc ls st g gl Q) : PAt M nE nX κ pc ls st gi gl Q := h ▸ k
theorem px_namegl {g : Gl} (h : g = gl) (k : PAt M nE nX κ pc ls st gi g Q) : PAt M nE nX κ pc ls st gi gl Q := h ▸ k
theorem lc_lt {x y : Int64} : lg_cmp x y < 0 ↔ x < y := by
  unfold lg_cmp
  by_cases h : x > y
  · rw [if_pos h]; constructor
    · intro q; exact absurd q (by decide)
    · intro q; exact absurd (Int64.lt_trans q h) (Int64.lt_irrefl)
  · rw [if_neg h]
    by_cases e : x = y
    · rw [if_pos e]; subst e; constructor
      · intro q; exact absurd q (by decide)
      · intro q; exact absurd q (Int64.lt_irrefl)
    · rw [if_neg e]; constructor
      · intro _; rw [Int64.lt_iff_toInt_lt]
        have h2 : ¬ y.toInt < x.toInt := fun q => h (Int64.lt_iff_toInt_lt.mpr q)
        have h3 : x.toInt ≠ y.toInt := fun q => e (Int64.toInt_inj.mp q)
        omega
      · intro _; decide
theorem lc_gt {x y : Int64} : 0 < lg_cmp x y ↔ y < x := by
  unfold lg_cmp
  by_cases h : x > y
  · rw [if_pos h]; exact ⟨fun _ => h, fun _ => by decide⟩
  · rw [if_neg h]
    by_cases e : x = y
    · rw [if_pos e]; exact ⟨fun q => absurd q (by decide), fun q => absurd q h⟩
    · rw [if_neg e]; exact ⟨fun q => absurd q (by decide), fun q => absurd q h⟩
theorem lc_eq {x y : Int64} : lg_cmp x y = 0 ↔ x = y := by
  unfold lg_cmp
  by_cases h : x > y
  · rw [if_pos h]; exact ⟨fun q => absurd q (by decide), fun q => by subst q; exact absurd h (Int64.lt_irrefl)⟩
  · rw [if_neg h]
    by_cases e : x = y
    · rw [if_pos e]; exact ⟨fun _ => e, fun _ => rfl⟩
    · rw [if_neg e]; exact ⟨fun q => absurd q (by decide), fun q => absurd q e⟩
theorem px_lc_lt {x y : Int64} {off : Int} {tgt : Nat} (hd : decode (mC M) pc = .ok (.lcmp, 1)) (hd2 : decode (mC M) (pc + 1) = .ok (.ifCond .lt off, 3)) (ht : ((pc + 1 : Nat) : Int) + off = (tgt : Int)) (k : if x < y then PAt M nE nX κ tgt ls st gi gl Q else PAt M nE nX κ (pc + 1 + 3) ls st gi gl Q) : PAt M nE nX κ pc ls (.long y :: .long x :: st) gi gl Q := by
  refine px_lcmp hd (px_if_lt hd2 ht ?_)
  have e : (lg_cmp x y < 0) ↔ (x < y) := lc_lt
  by_cases q : lg_cmp x y < 0
  · rw [if_pos q]; rwa [if_pos (e.mp q)] at k
  · rw [if_neg q]; rwa [if_neg (fun z => q (e.mpr z))] at k
theorem px_lc_gt {x y : Int64} {off : Int} {tgt : Nat} (hd : decode (mC M) pc = .ok (.lcmp, 1)) (hd2 : decode (mC M) (pc + 1) = .ok (.ifCond .gt off, 3)) (ht : ((pc + 1 : Nat) : Int) + off = (tgt : Int)) (k : if y < x then PAt M nE nX κ tgt ls st gi gl Q else PAt M nE nX κ (pc + 1 + 3) ls st gi gl Q) : PAt M nE nX κ pc ls (.long y :: .long x :: st) gi gl Q := by
  refine px_lcmp hd (px_if_gt hd2 ht ?_)
  have e : (0 < lg_cmp x y) ↔ (y < x) := lc_gt
  by_cases q : 0 < lg_cmp x y
  · rw [if_pos q]; rwa [if_pos (e.mp q)] at k
  · rw [if_neg q]; rwa [if_neg (fun z => q (e.mpr z))] at k
theorem px_lc_eq {x y : Int64} {off : Int} {tgt : Nat} (hd : decode (mC M) pc = .ok (.lcmp, 1)) (hd2 : decode (mC M) (pc + 1) = .ok (.ifCond .eq off, 3)) (ht : ((pc + 1 : Nat) : Int) + off = (tgt : Int)) (k : if x = y then PAt M nE nX κ tgt ls st gi gl Q else PAt M nE nX κ (pc + 1 + 3) ls st gi gl Q) : PAt M nE nX κ pc ls (.long y :: .long x :: st) gi gl Q := by
  refine px_lcmp hd (px_if_eq hd2 ht ?_)
  have e : (lg_cmp x y = 0) ↔ (x = y) := lc_eq
  by_cases q : lg_cmp x y = 0
  · rw [if_pos q]; rwa [if_pos (e.mp q)] at k
  · rw [if_neg q]; rwa [if_neg (fun z => q (e.mpr z))] at k
theorem px_lc_ne {x y : Int64} {off : Int} {tgt : Nat} (hd : decode (mC M) pc = .ok (.lcmp, 1)) (hd2 : decode (mC M) (pc + 1) = .ok (.ifCond .ne off, 3)) (ht : ((pc + 1 : Nat) : Int) + off = (tgt : Int)) (k : if ¬ x = y then PAt M nE nX κ tgt ls st gi gl Q else PAt M nE nX κ (pc + 1 + 3) ls st gi gl Q) : PAt M nE nX κ pc ls (.long y :: .long x :: st) gi gl Q := by
  refine px_lcmp hd (px_if_ne hd2 ht ?_)
  have e : (¬ lg_cmp x y = 0) ↔ (¬ x = y) := (not_congr lc_eq)
  by_cases q : ¬ lg_cmp x y = 0
  · rw [if_pos q]; rwa [if_pos (e.mp q)] at k
  · rw [if_neg q]; rwa [if_neg (fun z => q (e.mpr z))] at k
theorem px_lc_ge {x y : Int64} {off : Int} {tgt : Nat} (hd : decode (mC M) pc = .ok (.lcmp, 1)) (hd2 : decode (mC M) (pc + 1) = .ok (.ifCond .ge off, 3)) (ht : ((pc + 1 : Nat) : Int) + off = (tgt : Int)) (k : if y ≤ x then PAt M nE nX κ tgt ls st gi gl Q else PAt M nE nX κ (pc + 1 + 3) ls st gi gl Q) : PAt M nE nX κ pc ls (.long y :: .long x :: st) gi gl Q := by
  refine px_lcmp hd (px_if_ge hd2 ht ?_)
  have e : (0 ≤ lg_cmp x y) ↔ (y ≤ x) := (by rw [← Int32.not_lt, ← Int64.not_lt]; exact not_congr lc_lt)
  by_cases q : 0 ≤ lg_cmp x y
  · rw [if_pos q]; rwa [if_pos (e.mp q)] at k
  · rw [if_neg q]; rwa [if_neg (fun z => q (e.mpr z))] at k
theorem px_lc_le {x y : Int64} {off : Int} {tgt : Nat} (hd : decode (mC M) pc = .ok (.lcmp, 1)) (hd2 : decode (mC M) (pc + 1) = .ok (.ifCond .le off, 3)) (ht : ((pc + 1 : Nat) : Int) + off = (tgt : Int)) (k : if x ≤ y then PAt M nE nX κ tgt ls st gi gl Q else PAt M nE nX κ (pc + 1 + 3) ls st gi gl Q) : PAt M nE nX κ pc ls (.long y :: .long x :: st) gi gl Q := by
  refine px_lcmp hd (px_if_le hd2 ht ?_)
  have e : (lg_cmp x y ≤ 0) ↔ (x ≤ y) := (by rw [← Int32.not_lt, ← Int64.not_lt]; exact not_congr lc_gt)
  by_cases q : lg_cmp x y ≤ 0
  · rw [if_pos q]; rwa [if_pos (e.mp q)] at k
  · rw [if_neg q]; rwa [if_neg (fun z => q (e.mpr z))] at k
end PN
theorem tbl_out3 {x : Int32} (h0 : ¬ x = (0 : Int32)) (h1 : ¬ x = (1 : Int32)) (h2 : ¬ x = (2 : Int32)) : x.toInt < 0 ∨ 2 < x.toInt := by
  by_cases q : x.toInt < 0 ∨ 2 < x.toInt
  · exact q
  · exfalso
    have e : x = Int32.ofInt x.toInt := (Int32.ofInt_toInt x).symm
    have hh : x.toInt = 0 ∨ x.toInt = 1 ∨ x.toInt = 2 := by omega
    rcases hh with g | g | g
    · exact h0 (by rw [e, g]; decide)
    · exact h1 (by rw [e, g]; decide)
    · exact h2 (by rw [e, g]; decide)
theorem tbl_out5 {x : Int32} (h0 : ¬ x = (0 : Int32)) (h1 : ¬ x = (1 : Int32)) (h2 : ¬ x = (2 : Int32)) (h3 : ¬ x = (3 : Int32)) (h4 : ¬ x = (4 : Int32)) : x.toInt < 0 ∨ 4 < x.toInt := by
  by_cases q : x.toInt < 0 ∨ 4 < x.toInt
  · exact q
  · exfalso
    have e : x = Int32.ofInt x.toInt := (Int32.ofInt_toInt x).symm
    have hh : x.toInt = 0 ∨ x.toInt = 1 ∨ x.toInt = 2 ∨ x.toInt = 3 ∨ x.toInt = 4 := by omega
    rcases hh with g | g | g | g | g
    · exact h0 (by rw [e, g]; decide)
    · exact h1 (by rw [e, g]; decide)
    · exact h2 (by rw [e, g]; decide)
    · exact h3 (by rw [e, g]; decide)
    · exact h4 (by rw [e, g]; decide)
theorem tbl_out6 {x : Int32} (h0 : ¬ x = (0 : Int32)) (h1 : ¬ x = (1 : Int32)) (h2 : ¬ x = (2 : Int32)) (h3 : ¬ x = (3 : Int32)) (h4 : ¬ x = (4 : Int32)) (h5 : ¬ x = (5 : Int32)) : x.toInt < 0 ∨ 5 < x.toInt := by
  by_cases q : x.toInt < 0 ∨ 5 < x.toInt
  · exact q
  · exfalso
    have e : x = Int32.ofInt x.toInt := (Int32.ofInt_toInt x).symm
    have hh : x.toInt = 0 ∨ x.toInt = 1 ∨ x.toInt = 2 ∨ x.toInt = 3 ∨ x.toInt = 4 ∨ x.toInt = 5 := by omega
    rcases hh with g | g | g | g | g | g
    · exact h0 (by rw [e, g]; decide)
    · exact h1 (by rw [e, g]; decide)
    · exact h2 (by rw [e, g]; decide)
    · exact h3 (by rw [e, g]; decide)
    · exact h4 (by rw [e, g]; decide)
    · exact h5 (by rw [e, g]; decide)
theorem tbl_out8 {x : Int32} (h0 : ¬ x = (0 : Int32)) (h1 : ¬ x = (1 : Int32)) (h2 : ¬ x = (2 : Int32)) (h3 : ¬ x = (3 : Int32)) (h4 : ¬ x = (4 : Int32)) (h5 : ¬ x = (5 : Int32)) (h6 : ¬ x = (6 : Int32)) (h7 : ¬ x = (7 : Int32)) : x.toInt < 0 ∨ 7 < x.toInt := by
  by_cases q : x.toInt < 0 ∨ 7 < x.toInt
  · exact q
  · exfalso
    have e : x = Int32.ofInt x.toInt := (Int32.ofInt_toInt x).symm
    have hh : x.toInt = 0 ∨ x.toInt = 1 ∨ x.toInt = 2 ∨ x.toInt = 3 ∨ x.toInt = 4 ∨ x.toInt = 5 ∨ x.toInt = 6 ∨ x.toInt = 7 := by omega
    rcases hh with g | g | g | g | g | g | g | g
    · exact h0 (by rw [e, g]; decide)
    · exact h1 (by rw [e, g]; decide)
    · exact h2 (by rw [e, g]; decide)
    · exact h3 (by rw [e, g]; decide)
    · exact h4 (by rw [e, g]; decide)
    · exact h5 (by rw [e, g]; decide)
    · exact h6 (by rw [e, g]; decide)
    · exact h7 (by rw [e, g]; decide)
theorem zl_0 : 0 < NN := by decide +kernel
theorem zk_0 : sK 0 = 11 := by decide +kernel
theorem zs_0 : sN 0 = 16 := by decide +kernel
theorem zl_1 : 1 < NN := by decide +kernel
theorem zk_1 : sK 1 = 102 := by decide +kernel
theorem zs_1 : sN 1 = 1200 := by decide +kernel
theorem zl_2 : 2 < NN := by decide +kernel
theorem zk_2 : sK 2 = 10 := by decide +kernel
theorem zs_2 : sN 2 = 5 := by decide +kernel
theorem zl_8 : 8 < NN := by decide +kernel
theorem zk_8 : sK 8 = 10 := by decide +kernel
theorem zs_8 : sN 8 = 5 := by decide +kernel
theorem zl_14 : 14 < NN := by decide +kernel
theorem zk_14 : sK 14 = 5 := by decide +kernel
theorem zs_14 : sN 14 = 3 := by decide +kernel
theorem zl_21 : 21 < NN := by decide +kernel
theorem zk_21 : sK 21 = 7 := by decide +kernel
theorem zs_21 : sN 21 = 4 := by decide +kernel
theorem zl_22 : 22 < NN := by decide +kernel
theorem zk_22 : sK 22 = 8 := by decide +kernel
theorem zs_22 : sN 22 = 5 := by decide +kernel
theorem zl_23 : 23 < NN := by decide +kernel
theorem zk_23 : sK 23 = 9 := by decide +kernel
theorem zs_23 : sN 23 = 7 := by decide +kernel
theorem zl_24 : 24 < NN := by decide +kernel
theorem zk_24 : sK 24 = 2 := by decide +kernel
theorem zs_24 : sN 24 = 2 := by decide +kernel
theorem zl_25 : 25 < NN := by decide +kernel
theorem zk_25 : sK 25 = 6 := by decide +kernel
theorem zs_25 : sN 25 = 8 := by decide +kernel
theorem zl_26 : 26 < NN := by decide +kernel
theorem zk_26 : sK 26 = 100 := by decide +kernel
theorem zs_26 : sN 26 = 4096 := by decide +kernel
theorem zl_27 : 27 < NN := by decide +kernel
theorem zk_27 : sK 27 = 100 := by decide +kernel
theorem zs_27 : sN 27 = 4096 := by decide +kernel
theorem zl_28 : 28 < NN := by decide +kernel
theorem zk_28 : sK 28 = 100 := by decide +kernel
theorem zs_28 : sN 28 = 1020 := by decide +kernel
theorem zl_29 : 29 < NN := by decide +kernel
theorem zk_29 : sK 29 = 100 := by decide +kernel
theorem zs_29 : sN 29 = 12 := by decide +kernel
theorem zl_30 : 30 < NN := by decide +kernel
theorem zk_30 : sK 30 = 1 := by decide +kernel
theorem zs_30 : sN 30 = 1 := by decide +kernel
theorem zl_31 : 31 < NN := by decide +kernel
theorem zk_31 : sK 31 = 3 := by decide +kernel
theorem zs_31 : sN 31 = 7 := by decide +kernel
theorem zl_32 : 32 < NN := by decide +kernel
theorem zk_32 : sK 32 = 100 := by decide +kernel
theorem zs_32 : sN 32 = 3601 := by decide +kernel
theorem zl_33 : 33 < NN := by decide +kernel
theorem zk_33 : sK 33 = 0 := by decide +kernel
theorem zs_33 : sN 33 = 3 := by decide +kernel
theorem zl_92 : 92 < NN := by decide +kernel
theorem zk_92 : sK 92 = 105 := by decide +kernel
theorem zs_92 : sN 92 = 4 := by decide +kernel
theorem zl_329 : 329 < NN := by decide +kernel
theorem zk_329 : sK 329 = 12 := by decide +kernel
theorem zs_329 : sN 329 = 68 := by decide +kernel
theorem zl_330 : 330 < NN := by decide +kernel
theorem zk_330 : sK 330 = 100 := by decide +kernel
theorem zs_330 : sN 330 = 2 := by decide +kernel
theorem zl_331 : 331 < NN := by decide +kernel
theorem zk_331 : sK 331 = 100 := by decide +kernel
theorem zs_331 : sN 331 = 2 := by decide +kernel
theorem zl_332 : 332 < NN := by decide +kernel
theorem zk_332 : sK 332 = 100 := by decide +kernel
theorem zs_332 : sN 332 = 2 := by decide +kernel
theorem zl_333 : 333 < NN := by decide +kernel
theorem zk_333 : sK 333 = 100 := by decide +kernel
theorem zs_333 : sN 333 = 2 := by decide +kernel
theorem zl_334 : 334 < NN := by decide +kernel
theorem zk_334 : sK 334 = 100 := by decide +kernel
theorem zs_334 : sN 334 = 2 := by decide +kernel
theorem zl_335 : 335 < NN := by decide +kernel
theorem zk_335 : sK 335 = 100 := by decide +kernel
theorem zs_335 : sN 335 = 2 := by decide +kernel
theorem zl_336 : 336 < NN := by decide +kernel
theorem zk_336 : sK 336 = 101 := by decide +kernel
theorem zs_336 : sN 336 = 24 := by decide +kernel
theorem zl_337 : 337 < NN := by decide +kernel
theorem zk_337 : sK 337 = 101 := by decide +kernel
theorem zs_337 : sN 337 = 12 := by decide +kernel
theorem zl_338 : 338 < NN := by decide +kernel
theorem zk_338 : sK 338 = 101 := by decide +kernel
theorem zs_338 : sN 338 = 20 := by decide +kernel
theorem zl_339 : 339 < NN := by decide +kernel
theorem zk_339 : sK 339 = 101 := by decide +kernel
theorem zs_339 : sN 339 = 8 := by decide +kernel
theorem zl_340 : 340 < NN := by decide +kernel
theorem zk_340 : sK 340 = 100 := by decide +kernel
theorem zs_340 : sN 340 = 24 := by decide +kernel
theorem zl_341 : 341 < NN := by decide +kernel
theorem zk_341 : sK 341 = 100 := by decide +kernel
theorem zs_341 : sN 341 = 24 := by decide +kernel
theorem zl_342 : 342 < NN := by decide +kernel
theorem zk_342 : sK 342 = 100 := by decide +kernel
theorem zs_342 : sN 342 = 24 := by decide +kernel
theorem zl_343 : 343 < NN := by decide +kernel
theorem zk_343 : sK 343 = 100 := by decide +kernel
theorem zs_343 : sN 343 = 24 := by decide +kernel
theorem zl_344 : 344 < NN := by decide +kernel
theorem zk_344 : sK 344 = 100 := by decide +kernel
theorem zs_344 : sN 344 = 12 := by decide +kernel
theorem zl_345 : 345 < NN := by decide +kernel
theorem zk_345 : sK 345 = 100 := by decide +kernel
theorem zs_345 : sN 345 = 12 := by decide +kernel
theorem zl_346 : 346 < NN := by decide +kernel
theorem zk_346 : sK 346 = 100 := by decide +kernel
theorem zs_346 : sN 346 = 20 := by decide +kernel
theorem zl_347 : 347 < NN := by decide +kernel
theorem zk_347 : sK 347 = 100 := by decide +kernel
theorem zs_347 : sN 347 = 20 := by decide +kernel
theorem zl_348 : 348 < NN := by decide +kernel
theorem zk_348 : sK 348 = 100 := by decide +kernel
theorem zs_348 : sN 348 = 20 := by decide +kernel
theorem zl_349 : 349 < NN := by decide +kernel
theorem zk_349 : sK 349 = 100 := by decide +kernel
theorem zs_349 : sN 349 = 8 := by decide +kernel
theorem zl_350 : 350 < NN := by decide +kernel
theorem zk_350 : sK 350 = 100 := by decide +kernel
theorem zs_350 : sN 350 = 8 := by decide +kernel
theorem zl_351 : 351 < NN := by decide +kernel
theorem zk_351 : sK 351 = 100 := by decide +kernel
theorem zs_351 : sN 351 = 80 := by decide +kernel
theorem zl_352 : 352 < NN := by decide +kernel
theorem zk_352 : sK 352 = 100 := by decide +kernel
theorem zs_352 : sN 352 = 80 := by decide +kernel
theorem zl_353 : 353 < NN := by decide +kernel
theorem zk_353 : sK 353 = 100 := by decide +kernel
theorem zs_353 : sN 353 = 80 := by decide +kernel
theorem zl_354 : 354 < NN := by decide +kernel
theorem zk_354 : sK 354 = 100 := by decide +kernel
theorem zs_354 : sN 354 = 80 := by decide +kernel
theorem zl_355 : 355 < NN := by decide +kernel
theorem zk_355 : sK 355 = 100 := by decide +kernel
theorem zs_355 : sN 355 = 5 := by decide +kernel
theorem zl_356 : 356 < NN := by decide +kernel
theorem zk_356 : sK 356 = 100 := by decide +kernel
theorem zs_356 : sN 356 = 40 := by decide +kernel
theorem zl_357 : 357 < NN := by decide +kernel
theorem zk_357 : sK 357 = 100 := by decide +kernel
theorem zs_357 : sN 357 = 480 := by decide +kernel
theorem zl_358 : 358 < NN := by decide +kernel
theorem zk_358 : sK 358 = 100 := by decide +kernel
theorem zs_358 : sN 358 = 480 := by decide +kernel
theorem zl_359 : 359 < NN := by decide +kernel
theorem zk_359 : sK 359 = 100 := by decide +kernel
theorem zs_359 : sN 359 = 480 := by decide +kernel
theorem zl_360 : 360 < NN := by decide +kernel
theorem zk_360 : sK 360 = 100 := by decide +kernel
theorem zs_360 : sN 360 = 480 := by decide +kernel
theorem zl_361 : 361 < NN := by decide +kernel
theorem zk_361 : sK 361 = 100 := by decide +kernel
theorem zs_361 : sN 361 = 480 := by decide +kernel
theorem zl_362 : 362 < NN := by decide +kernel
theorem zk_362 : sK 362 = 100 := by decide +kernel
theorem zs_362 : sN 362 = 60 := by decide +kernel
theorem zl_363 : 363 < NN := by decide +kernel
theorem zk_363 : sK 363 = 102 := by decide +kernel
theorem zs_363 : sN 363 = 1200 := by decide +kernel
theorem zl_364 : 364 < NN := by decide +kernel
theorem zk_364 : sK 364 = 103 := by decide +kernel
theorem zs_364 : sN 364 = 3600 := by decide +kernel
theorem zl_365 : 365 < NN := by decide +kernel
theorem zk_365 : sK 365 = 103 := by decide +kernel
theorem zs_365 : sN 365 = 8640 := by decide +kernel
theorem zl_366 : 366 < NN := by decide +kernel
theorem zk_366 : sK 366 = 100 := by decide +kernel
theorem zs_366 : sN 366 = 12 := by decide +kernel
theorem zl_367 : 367 < NN := by decide +kernel
theorem zk_367 : sK 367 = 100 := by decide +kernel
theorem zs_367 : sN 367 = 12 := by decide +kernel
theorem zl_368 : 368 < NN := by decide +kernel
theorem zk_368 : sK 368 = 103 := by decide +kernel
theorem zs_368 : sN 368 = 4096 := by decide +kernel
theorem zl_369 : 369 < NN := by decide +kernel
theorem zk_369 : sK 369 = 103 := by decide +kernel
theorem zs_369 : sN 369 = 4096 := by decide +kernel
theorem zl_370 : 370 < NN := by decide +kernel
theorem zk_370 : sK 370 = 103 := by decide +kernel
theorem zs_370 : sN 370 = 4096 := by decide +kernel
theorem zl_371 : 371 < NN := by decide +kernel
theorem zk_371 : sK 371 = 103 := by decide +kernel
theorem zs_371 : sN 371 = 3600 := by decide +kernel
theorem zl_372 : 372 < NN := by decide +kernel
theorem zk_372 : sK 372 = 103 := by decide +kernel
theorem zs_372 : sN 372 = 8640 := by decide +kernel
theorem zl_373 : 373 < NN := by decide +kernel
theorem zk_373 : sK 373 = 101 := by decide +kernel
theorem zs_373 : sN 373 = 12 := by decide +kernel
theorem zl_374 : 374 < NN := by decide +kernel
theorem zk_374 : sK 374 = 100 := by decide +kernel
theorem zs_374 : sN 374 = 3600 := by decide +kernel
theorem zl_375 : 375 < NN := by decide +kernel
theorem zk_375 : sK 375 = 100 := by decide +kernel
theorem zs_375 : sN 375 = 8640 := by decide +kernel
theorem zl_376 : 376 < NN := by decide +kernel
theorem zk_376 : sK 376 = 103 := by decide +kernel
theorem zs_376 : sN 376 = 256 := by decide +kernel
theorem zr_0_0 : sR 0 0 = 1 := by decide +kernel
theorem zr_0_1 : sR 0 1 = 2 := by decide +kernel
theorem zr_0_2 : sR 0 2 = 8 := by decide +kernel
theorem zr_0_3 : sR 0 3 = 14 := by decide +kernel
theorem zr_0_4 : sR 0 4 = 21 := by decide +kernel
theorem zr_0_5 : sR 0 5 = 23 := by decide +kernel
theorem zr_0_6 : sR 0 6 = 24 := by decide +kernel
theorem zr_0_7 : sR 0 7 = 25 := by decide +kernel
theorem zr_0_8 : sR 0 8 = 30 := by decide +kernel
theorem zr_0_9 : sR 0 9 = 31 := by decide +kernel
theorem zr_0_10 : sR 0 10 = 33 := by decide +kernel
theorem zr_0_11 : sR 0 11 = 92 := by decide +kernel
theorem zr_21_0 : sR 21 0 = 22 := by decide +kernel
theorem zr_21_1 : sR 21 1 = 2 := by decide +kernel
theorem zr_21_2 : sR 21 2 = 8 := by decide +kernel
theorem zr_21_3 : sR 21 3 = 14 := by decide +kernel
theorem zr_22_0 : sR 22 0 = 1 := by decide +kernel
theorem zr_23_0 : sR 23 0 = 2 := by decide +kernel
theorem zr_24_0 : sR 24 0 = 2 := by decide +kernel
theorem zr_24_1 : sR 24 1 = 23 := by decide +kernel
theorem zr_25_0 : sR 25 0 = 24 := by decide +kernel
theorem zr_25_1 : sR 25 1 = 26 := by decide +kernel
theorem zr_25_2 : sR 25 2 = 27 := by decide +kernel
theorem zr_25_3 : sR 25 3 = 28 := by decide +kernel
theorem zr_25_4 : sR 25 4 = 29 := by decide +kernel
theorem zr_30_0 : sR 30 0 = 2 := by decide +kernel
theorem zr_31_0 : sR 31 0 = 2 := by decide +kernel
theorem zr_31_1 : sR 31 1 = 24 := by decide +kernel
theorem zr_31_2 : sR 31 2 = 32 := by decide +kernel
theorem zr_329_2 : sR 329 2 = 330 := by decide +kernel
theorem zr_329_3 : sR 329 3 = 331 := by decide +kernel
theorem zr_329_4 : sR 329 4 = 332 := by decide +kernel
theorem zr_329_5 : sR 329 5 = 333 := by decide +kernel
theorem zr_329_6 : sR 329 6 = 334 := by decide +kernel
theorem zr_329_7 : sR 329 7 = 335 := by decide +kernel
theorem zr_329_8 : sR 329 8 = 336 := by decide +kernel
theorem zr_329_9 : sR 329 9 = 337 := by decide +kernel
theorem zr_329_10 : sR 329 10 = 338 := by decide +kernel
theorem zr_329_11 : sR 329 11 = 339 := by decide +kernel
theorem zr_329_12 : sR 329 12 = 340 := by decide +kernel
theorem zr_329_13 : sR 329 13 = 341 := by decide +kernel
theorem zr_329_14 : sR 329 14 = 342 := by decide +kernel
theorem zr_329_15 : sR 329 15 = 343 := by decide +kernel
theorem zr_329_16 : sR 329 16 = 344 := by decide +kernel
theorem zr_329_17 : sR 329 17 = 345 := by decide +kernel
theorem zr_329_18 : sR 329 18 = 346 := by decide +kernel
theorem zr_329_19 : sR 329 19 = 347 := by decide +kernel
theorem zr_329_20 : sR 329 20 = 348 := by decide +kernel
theorem zr_329_21 : sR 329 21 = 349 := by decide +kernel
theorem zr_329_22 : sR 329 22 = 350 := by decide +kernel
theorem zr_329_23 : sR 329 23 = 351 := by decide +kernel
theorem zr_329_24 : sR 329 24 = 352 := by decide +kernel
theorem zr_329_25 : sR 329 25 = 353 := by decide +kernel
theorem zr_329_26 : sR 329 26 = 354 := by decide +kernel
theorem zr_329_27 : sR 329 27 = 355 := by decide +kernel
theorem zr_329_28 : sR 329 28 = 356 := by decide +kernel
theorem zr_329_29 : sR 329 29 = 357 := by decide +kernel
theorem zr_329_30 : sR 329 30 = 358 := by decide +kernel
theorem zr_329_31 : sR 329 31 = 359 := by decide +kernel
theorem zr_329_32 : sR 329 32 = 360 := by decide +kernel
theorem zr_329_33 : sR 329 33 = 361 := by decide +kernel
theorem zr_329_34 : sR 329 34 = 362 := by decide +kernel
theorem zr_329_35 : sR 329 35 = 363 := by decide +kernel
theorem zr_329_52 : sR 329 52 = 364 := by decide +kernel
theorem zr_329_53 : sR 329 53 = 365 := by decide +kernel
theorem zr_329_54 : sR 329 54 = 366 := by decide +kernel
theorem zr_329_55 : sR 329 55 = 367 := by decide +kernel
theorem zr_329_56 : sR 329 56 = 368 := by decide +kernel
theorem zr_329_57 : sR 329 57 = 369 := by decide +kernel
theorem zr_329_58 : sR 329 58 = 370 := by decide +kernel
theorem zr_329_59 : sR 329 59 = 371 := by decide +kernel
theorem zr_329_60 : sR 329 60 = 372 := by decide +kernel
theorem zr_329_61 : sR 329 61 = 373 := by decide +kernel
theorem zr_329_64 : sR 329 64 = 374 := by decide +kernel
theorem zr_329_65 : sR 329 65 = 375 := by decide +kernel
theorem zr_329_66 : sR 329 66 = 376 := by decide +kernel
theorem sK_big {a : Nat} (h : ¬ a < NN) : sK a = 200 := if_neg h
theorem so_0 {a : Nat} (h : sK a = 0) : sN a = 3 := by
  by_cases q : a < NN
  · exact (show ∀ a, a < 377 → sK a = 0 → sN a = 3 by decide +kernel) a q h
  · rw [sK_big q] at h; exact absurd h (by decide)
theorem so_1 {a : Nat} (h : sK a = 1) : sN a = 1 := by
  by_cases q : a < NN
  · exact (show ∀ a, a < 377 → sK a = 1 → sN a = 1 by decide +kernel) a q h
  · rw [sK_big q] at h; exact absurd h (by decide)
theorem so_2 {a : Nat} (h : sK a = 2) : sN a = 2 := by
  by_cases q : a < NN
  · exact (show ∀ a, a < 377 → sK a = 2 → sN a = 2 by decide +kernel) a q h
  · rw [sK_big q] at h; exact absurd h (by decide)
theorem so_3 {a : Nat} (h : sK a = 3) : sN a = 7 := by
  by_cases q : a < NN
  · exact (show ∀ a, a < 377 → sK a = 3 → sN a = 7 by decide +kernel) a q h
  · rw [sK_big q] at h; exact absurd h (by decide)
theorem so_4 {a : Nat} (h : sK a = 4) : sN a = 4 := by
  by_cases q : a < NN
  · exact (show ∀ a, a < 377 → sK a = 4 → sN a = 4 by decide +kernel) a q h
  · rw [sK_big q] at h; exact absurd h (by decide)
theorem so_5 {a : Nat} (h : sK a = 5) : sN a = 3 := by
  by_cases q : a < NN
  · exact (show ∀ a, a < 377 → sK a = 5 → sN a = 3 by decide +kernel) a q h
  · rw [sK_big q] at h; exact absurd h (by decide)
theorem so_6 {a : Nat} (h : sK a = 6) : sN a = 8 := by
  by_cases q : a < NN
  · exact (show ∀ a, a < 377 → sK a = 6 → sN a = 8 by decide +kernel) a q h
  · rw [sK_big q] at h; exact absurd h (by decide)
theorem so_7 {a : Nat} (h : sK a = 7) : sN a = 4 := by
  by_cases q : a < NN
  · exact (show ∀ a, a < 377 → sK a = 7 → sN a = 4 by decide +kernel) a q h
  · rw [sK_big q] at h; exact absurd h (by decide)
theorem so_8 {a : Nat} (h : sK a = 8) : sN a = 5 := by
  by_cases q : a < NN
  · exact (show ∀ a, a < 377 → sK a = 8 → sN a = 5 by decide +kernel) a q h
  · rw [sK_big q] at h; exact absurd h (by decide)
theorem so_9 {a : Nat} (h : sK a = 9) : sN a = 7 := by
  by_cases q : a < NN
  · exact (show ∀ a, a < 377 → sK a = 9 → sN a = 7 by decide +kernel) a q h
  · rw [sK_big q] at h; exact absurd h (by decide)
theorem so_10 {a : Nat} (h : sK a = 10) : sN a = 5 := by
  by_cases q : a < NN
  · exact (show ∀ a, a < 377 → sK a = 10 → sN a = 5 by decide +kernel) a q h
  · rw [sK_big q] at h; exact absurd h (by decide)
theorem so_11 {a : Nat} (h : sK a = 11) : sN a = 16 := by
  by_cases q : a < NN
  · exact (show ∀ a, a < 377 → sK a = 11 → sN a = 16 by decide +kernel) a q h
  · rw [sK_big q] at h; exact absurd h (by decide)
theorem so_12 {a : Nat} (h : sK a = 12) : sN a = 68 := by
  by_cases q : a < NN
  · exact (show ∀ a, a < 377 → sK a = 12 → sN a = 68 by decide +kernel) a q h
  · rw [sK_big q] at h; exact absurd h (by decide)
theorem ly4_lt1 {a : Nat} (hN : a < NN) (h : sK a = 4) : a + 1 < NN := (show ∀ a, a < 377 → sK a = 4 → a + 1 < 377 by decide +kernel) a hN h
theorem ly4_k1 {a : Nat} (hN : a < NN) (h : sK a = 4) : sK (a + 1) = 100 := (show ∀ a, a < 377 → sK a = 4 → sK (a + 1) = 100 by decide +kernel) a hN h
theorem ly4_s1 {a : Nat} (hN : a < NN) (h : sK a = 4) : sN (a + 1) = 120 := (show ∀ a, a < 377 → sK a = 4 → sN (a + 1) = 120 by decide +kernel) a hN h
theorem ly4_lt2 {a : Nat} (hN : a < NN) (h : sK a = 4) : a + 2 < NN := (show ∀ a, a < 377 → sK a = 4 → a + 2 < 377 by decide +kernel) a hN h
theorem ly4_k2 {a : Nat} (hN : a < NN) (h : sK a = 4) : sK (a + 2) = 100 := (show ∀ a, a < 377 → sK a = 4 → sK (a + 2) = 100 by decide +kernel) a hN h
theorem ly4_s2 {a : Nat} (hN : a < NN) (h : sK a = 4) : sN (a + 2) = 288 := (show ∀ a, a < 377 → sK a = 4 → sN (a + 2) = 288 by decide +kernel) a hN h
theorem ly4_lt3 {a : Nat} (hN : a < NN) (h : sK a = 4) : a + 3 < NN := (show ∀ a, a < 377 → sK a = 4 → a + 3 < 377 by decide +kernel) a hN h
theorem ly4_k3 {a : Nat} (hN : a < NN) (h : sK a = 4) : sK (a + 3) = 100 := (show ∀ a, a < 377 → sK a = 4 → sK (a + 3) = 100 by decide +kernel) a hN h
theorem ly4_s3 {a : Nat} (hN : a < NN) (h : sK a = 4) : sN (a + 3) = 12 := (show ∀ a, a < 377 → sK a = 4 → sN (a + 3) = 12 by decide +kernel) a hN h
theorem ly4_lt4 {a : Nat} (hN : a < NN) (h : sK a = 4) : a + 4 < NN := (show ∀ a, a < 377 → sK a = 4 → a + 4 < 377 by decide +kernel) a hN h
theorem ly4_k4 {a : Nat} (hN : a < NN) (h : sK a = 4) : sK (a + 4) = 100 := (show ∀ a, a < 377 → sK a = 4 → sK (a + 4) = 100 by decide +kernel) a hN h
theorem ly4_s4 {a : Nat} (hN : a < NN) (h : sK a = 4) : sN (a + 4) = 12 := (show ∀ a, a < 377 → sK a = 4 → sN (a + 4) = 12 by decide +kernel) a hN h
theorem ly4_r0 {a : Nat} (hN : a < NN) (h : sK a = 4) : sR a 0 = a + 1 := (show ∀ a, a < 377 → sK a = 4 → sR a 0 = a + 1 by decide +kernel) a hN h
theorem ly4_r1 {a : Nat} (hN : a < NN) (h : sK a = 4) : sR a 1 = a + 2 := (show ∀ a, a < 377 → sK a = 4 → sR a 1 = a + 2 by decide +kernel) a hN h
theorem ly4_r2 {a : Nat} (hN : a < NN) (h : sK a = 4) : sR a 2 = a + 3 := (show ∀ a, a < 377 → sK a = 4 → sR a 2 = a + 3 by decide +kernel) a hN h
theorem ly4_r3 {a : Nat} (hN : a < NN) (h : sK a = 4) : sR a 3 = a + 4 := (show ∀ a, a < 377 → sK a = 4 → sR a 3 = a + 4 by decide +kernel) a hN h
theorem ly5_lt1 {a : Nat} (hN : a < NN) (h : sK a = 5) : a + 1 < NN := (show ∀ a, a < 377 → sK a = 5 → a + 1 < 377 by decide +kernel) a hN h
theorem ly5_k1 {a : Nat} (hN : a < NN) (h : sK a = 5) : sK (a + 1) = 100 := (show ∀ a, a < 377 → sK a = 5 → sK (a + 1) = 100 by decide +kernel) a hN h
theorem ly5_s1 {a : Nat} (hN : a < NN) (h : sK a = 5) : sN (a + 1) = 60 := (show ∀ a, a < 377 → sK a = 5 → sN (a + 1) = 60 by decide +kernel) a hN h
theorem ly5_lt2 {a : Nat} (hN : a < NN) (h : sK a = 5) : a + 2 < NN := (show ∀ a, a < 377 → sK a = 5 → a + 2 < 377 by decide +kernel) a hN h
theorem ly5_k2 {a : Nat} (hN : a < NN) (h : sK a = 5) : sK (a + 2) = 4 := (show ∀ a, a < 377 → sK a = 5 → sK (a + 2) = 4 by decide +kernel) a hN h
theorem ly5_s2 {a : Nat} (hN : a < NN) (h : sK a = 5) : sN (a + 2) = 4 := (show ∀ a, a < 377 → sK a = 5 → sN (a + 2) = 4 by decide +kernel) a hN h
theorem ly5_r0 {a : Nat} (hN : a < NN) (h : sK a = 5) : sR a 0 = a + 1 := (show ∀ a, a < 377 → sK a = 5 → sR a 0 = a + 1 by decide +kernel) a hN h
theorem ly5_r1 {a : Nat} (hN : a < NN) (h : sK a = 5) : sR a 1 = a + 2 := (show ∀ a, a < 377 → sK a = 5 → sR a 1 = a + 2 by decide +kernel) a hN h
theorem ly10_lt1 {a : Nat} (hN : a < NN) (h : sK a = 10) : a + 1 < NN := (show ∀ a, a < 377 → sK a = 10 → a + 1 < 377 by decide +kernel) a hN h
theorem ly10_k1 {a : Nat} (hN : a < NN) (h : sK a = 10) : sK (a + 1) = 100 := (show ∀ a, a < 377 → sK a = 10 → sK (a + 1) = 100 by decide +kernel) a hN h
theorem ly10_s1 {a : Nat} (hN : a < NN) (h : sK a = 10) : sN (a + 1) = 6 := (show ∀ a, a < 377 → sK a = 10 → sN (a + 1) = 6 by decide +kernel) a hN h
theorem ly10_lt2 {a : Nat} (hN : a < NN) (h : sK a = 10) : a + 2 < NN := (show ∀ a, a < 377 → sK a = 10 → a + 2 < 377 by decide +kernel) a hN h
theorem ly10_k2 {a : Nat} (hN : a < NN) (h : sK a = 10) : sK (a + 2) = 101 := (show ∀ a, a < 377 → sK a = 10 → sK (a + 2) = 101 by decide +kernel) a hN h
theorem ly10_s2 {a : Nat} (hN : a < NN) (h : sK a = 10) : sN (a + 2) = 48 := (show ∀ a, a < 377 → sK a = 10 → sN (a + 2) = 48 by decide +kernel) a hN h
theorem ly10_lt3 {a : Nat} (hN : a < NN) (h : sK a = 10) : a + 3 < NN := (show ∀ a, a < 377 → sK a = 10 → a + 3 < 377 by decide +kernel) a hN h
theorem ly10_k3 {a : Nat} (hN : a < NN) (h : sK a = 10) : sK (a + 3) = 100 := (show ∀ a, a < 377 → sK a = 10 → sK (a + 3) = 100 by decide +kernel) a hN h
theorem ly10_s3 {a : Nat} (hN : a < NN) (h : sK a = 10) : sN (a + 3) = 192 := (show ∀ a, a < 377 → sK a = 10 → sN (a + 3) = 192 by decide +kernel) a hN h
theorem ly10_lt4 {a : Nat} (hN : a < NN) (h : sK a = 10) : a + 4 < NN := (show ∀ a, a < 377 → sK a = 10 → a + 4 < 377 by decide +kernel) a hN h
theorem ly10_k4 {a : Nat} (hN : a < NN) (h : sK a = 10) : sK (a + 4) = 100 := (show ∀ a, a < 377 → sK a = 10 → sK (a + 4) = 100 by decide +kernel) a hN h
theorem ly10_s4 {a : Nat} (hN : a < NN) (h : sK a = 10) : sN (a + 4) = 12 := (show ∀ a, a < 377 → sK a = 10 → sN (a + 4) = 12 by decide +kernel) a hN h
theorem ly10_lt5 {a : Nat} (hN : a < NN) (h : sK a = 10) : a + 5 < NN := (show ∀ a, a < 377 → sK a = 10 → a + 5 < 377 by decide +kernel) a hN h
theorem ly10_k5 {a : Nat} (hN : a < NN) (h : sK a = 10) : sK (a + 5) = 100 := (show ∀ a, a < 377 → sK a = 10 → sK (a + 5) = 100 by decide +kernel) a hN h
theorem ly10_s5 {a : Nat} (hN : a < NN) (h : sK a = 10) : sN (a + 5) = 1440 := (show ∀ a, a < 377 → sK a = 10 → sN (a + 5) = 1440 by decide +kernel) a hN h
theorem ly10_r0 {a : Nat} (hN : a < NN) (h : sK a = 10) : sR a 0 = a + 1 := (show ∀ a, a < 377 → sK a = 10 → sR a 0 = a + 1 by decide +kernel) a hN h
theorem ly10_r1 {a : Nat} (hN : a < NN) (h : sK a = 10) : sR a 1 = a + 2 := (show ∀ a, a < 377 → sK a = 10 → sR a 1 = a + 2 by decide +kernel) a hN h
theorem ly10_r2 {a : Nat} (hN : a < NN) (h : sK a = 10) : sR a 2 = a + 3 := (show ∀ a, a < 377 → sK a = 10 → sR a 2 = a + 3 by decide +kernel) a hN h
theorem ly10_r3 {a : Nat} (hN : a < NN) (h : sK a = 10) : sR a 3 = a + 4 := (show ∀ a, a < 377 → sK a = 10 → sR a 3 = a + 4 by decide +kernel) a hN h
theorem ly10_r4 {a : Nat} (hN : a < NN) (h : sK a = 10) : sR a 4 = a + 5 := (show ∀ a, a < 377 → sK a = 10 → sR a 4 = a + 5 by decide +kernel) a hN h
theorem ly0_lt1 {a : Nat} (hN : a < NN) (h : sK a = 0) : a + 1 < NN := (show ∀ a, a < 377 → sK a = 0 → a + 1 < 377 by decide +kernel) a hN h
theorem ly0_k1 {a : Nat} (hN : a < NN) (h : sK a = 0) : sK (a + 1) = 104 := (show ∀ a, a < 377 → sK a = 0 → sK (a + 1) = 104 by decide +kernel) a hN h
theorem ly0_s1 {a : Nat} (hN : a < NN) (h : sK a = 0) : sN (a + 1) = 8 := (show ∀ a, a < 377 → sK a = 0 → sN (a + 1) = 8 by decide +kernel) a hN h
theorem ly0_lt2 {a : Nat} (hN : a < NN) (h : sK a = 0) : a + 2 < NN := (show ∀ a, a < 377 → sK a = 0 → a + 2 < 377 by decide +kernel) a hN h
theorem ly0_k2 {a : Nat} (hN : a < NN) (h : sK a = 0) : sK (a + 2) = 100 := (show ∀ a, a < 377 → sK a = 0 → sK (a + 2) = 100 by decide +kernel) a hN h
theorem ly0_s2 {a : Nat} (hN : a < NN) (h : sK a = 0) : sN (a + 2) = 12 := (show ∀ a, a < 377 → sK a = 0 → sN (a + 2) = 12 by decide +kernel) a hN h
theorem ly0_r0 {a : Nat} (hN : a < NN) (h : sK a = 0) : sR a 0 = a + 1 := (show ∀ a, a < 377 → sK a = 0 → sR a 0 = a + 1 by decide +kernel) a hN h
theorem ly0_r1 {a : Nat} (hN : a < NN) (h : sK a = 0) : sR a 1 = a + 2 := (show ∀ a, a < 377 → sK a = 0 → sR a 1 = a + 2 by decide +kernel) a hN h
theorem ix_lt {x : Int32} {n : Nat} (h : vp_in x n) : x.toNatClampNeg < n := Nat.not_le.mp fun q => h (Or.inr q)
theorem lyA_l {a : Nat} {x : Int32} (hN : a < NN) (h : sK a = 0) (hi : vp_in x 8) : a + 3 + 7 * x.toNatClampNeg < NN := (show ∀ a, a < 377 → sK a = 0 → ∀ i, i < 8 → a + 3 + 7 * i < 377 by decide +kernel) a hN h _ (ix_lt hi)
theorem lyA_k {a : Nat} {x : Int32} (hN : a < NN) (h : sK a = 0) (hi : vp_in x 8) : sK (a + 3 + 7 * x.toNatClampNeg) = 5 := (show ∀ a, a < 377 → sK a = 0 → ∀ i, i < 8 → sK (a + 3 + 7 * i) = 5 by decide +kernel) a hN h _ (ix_lt hi)
theorem lyA_r {a : Nat} {x : Int32} (hN : a < NN) (h : sK a = 0) (hi : vp_in x 8) : sR (a + 1) x.toNatClampNeg = a + 3 + 7 * x.toNatClampNeg := (show ∀ a, a < 377 → sK a = 0 → ∀ i, i < 8 → sR (a + 1) i = a + 3 + 7 * i by decide +kernel) a hN h _ (ix_lt hi)
theorem lyB_l {x : Int32} (hi : vp_in x 4) : 93 + 59 * x.toNatClampNeg < NN := (show ∀ i, i < 4 → 93 + 59 * i < 377 by decide +kernel) _ (ix_lt hi)
theorem lyB_k {x : Int32} (hi : vp_in x 4) : sK (93 + 59 * x.toNatClampNeg) = 0 := (show ∀ i, i < 4 → sK (93 + 59 * i) = 0 by decide +kernel) _ (ix_lt hi)
theorem lyB_r {x : Int32} (hi : vp_in x 4) : sR 92 x.toNatClampNeg = 93 + 59 * x.toNatClampNeg := (show ∀ i, i < 4 → sR 92 i = 93 + 59 * i by decide +kernel) _ (ix_lt hi)
