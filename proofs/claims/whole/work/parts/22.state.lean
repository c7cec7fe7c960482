/-! THE STATE, as mathematics; what the cells of the class and of the reference hold of it -/
/-- a picture: how many signs; sign k's number w -/
abbrev Pic : Type := Nat × (Nat → Nat → Int)
/-- a town: counts by kind; numbers by kind, place, which; names; suns (month, minute, east, north) in their order -/
abbrev Twn : Type := (Nat → Nat) × (Nat → Nat → Nat → Int) × (Nat → Nat → List Nat) × List (Nat × Nat × Int × Int)
/-- pictures, and weights -/
abbrev Alb : Type := Nat × (Nat → Pic) × (Nat → Nat)
/-- bytes on the tape, each; fault; towns taken; town; shown; how many kept; each -/
abbrev Sta : Type := Nat × (Nat → Int32) × Int × Nat × Twn × Alb × Nat × (Nat → Alb)
abbrev sN_ (σ : Sta) : Nat := σ.1
abbrev sTape (σ : Sta) : Nat → Int32 := σ.2.1
abbrev sFault (σ : Sta) : Int := σ.2.2.1
abbrev sTowns (σ : Sta) : Nat := σ.2.2.2.1
abbrev sTown (σ : Sta) : Twn := σ.2.2.2.2.1
abbrev sShown (σ : Sta) : Alb := σ.2.2.2.2.2.1
abbrev sKept (σ : Sta) : Nat := σ.2.2.2.2.2.2.1
abbrev sKeep (σ : Sta) : Nat → Alb := σ.2.2.2.2.2.2.2
abbrev tNum (T : Twn) (k i j : Nat) : Int := T.2.1 k i j
abbrev tCnt (T : Twn) (k : Nat) : Nat := T.1 k
abbrev tName (T : Twn) (k i : Nat) : List Nat := T.2.2.1 k i
abbrev tSun (T : Twn) : List (Nat × Nat × Int × Int) := T.2.2.2
/-- the suns of a month, in their order -/
def rowsOf (T : Twn) (m : Nat) : List (Nat × Nat × Int × Int) := (tSun T).filter (fun r => r.1 == m)
def pk (b : Nat) : List Nat → Nat
  | [] => 0
  | l => l.foldl (fun a c => a * b + c) 0
def most (k : Nat) : Nat := [12, 6, 10, 4, 40, 60].getD k 0
/-- how many numbers there are of one of a kind -/
def numsOf (k : Nat) : Nat := [4, 2, 3, 2].getD k 0
def wordOk (l : List Nat) : Prop := l ≠ [] ∧ l.length ≤ 8 ∧ ∀ c ∈ l, 1 ≤ c ∧ c ≤ 26
def vTown (T : Twn) : Prop :=
  (∀ k, k < 6 → tCnt T k ≤ most k) ∧ (∀ k, k < 4 → ∀ i, i < tCnt T k → wordOk (tName T k i)) ∧ (tSun T).length = tCnt T 4 ∧
  (∀ i, i < tCnt T 0 → 0 ≤ tNum T 0 i 0 ∧ tNum T 0 i 0 ≤ 3599 ∧ 0 ≤ tNum T 0 i 1 ∧ tNum T 0 i 1 ≤ 99 ∧ (tNum T 0 i 2 = -1 ∨ (tNum T 0 i 0 ≤ tNum T 0 i 2 ∧ tNum T 0 i 2 ≤ 3599)) ∧ 0 ≤ tNum T 0 i 3 ∧ tNum T 0 i 3 ≤ 99) ∧
  (∀ i, i < tCnt T 1 → 0 ≤ tNum T 1 i 0 ∧ tNum T 1 i 0 ≤ 359 ∧ 0 ≤ tNum T 1 i 1 ∧ tNum T 1 i 1 ≤ 359 ∧ tNum T 1 i 0 ≠ tNum T 1 i 1) ∧
  (∀ i, i < tCnt T 2 → 0 ≤ tNum T 2 i 0 ∧ tNum T 2 i 0 ≤ 31 ∧ 0 ≤ tNum T 2 i 1 ∧ tNum T 2 i 1 ≤ 31 ∧ 1 ≤ tNum T 2 i 2 ∧ tNum T 2 i 2 ≤ 20) ∧
  (∀ i, i < tCnt T 3 → 0 ≤ tNum T 3 i 0 ∧ tNum T 3 i 0 ≤ 99 ∧ 0 ≤ tNum T 3 i 1 ∧ tNum T 3 i 1 ≤ 99) ∧
  (∀ r ∈ tSun T, r.1 < 12 ∧ r.2.1 < 720 ∧ -99 ≤ r.2.2.1 ∧ r.2.2.1 ≤ 99 ∧ -99 ≤ r.2.2.2 ∧ r.2.2.2 ≤ 99) ∧
  (∀ m, (rowsOf T m).Pairwise (fun a b => a.2.1 < b.2.1))
/-- a sign that a town bears -/
def vSign (T : Twn) (s : Nat → Int) : Prop :=
  ((s 0 = 0 ∨ s 0 = 1) ∧ 0 ≤ s 1 ∧ s 1 < tCnt T 0 ∧ s 2 = -1 ∧ s 3 = -1 ∧ s 4 = -1) ∨
  ((s 0 = 2 ∨ s 0 = 3) ∧ 0 ≤ s 1 ∧ s 1 < tCnt T 1 ∧ s 2 = -1 ∧ s 3 = -1 ∧ s 4 = -1) ∨
  (s 0 = 4 ∧ 0 ≤ s 1 ∧ s 1 < tCnt T 2 ∧ 0 ≤ s 2 ∧ s 2 ≤ 31 ∧ 0 ≤ s 3 ∧ s 3 ≤ 31 ∧ 0 ≤ s 4 ∧ s 4 ≤ 99) ∨
  (s 0 = 5 ∧ 0 ≤ s 1 ∧ s 1 < tCnt T 3 ∧ 0 ≤ s 2 ∧ s 2 ≤ 719 ∧ s 3 = -1 ∧ s 4 = -1) ∨
  (s 0 = 6 ∧ 0 ≤ s 1 ∧ s 1 ≤ 6 ∧ s 2 = -1 ∧ s 3 = -1 ∧ s 4 = -1) ∨
  (s 0 = 7 ∧ 0 ≤ s 1 ∧ s 1 ≤ 9 ∧ s 2 = -1 ∧ s 3 = -1 ∧ s 4 = -1) ∨
  ((s 0 = 8 ∨ s 0 = 9) ∧ 0 ≤ s 1 ∧ s 1 < tCnt T 2 ∧ 0 ≤ s 2 ∧ s 2 < tCnt T 2 ∧ s 1 ≠ s 2 ∧ s 3 = -1 ∧ s 4 = -1)
def vPic (T : Twn) (P : Pic) : Prop := 1 ≤ P.1 ∧ P.1 ≤ 12 ∧ ∀ k, k < P.1 → vSign T (P.2 k)
def vAlb (T : Twn) (A : Alb) : Prop := A.1 ≤ 8 ∧ (∀ i, i < A.1 → vPic T (A.2.1 i)) ∧ ∀ m, m < 12 → A.2.2 m ≤ 99
def vSta (σ : Sta) : Prop := sN_ σ ≤ 1200 ∧ sTowns σ ≤ 1000 ∧ vTown (sTown σ) ∧ vAlb (sTown σ) (sShown σ) ∧ sKept σ ≤ 4 ∧ (∀ i, i < sKept σ → vAlb (sTown σ) (sKeep σ i)) ∧ -1 ≤ sFault σ ∧ sFault σ ≤ 1200
/-! what lets what -/
/-- 'su': a thing whose first day is just told, and that day (no thing: -1) -/
def dSt (T : Twn) (la : Int) (su : Int × Int) (i d : Int) : Bool :=
  decide ((if i = su.1 then su.2 else tNum T 0 i.toNat 0 - tNum T 0 i.toNat 1) ≤ d) && (decide (tNum T 0 i.toNat 2 < 0) || decide (d ≤ tNum T 0 i.toNat 2 + la + tNum T 0 i.toNat 3))
def dLa (T : Twn) (la : Int) (su : Int × Int) (i d : Int) : Bool :=
  decide (d < (if i = su.1 then su.2 else tNum T 0 i.toNat 0 + tNum T 0 i.toNat 1)) || (decide (0 ≤ tNum T 0 i.toNat 2) && decide (tNum T 0 i.toNat 2 + la - tNum T 0 i.toNat 3 < d))
def dLf (T : Twn) (i d : Int) : Bool :=
  if tNum T 1 i.toNat 0 < tNum T 1 i.toNat 1 then decide (tNum T 1 i.toNat 0 ≤ d % 360) && decide (d % 360 < tNum T 1 i.toNat 1)
  else decide (tNum T 1 i.toNat 0 ≤ d % 360) || decide (d % 360 < tNum T 1 i.toNat 1)
/-- a sign lets a day -/
def sD (T : Twn) (la : Int) (su : Int × Int) (s : Nat → Int) (d : Int) : Bool :=
  if s 0 = 0 then dSt T la su (s 1) d else if s 0 = 1 then dLa T la su (s 1) d else if s 0 = 2 then dLf T (s 1) d else if s 0 = 3 then !dLf T (s 1) d
  else if s 0 = 6 then decide (d % 7 = s 1) else if s 0 = 7 then decide (d / 360 = s 1) else true
/-- where the sun stands in a month at a minute: east, north, over what -/
def lit (T : Twn) (m : Nat) (t : Int) : Option (Int × Int × Int) :=
  match ((rowsOf T m).filter (fun r => decide ((r.2.1 : Int) ≤ t))).getLast?, ((rowsOf T m).filter (fun r => decide (t ≤ (r.2.1 : Int)))).head? with
  | some a, some b =>
    let w := if (b.2.1 : Int) - a.2.1 = 0 then 1 else (b.2.1 : Int) - a.2.1
    some (a.2.2.1 * w + (b.2.2.1 - a.2.2.1) * (t - a.2.1), a.2.2.2 * w + (b.2.2.2 - a.2.2.2) * (t - a.2.1), w)
  | _, _ => none
def near (T : Twn) (s : Nat → Int) (q : Int × Int × Int) : Bool :=
  let p := (s 1).toNat
  let x := (tNum T 2 p 0 - s 2) * 10 * q.2.2 + tNum T 2 p 2 * q.1
  let y := (tNum T 2 p 1 - s 3) * 10 * q.2.2 + tNum T 2 p 2 * q.2.1
  let g := s 4 * 10 * q.2.2
  decide (x ≤ g) && decide (-x ≤ g) && decide (y ≤ g) && decide (-y ≤ g)
/-- a sign lets a minute of a month -/
def sM (T : Twn) (s : Nat → Int) (m : Nat) (t : Int) : Bool :=
  if s 0 = 5 then decide (s 2 - tNum T 3 (s 1).toNat 1 ≤ t) && decide (t ≤ s 2 + tNum T 3 (s 1).toNat 0)
  else if s 0 = 4 then (if rowsOf T m = [] then true else match lit T m t with | none => false | some q => near T s q)
  else true
def allK (f : Nat → Bool) : Nat → Bool
  | 0 => true
  | n + 1 => allK f n && f n
/-- a picture lets a day, a minute of a month -/
def pD (T : Twn) (la : Int) (su : Int × Int) (P : Pic) (d : Nat) : Bool := allK (fun k => sD T la su (P.2 k) d) P.1
def pM (T : Twn) (P : Pic) (m t : Nat) : Bool := allK (fun k => sM T (P.2 k) m t) P.1
def nosu : Int × Int := (-1, 0)
/-- how many minutes of a month -/
def pCnt (T : Twn) (P : Pic) (m : Nat) : Nat := cntN (fun t => pM T P m t) 720
def mth (d : Nat) : Nat := d % 360 / 30
/-- a run begins -/
def rB (T : Twn) (P : Pic) (m t : Nat) : Bool := pM T P m t && (t == 0 || !pM T P m (t - 1))
def pRun (T : Twn) (P : Pic) (m : Nat) : Nat := cntN (fun t => rB T P m t) 720
/-- a day of all -/
def pDay (T : Twn) (P : Pic) (d : Nat) : Bool := pD T 0 nosu P d && decide (pCnt T P (mth d) ≠ 0)
/-! the class's cells -/
def cMom (T : Twn) (P : Pic) (gi : Gi) (a : Nat) : Prop :=
  (∀ r, r < 120 → gi (a + 1) r = nI (bN (fun i => pDay T P (r * 30 + i)) 30)) ∧ (∀ m, m < 12 → ∀ r, r < 24 → gi (a + 2) (m * 24 + r) = nI (bN (fun i => pM T P m (r * 30 + i)) 30)) ∧
  (∀ m, m < 12 → gi (a + 3) m = nI (pCnt T P m)) ∧ (∀ m, m < 12 → gi (a + 4) m = nI (pRun T P m))
def cSgn (P : Pic) (gi : Gi) (p : Nat) : Prop := gi p 2 = nI P.1 ∧ ∀ k, k < P.1 → ∀ w, w < 5 → gi (p + 1) (k * 5 + w) = iI (P.2 k w)
def cPic (T : Twn) (P : Pic) (gi : Gi) (p : Nat) : Prop := cSgn P gi p ∧ cMom T P gi (p + 2)
def cAlb (T : Twn) (A : Alb) (gi : Gi) (a : Nat) : Prop := gi a 2 = nI A.1 ∧ (∀ i, i < A.1 → cPic T (A.2.1 i) gi (a + 3 + 7 * i)) ∧ ∀ m, m < 12 → gi (a + 2) m = nI (A.2.2 m)
def cTown (T : Twn) (gi : Gi) (gl : Gl) (a : Nat) : Prop :=
  (∀ k, k < 6 → gi (a + 1) k = nI (tCnt T k)) ∧ (∀ k, k < 4 → ∀ i, i < tCnt T k → gl (a + 2) (k * 12 + i) = lN (pk 32 (tName T k i)) ∧ ∀ j, j < numsOf k → gi (a + 3) ((k * 12 + i) * 4 + j) = iI (tNum T k i j)) ∧
  (∀ m, m < 12 → gi (a + 4) m = nI (rowsOf T m).length ∧ ∀ (r : Nat) (q : Nat × Nat × Int × Int), (rowsOf T m)[r]? = some q → gi (a + 5) ((m * 40 + r) * 3) = nI q.2.1 ∧ gi (a + 5) ((m * 40 + r) * 3 + 1) = iI q.2.2.1 ∧ gi (a + 5) ((m * 40 + r) * 3 + 2) = iI q.2.2.2)
/-- quarrels: no round yet to come is noted -/
def cQua (gi : Gi) (c : Nat) : Prop := ∃ r : Nat, r ≤ 24 * c ∧ gi 25 6 = nI r ∧ ∀ s, s < 4096 → ∃ z : Nat, z ≤ r ∧ gi 27 s = nI z
def CI (σ : Sta) (c : Nat) (gi : Gi) (gl : Gl) : Prop :=
  gi 0 13 = nI (sN_ σ) ∧ (∀ j, j < sN_ σ → gi 1 j = sTape σ j) ∧ gi 0 15 = iI (sFault σ) ∧ gi 0 14 = nI (sTowns σ) ∧ gi 0 12 = nI (sKept σ) ∧
  cTown (sTown σ) gi gl 2 ∧ cAlb (sTown σ) (sShown σ) gi 33 ∧ (∀ i, i < sKept σ → cAlb (sTown σ) (sKeep σ i) gi (93 + 59 * i)) ∧ cQua gi c
/-! the reference's cells -/
def mAlb (A : Alb) (gi : Gi) (b : Nat) : Prop :=
  gi 355 b = nI A.1 ∧ (∀ i, i < A.1 → gi 356 (8 * b + i) = nI (A.2.1 i).1 ∧ ∀ k, k < (A.2.1 i).1 → ∀ w, w < 5 → gi (357 + w) (96 * b + 12 * i + k) = iI ((A.2.1 i).2 k w)) ∧ ∀ m, m < 12 → gi 362 (12 * b + m) = nI (A.2.2 m)
def mTown (T : Twn) (gi : Gi) (gl : Gl) (p : Nat) : Prop :=
  (∀ k, k < 6 → gi (330 + k) p = nI (tCnt T k)) ∧ (∀ k, k < 4 → ∀ i, i < tCnt T k → gl (336 + k) (most k * p + i) = lN (pk 27 (tName T k i))) ∧
  (∀ j, j < 4 → ∀ i, i < tCnt T 0 → gi (340 + j) (12 * p + i) = iI (tNum T 0 i j)) ∧ (∀ j, j < 2 → ∀ i, i < tCnt T 1 → gi (344 + j) (6 * p + i) = iI (tNum T 1 i j)) ∧
  (∀ j, j < 3 → ∀ i, i < tCnt T 2 → gi (346 + j) (10 * p + i) = iI (tNum T 2 i j)) ∧ (∀ j, j < 2 → ∀ i, i < tCnt T 3 → gi (349 + j) (4 * p + i) = iI (tNum T 3 i j)) ∧
  (∀ (r : Nat) (q : Nat × Nat × Int × Int), (tSun T)[r]? = some q → gi 351 (40 * p + r) = nI q.1 ∧ gi 352 (40 * p + r) = nI q.2.1 ∧ gi 353 (40 * p + r) = iI q.2.2.1 ∧ gi 354 (40 * p + r) = iI q.2.2.2)
def MI (σ : Sta) (gi : Gi) (gl : Gl) : Prop :=
  gi 329 36 = nI (sN_ σ) ∧ (∀ j, j < sN_ σ → gi 363 j = sTape σ j) ∧ gi 329 37 = iI (sFault σ) ∧ gi 329 1 = nI (sTowns σ) ∧ gi 329 67 = nI (sKept σ) ∧
  (∃ p : Nat, p < 2 ∧ gi 329 0 = nI p ∧ mTown (sTown σ) gi gl p) ∧ mAlb (sShown σ) gi 0 ∧ (∀ i, i < sKept σ → mAlb (sKeep σ i) gi (i + 1)) ∧ gi 329 49 = 0 ∧ gi 329 50 = -1
