/-! THE MACHINE BETWEEN: 'PAt M .. pc ls st gi gl Q' says that method M, standing at pc with locals ls and stack st over the numbers gi, gl, comes to its end with Q. Cells are numbered in the order in which they are made: cell a lies at base + a. -/
abbrev Gi : Type := Nat → Nat → Int32
abbrev Gl : Type := Nat → Nat → Int64
/-- how many cells are made; which references are still null -/
abbrev Kp : Type := Nat × (Nat → Nat → Bool)
/-- name, code, locals, return type, level -/
abbrev MD : Type := MethodName × ByteArray × Nat × Option FieldType × Nat
abbrev mY (M : MD) : MethodName := M.1
abbrev mC (M : MD) : ByteArray := M.2.1
abbrev mL (M : MD) : Nat := M.2.2.1
abbrev mR (M : MD) : Option FieldType := M.2.2.2.1
abbrev mV (M : MD) : Nat := M.2.2.2.2
def rI : Option FieldType → Bool
  | some .int => true
  | some .boolean => true
  | some .byte => true
  | some .char => true
  | some .short => true
  | _ => false
/-- the tables' words that a callee may be handed -/
def gtb : List Cond := lw_tbl.filter goodWord
theorem gtb_in {w : Cond} (i : Nat) (h : lw_tbl[i]? = some w) (g : goodWord w = true) : w ∈ gtb := List.mem_filter.mpr ⟨List.mem_of_getElem? h, g⟩
theorem gtb_lw {w : Cond} (h : w ∈ gtb) : w ∈ lw_tbl := (List.mem_filter.mp h).1
theorem gtb_self : GoodIn gtb gtb := fun _ h => ⟨h, good_of_word (List.mem_filter.mp h).2⟩
theorem gtb_cons {w : Cond} {ws : List Cond} (h : w ∈ gtb) (hs : GoodIn gtb ws) : GoodIn gtb (w :: ws) := fun v hv => by
  rcases List.mem_cons.mp hv with rfl | hv
  · exact gtb_self _ h
  · exact hs v hv
/-- the cells in the order in which they are made: kind (a class by its place in vwCl; 100 int, 101 long, 102 byte, 103 boolean, 104 and 105 arrays of pictures and albums), size, references -/
def shp_0 : List (Nat × Nat × List Nat) := [(11, 16, [1, 2, 8, 14, 21, 23, 24, 25, 30, 31, 33, 92, 0, 0, 0, 0]), (102, 1200, []), (10, 5, [3, 4, 5, 6, 7]), (100, 6, []), (101, 48, []), (100, 192, []), (100, 12, []), (100, 1440, []), (10, 5, [9, 10, 11, 12, 13]), (100, 6, []), (101, 48, []), (100, 192, []), (100, 12, []), (100, 1440, []), (5, 3, [15, 16, 0]), (100, 60, []), (4, 4, [17, 18, 19, 20]), (100, 120, []), (100, 288, []), (100, 12, []), (100, 12, []), (7, 4, [22, 2, 8, 14]), (8, 5, [1, 0, 0, 0, 0]), (9, 7, [2, 0, 0, 0, 0, 0, 0]), (2, 2, [2, 23]), (6, 8, [24, 26, 27, 28, 29, 0, 0, 0]), (100, 4096, []), (100, 4096, []), (100, 1020, []), (100, 12, []), (1, 1, [2]), (3, 7, [2, 24, 32, 0, 0, 0, 0]), (100, 3601, []), (0, 3, [34, 35, 0]), (104, 8, [36, 43, 50, 57, 64, 71, 78, 85]), (100, 12, []), (5, 3, [37, 38, 0]), (100, 60, []), (4, 4, [39, 40, 41, 42]), (100, 120, []), (100, 288, []), (100, 12, []), (100, 12, []), (5, 3, [44, 45, 0]), (100, 60, []), (4, 4, [46, 47, 48, 49]), (100, 120, []), (100, 288, []), (100, 12, []), (100, 12, []), (5, 3, [51, 52, 0]), (100, 60, []), (4, 4, [53, 54, 55, 56]), (100, 120, []), (100, 288, []), (100, 12, []), (100, 12, []), (5, 3, [58, 59, 0]), (100, 60, []), (4, 4, [60, 61, 62, 63])]
def shp_1 : List (Nat × Nat × List Nat) := [(100, 120, []), (100, 288, []), (100, 12, []), (100, 12, []), (5, 3, [65, 66, 0]), (100, 60, []), (4, 4, [67, 68, 69, 70]), (100, 120, []), (100, 288, []), (100, 12, []), (100, 12, []), (5, 3, [72, 73, 0]), (100, 60, []), (4, 4, [74, 75, 76, 77]), (100, 120, []), (100, 288, []), (100, 12, []), (100, 12, []), (5, 3, [79, 80, 0]), (100, 60, []), (4, 4, [81, 82, 83, 84]), (100, 120, []), (100, 288, []), (100, 12, []), (100, 12, []), (5, 3, [86, 87, 0]), (100, 60, []), (4, 4, [88, 89, 90, 91]), (100, 120, []), (100, 288, []), (100, 12, []), (100, 12, []), (105, 4, [93, 152, 211, 270]), (0, 3, [94, 95, 0]), (104, 8, [96, 103, 110, 117, 124, 131, 138, 145]), (100, 12, []), (5, 3, [97, 98, 0]), (100, 60, []), (4, 4, [99, 100, 101, 102]), (100, 120, []), (100, 288, []), (100, 12, []), (100, 12, []), (5, 3, [104, 105, 0]), (100, 60, []), (4, 4, [106, 107, 108, 109]), (100, 120, []), (100, 288, []), (100, 12, []), (100, 12, []), (5, 3, [111, 112, 0]), (100, 60, []), (4, 4, [113, 114, 115, 116]), (100, 120, []), (100, 288, []), (100, 12, []), (100, 12, []), (5, 3, [118, 119, 0]), (100, 60, []), (4, 4, [120, 121, 122, 123])]
def shp_2 : List (Nat × Nat × List Nat) := [(100, 120, []), (100, 288, []), (100, 12, []), (100, 12, []), (5, 3, [125, 126, 0]), (100, 60, []), (4, 4, [127, 128, 129, 130]), (100, 120, []), (100, 288, []), (100, 12, []), (100, 12, []), (5, 3, [132, 133, 0]), (100, 60, []), (4, 4, [134, 135, 136, 137]), (100, 120, []), (100, 288, []), (100, 12, []), (100, 12, []), (5, 3, [139, 140, 0]), (100, 60, []), (4, 4, [141, 142, 143, 144]), (100, 120, []), (100, 288, []), (100, 12, []), (100, 12, []), (5, 3, [146, 147, 0]), (100, 60, []), (4, 4, [148, 149, 150, 151]), (100, 120, []), (100, 288, []), (100, 12, []), (100, 12, []), (0, 3, [153, 154, 0]), (104, 8, [155, 162, 169, 176, 183, 190, 197, 204]), (100, 12, []), (5, 3, [156, 157, 0]), (100, 60, []), (4, 4, [158, 159, 160, 161]), (100, 120, []), (100, 288, []), (100, 12, []), (100, 12, []), (5, 3, [163, 164, 0]), (100, 60, []), (4, 4, [165, 166, 167, 168]), (100, 120, []), (100, 288, []), (100, 12, []), (100, 12, []), (5, 3, [170, 171, 0]), (100, 60, []), (4, 4, [172, 173, 174, 175]), (100, 120, []), (100, 288, []), (100, 12, []), (100, 12, []), (5, 3, [177, 178, 0]), (100, 60, []), (4, 4, [179, 180, 181, 182]), (100, 120, [])]
def shp_3 : List (Nat × Nat × List Nat) := [(100, 288, []), (100, 12, []), (100, 12, []), (5, 3, [184, 185, 0]), (100, 60, []), (4, 4, [186, 187, 188, 189]), (100, 120, []), (100, 288, []), (100, 12, []), (100, 12, []), (5, 3, [191, 192, 0]), (100, 60, []), (4, 4, [193, 194, 195, 196]), (100, 120, []), (100, 288, []), (100, 12, []), (100, 12, []), (5, 3, [198, 199, 0]), (100, 60, []), (4, 4, [200, 201, 202, 203]), (100, 120, []), (100, 288, []), (100, 12, []), (100, 12, []), (5, 3, [205, 206, 0]), (100, 60, []), (4, 4, [207, 208, 209, 210]), (100, 120, []), (100, 288, []), (100, 12, []), (100, 12, []), (0, 3, [212, 213, 0]), (104, 8, [214, 221, 228, 235, 242, 249, 256, 263]), (100, 12, []), (5, 3, [215, 216, 0]), (100, 60, []), (4, 4, [217, 218, 219, 220]), (100, 120, []), (100, 288, []), (100, 12, []), (100, 12, []), (5, 3, [222, 223, 0]), (100, 60, []), (4, 4, [224, 225, 226, 227]), (100, 120, []), (100, 288, []), (100, 12, []), (100, 12, []), (5, 3, [229, 230, 0]), (100, 60, []), (4, 4, [231, 232, 233, 234]), (100, 120, []), (100, 288, []), (100, 12, []), (100, 12, []), (5, 3, [236, 237, 0]), (100, 60, []), (4, 4, [238, 239, 240, 241]), (100, 120, []), (100, 288, [])]
def shp_4 : List (Nat × Nat × List Nat) := [(100, 12, []), (100, 12, []), (5, 3, [243, 244, 0]), (100, 60, []), (4, 4, [245, 246, 247, 248]), (100, 120, []), (100, 288, []), (100, 12, []), (100, 12, []), (5, 3, [250, 251, 0]), (100, 60, []), (4, 4, [252, 253, 254, 255]), (100, 120, []), (100, 288, []), (100, 12, []), (100, 12, []), (5, 3, [257, 258, 0]), (100, 60, []), (4, 4, [259, 260, 261, 262]), (100, 120, []), (100, 288, []), (100, 12, []), (100, 12, []), (5, 3, [264, 265, 0]), (100, 60, []), (4, 4, [266, 267, 268, 269]), (100, 120, []), (100, 288, []), (100, 12, []), (100, 12, []), (0, 3, [271, 272, 0]), (104, 8, [273, 280, 287, 294, 301, 308, 315, 322]), (100, 12, []), (5, 3, [274, 275, 0]), (100, 60, []), (4, 4, [276, 277, 278, 279]), (100, 120, []), (100, 288, []), (100, 12, []), (100, 12, []), (5, 3, [281, 282, 0]), (100, 60, []), (4, 4, [283, 284, 285, 286]), (100, 120, []), (100, 288, []), (100, 12, []), (100, 12, []), (5, 3, [288, 289, 0]), (100, 60, []), (4, 4, [290, 291, 292, 293]), (100, 120, []), (100, 288, []), (100, 12, []), (100, 12, []), (5, 3, [295, 296, 0]), (100, 60, []), (4, 4, [297, 298, 299, 300]), (100, 120, []), (100, 288, []), (100, 12, [])]
def shp_5 : List (Nat × Nat × List Nat) := [(100, 12, []), (5, 3, [302, 303, 0]), (100, 60, []), (4, 4, [304, 305, 306, 307]), (100, 120, []), (100, 288, []), (100, 12, []), (100, 12, []), (5, 3, [309, 310, 0]), (100, 60, []), (4, 4, [311, 312, 313, 314]), (100, 120, []), (100, 288, []), (100, 12, []), (100, 12, []), (5, 3, [316, 317, 0]), (100, 60, []), (4, 4, [318, 319, 320, 321]), (100, 120, []), (100, 288, []), (100, 12, []), (100, 12, []), (5, 3, [323, 324, 0]), (100, 60, []), (4, 4, [325, 326, 327, 328]), (100, 120, []), (100, 288, []), (100, 12, []), (100, 12, []), (12, 68, [0, 0, 330, 331, 332, 333, 334, 335, 336, 337, 338, 339, 340, 341, 342, 343, 344, 345, 346, 347, 348, 349, 350, 351, 352, 353, 354, 355, 356, 357, 358, 359, 360, 361, 362, 363, 0, 0, 0, 0, 0, 0, 0, 0, 0, 0, 0, 0, 0, 0, 0, 0, 364, 365, 366, 367, 368, 369, 370, 371, 372, 373, 0, 0, 374, 375, 376, 0]), (100, 2, []), (100, 2, []), (100, 2, []), (100, 2, []), (100, 2, []), (100, 2, []), (101, 24, []), (101, 12, []), (101, 20, []), (101, 8, []), (100, 24, []), (100, 24, []), (100, 24, []), (100, 24, []), (100, 12, []), (100, 12, []), (100, 20, []), (100, 20, []), (100, 20, []), (100, 8, []), (100, 8, []), (100, 80, []), (100, 80, []), (100, 80, []), (100, 80, []), (100, 5, []), (100, 40, []), (100, 480, []), (100, 480, []), (100, 480, [])]
def shp_6 : List (Nat × Nat × List Nat) := [(100, 480, []), (100, 480, []), (100, 60, []), (102, 1200, []), (103, 3600, []), (103, 8640, []), (100, 12, []), (100, 12, []), (103, 4096, []), (103, 4096, []), (103, 4096, []), (103, 3600, []), (103, 8640, []), (101, 12, []), (100, 3600, []), (100, 8640, []), (103, 256, [])]
def shp : List (Nat × Nat × List Nat) := shp_0 ++ (shp_1 ++ (shp_2 ++ (shp_3 ++ (shp_4 ++ (shp_5 ++ (shp_6))))))
def NN : Nat := 377
def sK (a : Nat) : Nat := (shp.getD a (200, 0, [])).1
def sN (a : Nat) : Nat := (shp.getD a (200, 0, [])).2.1
def sR (a j : Nat) : Nat := (shp.getD a (200, 0, [])).2.2.getD j 0
def sl : Nat → Nat
  | 0 => 0
  | n + 1 => sl n + sN n
theorem sl_le {a b : Nat} (h : a ≤ b) : sl a ≤ sl b := by
  induction b with
  | zero => rw [Nat.le_zero.mp h]; exact Nat.le_refl _
  | succ n ih =>
    rcases Nat.lt_or_ge n a with q | q
    · rw [show a = n + 1 by omega]; exact Nat.le_refl _
    · exact Nat.le_trans (ih q) (Nat.le_add_right _ _)
def tyC (k : Nat) : Nat → FieldType := match k with
  | 0 => tyX0
  | 1 => tyX1
  | 2 => tyX2
  | 3 => tyX3
  | 4 => tyX4
  | 5 => tyX5
  | 6 => tyX6
  | 7 => tyX7
  | 8 => tyX8
  | 9 => tyX9
  | 10 => tyX10
  | 11 => tyX11
  | 12 => tyX12
  | _ => fun _ => .int
def ROB : Nat := 1000000
/-- a value with numbered cells, as the machine has it -/
def cv (base : Nat) (ro : Nat → Nat) : Value → Value
  | .ref a => .ref (if a < ROB then base + a else ro a)
  | v => v
def fv (base : Nat) (nul : Nat → Nat → Bool) (gi : Gi) (gl : Gl) (a k j : Nat) : Value := match tyC k j with
  | .long => .long (gl a j)
  | .object _ => if nul a j then .null else .ref (base + sR a j)
  | .array _ => if nul a j then .null else .ref (base + sR a j)
  | _ => .int (gi a j)
def mkE (base : Nat) (cA : Nat → ClassId) (nul : Nat → Nat → Bool) (gi : Gi) (gl : Gl) (a : Nat) : va_E :=
  if sK a < 100 then .inr (sK a, (List.range (sN a)).map (fv base nul gi gl a (sK a)))
  else if sK a = 101 then .inl (cA 101, sN a, .inr (.inl (gl a)))
  else if 104 ≤ sK a then .inl (cA (sK a), sN a, .inr (.inr (.inr (.inr (fun j => if nul a j then none else some (base + sR a j))))))
  else .inl (cA (sK a), sN a, .inl (gi a))
def wsE (base : Nat) (cA : Nat → ClassId) (κ : Kp) (gi : Gi) (gl : Gl) : va_W := (List.range κ.1).map (fun a => (base + a, mkE base cA κ.2 gi gl a))
def tysE (cA : Nat → ClassId) : List (ClassId × FieldType) := [(cA 100, .int), (cA 101, .long), (cA 102, .byte), (cA 103, .boolean), (cA 104, .object "PlateDay$Picture"), (cA 105, .object "PlateDay$Album")]
abbrev Ab (base : Nat) : Nat → Prop := fun q => base ≤ q
def Wd (base : Nat) (D : va_G) (cA : Nat → ClassId) (κ : Kp) (gi : Gi) (gl : Gl) (H : Heap) : Prop := va_P D vwCl (wsE base cA κ gi gl) H ∧ (κ.1 < NN → H.size = base + κ.1) ∧ κ.1 ≤ NN
theorem we_get {base : Nat} {cA : Nat → ClassId} {κ : Kp} {gi : Gi} {gl : Gl} {a : Nat} (h : a < κ.1) : (wsE base cA κ gi gl)[a]? = some (base + a, mkE base cA κ.2 gi gl a) := by
  unfold wsE
  rw [List.getElem?_map, List.getElem?_range h]; rfl
theorem we_len {base : Nat} {cA : Nat → ClassId} {κ : Kp} {gi : Gi} {gl : Gl} : (wsE base cA κ gi gl).length = κ.1 := by simp [wsE]
theorem we_D {base : Nat} {cA : Nat → ClassId} {κ : Kp} {gi : Gi} {gl : Gl} : va_D (Ab base) (wsE base cA κ gi gl) := by
  have key : ∀ (k : Nat) (q : Nat × va_E), (wsE base cA κ gi gl)[k]? = some q → q.1 = base + k := by
    intro k q hk
    have hl : k < κ.1 := by rw [← we_len (base := base) (cA := cA) (gi := gi) (gl := gl)]; exact (List.getElem?_eq_some_iff.mp hk).1
    rw [we_get hl] at hk
    cases hk; rfl
  refine ⟨fun i j p q hp hq e => ?_, fun k q hk => ?_⟩
  · have := key i p hp; have := key j q hq; omega
  · rw [key k q hk]; exact Nat.le_add_right _ _
/-- one cell changed -/
theorem we_set {base : Nat} {cA : Nat → ClassId} {κ κ' : Kp} {gi gi' : Gi} {gl gl' : Gl} {a : Nat} {e : va_E} (hn : κ'.1 = κ.1) (he : mkE base cA κ'.2 gi' gl' a = e) (ho : ∀ b, b ≠ a → mkE base cA κ'.2 gi' gl' b = mkE base cA κ.2 gi gl b) :
    (wsE base cA κ gi gl).set a (base + a, e) = wsE base cA κ' gi' gl' := by
  apply List.ext_getElem?
  intro i
  by_cases hi : i < κ.1
  · rw [we_get (by rw [hn]; exact hi)]
    by_cases hia : i = a
    · subst hia
      rw [List.getElem?_set_self (by rw [we_len]; exact hi), he]
    · rw [List.getElem?_set_ne (Ne.symm hia), we_get hi, ho i hia]
  · rw [List.getElem?_eq_none (by rw [List.length_set, we_len]; omega), List.getElem?_eq_none (by rw [we_len, hn]; omega)]
def uI (gi : Gi) (a : Nat) (f : Nat → Int32) : Gi := fun b => if b = a then f else gi b
def uL (gl : Gl) (a : Nat) (f : Nat → Int64) : Gl := fun b => if b = a then f else gl b
def uN (nul : Nat → Nat → Bool) (a j : Nat) (v : Bool) : Nat → Nat → Bool := fun b i => if b = a ∧ i = j then v else nul b i
theorem uI_s {gi : Gi} {a : Nat} {f : Nat → Int32} : uI gi a f a = f := by simp [uI]
theorem uI_n {gi : Gi} {a b : Nat} {f : Nat → Int32} (h : b ≠ a) : uI gi a f b = gi b := by simp [uI, h]
theorem uL_s {gl : Gl} {a : Nat} {f : Nat → Int64} : uL gl a f a = f := by simp [uL]
theorem uL_n {gl : Gl} {a b : Nat} {f : Nat → Int64} (h : b ≠ a) : uL gl a f b = gl b := by simp [uL, h]
theorem mkE_n {base : Nat} {cA : Nat → ClassId} {nul nul' : Nat → Nat → Bool} {gi gi' : Gi} {gl gl' : Gl} {b : Nat} (h1 : gi' b = gi b) (h2 : gl' b = gl b) (h3 : nul' b = nul b) : mkE base cA nul' gi' gl' b = mkE base cA nul gi gl b := by
  unfold mkE
  rw [h1, h2, h3]
  have : ∀ k, fv base nul' gi' gl' b k = fv base nul gi gl b k := fun k => by
    funext j; unfold fv; rw [h1, h2, h3]
  rw [this]
/-! the read-only rest: strings, a static table, two statics of the JDK's -/
def nJt : Nat := 24
def txtJt (i : Nat) : String := ["thing", "thing from give till tree leaf bare post clock slow fast sun east west north south stands lacks shadow week year before left ", "from", "give", "till", "tree", "leaf", "bare", "post", "clock", "slow", "fast", "sun", "east", "west", "north", "south", "stands", "lacks", "shadow", "week", "year", "before", "left"].getD i ""
def ownJt (i : Nat) : String := ["PlateDay$Reader", "PlateDay$Scanner", "PlateDay$Reader", "PlateDay$Scanner", "PlateDay$Reader", "PlateDay$Reader", "PlateDay$Reader", "PlateDay$Reader", "PlateDay$Reader", "PlateDay$Reader", "PlateDay$Reader", "PlateDay$Reader", "PlateDay$Reader", "PlateDay$Reader", "PlateDay$Reader", "PlateDay$Reader", "PlateDay$Reader", "PlateDay$Reader", "PlateDay$Reader", "PlateDay$Reader", "PlateDay$Reader", "PlateDay$Reader", "PlateDay$Reader", "PlateDay$Reader"].getD i ""
def idxJt (i : Nat) : Nat := [65, 60, 119, 48, 128, 74, 134, 136, 79, 84, 141, 143, 89, 153, 155, 161, 163, 169, 175, 177, 185, 190, 192, 197].getD i 0
def lenJt : List Nat := [5, 125, 4, 4, 4, 4, 4, 4, 4, 5, 4, 4, 3, 4, 4, 5, 5, 6, 5, 6, 4, 4, 6, 4]
def bytJt : List (List Int32) := [[116, 104, 105, 110, 103], [116, 104, 105, 110, 103, 32, 102, 114, 111, 109, 32, 103, 105, 118, 101, 32, 116, 105, 108, 108, 32, 116, 114, 101, 101, 32, 108, 101, 97, 102, 32, 98, 97, 114, 101, 32, 112, 111, 115, 116, 32, 99, 108, 111, 99, 107, 32, 115, 108, 111, 119, 32, 102, 97, 115, 116, 32, 115, 117, 110, 32, 101, 97, 115, 116, 32, 119, 101, 115, 116, 32, 110, 111, 114, 116, 104, 32, 115, 111, 117, 116, 104, 32, 115, 116, 97, 110, 100, 115, 32, 108, 97, 99, 107, 115, 32, 115, 104, 97, 100, 111, 119, 32, 119, 101, 101, 107, 32, 121, 101, 97, 114, 32, 98, 101, 102, 111, 114, 101, 32, 108, 101, 102, 116, 32], [102, 114, 111, 109], [103, 105, 118, 101], [116, 105, 108, 108], [116, 114, 101, 101], [108, 101, 97, 102], [98, 97, 114, 101], [112, 111, 115, 116], [99, 108, 111, 99, 107], [115, 108, 111, 119], [102, 97, 115, 116], [115, 117, 110], [101, 97, 115, 116], [119, 101, 115, 116], [110, 111, 114, 116, 104], [115, 111, 117, 116, 104], [115, 116, 97, 110, 100, 115], [108, 97, 99, 107, 115], [115, 104, 97, 100, 111, 119], [119, 101, 101, 107], [121, 101, 97, 114], [98, 101, 102, 111, 114, 101], [108, 101, 102, 116]]
def mostF (j : Nat) : Value := .int (([12, 6, 10, 4] : List Int32).getD j 0)
def ROk (base : Nat) (ro : Nat → Nat) (U : State) (H : Heap) : Prop :=
  vk_S nJt lenJt bytJt (fun i => ro (ROB + i)) (fun i => ro (ROB + 100 + i)) (Ab base) U H ∧ (∀ i, i < nJt → vk_R (ownJt i) (idxJt i) (txtJt i) (ro (ROB + i)) U) ∧
  va_Z "PlateDay$Town" "MOST" "[I" (.ref (ro (ROB + 200))) (Ab base) U H ∧ va_T .int (ro (ROB + 200)) 4 mostF (Ab base) U H ∧
  va_Z "java/lang/String" "COMPACT_STRINGS" "Z" (.int 1) (Ab base) U H ∧ (va_Z "jdk/internal/util/Preconditions" "SIOOBE_FORMATTER" "Ljava/util/function/BiFunction;" .null (Ab base) U H ∨ va_Z "jdk/internal/util/Preconditions" "SIOOBE_FORMATTER" "Ljava/util/function/BiFunction;" (.ref (ro (ROB + 300))) (Ab base) U H)
theorem ROk.warm {base : Nat} {ro : Nat → Nat} {s U : State} {H : Heap} {locs : List Loc} (hW : s.WarmedH U.vm) (hS : va_S (Ab base) s.heap H locs) (h : ROk base ro s s.heap) : ROk base ro U H := by
  obtain ⟨h1, h2, h3, h4, h5, h6⟩ := h
  have hA := hW.alike
  exact ⟨(h1.kept hS.2.1).moved hA, fun i hi => (h2 i hi).warm hW, (h3.kept hS.2.1).moved hA, (h4.kept hS.2.1).moved hA, (h5.kept hS.2.1).moved hA, h6.imp (fun h => (h.kept hS.2.1).moved hA) (fun h => (h.kept hS.2.1).moved hA)⟩
theorem ROk.same {base : Nat} {ro : Nat → Nat} {u U : State} {H : Heap} (hv : U.vm = u.vm) (h : ROk base ro u H) : ROk base ro U H := by
  obtain ⟨h1, h2, h3, h4, h5, h6⟩ := h
  have hA : u.vm.Alike U.vm := by rw [hv]; exact Vm.Alike.refl _
  exact ⟨h1.moved hA, fun i hi => (h2 i hi).same hv, h3.moved hA, h4.moved hA, h5.moved hA, h6.imp (fun h => h.moved hA) (fun h => h.moved hA)⟩
/-! what holds while a method runs; what its end must give; the machine between -/
def Cx (M : MD) (nE nX : Nat) (p : Program) (R : Room) (s : State) (m : MethodId) (args : Array Value) (meth : Method) (c : Code) (base : Nat) (D : va_G) (cA : Nat → ClassId) (ro : Nat → Nat) : Prop :=
  p.tables.exec = Jvm.exec ∧ c.code = mC M ∧ c.maxLocals = mL M ∧ meth.sig.returnType = mR M ∧ meth.locks = false ∧ meth.name = (mY M).name ∧ s.vm.findClass (mY M).cls = some m.cls ∧ (∀ w ∈ gtb, w.before args s = true) ∧
  va_K D vwCl (tysE cA) s ∧ base ≤ s.heap.size ∧ mV M ≤ R.frames ∧ 34 * mV M ≤ R.locals ∧ nX - nE ≤ R.cells ∧ sl nX - sl nE ≤ R.slots ∧ ROk base ro s s.heap
def PFin (M : MD) (nE nX : Nat) (Q : Value → Kp → Gi → Gl → Prop) (p : Program) (l : Launch) (e : Env) (R : Room) (s : State) (m : MethodId) (args : Array Value) (below : List Frame) (meth : Method) (c : Code) (base : Nat) (D : va_G) (cA : Nat → ClassId) (ro : Nat → Nat) (Z : State → Prop) : Prop :=
  (∀ (r : Int32) (κ : Kp) (gi : Gi) (gl : Gl) (H : Heap) (locs : List Loc) (pc : Nat) (lsA : Array Slot), Q (.int r) κ gi gl → κ.1 = nX → Wd base D cA κ gi gl H → va_S (Ab base) s.heap H locs → decode (mC M) pc = .ok (.ireturn, 1) → (∃ ty, mR M = some ty ∧ rI (some ty) = true ∧ narrow ty (.int r) = .int r) → W p l e R s m args below meth c H locs (nX - nE) (sl nX - sl nE) Z (F0 m pc lsA [.int r])) ∧
  (∀ (r : Int64) (κ : Kp) (gi : Gi) (gl : Gl) (H : Heap) (locs : List Loc) (pc : Nat) (lsA : Array Slot), Q (.long r) κ gi gl → κ.1 = nX → Wd base D cA κ gi gl H → va_S (Ab base) s.heap H locs → decode (mC M) pc = .ok (.lreturn, 1) → mR M = some .long → W p l e R s m args below meth c H locs (nX - nE) (sl nX - sl nE) Z (F0 m pc lsA [.long r])) ∧
  (∀ (v : Value) (κ : Kp) (gi : Gi) (gl : Gl) (H : Heap) (locs : List Loc) (pc : Nat) (lsA : Array Slot), Q v κ gi gl → (v = .null ∨ ∃ a, v = .ref a) → κ.1 = nX → Wd base D cA κ gi gl H → va_S (Ab base) s.heap H locs → decode (mC M) pc = .ok (.areturn, 1) → (∃ n, mR M = some (.object n)) → W p l e R s m args below meth c H locs (nX - nE) (sl nX - sl nE) Z (F0 m pc lsA [cv base ro v])) ∧
  (∀ (κ : Kp) (gi : Gi) (gl : Gl) (H : Heap) (locs : List Loc) (pc : Nat) (lsA : Array Slot), Q .null κ gi gl → κ.1 = nX → Wd base D cA κ gi gl H → va_S (Ab base) s.heap H locs → decode (mC M) pc = .ok (.return_, 1) → mR M = none → W p l e R s m args below meth c H locs (nX - nE) (sl nX - sl nE) Z (F0 m pc lsA []))
/-- the locals: place i holds v -/
def LHas (f : Value → Value) (lsA : Array Slot) (n : Nat) (ls : List (Option Value)) : Prop := lsA.size = n ∧ lv_wf lsA ∧ ∀ (i : Nat) (v : Value), ls[i]? = some (some v) → lsA[i]? = some (.val (f v))
def PAt (M : MD) (nE nX : Nat) (κ : Kp) (pc : Nat) (ls : List (Option Value)) (st : List Value) (gi : Gi) (gl : Gl) (Q : Value → Kp → Gi → Gl → Prop) : Prop :=
  ∀ (p : Program) (l : Launch) (e : Env) (R : Room) (s : State) (m : MethodId) (args : Array Value) (below : List Frame) (meth : Method) (c : Code) (base : Nat) (D : va_G) (cA : Nat → ClassId) (ro : Nat → Nat) (Z : State → Prop),
    Cx M nE nX p R s m args meth c base D cA ro → PFin M nE nX Q p l e R s m args below meth c base D cA ro Z →
    ∀ (H : Heap) (locs : List Loc) (lsA : Array Slot), Wd base D cA κ gi gl H → va_S (Ab base) s.heap H locs → LHas (cv base ro) lsA (mL M) ls →
      W p l e R s m args below meth c H locs (κ.1 - nE) (sl κ.1 - sl nE) Z (F0 m pc lsA (st.map (cv base ro)))
theorem PAt.mono {M : MD} {nE nX : Nat} {κ : Kp} {pc : Nat} {ls : List (Option Value)} {st : List Value} {gi : Gi} {gl : Gl} {Q Q' : Value → Kp → Gi → Gl → Prop} (h : PAt M nE nX κ pc ls st gi gl Q) (hQ : ∀ v κ gi gl, Q v κ gi gl → Q' v κ gi gl) : PAt M nE nX κ pc ls st gi gl Q' := by
  intro p l e R s m args below meth c base D cA ro Z C F
  exact h p l e R s m args below meth c base D cA ro Z C ⟨fun r κ gi gl H locs pc lsA q => F.1 r κ gi gl H locs pc lsA (hQ _ _ _ _ q), fun r κ gi gl H locs pc lsA q => F.2.1 r κ gi gl H locs pc lsA (hQ _ _ _ _ q), fun r κ gi gl H locs pc lsA q => F.2.2.1 r κ gi gl H locs pc lsA (hQ _ _ _ _ q), fun κ gi gl H locs pc lsA q => F.2.2.2 κ gi gl H locs pc lsA (hQ _ _ _ _ q)⟩
/-- fewer locals -/
theorem PAt.forget {M : MD} {nE nX : Nat} {κ : Kp} {pc : Nat} {ls ls' : List (Option Value)} {st : List Value} {gi : Gi} {gl : Gl} {Q : Value → Kp → Gi → Gl → Prop} (h : PAt M nE nX κ pc ls' st gi gl Q) (hl : ∀ (i : Nat) (v : Value), ls'[i]? = some (some v) → ls[i]? = some (some v)) : PAt M nE nX κ pc ls st gi gl Q := by
  intro p l e R s m args below meth c base D cA ro Z C F H locs lsA hW hS hL
  exact h p l e R s m args below meth c base D cA ro Z C F H locs lsA hW hS ⟨hL.1, hL.2.1, fun i v q => hL.2.2 i v (hl i v q)⟩
/-- 'ls' holds what ls' holds, decided -/
def lsub : List (Option Value) → List (Option Value) → Prop
  | [], _ => True
  | none :: a, [] => lsub a []
  | none :: a, _ :: b => lsub a b
  | some _ :: _, [] => False
  | some v :: a, w :: b => w = some v ∧ lsub a b
theorem lsub_at : ∀ {a b : List (Option Value)}, lsub a b → ∀ (i : Nat) (v : Value), a[i]? = some (some v) → b[i]? = some (some v)
  | [], _, _, i, v, h => by simp at h
  | none :: a, [], q, i, v, h => by
    cases i with
    | zero => simp at h
    | succ i => have := lsub_at (a := a) (b := []) q i v (by simpa using h); simp at this
  | none :: a, _ :: b, q, i, v, h => by
    cases i with
    | zero => simp at h
    | succ i => simpa using lsub_at (a := a) (b := b) q i v (by simpa using h)
  | some _ :: _, [], q, _, _, _ => q.elim
  | some x :: a, w :: b, q, i, v, h => by
    cases i with
    | zero => rw [q.1]; simpa using h
    | succ i => simpa using lsub_at (a := a) (b := b) q.2 i v (by simpa using h)
