/-! THE CONSTRUCTORS, one: rows that make cells and put references -/
/-- nulls: of a those of L are not put yet -/
def nS (ν : Nat → Nat → Bool) (a : Nat) (L : List Nat) : Nat → Nat → Bool := fun b j => if b = a then L.contains j else ν b j
theorem nS_n {ν : Nat → Nat → Bool} {a b : Nat} {L : List Nat} (h : b ≠ a) : nS ν a L b = ν b := by funext j; unfold nS; rw [if_neg h]
theorem nS_s {ν : Nat → Nat → Bool} {a j : Nat} {L : List Nat} : nS ν a L a j = L.contains j := by unfold nS; rw [if_pos rfl]
theorem nS_0 {ν : Nat → Nat → Bool} {a : Nat} (h : ∀ j, ν a j = false) : nS ν a [] = ν := by
  funext b j
  unfold nS
  by_cases e : b = a
  · subst e; rw [if_pos rfl, h]; rfl
  · rw [if_neg e]
def dvOk (ty : FieldType) (n : Bool) : Bool := match ty with
  | .int => true
  | .boolean => true
  | .long => true
  | .object _ => n
  | .array _ => n
  | _ => false
theorem dv_fv {base : Nat} {ν : Nat → Nat → Bool} {gi : Gi} {gl : Gl} {a k j : Nat} (h : dvOk (tyC k j) (ν a j) = true) (h1 : gi a j = 0) (h2 : gl a j = 0) : defaultValue (tyC k j) = fv base ν gi gl a k j := by
  unfold fv
  cases hty : tyC k j <;> rw [hty] at h <;> simp [dvOk] at h <;> simp [defaultValue, h, h1, h2]
theorem Wd.push {base : Nat} {D : va_G} {cA : Nat → ClassId} {κ κ' : Kp} {gi gi' : Gi} {gl gl' : Gl} {H H1 : Heap} (hW : Wd base D cA κ gi gl H) (ha : κ.1 < NN) (hn : κ'.1 = κ.1 + 1) (he : va_at D vwCl (base + κ.1, mkE base cA κ'.2 gi' gl' κ.1) H1) (ho : ∀ b, b ≠ κ.1 → mkE base cA κ'.2 gi' gl' b = mkE base cA κ.2 gi gl b) (z : H1.size = H.size + 1) (o : ∀ q, q < H.size → H1[q]? = H[q]?) : Wd base D cA κ' gi' gl' H1 := by
  have hsz := hW.2.1 ha
  have hk : va_P D vwCl (wsE base cA κ gi gl) H1 := hW.1.kept (fun k x hx => o x.1 ((hW.1 k x hx).lt))
  refine ⟨fun k q hq => ?_, fun _ => by rw [z, hn, hsz]; omega, by rw [hn]; omega⟩
  have hl : k < κ'.1 := by rw [← we_len (base := base) (cA := cA) (κ := κ') (gi := gi') (gl := gl')]; exact (List.getElem?_eq_some_iff.mp hq).1
  rw [we_get hl] at hq
  cases hq
  by_cases e : k = κ.1
  · subst e; exact he
  · rw [ho k e]
    exact hk k _ (we_get (by omega))
theorem room_new {nE nX n C S : Nat} (h1 : nE ≤ n) (h2 : n < nX) (hc : nX - nE ≤ C) (hs : sl nX - sl nE ≤ S) : (n - nE) + 1 ≤ C ∧ (sl n - sl nE) + sN n ≤ S ∧ n + 1 - nE = (n - nE) + 1 ∧ sl (n + 1) - sl nE = (sl n - sl nE) + sN n := by
  have a := sl_le h1
  have b : sl (n + 1) ≤ sl nX := sl_le h2
  have c : sl (n + 1) = sl n + sN n := rfl
  omega
theorem arrV_c {cI : ClassId} {N : Nat} {f g : Nat → Value} (h : ∀ j, j < N → f j = g j) : arrV cI N f = arrV cI N g := by
  unfold arrV
  have : (fun j : Fin N => f j.val) = fun j : Fin N => g j.val := by funext j; exact h j.1 j.2
  rw [this]
section NA
variable {M : MD} {nE nX : Nat} {κ : Kp} {pc : Nat} {ls : List (Option Value)} {st : List Value} {gi : Gi} {gl : Gl} {Q : Value → Kp → Gi → Gl → Prop}
/-- a fresh object -/
theorem px_new {a ci ix : Nat} {C0 : String} {T : u_T} {N : Nat} (L : List Nat) (hd : decode (mC M) pc = .ok (.new ix, 3)) (hκ : κ.1 = a) (ha : a < NN ∧ nE ≤ a ∧ a < nX) (hk : sK a = ci) (hci : ci < 100) (hN : sN a = N) (hc : vwCl[ci]? = some (C0, T, N)) (hu : ∀ w ∈ u_ws C0 T N, w ∈ gtb) (hty : ∀ k, k < N → parseFieldDescriptor (T k).2.2.1 = some (tyC ci k)) (hL : ∀ k, k < N → dvOk (tyC ci k) (L.contains k) = true) (hw : Cond.classLink (mY M).cls ix C0 ∈ gtb ∧ Cond.instantiable C0 N ∈ gtb ∧ Cond.initialized C0 ∈ gtb)
    (kk : ∀ g l, (∀ b, b ≠ a → g b = gi b) → (∀ b, b ≠ a → l b = gl b) → (∀ j, g a j = 0) → PAt M nE nX (a + 1, nS κ.2 a L) (pc + 3) ls (.ref a :: st) g l Q) : PAt M nE nX κ pc ls st gi gl Q := by
  subst hκ
  intro p l e R s m args below meth c base D cA ro Z C F H locs lsA hW hS hLs
  obtain ⟨hx0, hb0, hml0, hr0, hlk0, hin0, hown0, -, hK0, hbs0, hf0, hl0, hc0, hs0, hRO0⟩ := id C
  obtain ⟨r1, r2, r3, r4⟩ := room_new ha.2.1 ha.2.2 hc0 hs0
  have hsz := hW.2.1 ha.1
  have hKn := C.K.1 ci _ hc
  have h := kk (uI gi κ.1 (fun _ => 0)) (uL gl κ.1 (fun _ => 0)) (fun b hb => uI_n hb) (fun b hb => uL_n hb) (fun j => by rw [uI_s])
  refine W.newcK C.1 C.2.1 C.own (C.hts _ hw.1) (C.hts _ hw.2.1) (C.hts _ hw.2.2) rfl hd r1 (by rw [← hN]; exact r2) hKn.2.1 hsz fun H1 kC hkC e1 z1 o1 => ?_
  have hat := u_born (tyC ci) C.hts hu hKn hkC e1 hty
  have hW1 : Wd base D cA (κ.1 + 1, nS κ.2 κ.1 L) (uI gi κ.1 (fun _ => 0)) (uL gl κ.1 (fun _ => 0)) H1 := by
    refine hW.push ha.1 rfl ?_ (fun b hb => mkE_n (uI_n hb) (uL_n hb) (nS_n hb)) (by rw [z1, hsz]) (by rw [hsz]; exact o1)
    rw [mkE_o hk hci, hN]
    refine ⟨_, hc, hat.to (fun j hj => ?_)⟩
    unfold vp_V
    rw [List.getD_eq_getElem?_getD, fs_at hj]
    exact dv_fv (by show dvOk (tyC ci j) (nS κ.2 κ.1 L κ.1 j) = true; rw [nS_s]; exact hL j hj) (by rw [uI_s]) (by rw [uL_s])
  have h := h p l e R s m args below meth c base D cA ro Z C F H1 locs lsA hW1 ⟨Nat.le_trans hS.1 (by rw [z1, hsz]; omega), fun x h1 h2 => (o1 x (by rw [← hsz]; exact Nat.lt_of_lt_of_le h1 hS.1)).trans (hS.2.1 x h1 h2), hS.2.2⟩ hLs
  rw [cv_map_ref ha.1] at h
  show W p l e R s m args below meth c H1 locs _ _ Z (F0 m (pc + 3) lsA (.ref (base + κ.1) :: st.map (cv base ro)))
  rw [← hN, ← r3, ← r4]
  exact h
/-- a fresh array of ints -/
theorem px_newI {a n : Nat} {x : Int32} (hd : decode (mC M) pc = .ok (.newarray .int, 2)) (hκ : κ.1 = a) (ha : a < NN ∧ nE ≤ a ∧ a < nX) (hk : sK a = 100) (hN : sN a = n) (hx : ¬ x < 0) (hxn : x.toNatClampNeg = n) (hn : n * 4 ≤ 536870912) (hw : Cond.arrayClass .int ∈ gtb)
    (kk : ∀ g l, (∀ b, b ≠ a → g b = gi b) → (∀ b, b ≠ a → l b = gl b) → (∀ j, g a j = 0) → PAt M nE nX (a + 1, κ.2) (pc + 2) ls (.ref a :: st) g l Q) : PAt M nE nX κ pc ls (.int x :: st) gi gl Q := by
  subst hκ
  intro p l e R s m args below meth c base D cA ro Z C F H locs lsA hW hS hLs
  obtain ⟨hx0, hb0, hml0, hr0, hlk0, hin0, hown0, -, hK0, hbs0, hf0, hl0, hc0, hs0, hRO0⟩ := id C
  obtain ⟨r1, r2, r3, r4⟩ := room_new ha.2.1 ha.2.2 hc0 hs0
  have hsz := hW.2.1 ha.1
  have h := kk (uI gi κ.1 (fun _ => 0)) gl (fun b hb => uI_n hb) (fun _ _ => rfl) (fun j => by rw [uI_s])
  refine va_newaK (atype := .int) (N := n) C.1 C.2.1 (C.hts _ hw) rfl hd rfl hx hxn hn r1 (by rw [← hN]; exact r2) hsz fun H1 cA' e1 z1 o1 hAr hNm => ?_
  have ec : cA' = cA 100 := Option.some.inj (hNm.symm.trans (C.K.2 0 _ rfl).2)
  subst ec
  have hW1 : Wd base D cA (κ.1 + 1, κ.2) (uI gi κ.1 (fun _ => 0)) gl H1 := by
    refine hW.push ha.1 rfl ?_ (fun b hb => mkE_n (uI_n hb) rfl rfl) (by rw [z1, hsz]) (by rw [hsz]; exact o1)
    rw [mkE_i hk (by decide), hN]
    show H1[base + κ.1]? = some (vp_cell _ _)
    rw [e1, vp_cell_i, uI_s]; rfl
  have h := h p l e R s m args below meth c base D cA ro Z C F H1 locs lsA hW1 ⟨Nat.le_trans hS.1 (by rw [z1, hsz]; omega), fun x h1 h2 => (o1 x (by rw [← hsz]; exact Nat.lt_of_lt_of_le h1 hS.1)).trans (hS.2.1 x h1 h2), hS.2.2⟩ hLs
  rw [cv_map_ref ha.1] at h
  show W p l e R s m args below meth c H1 locs _ _ Z (F0 m (pc + 2) lsA (.ref (base + κ.1) :: st.map (cv base ro)))
  rw [← hN, ← r3, ← r4]
  exact h
theorem px_newB {a n : Nat} {x : Int32} (hd : decode (mC M) pc = .ok (.newarray .byte, 2)) (hκ : κ.1 = a) (ha : a < NN ∧ nE ≤ a ∧ a < nX) (hk : sK a = 102) (hN : sN a = n) (hx : ¬ x < 0) (hxn : x.toNatClampNeg = n) (hn : n * 1 ≤ 536870912) (hw : Cond.arrayClass .byte ∈ gtb)
    (kk : ∀ g l, (∀ b, b ≠ a → g b = gi b) → (∀ b, b ≠ a → l b = gl b) → (∀ j, g a j = 0) → PAt M nE nX (a + 1, κ.2) (pc + 2) ls (.ref a :: st) g l Q) : PAt M nE nX κ pc ls (.int x :: st) gi gl Q := by
  subst hκ
  intro p l e R s m args below meth c base D cA ro Z C F H locs lsA hW hS hLs
  obtain ⟨hx0, hb0, hml0, hr0, hlk0, hin0, hown0, -, hK0, hbs0, hf0, hl0, hc0, hs0, hRO0⟩ := id C
  obtain ⟨r1, r2, r3, r4⟩ := room_new ha.2.1 ha.2.2 hc0 hs0
  have hsz := hW.2.1 ha.1
  have h := kk (uI gi κ.1 (fun _ => 0)) gl (fun b hb => uI_n hb) (fun _ _ => rfl) (fun j => by rw [uI_s])
  refine va_newaK (atype := .byte) (N := n) C.1 C.2.1 (C.hts _ hw) rfl hd rfl hx hxn hn r1 (by rw [← hN]; exact r2) hsz fun H1 cA' e1 z1 o1 hAr hNm => ?_
  have ec : cA' = cA 102 := Option.some.inj (hNm.symm.trans (C.K.2 2 _ rfl).2)
  subst ec
  have hW1 : Wd base D cA (κ.1 + 1, κ.2) (uI gi κ.1 (fun _ => 0)) gl H1 := by
    refine hW.push ha.1 rfl ?_ (fun b hb => mkE_n (uI_n hb) rfl rfl) (by rw [z1, hsz]) (by rw [hsz]; exact o1)
    rw [mkE_i hk (by decide), hN]
    show H1[base + κ.1]? = some (vp_cell _ _)
    rw [e1, vp_cell_i, uI_s]; rfl
  have h := h p l e R s m args below meth c base D cA ro Z C F H1 locs lsA hW1 ⟨Nat.le_trans hS.1 (by rw [z1, hsz]; omega), fun x h1 h2 => (o1 x (by rw [← hsz]; exact Nat.lt_of_lt_of_le h1 hS.1)).trans (hS.2.1 x h1 h2), hS.2.2⟩ hLs
  rw [cv_map_ref ha.1] at h
  show W p l e R s m args below meth c H1 locs _ _ Z (F0 m (pc + 2) lsA (.ref (base + κ.1) :: st.map (cv base ro)))
  rw [← hN, ← r3, ← r4]
  exact h
theorem px_newZ {a n : Nat} {x : Int32} (hd : decode (mC M) pc = .ok (.newarray .boolean, 2)) (hκ : κ.1 = a) (ha : a < NN ∧ nE ≤ a ∧ a < nX) (hk : sK a = 103) (hN : sN a = n) (hx : ¬ x < 0) (hxn : x.toNatClampNeg = n) (hn : n * 1 ≤ 536870912) (hw : Cond.arrayClass .boolean ∈ gtb)
    (kk : ∀ g l, (∀ b, b ≠ a → g b = gi b) → (∀ b, b ≠ a → l b = gl b) → (∀ j, g a j = 0) → PAt M nE nX (a + 1, κ.2) (pc + 2) ls (.ref a :: st) g l Q) : PAt M nE nX κ pc ls (.int x :: st) gi gl Q := by
  subst hκ
  intro p l e R s m args below meth c base D cA ro Z C F H locs lsA hW hS hLs
  obtain ⟨hx0, hb0, hml0, hr0, hlk0, hin0, hown0, -, hK0, hbs0, hf0, hl0, hc0, hs0, hRO0⟩ := id C
  obtain ⟨r1, r2, r3, r4⟩ := room_new ha.2.1 ha.2.2 hc0 hs0
  have hsz := hW.2.1 ha.1
  have h := kk (uI gi κ.1 (fun _ => 0)) gl (fun b hb => uI_n hb) (fun _ _ => rfl) (fun j => by rw [uI_s])
  refine va_newaK (atype := .boolean) (N := n) C.1 C.2.1 (C.hts _ hw) rfl hd rfl hx hxn hn r1 (by rw [← hN]; exact r2) hsz fun H1 cA' e1 z1 o1 hAr hNm => ?_
  have ec : cA' = cA 103 := Option.some.inj (hNm.symm.trans (C.K.2 3 _ rfl).2)
  subst ec
  have hW1 : Wd base D cA (κ.1 + 1, κ.2) (uI gi κ.1 (fun _ => 0)) gl H1 := by
    refine hW.push ha.1 rfl ?_ (fun b hb => mkE_n (uI_n hb) rfl rfl) (by rw [z1, hsz]) (by rw [hsz]; exact o1)
    rw [mkE_i hk (by decide), hN]
    show H1[base + κ.1]? = some (vp_cell _ _)
    rw [e1, vp_cell_i, uI_s]; rfl
  have h := h p l e R s m args below meth c base D cA ro Z C F H1 locs lsA hW1 ⟨Nat.le_trans hS.1 (by rw [z1, hsz]; omega), fun x h1 h2 => (o1 x (by rw [← hsz]; exact Nat.lt_of_lt_of_le h1 hS.1)).trans (hS.2.1 x h1 h2), hS.2.2⟩ hLs
  rw [cv_map_ref ha.1] at h
  show W p l e R s m args below meth c H1 locs _ _ Z (F0 m (pc + 2) lsA (.ref (base + κ.1) :: st.map (cv base ro)))
  rw [← hN, ← r3, ← r4]
  exact h
theorem px_newJ {a n : Nat} {x : Int32} (hd : decode (mC M) pc = .ok (.newarray .long, 2)) (hκ : κ.1 = a) (ha : a < NN ∧ nE ≤ a ∧ a < nX) (hk : sK a = 101) (hN : sN a = n) (hx : ¬ x < 0) (hxn : x.toNatClampNeg = n) (hn : n * 8 ≤ 536870912) (hw : Cond.arrayClass .long ∈ gtb)
    (kk : ∀ g l, (∀ b, b ≠ a → g b = gi b) → (∀ b, b ≠ a → l b = gl b) → (∀ j, g a j = 0) → PAt M nE nX (a + 1, κ.2) (pc + 2) ls (.ref a :: st) g l Q) : PAt M nE nX κ pc ls (.int x :: st) gi gl Q := by
  subst hκ
  intro p l e R s m args below meth c base D cA ro Z C F H locs lsA hW hS hLs
  obtain ⟨hx0, hb0, hml0, hr0, hlk0, hin0, hown0, -, hK0, hbs0, hf0, hl0, hc0, hs0, hRO0⟩ := id C
  obtain ⟨r1, r2, r3, r4⟩ := room_new ha.2.1 ha.2.2 hc0 hs0
  have hsz := hW.2.1 ha.1
  have h := kk (uI gi κ.1 (fun _ => 0)) (uL gl κ.1 (fun _ => 0)) (fun b hb => uI_n hb) (fun b hb => uL_n hb) (fun j => by rw [uI_s])
  refine va_newaK (atype := .long) (N := n) C.1 C.2.1 (C.hts _ hw) rfl hd rfl hx hxn hn r1 (by rw [← hN]; exact r2) hsz fun H1 cA' e1 z1 o1 hAr hNm => ?_
  have ec : cA' = cA 101 := Option.some.inj (hNm.symm.trans (C.K.2 1 _ rfl).2)
  subst ec
  have hW1 : Wd base D cA (κ.1 + 1, κ.2) (uI gi κ.1 (fun _ => 0)) (uL gl κ.1 (fun _ => 0)) H1 := by
    refine hW.push ha.1 rfl ?_ (fun b hb => mkE_n (uI_n hb) (uL_n hb) rfl) (by rw [z1, hsz]) (by rw [hsz]; exact o1)
    rw [mkE_l hk, hN]
    show H1[base + κ.1]? = some (vp_cell _ _)
    rw [e1, vp_cell_l, uL_s]; rfl
  have h := h p l e R s m args below meth c base D cA ro Z C F H1 locs lsA hW1 ⟨Nat.le_trans hS.1 (by rw [z1, hsz]; omega), fun x h1 h2 => (o1 x (by rw [← hsz]; exact Nat.lt_of_lt_of_le h1 hS.1)).trans (hS.2.1 x h1 h2), hS.2.2⟩ hLs
  rw [cv_map_ref ha.1] at h
  show W p l e R s m args below meth c H1 locs _ _ Z (F0 m (pc + 2) lsA (.ref (base + κ.1) :: st.map (cv base ro)))
  rw [← hN, ← r3, ← r4]
  exact h
/-- a fresh array of references -/
theorem px_newQ {a n k t0 ix : Nat} {x : Int32} {C0 : String} (hd : decode (mC M) pc = .ok (.anewarray ix, 3)) (hκ : κ.1 = a) (ha : a < NN ∧ nE ≤ a ∧ a < nX) (hk : sK a = k) (hk2 : k = 104 ∨ k = 105) (ht : ∀ cA, (tysE cA)[t0]? = some (cA k, .object C0)) (hN : sN a = n) (hx : ¬ x < 0) (hxn : x.toNatClampNeg = n) (hn : n * 4 ≤ 536870912) (hw : Cond.classLink (mY M).cls ix C0 ∈ gtb ∧ Cond.arrayOver (.object C0) ∈ nst)
    (kk : PAt M nE nX (a + 1, nS κ.2 a (List.range n)) (pc + 3) ls (.ref a :: st) gi gl Q) : PAt M nE nX κ pc ls (.int x :: st) gi gl Q := by
  subst hκ
  intro p l e R s m args below meth c base D cA ro Z C F H locs lsA hW hS hLs
  obtain ⟨hx0, hb0, hml0, hr0, hlk0, hin0, hown0, -, hK0, hbs0, hf0, hl0, hc0, hs0, hRO0⟩ := id C
  obtain ⟨r1, r2, r3, r4⟩ := room_new ha.2.1 ha.2.2 hc0 hs0
  have hsz := hW.2.1 ha.1
  refine W.anew (n := x) C.1 C.2.1 C.own (C.hts _ hw.1) (va_AO.use (hRO0.2.2.2.2.2.2 _ hw.2)) rfl hd rfl hx (by rw [hxn]; exact hn) r1 (by rw [hxn, ← hN]; exact r2) fun cA' kA comp f1 f2 f3 f4 => ?_
  obtain ⟨kA2, comp2, -, -, -, f5⟩ := (C.K.2 t0 _ (ht cA)).2
  have ec : cA' = cA k := Option.some.inj (f1.symm.trans f5)
  subst ec
  rw [hxn, arrV_new]
  generalize hH1 : H.push (arrV (cA k) n fun _ => Value.null) = H1
  have z1 : H1.size = H.size + 1 := by rw [← hH1, Array.size_push]
  have e1 : H1[H.size]? = some (arrV (cA k) n (fun _ => .null)) := by rw [← hH1, Array.getElem?_push_size]
  have o1 : ∀ q : Nat, q < H.size → H1[q]? = H[q]? := fun q hq => by rw [← hH1, Array.getElem?_push, if_neg (Nat.ne_of_lt hq)]
  have hW1 : Wd base D cA (κ.1 + 1, nS κ.2 κ.1 (List.range n)) gi gl H1 := by
    refine hW.push ha.1 rfl ?_ (fun b hb => mkE_n rfl rfl (nS_n hb)) z1 o1
    rw [mkE_q hk hk2, hN]
    show H1[base + κ.1]? = some (vp_cell _ _)
    rw [← hsz, e1, vp_cell_q]
    refine congrArg some (arrV_c (fun j hj => ?_))
    show Value.null = va_rf (if nS κ.2 κ.1 (List.range n) κ.1 j = true then none else some (base + sR κ.1 j))
    rw [nS_s, List.contains_iff_mem.2 (List.mem_range.2 hj), if_pos rfl]; rfl
  have h := kk p l e R s m args below meth c base D cA ro Z C F H1 locs lsA hW1 ⟨Nat.le_trans hS.1 (by omega), fun x h1 h2 => (o1 x (Nat.lt_of_lt_of_le h1 hS.1)).trans (hS.2.1 x h1 h2), hS.2.2⟩ hLs
  rw [cv_map_ref ha.1] at h
  show W p l e R s m args below meth c H1 locs _ _ Z (F0 m (pc + 3) lsA (.ref H.size :: st.map (cv base ro)))
  rw [← hN, ← r3, ← r4, hsz]
  exact h
/-- a final reference is put -/
theorem px_putR {a ci k ix t : Nat} {C0 : String} {T : u_T} {N : Nat} {ν : Nat → Nat → Bool} {L : List Nat} (hd : decode (mC M) pc = .ok (.putfield ix, 3)) (hν : κ.2 = nS ν a (k :: L)) (ha : a < κ.1) (hk : sK a = ci) (hci : ci < 100) (hN : sN a = N) (hc : vwCl[ci]? = some (C0, T, N)) (hu : ∀ w ∈ u_ws C0 T N, w ∈ gtb) (hkN : k < N)
    (hty : ∀ k, k < N → parseFieldDescriptor (T k).2.2.1 = some (tyC ci k)) (hnm : ∀ a, a < N → ∀ b, b < N → a ≠ b → (T a).2.1 ≠ (T b).2.1) (hw : Cond.fieldLink (mY M).cls ix (T k).1 (T k).2.1 (T k).2.2.1 ∈ gtb) (hfin : (T k).2.2.2 = true) (hdecl : (T k).1 = (mY M).cls) (hini : (mY M).name = "<init>") (hr : sR a k = t) (ht : t < NN) (htc : dvOk (tyC ci k) false = false ∧ dvOk (tyC ci k) true = true) (hL : L.contains k = false)
    (kk : PAt M nE nX (κ.1, nS ν a L) (pc + 3) ls st gi gl Q) : PAt M nE nX κ pc ls (.ref t :: .ref a :: st) gi gl Q := by
  intro p l e R s m args below meth c base D cA ro Z C F H locs lsA hW hS hLs
  have haN : a < NN := Nat.lt_of_lt_of_le ha hW.2.2
  obtain ⟨hx0, hb0, hml0, hr0, hlk0, hin0, hown0, -, hK0, hbs0, hf0, hl0, hc0, hs0, hRO0⟩ := id C
  rw [cv_map_ref ht, cv_map_ref haN]
  have hap := va_apart (own := (mY M).cls) C.hts hu (tyC ci) hty hnm C.K hc
  obtain ⟨cell, q1, q2, q3, q4⟩ := ob_at hW ha hk hci hN hc
  obtain ⟨hSl, hfc, kC, hkC, hkind⟩ := C.K.1 ci _ hc
  obtain ⟨cf, kf, fi, f, hi, hsl⟩ := hSl k hkN
  have hlay := C.hts _ (hu _ (u_in_lay hkN))
  unfold u_lay at hlay
  rw [if_pos hfin] at hlay
  have hst := (u_facts hfc hkC (u_lays C.hts hu hkN) hi).1
  have hcf : m.cls = cf := by
    obtain ⟨_, _, c', _, _, _, -, -, hf', -, -, -, hown2, -⟩ := Cond.laysFinal_spec hlay
    have e1 : c' = cf := by have := hi.symm.trans hf'; simp at this; exact this.1.symm
    rw [hdecl] at hown2
    rw [← e1]; exact Option.some.inj (hown0.symm.trans hown2)
  have tyr : (∃ n, tyC ci k = .object n) ∨ ∃ n, tyC ci k = .array n := by
    have h1 := htc.1
    have h2 := htc.2
    cases hty2 : tyC ci k <;> rw [hty2] at h1 h2 <;> first | exact Or.inl ⟨_, rfl⟩ | exact Or.inr ⟨_, rfl⟩ | (simp [dvOk] at h1; done) | (simp [dvOk] at h2; done)
  have hnar : narrow (tyC ci k) (.ref (base + t)) = .ref (base + t) := by
    rcases tyr with ⟨n, e⟩ | ⟨n, e⟩ <;> rw [e] <;> rfl
  have hfit : fits (tyC ci k) (.ref (base + t)) = true := by
    rcases tyr with ⟨n, e⟩ | ⟨n, e⟩ <;> rw [e] <;> rfl
  have hv : fv base (nS ν a L) gi gl a ci k = .ref (base + t) := by
    have hn : nS ν a L a k = false := by rw [nS_s]; exact hL
    unfold fv
    rcases tyr with ⟨n, e⟩ | ⟨n, e⟩ <;> rw [e] <;> simp [hn, hr]
  have ho : ∀ j, j ≠ k → fv base (nS ν a L) gi gl a ci j = fv base κ.2 gi gl a ci j := fun j hj => by
    have : nS ν a L a j = κ.2 a j := by rw [hν, nS_s, nS_s, List.contains_cons, show (j == k) = false from by simp [hj], Bool.false_or]
    unfold fv; rw [this]
  have h6 := u_fits hfc hkC hkind (Or.inr hlay) hi (hty k hkN) hnar hfit
  refine W.putFinK C.1 C.2.1 hown0 (C.hts _ hw) hi hst hcf (hin0.trans hini) (by rw [q2]; exact h6) q1 q3 (by rw [hsl]; exact k2_hasslot (q4 k hkN)) rfl rfl hd fun H' e1 e2 e3 => ?_
  rw [hsl] at e1 ⊢
  exact kk p l e R s m args below meth c base D cA ro Z C F H' _ lsA (hW.put (κ' := (κ.1, nS ν a L)) ha rfl (ob_put (κ' := (κ.1, nS ν a L)) (nul := κ.2) hk hci hN hc hkN q2 q3 q4 hap e1 hv ho) (fun b h => mkE_n rfl rfl (by rw [hν]; show nS ν a L b = nS ν a (k :: L) b; rw [nS_n h, nS_n h])) e2 e3) (hS.put e2 e3 (Nat.le_add_right _ _)) hLs
/-- a reference into an array -/
theorem px_aast {a v n i ci k t0 : Nat} {x : Int32} {C0 : String} {T : u_T} {N : Nat} {ν : Nat → Nat → Bool} {L : List Nat} (hd : decode (mC M) pc = .ok (.aastore, 1)) (hν : κ.2 = nS ν a (i :: L)) (ha : a < κ.1) (hk : sK a = k) (hk2 : k = 104 ∨ k = 105) (hn : sN a = n) (ht : ∀ cA, (tysE cA)[t0]? = some (cA k, .object C0)) (hv : v < κ.1) (hkv : sK v = ci) (hci : ci < 100) (hc : vwCl[ci]? = some (C0, T, N)) (hi : i < n) (hx : x = nI i) (hn9 : n ≤ 1000) (hL : L.contains i = false) (hr : sR a i = v)
    (kk : PAt M nE nX (κ.1, nS ν a L) (pc + 1) ls st gi gl Q) : PAt M nE nX κ pc ls (.ref v :: .int x :: .ref a :: st) gi gl Q := by
  subst hx
  intro p l e R s m args below meth c base D cA ro Z C F H locs lsA hW hS hLs
  have haN : a < NN := Nat.lt_of_lt_of_le ha hW.2.2
  have hvN : v < NN := Nat.lt_of_lt_of_le hv hW.2.2
  rw [cv_map_ref hvN, List.map_cons, cv_map_ref haN]
  have hP : va_at D vwCl (base + a, mkE base cA κ.2 gi gl a) H := hW.1 a _ (we_get ha)
  rw [mkE_q hk hk2, hn] at hP
  have hcls := (C.K.1 ci _ hc).2
  have hPv := hW.1 v _ (we_get hv)
  rw [mkE_o hkv hci] at hPv
  obtain ⟨r', hr', cellV, g1, g2, g3, -⟩ := hPv
  obtain ⟨kA, comp, k1, k2, k3, -⟩ := (C.K.2 t0 _ (ht cA)).2
  have hcomp : comp = D.1 ci := Option.some.inj (k3.symm.trans hcls.1)
  subst hcomp
  obtain ⟨kC, hkC, -⟩ := hcls.2
  have hin : vp_in (nI i) n := vp_nI hi (by omega)
  have ei : (nI i).toNatClampNeg = i := nI_cl (by omega)
  refine W.aast C.1 C.2.1 hP (fun q h => by cases h) (fun h => by cases h) k1 k2 rfl hkC ⟨fun q => hin (Or.inl q), by show _ < (arrV _ _ _).slots.size; rw [arrV_size, ei]; exact hi⟩ g1 (fun q h => by rw [g3] at h; cases h) (by rw [g2]; exact hkC) (by rw [g2]; exact va_assign hcls) rfl rfl hd fun H1 e1 z oq => ?_
  refine kk p l e R s m args below meth c base D cA ro Z C F H1 _ lsA (hW.put (κ' := (κ.1, nS ν a L)) ha rfl ?_ (fun b h => mkE_n rfl rfl (by rw [hν]; show nS ν a L b = nS ν a (i :: L) b; rw [nS_n h, nS_n h])) z oq) (hS.put z oq (Nat.le_add_right _ _)) hLs
  rw [mkE_q hk hk2, hn]
  show H1[base + a]? = some (vp_cell _ _)
  rw [e1, ei]
  show some ((vp_cell _ _).setSlot _ _) = _
  rw [vp_cell_q, vp_cell_q, arrV_store]
  refine congrArg some (arrV_c (fun j hj => ?_))
  show updV _ i (.ref (base + v)) j = va_rf (if nS ν a L a j = true then none else some (base + sR a j))
  by_cases ej : j = i
  · subst ej
    rw [nS_s, hL, hr]
    simp [updV, va_rf]
  · have : nS ν a L a j = κ.2 a j := by rw [hν, nS_s, nS_s, List.contains_cons, show (j == i) = false from by simp [ej], Bool.false_or]
    rw [this]
    simp [updV, ej]
end NA
