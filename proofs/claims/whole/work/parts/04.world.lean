/-! the world: all cells of the class's object and of the reference's, by numbers (ids); a memory says what they hold -/
abbrev Mem : Type := (Nat → Nat → Int32) × (Nat → Nat → Int64)
def gI (μ : Mem) (k : Nat) : Nat → Int32 := μ.1 k
def gL (μ : Mem) (k : Nat) : Nat → Int64 := μ.2 k
def sI (μ : Mem) (k i : Nat) (v : Int32) : Mem := (fun a => if a = k then upd (μ.1 a) i v else μ.1 a, μ.2)
def sL (μ : Mem) (k i : Nat) (v : Int64) : Mem := (μ.1, fun a => if a = k then vp_updL (μ.2 a) i v else μ.2 a)
/-- a row of ints (or longs) as a whole -/
def sR (μ : Mem) (k : Nat) (h : Nat → Int32) : Mem := (fun a => if a = k then h else μ.1 a, μ.2)
def sRL (μ : Mem) (k : Nat) (h : Nat → Int64) : Mem := (μ.1, fun a => if a = k then h else μ.2 a)
theorem gI_sI (μ : Mem) (k i : Nat) (v : Int32) (a b : Nat) : gI (sI μ k i v) a b = if a = k ∧ b = i then v else gI μ a b := by
  by_cases h : a = k
  · by_cases h2 : b = i <;> simp [gI, sI, upd, h, h2]
  · simp [gI, sI, h]
theorem gI_sI_ne {μ : Mem} {k i : Nat} {v : Int32} {a : Nat} (h : a ≠ k) : gI (sI μ k i v) a = gI μ a := by simp [gI, sI, h]
theorem gI_sI_at (μ : Mem) (k i : Nat) (v : Int32) : gI (sI μ k i v) k = upd (gI μ k) i v := by simp [gI, sI]
theorem gL_sI (μ : Mem) (k i : Nat) (v : Int32) (a : Nat) : gL (sI μ k i v) a = gL μ a := rfl
theorem gI_sL (μ : Mem) (k i : Nat) (v : Int64) (a : Nat) : gI (sL μ k i v) a = gI μ a := rfl
theorem gL_sL (μ : Mem) (k i : Nat) (v : Int64) (a b : Nat) : gL (sL μ k i v) a b = if a = k ∧ b = i then v else gL μ a b := by
  by_cases h : a = k
  · by_cases h2 : b = i <;> simp [gL, sL, vp_updL, h, h2]
  · simp [gL, sL, h]
theorem gL_sL_ne {μ : Mem} {k i : Nat} {v : Int64} {a : Nat} (h : a ≠ k) : gL (sL μ k i v) a = gL μ a := by simp [gL, sL, h]
theorem gL_sL_at (μ : Mem) (k i : Nat) (v : Int64) : gL (sL μ k i v) k = vp_updL (gL μ k) i v := by simp [gL, sL]
theorem gI_sR (μ : Mem) (k : Nat) (h : Nat → Int32) (a : Nat) : gI (sR μ k h) a = if a = k then h else gI μ a := rfl
theorem gL_sR (μ : Mem) (k : Nat) (h : Nat → Int32) (a : Nat) : gL (sR μ k h) a = gL μ a := rfl
theorem gI_sRL (μ : Mem) (k : Nat) (h : Nat → Int64) (a : Nat) : gI (sRL μ k h) a = gI μ a := rfl
theorem gL_sRL (μ : Mem) (k : Nat) (h : Nat → Int64) (a : Nat) : gL (sRL μ k h) a = if a = k then h else gL μ a := rfl
/-- what stays through a whole run: classes, addresses of the ids, array classes, which cells may change, addresses of statics and of String constants -/
abbrev WE : Type := va_G × (Nat → Nat) × (Nat → ClassId) × (Nat → Prop) × (Nat → Nat)
def eD (E : WE) : va_G := E.1
def ead (E : WE) : Nat → Nat := E.2.1
def ecy (E : WE) : Nat → ClassId := E.2.2.1
def eA (E : WE) : Nat → Prop := E.2.2.2.1
def est (E : WE) : Nat → Nat := E.2.2.2.2
def aI (E : WE) (n : Nat) (f : Nat → Int32) : va_E := .inl (ecy E 0, n, .inl f)
def aJ (E : WE) (n : Nat) (g : Nat → Int64) : va_E := .inl (ecy E 1, n, .inr (.inl g))
def aZ (E : WE) (n : Nat) (f : Nat → Int32) : va_E := .inl (ecy E 2, n, .inl f)
def aB (E : WE) (n : Nat) (f : Nat → Int32) : va_E := .inl (ecy E 3, n, .inl f)
def aR (E : WE) (j n : Nat) (h : Nat → Nat) : va_E := .inl (ecy E j, n, .inr (.inr (.inr (.inr (fun i => if i < n then some (ead E (h i)) else none)))))
def wtys (E : WE) : List (ClassId × FieldType) := [(ecy E 0, .int), (ecy E 1, .long), (ecy E 2, .boolean), (ecy E 3, .byte), (ecy E 4, .array .int), (ecy E 5, .object "WoundEggs$Store"), (ecy E 6, .object "WoundEggs$Tape")]
def fsX (E : WE) (f : Nat → Int32) : List Value := [.ref (ead E 100), .ref (ead E 200), .ref (ead E 300), .int (f 3), .ref (ead E 2), .ref (ead E 4), .int (f 6), .ref (ead E 5), .ref (ead E 7)]
def fsTx (E : WE) (f : Nat → Int32) : List Value := [.ref (ead E 3), .int (f 1), .int (f 2)]
def fsAc (E : WE) (f : Nat → Int32) : List Value := [.ref (ead E 6), .int (f 1), .int (f 2), .int (f 3), .int (f 4)]
def fsSt (k : Nat) (E : WE) (f : Nat → Int32) : List Value := [.int (f 0), .ref (ead E (k + 1)), .int (f 2), .int (f 3), .int (f 4), .ref (ead E (k + 10)), .ref (ead E (k + 30)), .ref (ead E (k + 50))]
def fsRw (k : Nat) (E : WE) (f : Nat → Int32) : List Value := [.ref (ead E (k + 1)), .int (f 1)]
def fsSo (k : Nat) (E : WE) (f : Nat → Int32) : List Value := [.int (f 0), .int (f 1), .ref (ead E (k + 1)), .ref (ead E (k + 2)), .ref (ead E (k + 3)), .int (f 5)]
def fsTp (k : Nat) (E : WE) (f : Nat → Int32) : List Value := [.int (f 0), .int (f 1), .ref (ead E (k + 1))]
def fsM (E : WE) (f : Nat → Int32) : List Value := let k := 2000; [.int (f 0), .ref (ead E (k + 1)), .ref (ead E (k + 2)), .ref (ead E (k + 3)), .ref (ead E (k + 4)), .ref (ead E (k + 5)), .ref (ead E (k + 6)), .ref (ead E (k + 7)), .ref (ead E (k + 8)), .int (f 9), .int (f 10), .int (f 11), .ref (ead E (k + 12)), .int (f 13), .int (f 14), .int (f 15), .int (f 16), .int (f 17), .int (f 18), .ref (ead E (k + 19)), .ref (ead E (k + 20)), .ref (ead E (k + 21)), .ref (ead E (k + 22)), .ref (ead E (k + 23)), .ref (ead E (k + 24)), .int (f 25), .ref (ead E (k + 26)), .int (f 27), .ref (ead E (k + 28)), .ref (ead E (k + 29)), .ref (ead E (k + 30)), .int (f 31), .ref (ead E (k + 32)), .ref (ead E (k + 33)), .int (f 34), .ref (ead E (k + 35)), .ref (ead E (k + 36)), .int (f 37), .ref (ead E (k + 38)), .int (f 39), .ref (ead E (k + 40)), .ref (ead E (k + 41)), .ref (ead E (k + 42)), .ref (ead E (k + 43)), .ref (ead E (k + 44))]
def shSt (E : WE) (f : Nat → Int32) (k t : Nat) : va_E :=
  if t = 0 then .inr (2, fsSt k E f) else if t = 1 then aR E 4 6 (fun i => k + 1 + i) else if t < 8 then aI E 14 f
  else if t = 10 ∨ t = 30 ∨ t = 50 then .inr (1, fsRw k E f) else if t = 11 then aR E 4 6 (fun i => k + 1 + i) else if t = 31 then aR E 4 10 (fun i => k + 1 + i) else if t = 51 then aR E 4 8 (fun i => k + 1 + i) else aI E 3 f
def shSo (E : WE) (f : Nat → Int32) (k t : Nat) : va_E := if t = 0 then .inr (3, fsSo k E f) else if t = 3 then aI E 100 f else aI E 10 f
def shTp (E : WE) (f : Nat → Int32) (g : Nat → Int64) (k t : Nat) : va_E := if t = 0 then .inr (4, fsTp k E f) else aJ E 60 g
def shM (E : WE) (f : Nat → Int32) (g : Nat → Int64) (t : Nat) : va_E := if t = 0 then .inr (7, fsM E f) else if t = 26 then aZ E 110 f else if t = 44 then aJ E 360 g else if t = 8 then aI E 24 f else if t = 12 then aI E 100 f else if t = 20 then aI E 61 f else if t = 21 then aI E 61 f else if t = 22 then aI E 61 f else if t = 23 then aI E 61 f else if t = 24 then aI E 800 f else if t = 32 then aI E 10 f else if t = 33 then aI E 10 f else if t = 35 then aI E 8 f else if t = 36 then aI E 8 f else if t = 38 then aI E 20 f else if t = 40 then aI E 126 f else if t = 41 then aI E 126 f else aI E 6 f
def shape (E : WE) (f : Nat → Int32) (g : Nat → Int64) (k : Nat) : va_E :=
  if k < 10 then
    (if k = 1 then .inr (6, fsX E f) else if k = 2 then .inr (5, fsTx E f) else if k = 3 then aB E 100 f else if k = 4 then aR E 5 6 (fun i => 1000 + 10 * i) else if k = 5 then .inr (0, fsAc E f) else if k = 6 then aI E 20 f else aR E 6 6 (fun i => 1100 + 2 * i))
  else if k < 400 then shSt E f k (k % 100) else if k < 1100 then shSo E f k (k % 10) else if k < 1200 then shTp E f g k (k % 2) else shM E f g (k - 2000)
def wids : List Nat := [1, 2, 3, 4, 5, 6, 7, 100, 101, 102, 103, 104, 105, 106, 107, 110, 111, 112, 113, 114, 115, 116, 117, 130, 131, 132, 133, 134, 135, 136, 137, 138, 139, 140, 141, 150, 151, 152, 153, 154, 155, 156, 157, 158, 159, 200, 201, 202, 203, 204, 205, 206, 207, 210, 211, 212, 213, 214, 215, 216, 217, 230, 231, 232, 233, 234, 235, 236, 237, 238, 239, 240, 241, 250, 251, 252, 253, 254, 255, 256, 257, 258, 259, 300, 301, 302, 303, 304, 305, 306, 307, 310, 311, 312, 313, 314, 315, 316, 317, 330, 331, 332, 333, 334, 335, 336, 337, 338, 339, 340, 341, 350, 351, 352, 353, 354, 355, 356, 357, 358, 359, 1000, 1001, 1002, 1003, 1010, 1011, 1012, 1013, 1020, 1021, 1022, 1023, 1030, 1031, 1032, 1033, 1040, 1041, 1042, 1043, 1050, 1051, 1052, 1053, 1100, 1101, 1102, 1103, 1104, 1105, 1106, 1107, 1108, 1109, 1110, 1111, 2000, 2001, 2002, 2003, 2004, 2005, 2006, 2007, 2008, 2012, 2019, 2020, 2021, 2022, 2023, 2024, 2026, 2028, 2029, 2030, 2032, 2033, 2035, 2036, 2038, 2040, 2041, 2042, 2043, 2044]
def wcells (E : WE) (μ : Mem) : va_W := wids.map (fun k => (ead E k, shape E (gI μ k) (gL μ k) k))
def Wd (E : WE) (μ : Mem) (U : State) (H : Heap) : Prop := va_P (eD E) vwCl (wcells E μ) H ∧ va_K (eD E) vwCl (wtys E) U ∧ va_D (eA E) (wcells E μ)
theorem wcells_at (E : WE) (μ : Mem) {k : Nat} (hk : k ∈ wids) : ∃ i : Nat, wids[i]? = some k ∧ (wcells E μ)[i]? = some (ead E k, shape E (gI μ k) (gL μ k) k) := by
  obtain ⟨i, hi⟩ := List.getElem?_of_mem hk
  exact ⟨i, hi, by rw [wcells, List.getElem?_map, hi]; rfl⟩
theorem wids_nd : va_nd wids = true := by decide +kernel
theorem wcells_set (E : WE) (μ μ' : Mem) {k i : Nat} {e : va_E} (hi : wids[i]? = some k) (he : e = shape E (gI μ' k) (gL μ' k) k) (ho : ∀ a, a ≠ k → gI μ' a = gI μ a ∧ gL μ' a = gL μ a) : (wcells E μ).set i (ead E k, e) = wcells E μ' := by
  subst he
  apply List.ext_getElem?
  intro j
  by_cases hj : i = j
  · subst hj
    have hl : i < (wcells E μ).length := by rw [wcells, List.length_map]; exact (List.getElem?_eq_some_iff.mp hi).1
    rw [List.getElem?_set_self hl, wcells, List.getElem?_map, hi]
    rfl
  · rw [List.getElem?_set_ne hj, wcells, wcells, List.getElem?_map, List.getElem?_map]
    cases hq : wids[j]? with
    | none => simp only [Option.map_none]
    | some a =>
      have hne : a ≠ k := by
        intro q
        subst q
        exact hj (va_nd_inj wids wids_nd i j a hi hq)
      simp only [Option.map_some, (ho a hne).1, (ho a hne).2]
theorem Wd.moved {E : WE} {μ : Mem} {u U : State} {H : Heap} (hvm : u.vm.Alike U.vm) (h : Wd E μ u H) : Wd E μ U H := ⟨h.1, h.2.1.moved hvm, h.2.2⟩
theorem ld_in {i : Int32} {n : Nat} (h : ¬ (i < 0 ∨ n ≤ i.toNatClampNeg)) : vp_in i n := h
/-! partial operations -/
def aix (i : Int32) (n : Nat) : Option Nat := if i < 0 ∨ n ≤ i.toNatClampNeg then none else some i.toNatClampNeg
def ldF (f : Nat → Int32) (n : Nat) (i : Int32) : Option Int32 := if i < 0 ∨ n ≤ i.toNatClampNeg then none else some (f i.toNatClampNeg)
def ldI (μ : Mem) (k n : Nat) (i : Int32) : Option Int32 := if i < 0 ∨ n ≤ i.toNatClampNeg then none else some (gI μ k i.toNatClampNeg)
def ldL (μ : Mem) (k n : Nat) (i : Int32) : Option Int64 := if i < 0 ∨ n ≤ i.toNatClampNeg then none else some (gL μ k i.toNatClampNeg)
def stI (μ : Mem) (k n : Nat) (i v : Int32) : Option Mem := if i < 0 ∨ n ≤ i.toNatClampNeg then none else some (sI μ k i.toNatClampNeg v)
def stL (μ : Mem) (k n : Nat) (i : Int32) (v : Int64) : Option Mem := if i < 0 ∨ n ≤ i.toNatClampNeg then none else some (sL μ k i.toNatClampNeg v)
def dvI (x y : Int32) : Option Int32 := if y = 0 then none else some (x / y)
def rmI (x y : Int32) : Option Int32 := if y = 0 then none else some (x - x / y * y)
def dvL (x y : Int64) : Option Int64 := if y = 0 then none else some (x / y)
def rmL (x y : Int64) : Option Int64 := if y = 0 then none else some (x - x / y * y)
/-- System.arraycopy of ints, of longs -/
def cpI (μ : Mem) (k n : Nat) (i : Int32) (k' n' : Nat) (j w : Int32) : Option Mem := if i < 0 ∨ j < 0 ∨ w < 0 ∨ n < i.toNatClampNeg + w.toNatClampNeg ∨ n' < j.toNatClampNeg + w.toNatClampNeg then none else some (sR μ k' (va_cpy (gI μ k) (gI μ k') i.toNatClampNeg j.toNatClampNeg w.toNatClampNeg))
def cpL (μ : Mem) (k n : Nat) (i : Int32) (k' n' : Nat) (j w : Int32) : Option Mem := if i < 0 ∨ j < 0 ∨ w < 0 ∨ n < i.toNatClampNeg + w.toNatClampNeg ∨ n' < j.toNatClampNeg + w.toNatClampNeg then none else some (sRL μ k' (va_cpy (gL μ k) (gL μ k') i.toNatClampNeg j.toNatClampNeg w.toNatClampNeg))
theorem op_none {α β : Type} {x : Option α} {f : α → Option β} {r : β} (h : x.bind f = some r) : ∃ v, x = some v ∧ f v = some r := by
  cases x with
  | none => cases h
  | some v => exact ⟨v, rfl, h⟩
theorem op_t {c : Prop} [Decidable c] {α : Type} {a b : Option α} {r : α} (hc : c) (h : (if c then a else b) = some r) : a = some r := by rw [if_pos hc] at h; exact h
theorem op_f {c : Prop} [Decidable c] {α : Type} {a b : Option α} {r : α} (hc : ¬ c) (h : (if c then a else b) = some r) : b = some r := by rw [if_neg hc] at h; exact h
