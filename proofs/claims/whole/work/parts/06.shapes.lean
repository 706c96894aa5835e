def isI (k n : Nat) : Prop := k ∈ wids ∧ ∀ (E : WE) (f : Nat → Int32) (g : Nat → Int64), shape E f g k = aI E n f
def isB (k n : Nat) : Prop := k ∈ wids ∧ ∀ (E : WE) (f : Nat → Int32) (g : Nat → Int64), shape E f g k = aB E n f
def isZ (k n : Nat) : Prop := k ∈ wids ∧ ∀ (E : WE) (f : Nat → Int32) (g : Nat → Int64), shape E f g k = aZ E n f
def isJ (k n : Nat) : Prop := k ∈ wids ∧ ∀ (E : WE) (f : Nat → Int32) (g : Nat → Int64), shape E f g k = aJ E n g
def isR (k j n : Nat) (h : Nat → Nat) : Prop := k ∈ wids ∧ ∀ (E : WE) (f : Nat → Int32) (g : Nat → Int64), shape E f g k = aR E j n h
def isSt (S : Nat) : Prop := S = 100 ∨ S = 200 ∨ S = 300
def isRw (k n : Nat) : Prop := ∃ S : Nat, isSt S ∧ ((k = S + 10 ∧ n = 6) ∨ (k = S + 30 ∧ n = 10) ∨ (k = S + 50 ∧ n = 8))
def isSo (k : Nat) : Prop := ∃ i : Nat, i < 6 ∧ k = 1000 + 10 * i
def isTp (k : Nat) : Prop := ∃ i : Nat, i < 6 ∧ k = 1100 + 2 * i
theorem isO.s {k ci : Nat} {fs : WE → (Nat → Int32) → List Value} (h : isO k ci fs) (E : WE) (f : Nat → Int32) (g : Nat → Int64) : shape E f g k = .inr (ci, fs E f) := h.2 E f g
theorem oX : isO 1 6 fsX := ⟨by decide +kernel, fun _ _ _ => rfl⟩
theorem oTx : isO 2 5 fsTx := ⟨by decide +kernel, fun _ _ _ => rfl⟩
theorem oAc : isO 5 0 fsAc := ⟨by decide +kernel, fun _ _ _ => rfl⟩
theorem oM : isO 2000 7 fsM := ⟨by decide +kernel, fun _ _ _ => rfl⟩
theorem b3 : isB 3 100 := ⟨by decide +kernel, fun _ _ _ => rfl⟩
theorem i6 : isI 6 20 := ⟨by decide +kernel, fun _ _ _ => rfl⟩
theorem r4 : isR 4 5 6 (fun i => 1000 + 10 * i) := ⟨by decide +kernel, fun _ _ _ => rfl⟩
theorem r7 : isR 7 6 6 (fun i => 1100 + 2 * i) := ⟨by decide +kernel, fun _ _ _ => rfl⟩
theorem st1 : isSt 100 := Or.inl rfl
theorem st2 : isSt 200 := Or.inr (Or.inl rfl)
theorem st3 : isSt 300 := Or.inr (Or.inr rfl)
theorem iM1 : isI 2001 6 := ⟨by decide +kernel, fun _ _ _ => rfl⟩
theorem iM2 : isI 2002 6 := ⟨by decide +kernel, fun _ _ _ => rfl⟩
theorem iM3 : isI 2003 6 := ⟨by decide +kernel, fun _ _ _ => rfl⟩
theorem iM4 : isI 2004 6 := ⟨by decide +kernel, fun _ _ _ => rfl⟩
theorem iM5 : isI 2005 6 := ⟨by decide +kernel, fun _ _ _ => rfl⟩
theorem iM6 : isI 2006 6 := ⟨by decide +kernel, fun _ _ _ => rfl⟩
theorem iM7 : isI 2007 6 := ⟨by decide +kernel, fun _ _ _ => rfl⟩
theorem iM8 : isI 2008 24 := ⟨by decide +kernel, fun _ _ _ => rfl⟩
theorem iM12 : isI 2012 100 := ⟨by decide +kernel, fun _ _ _ => rfl⟩
theorem iM19 : isI 2019 6 := ⟨by decide +kernel, fun _ _ _ => rfl⟩
theorem iM20 : isI 2020 61 := ⟨by decide +kernel, fun _ _ _ => rfl⟩
theorem iM21 : isI 2021 61 := ⟨by decide +kernel, fun _ _ _ => rfl⟩
theorem iM22 : isI 2022 61 := ⟨by decide +kernel, fun _ _ _ => rfl⟩
theorem iM23 : isI 2023 61 := ⟨by decide +kernel, fun _ _ _ => rfl⟩
theorem iM24 : isI 2024 800 := ⟨by decide +kernel, fun _ _ _ => rfl⟩
theorem iM28 : isI 2028 6 := ⟨by decide +kernel, fun _ _ _ => rfl⟩
theorem iM29 : isI 2029 6 := ⟨by decide +kernel, fun _ _ _ => rfl⟩
theorem iM30 : isI 2030 6 := ⟨by decide +kernel, fun _ _ _ => rfl⟩
theorem iM32 : isI 2032 10 := ⟨by decide +kernel, fun _ _ _ => rfl⟩
theorem iM33 : isI 2033 10 := ⟨by decide +kernel, fun _ _ _ => rfl⟩
theorem iM35 : isI 2035 8 := ⟨by decide +kernel, fun _ _ _ => rfl⟩
theorem iM36 : isI 2036 8 := ⟨by decide +kernel, fun _ _ _ => rfl⟩
theorem iM38 : isI 2038 20 := ⟨by decide +kernel, fun _ _ _ => rfl⟩
theorem iM40 : isI 2040 126 := ⟨by decide +kernel, fun _ _ _ => rfl⟩
theorem iM41 : isI 2041 126 := ⟨by decide +kernel, fun _ _ _ => rfl⟩
theorem iM42 : isI 2042 6 := ⟨by decide +kernel, fun _ _ _ => rfl⟩
theorem iM43 : isI 2043 6 := ⟨by decide +kernel, fun _ _ _ => rfl⟩
theorem zM26 : isZ 2026 110 := ⟨by decide +kernel, fun _ _ _ => rfl⟩
theorem jM44 : isJ 2044 360 := ⟨by decide +kernel, fun _ _ _ => rfl⟩
theorem oSt {S : Nat} (hS : isSt S) : isO S 2 (fsSt S) := by
  rcases hS with rfl | rfl | rfl <;> exact ⟨by decide +kernel, fun _ _ _ => rfl⟩
theorem rSt {S : Nat} (hS : isSt S) : isR (S + 1) 4 6 (fun i => S + 1 + 1 + i) := by
  rcases hS with rfl | rfl | rfl <;> exact ⟨by decide +kernel, fun _ _ _ => rfl⟩
theorem iEg {S j : Nat} (hS : isSt S) (hj : j < 6) : isI (S + 1 + 1 + j) 14 := by
  rcases hS with rfl | rfl | rfl <;> (rcases (show j = 0 ∨ j = 1 ∨ j = 2 ∨ j = 3 ∨ j = 4 ∨ j = 5 by omega) with rfl | rfl | rfl | rfl | rfl | rfl <;> exact ⟨by decide +kernel, fun _ _ _ => rfl⟩)
theorem rwH {S : Nat} (hS : isSt S) : isRw (S + 10) 6 := ⟨S, hS, Or.inl ⟨rfl, rfl⟩⟩
theorem rwP {S : Nat} (hS : isSt S) : isRw (S + 30) 10 := ⟨S, hS, Or.inr (Or.inl ⟨rfl, rfl⟩)⟩
theorem rwB {S : Nat} (hS : isSt S) : isRw (S + 50) 8 := ⟨S, hS, Or.inr (Or.inr ⟨rfl, rfl⟩)⟩
theorem oRw {k n : Nat} (h : isRw k n) : isO k 1 (fsRw k) := by
  obtain ⟨S, hS, h⟩ := h
  rcases h with ⟨rfl, rfl⟩ | ⟨rfl, rfl⟩ | ⟨rfl, rfl⟩ <;> rcases hS with rfl | rfl | rfl <;> exact ⟨by decide +kernel, fun _ _ _ => rfl⟩
theorem rRw {k n : Nat} (h : isRw k n) : isR (k + 1) 4 n (fun i => k + 1 + 1 + i) := by
  obtain ⟨S, hS, h⟩ := h
  rcases h with ⟨rfl, rfl⟩ | ⟨rfl, rfl⟩ | ⟨rfl, rfl⟩ <;> rcases hS with rfl | rfl | rfl <;> exact ⟨by decide +kernel, fun _ _ _ => rfl⟩
theorem iRw {k n j : Nat} (h : isRw k n) (hj : j < n) : isI (k + 1 + 1 + j) 3 := by
  obtain ⟨S, hS, h⟩ := h
  rcases h with ⟨rfl, rfl⟩ | ⟨rfl, rfl⟩ | ⟨rfl, rfl⟩
  · rcases hS with rfl | rfl | rfl <;> (rcases (show j = 0 ∨ j = 1 ∨ j = 2 ∨ j = 3 ∨ j = 4 ∨ j = 5 by omega) with rfl | rfl | rfl | rfl | rfl | rfl <;> exact ⟨by decide +kernel, fun _ _ _ => rfl⟩)
  · rcases hS with rfl | rfl | rfl <;> (rcases (show j = 0 ∨ j = 1 ∨ j = 2 ∨ j = 3 ∨ j = 4 ∨ j = 5 ∨ j = 6 ∨ j = 7 ∨ j = 8 ∨ j = 9 by omega) with rfl | rfl | rfl | rfl | rfl | rfl | rfl | rfl | rfl | rfl <;> exact ⟨by decide +kernel, fun _ _ _ => rfl⟩)
  · rcases hS with rfl | rfl | rfl <;> (rcases (show j = 0 ∨ j = 1 ∨ j = 2 ∨ j = 3 ∨ j = 4 ∨ j = 5 ∨ j = 6 ∨ j = 7 by omega) with rfl | rfl | rfl | rfl | rfl | rfl | rfl | rfl <;> exact ⟨by decide +kernel, fun _ _ _ => rfl⟩)
theorem soI {j : Nat} (hj : j < 6) : isSo (1000 + 10 * j) := ⟨j, hj, rfl⟩
theorem tpI {j : Nat} (hj : j < 6) : isTp (1100 + 2 * j) := ⟨j, hj, rfl⟩
theorem so_ne {k : Nat} (h : isSo k) : ¬ k = 0 := by
  obtain ⟨i, -, rfl⟩ := h
  omega
theorem oSo {k : Nat} (h : isSo k) : isO k 3 (fsSo k) := by
  obtain ⟨i, hi, rfl⟩ := h
  rcases (show i = 0 ∨ i = 1 ∨ i = 2 ∨ i = 3 ∨ i = 4 ∨ i = 5 by omega) with rfl | rfl | rfl | rfl | rfl | rfl <;> exact ⟨by decide +kernel, fun _ _ _ => rfl⟩
theorem iSo1 {k : Nat} (h : isSo k) : isI (k + 1) 10 := by
  obtain ⟨i, hi, rfl⟩ := h
  rcases (show i = 0 ∨ i = 1 ∨ i = 2 ∨ i = 3 ∨ i = 4 ∨ i = 5 by omega) with rfl | rfl | rfl | rfl | rfl | rfl <;> exact ⟨by decide +kernel, fun _ _ _ => rfl⟩
theorem iSo2 {k : Nat} (h : isSo k) : isI (k + 2) 10 := by
  obtain ⟨i, hi, rfl⟩ := h
  rcases (show i = 0 ∨ i = 1 ∨ i = 2 ∨ i = 3 ∨ i = 4 ∨ i = 5 by omega) with rfl | rfl | rfl | rfl | rfl | rfl <;> exact ⟨by decide +kernel, fun _ _ _ => rfl⟩
theorem iSo3 {k : Nat} (h : isSo k) : isI (k + 3) 100 := by
  obtain ⟨i, hi, rfl⟩ := h
  rcases (show i = 0 ∨ i = 1 ∨ i = 2 ∨ i = 3 ∨ i = 4 ∨ i = 5 by omega) with rfl | rfl | rfl | rfl | rfl | rfl <;> exact ⟨by decide +kernel, fun _ _ _ => rfl⟩
theorem oTp {k : Nat} (h : isTp k) : isO k 4 (fsTp k) := by
  obtain ⟨i, hi, rfl⟩ := h
  rcases (show i = 0 ∨ i = 1 ∨ i = 2 ∨ i = 3 ∨ i = 4 ∨ i = 5 by omega) with rfl | rfl | rfl | rfl | rfl | rfl <;> exact ⟨by decide +kernel, fun _ _ _ => rfl⟩
theorem jTp {k : Nat} (h : isTp k) : isJ (k + 1) 60 := by
  obtain ⟨i, hi, rfl⟩ := h
  rcases (show i = 0 ∨ i = 1 ∨ i = 2 ∨ i = 3 ∨ i = 4 ∨ i = 5 by omega) with rfl | rfl | rfl | rfl | rfl | rfl <;> exact ⟨by decide +kernel, fun _ _ _ => rfl⟩
