/-! the text, as both read it: the class .. -/
def PX (k0 H : Nat) (tx : Nat → Nat) (μ0 ν : Mem) (p : Nat) (cs : List Nat) : Prop :=
  (gI ν 2 1 = nI H ∧ gI ν 2 2 = nI p ∧ ∀ i, i < H → gI ν 3 i = nI (tx i)) ∧
  (gI ν k0 5 = nI cs.length ∧ ∀ j, j < cs.length → gI ν (k0 + 3) j = tokX (cs.getD j 0)) ∧
  ((∀ k, k ≠ 2 → k ≠ k0 → k ≠ k0 + 3 → gI ν k = gI μ0 k) ∧ (∀ i, i ≠ 5 → gI ν k0 i = gI μ0 k0 i) ∧ ∀ k, gL ν k = gL μ0 k)
/-- .. and the reference -/
def PM (c0 H : Nat) (tx : Nat → Nat) (μ0 ξ : Mem) (p : Nat) (cs : List Nat) (o : Nat) : Prop :=
  (gI ξ 2000 11 = nI H ∧ gI ξ 2000 13 = nI p ∧ ∀ i, i < H → gI ξ 2012 i = nI (tx i)) ∧
  (gI ξ 2000 25 = nI (c0 + cs.length) ∧ ∀ j, j < cs.length → gI ξ 2024 (c0 + j) = nI (cs.getD j 0)) ∧ gI ξ 2000 16 = nI o ∧
  ((∀ k, k ≠ 2000 → k ≠ 2024 → gI ξ k = gI μ0 k) ∧ (∀ i, i < 13 ∨ i = 17 ∨ i = 18 ∨ 26 ≤ i → gI ξ 2000 i = gI μ0 2000 i) ∧ (∀ j, j < c0 → gI ξ 2024 j = gI μ0 2024 j) ∧ ∀ k, gL ξ k = gL μ0 k)
theorem PX_p {k0 H p p' : Nat} {tx : Nat → Nat} {μ0 ν : Mem} {cs : List Nat} (hk : 1000 ≤ k0) (h : PX k0 H tx μ0 ν p cs) : PX k0 H tx μ0 (sI ν 2 2 (nI p')) p' cs := by
  obtain ⟨⟨a1, a2, a3⟩, ⟨b1, b2⟩, c1, c2, c3⟩ := h
  refine ⟨⟨?_, gI_at _ _ _ _, fun i hi => ?_⟩, ⟨?_, fun j hj => ?_⟩, fun k q1 q2 q3 => ?_, fun i hi => ?_, c3⟩
  · rw [gI_ne2 (by omega)]; exact a1
  · rw [gI_ne1 (by omega)]; exact a3 i hi
  · rw [gI_ne1 (by omega)]; exact b1
  · rw [gI_ne1 (by omega)]; exact b2 j hj
  · rw [gI_sI_ne q1]; exact c1 k q1 q2 q3
  · rw [gI_ne1 (by omega)]; exact c2 i hi
theorem PX_k {k0 H p c : Nat} {tx : Nat → Nat} {μ0 ν : Mem} {cs : List Nat} {t : Int32} (hk : 1000 ≤ k0) (h : PX k0 H tx μ0 ν p cs) (hl : cs.length < 100) (ht : t = tokX c) : ∃ ν', f_X3_keep ν k0 t = some ν' ∧ PX k0 H tx μ0 ν' p (cs ++ [c]) := by
  obtain ⟨⟨a1, a2, a3⟩, ⟨b1, b2⟩, c1, c2, c3⟩ := h
  refine ⟨sI (sI ν (k0 + 3) cs.length t) k0 5 (nI (cs.length + 1)), ?_, ⟨?_, ?_, fun i hi => ?_⟩, ⟨?_, fun j hj => ?_⟩, fun k q1 q2 q3 => ?_, fun i hi => ?_, c3⟩
  · unfold f_X3_keep
    rw [b1, K100, if_neg (nI_ge hl (by omega)), stI_n hl (by omega)]
    simp only [bind_p]
    rw [gI_ne1 (by omega), b1, K1, nI_add]
  · rw [gI_ne1 (by omega), gI_ne1 (by omega)]; exact a1
  · rw [gI_ne1 (by omega), gI_ne1 (by omega)]; exact a2
  · rw [gI_ne1 (by omega), gI_ne1 (by omega)]; exact a3 i hi
  · rw [gI_at, len1]
  · rw [len1] at hj
    rw [gI_ne1 (by omega)]
    by_cases q : j = cs.length
    · subst q; rw [gI_at, getD_e, ht]
    · rw [gI_ne2 q, getD_l (by omega)]; exact b2 j (by omega)
  · rw [gI_sI_ne q2, gI_sI_ne q3]; exact c1 k q1 q2 q3
  · rw [gI_ne2 hi, gI_ne1 (by omega)]; exact c2 i hi
theorem PM_p {c0 H p p' o : Nat} {tx : Nat → Nat} {μ0 ξ : Mem} {cs : List Nat} (h : PM c0 H tx μ0 ξ p cs o) : PM c0 H tx μ0 (sI ξ 2000 13 (nI p')) p' cs o := by
  obtain ⟨⟨a1, a2, a3⟩, ⟨b1, b2⟩, b3, c1, c2, c3, c4⟩ := h
  refine ⟨⟨?_, gI_at _ _ _ _, fun i hi => ?_⟩, ⟨?_, fun j hj => ?_⟩, ?_, fun k q1 q2 => ?_, fun i hi => ?_, fun j hj => ?_, c4⟩
  · rw [gI_ne2 (by omega)]; exact a1
  · rw [gI_ne1 (by omega)]; exact a3 i hi
  · rw [gI_ne2 (by omega)]; exact b1
  · rw [gI_ne1 (by omega)]; exact b2 j hj
  · rw [gI_ne2 (by omega)]; exact b3
  · rw [gI_sI_ne q1]; exact c1 k q1 q2
  · rw [gI_ne2 (by omega)]; exact c2 i hi
  · rw [gI_ne1 (by omega)]; exact c3 j hj
/-- value and digits, and how many are open, may be anything -/
theorem PM_v {c0 H p o f : Nat} {tx : Nat → Nat} {μ0 ξ : Mem} {cs : List Nat} {v : Int32} (h : PM c0 H tx μ0 ξ p cs o) (hf : f = 14 ∨ f = 15) : PM c0 H tx μ0 (sI ξ 2000 f v) p cs o := by
  obtain ⟨⟨a1, a2, a3⟩, ⟨b1, b2⟩, b3, c1, c2, c3, c4⟩ := h
  refine ⟨⟨?_, ?_, fun i hi => ?_⟩, ⟨?_, fun j hj => ?_⟩, ?_, fun k q1 q2 => ?_, fun i hi => ?_, fun j hj => ?_, c4⟩
  · rw [gI_ne2 (by omega)]; exact a1
  · rw [gI_ne2 (by omega)]; exact a2
  · rw [gI_ne1 (by omega)]; exact a3 i hi
  · rw [gI_ne2 (by omega)]; exact b1
  · rw [gI_ne1 (by omega)]; exact b2 j hj
  · rw [gI_ne2 (by omega)]; exact b3
  · rw [gI_sI_ne q1]; exact c1 k q1 q2
  · rw [gI_ne2 (by omega)]; exact c2 i hi
  · rw [gI_ne1 (by omega)]; exact c3 j hj
theorem PM_o {c0 H p o o' : Nat} {tx : Nat → Nat} {μ0 ξ : Mem} {cs : List Nat} (h : PM c0 H tx μ0 ξ p cs o) : PM c0 H tx μ0 (sI ξ 2000 16 (nI o')) p cs o' := by
  obtain ⟨⟨a1, a2, a3⟩, ⟨b1, b2⟩, b3, c1, c2, c3, c4⟩ := h
  refine ⟨⟨?_, ?_, fun i hi => ?_⟩, ⟨?_, fun j hj => ?_⟩, gI_at _ _ _ _, fun k q1 q2 => ?_, fun i hi => ?_, fun j hj => ?_, c4⟩
  · rw [gI_ne2 (by omega)]; exact a1
  · rw [gI_ne2 (by omega)]; exact a2
  · rw [gI_ne1 (by omega)]; exact a3 i hi
  · rw [gI_ne2 (by omega)]; exact b1
  · rw [gI_ne1 (by omega)]; exact b2 j hj
  · rw [gI_sI_ne q1]; exact c1 k q1 q2
  · rw [gI_ne2 (by omega)]; exact c2 i hi
  · rw [gI_ne1 (by omega)]; exact c3 j hj
theorem PM_k {c0 H p o c : Nat} {tx : Nat → Nat} {μ0 ξ : Mem} {cs : List Nat} (h : PM c0 H tx μ0 ξ p cs o) (hl : c0 + cs.length < 800) : ∃ ξ', f_X7_codes ξ (nI c) = some (nI 1, ξ') ∧ PM c0 H tx μ0 ξ' p (cs ++ [c]) o := by
  obtain ⟨⟨a1, a2, a3⟩, ⟨b1, b2⟩, b3, c1, c2, c3, c4⟩ := h
  refine ⟨sI (sI ξ 2000 25 (nI (c0 + cs.length + 1))) 2024 (c0 + cs.length) (nI c), ?_, ⟨?_, ?_, fun i hi => ?_⟩, ⟨?_, fun j hj => ?_⟩, ?_, fun k q1 q2 => ?_, fun i hi => ?_, fun j hj => ?_, c4⟩
  · unfold f_X7_codes
    rw [b1]
    simp only [bind_p]
    rw [K1, nI_add, stI_n hl (by omega)]
    rfl
  · rw [gI_ne1 (by omega), gI_ne2 (by omega)]; exact a1
  · rw [gI_ne1 (by omega), gI_ne2 (by omega)]; exact a2
  · rw [gI_ne1 (by omega), gI_ne1 (by omega)]; exact a3 i hi
  · rw [gI_ne1 (by omega), gI_at, len1, Nat.add_assoc]
  · rw [len1] at hj
    by_cases q : j = cs.length
    · subst q; rw [gI_at, getD_e]
    · rw [gI_ne2 (by omega), gI_ne1 (by omega), getD_l (by omega)]; exact b2 j (by omega)
  · rw [gI_ne1 (by omega), gI_ne2 (by omega)]; exact b3
  · rw [gI_sI_ne q2, gI_sI_ne q1]; exact c1 k q1 q2
  · rw [gI_ne1 (by omega), gI_ne2 (by omega)]; exact c2 i hi
  · rw [gI_ne2 (by omega), gI_ne1 (by omega)]; exact c3 j hj
/-! signs -/
theorem next6 {k0 H p : Nat} {tx : Nat → Nat} {μ0 ν : Mem} {cs : List Nat} (h : PX k0 H tx μ0 ν p cs) (hH : H ≤ 100) (hp : p ≤ H) : f_X5_next ν = some (if p < H then nI (tx p) else -nI 1) := by
  obtain ⟨⟨a1, a2, a3⟩, _⟩ := h
  unfold f_X5_next
  rw [a2, if_neg (nI_pos (by omega)), a1]
  by_cases q : p < H
  · rw [if_neg (nI_ge q (by omega)), ldI_n (by omega) (by omega), a3 p q, if_pos q]; rfl
  · rw [if_pos (nI_le (by omega) (by omega)), if_neg q]; rfl
theorem tkY {k0 H p c : Nat} {tx : Nat → Nat} {μ0 ν : Mem} {cs : List Nat} (hk : 1000 ≤ k0) (h : PX k0 H tx μ0 ν p cs) (hH : H ≤ 100) (hp : p < H) (hc : tx p = c) : ∃ ν', f_X5_takeSign ν (nI c) = some (nI 1, ν') ∧ PX k0 H tx μ0 ν' (p + 1) cs := by
  refine ⟨sI ν 2 2 (nI (p + 1)), ?_, PX_p hk h⟩
  unfold f_X5_takeSign
  rw [next6 h hH (by omega), if_pos hp, hc]
  simp only [bind_p]
  rw [if_pos trivial, h.1.2.1, K1, nI_add]
theorem tkN {k0 H p c : Nat} {tx : Nat → Nat} {μ0 ν : Mem} {cs : List Nat} (h : PX k0 H tx μ0 ν p cs) (hH : H ≤ 100) (hp : p ≤ H) (htx : ∀ i, i < H → tx i ≤ 127) (hc' : c ≤ 127) (hc : ¬ (p < H ∧ tx p = c)) : f_X5_takeSign ν (nI c) = some (nI 0, ν) := by
  unfold f_X5_takeSign
  rw [next6 h hH hp]
  simp only [bind_p]
  by_cases q : p < H
  · have ht := htx p q
    rw [if_pos q, if_neg (by rw [nI_eq (by omega) (by omega)]; exact fun z => hc ⟨q, z⟩)]
    rfl
  · rw [if_neg q, if_neg (fun z => by
      rw [nI_iI, nI_iI, iI_neg, iI_eqI (by omega) (by omega) (by omega) (by omega)] at z; omega)]
    rfl
theorem isY {c0 H p o c : Nat} {tx : Nat → Nat} {μ0 ξ : Mem} {cs : List Nat} (h : PM c0 H tx μ0 ξ p cs o) (hH : H ≤ 100) (hp : p < H) (hc : tx p = c) : ∃ ξ', f_X7_is ξ (nI c) = some (nI 1, ξ') ∧ PM c0 H tx μ0 ξ' (p + 1) cs o := by
  refine ⟨sI ξ 2000 13 (nI (p + 1)), ?_, PM_p h⟩
  obtain ⟨⟨a1, a2, a3⟩, _⟩ := h
  unfold f_X7_is
  rw [a1, a2, if_neg (by rw [nI_eq (by omega) (by omega)]; omega), ldI_n (by omega) (by omega), a3 p hp, hc]
  simp only [bind_p]
  rw [if_pos trivial, K1, nI_add]
theorem isN {c0 H p o c : Nat} {tx : Nat → Nat} {μ0 ξ : Mem} {cs : List Nat} (h : PM c0 H tx μ0 ξ p cs o) (hH : H ≤ 100) (hp : p ≤ H) (htx : ∀ i, i < H → tx i ≤ 127) (hc' : c ≤ 127) (hc : ¬ (p < H ∧ tx p = c)) : f_X7_is ξ (nI c) = some (nI 0, ξ) := by
  obtain ⟨⟨a1, a2, a3⟩, _⟩ := h
  unfold f_X7_is
  rw [a1, a2]
  by_cases q : p < H
  · have ht := htx p q
    rw [if_neg (by rw [nI_eq (by omega) (by omega)]; omega), ldI_n (by omega) (by omega), a3 p q]
    simp only [bind_p]
    rw [if_neg (by rw [nI_eq (by omega) (by omega)]; exact fun z => hc ⟨q, z⟩)]
    rfl
  · rw [if_pos (by rw [show p = H by omega])]
    rfl
/-! one of some signs -/
def ix (k ch : Nat) : Option Nat :=
  if k = 3 then (if 48 ≤ ch ∧ ch ≤ 57 then some (ch - 48) else none)
  else if k = 4 then (if ch = 112 then some 0 else if ch = 107 then some 1 else if ch = 118 then some 2 else if ch = 109 then some 3 else if ch = 115 then some 4 else if ch = 98 then some 5 else none)
  else (if ch = 60 then some 0 else if ch = 61 then some 1 else if ch = 62 then some 2 else none)
def ixI (k ch : Nat) : Int32 := (match ix k ch with | none => -nI 1 | some j => nI j)
theorem ixo_l {μ μ' : Mem} {k : Nat} : ∀ n a b c, f_J1_indexOfChar_4cfef_7 μ k n a b c = f_J1_indexOfChar_4cfef_7 μ' k n a b c
  | 0, _, _, _ => rfl
  | n + 1, a, b, c => by
    rw [f_J1_indexOfChar_4cfef_7, f_J1_indexOfChar_4cfef_7]
    have : (fun v7 : Int32 => if v7 = b then some c else (some (c + (1 : Int32))).bind fun v9 => f_J1_indexOfChar_4cfef_7 μ k n a b v9) = (fun v7 : Int32 => if v7 = b then some c else (some (c + (1 : Int32))).bind fun v9 => f_J1_indexOfChar_4cfef_7 μ' k n a b v9) := by
      funext v7
      simp only [bind_p]
      rw [ixo_l n a b (c + 1)]
    rw [this]
theorem ixo_m {μ μ' : Mem} {k : Nat} {a : Int32} : f_J0_indexOf_0f7a4 μ k a = f_J0_indexOf_0f7a4 μ' k a := by
  unfold f_J0_indexOf_0f7a4 f_J0_indexOf_7cf53 f_J1_indexOf_4cfef f_J1_indexOfChar_4cfef
  have h : ∀ n a b c, f_J1_indexOfChar_4cfef_7 μ k n a b c = f_J1_indexOfChar_4cfef_7 μ' k n a b c := ixo_l
  simp only [h]
  rfl
theorem ix_3 : ∀ ch, ch < 128 → f_J0_indexOf_0f7a4 mem0 3 (nI ch) = some (ixI 3 ch) := by decide +kernel
theorem ix_4 : ∀ ch, ch < 128 → f_J0_indexOf_0f7a4 mem0 4 (nI ch) = some (ixI 4 ch) := by decide +kernel
theorem ix_5 : ∀ ch, ch < 128 → f_J0_indexOf_0f7a4 mem0 5 (nI ch) = some (ixI 5 ch) := by decide +kernel
theorem ix_t {μ : Mem} {k ch : Nat} (hk : k = 3 ∨ k = 4 ∨ k = 5) (h : ch ≤ 127) : f_J0_indexOf_0f7a4 μ k (nI ch) = some (ixI k ch) := by
  rw [ixo_m (μ' := mem0)]
  rcases hk with rfl | rfl | rfl
  · exact ix_3 ch (by omega)
  · exact ix_4 ch (by omega)
  · exact ix_5 ch (by omega)
theorem ix_b : (∀ ch, ch < 128 → ∀ j, j < 11 → ix 3 ch = some j → j ≤ 9 ∧ ch = 48 + j) ∧ True := ⟨by decide +kernel, trivial⟩
theorem ix_0 : ix 4 0 = none ∧ ix 5 0 = none := by decide
theorem ix_le {k ch j : Nat} (h : ix k ch = some j) : (k = 3 → j ≤ 9) ∧ (k = 4 → j ≤ 5) ∧ (k = 5 → j ≤ 2) := by
  unfold ix at h
  refine ⟨fun q => ?_, fun q => ?_, fun q => ?_⟩
  · subst q
    rw [if_pos rfl] at h
    by_cases q2 : 48 ≤ ch ∧ ch ≤ 57
    · rw [if_pos q2] at h; have := Option.some.inj h; omega
    · rw [if_neg q2] at h; cases h
  · subst q
    rw [if_neg (by decide), if_pos rfl] at h
    repeat' split at h
    all_goals first | (have := Option.some.inj h; omega) | cases h
  · subst q
    rw [if_neg (by decide), if_neg (by decide)] at h
    repeat' split at h
    all_goals first | (have := Option.some.inj h; omega) | cases h
theorem ch16 : ∀ ch, ch < 128 → ((nI ch).toUInt32 % 65536).toInt32 = nI ch := by decide +kernel
def ox (H : Nat) (tx : Nat → Nat) (k p : Nat) : Option Nat := if p < H then ix k (tx p) else none
theorem toN {k0 H p k : Nat} {tx : Nat → Nat} {μ0 ν : Mem} {cs : List Nat} (hk3 : k = 3 ∨ k = 4 ∨ k = 5) (h : PX k0 H tx μ0 ν p cs) (hH : H ≤ 100) (hp : p ≤ H) (htx : ∀ i, i < H → tx i ≤ 127) (ho : ox H tx k p = none) : f_X5_takeOneOf ν k = some (-nI 1, ν) := by
  obtain ⟨⟨a1, a2, a3⟩, _⟩ := h
  have fin : f_X5_takeOneOf_46 k ν (-nI 1) = some (-nI 1, ν) := by
    unfold f_X5_takeOneOf_46
    rw [if_pos (show -nI 1 < 0 by decide)]
  unfold f_X5_takeOneOf
  rw [a2, if_neg (nI_pos (by omega)), a1]
  by_cases q : p < H
  · unfold ox at ho
    rw [if_pos q] at ho
    have ht := htx p q
    have hi := ix_t (μ := ν) hk3 ht
    unfold ixI at hi
    rw [ho] at hi
    rw [if_neg (nI_ge q (by omega))]
    unfold f_X5_takeOneOf_23
    rw [if_neg (by decide), a2, ldI_n (by omega) (by omega), a3 p q]
    simp only [bind_p]
    rw [ch16 _ (by omega), hi]
    exact fin
  · rw [if_pos (nI_le (by omega) (by omega))]
    unfold f_X5_takeOneOf_22 f_X5_takeOneOf_23
    rw [if_pos (by decide)]
    exact fin
theorem toY {k0 H p k j : Nat} {tx : Nat → Nat} {μ0 ν : Mem} {cs : List Nat} (hk3 : k = 3 ∨ k = 4 ∨ k = 5) (hk : 1000 ≤ k0) (h : PX k0 H tx μ0 ν p cs) (hH : H ≤ 100) (htx : ∀ i, i < H → tx i ≤ 127) (ho : ox H tx k p = some j) : ∃ ν', f_X5_takeOneOf ν k = some (nI j, ν') ∧ PX k0 H tx μ0 ν' (p + 1) cs := by
  refine ⟨sI ν 2 2 (nI (p + 1)), ?_, PX_p hk h⟩
  obtain ⟨⟨a1, a2, a3⟩, _⟩ := h
  unfold ox at ho
  by_cases q : p < H
  · rw [if_pos q] at ho
    have ht := htx p q
    have hi := ix_t (μ := ν) hk3 ht
    have hj := ix_le ho
    unfold ixI at hi
    rw [ho] at hi
    unfold f_X5_takeOneOf
    rw [a2, if_neg (nI_pos (by omega)), a1, if_neg (nI_ge q (by omega))]
    unfold f_X5_takeOneOf_23
    rw [if_neg (by decide), a2, ldI_n (by omega) (by omega), a3 p q]
    simp only [bind_p]
    rw [ch16 _ (by omega), hi]
    simp only [bind_p]
    unfold f_X5_takeOneOf_46
    rw [if_neg (nI_pos (by omega)), a2, K1, nI_add]
    rfl
  · rw [if_neg q] at ho; cases ho
theorem ox_p {H p k j : Nat} {tx : Nat → Nat} (h : ox H tx k p = some j) : p < H := by
  unfold ox at h
  by_cases q : p < H
  · exact q
  · rw [if_neg q] at h; cases h
/-! a number -/
def nmF (H : Nat) (tx : Nat → Nat) (p : Nat) : Option (Nat × Nat) := match ox H tx 3 p with | none => none | some a => (match ox H tx 3 (p + 1) with | none => some (a, p + 1) | some b => some (a * 10 + b, p + 2))
theorem nmF_b {H : Nat} {tx : Nat → Nat} {p n p' : Nat} (h : nmF H tx p = some (n, p')) : n ≤ 99 ∧ p + 1 ≤ p' ∧ p' ≤ H := by
  unfold nmF at h
  cases h1 : ox H tx 3 p with
  | none => rw [h1] at h; cases h
  | some a =>
    rw [h1] at h
    have hp := ox_p h1
    unfold ox at h1
    rw [if_pos hp] at h1
    have ha := (ix_le h1).1 rfl
    cases h2 : ox H tx 3 (p + 1) with
    | none =>
      rw [h2] at h
      have h3 := Option.some.inj h
      have e1 : a = n := congrArg Prod.fst h3
      have e2 : p + 1 = p' := congrArg Prod.snd h3
      omega
    | some b =>
      rw [h2] at h
      have hp2 := ox_p h2
      unfold ox at h2
      rw [if_pos hp2] at h2
      have hb := (ix_le h2).1 rfl
      have h3 := Option.some.inj h
      have e1 : a * 10 + b = n := congrArg Prod.fst h3
      have e2 : p + 2 = p' := congrArg Prod.snd h3
      omega
theorem num6 {k0 H p : Nat} {tx : Nat → Nat} {μ0 ν : Mem} {cs : List Nat} (hk : 1000 ≤ k0) (h : PX k0 H tx μ0 ν p cs) (hH : H ≤ 100) (hp : p ≤ H) (htx : ∀ i, i < H → tx i ≤ 127) : (match nmF H tx p with | none => f_X5_takeNumber ν = some (-nI 1, ν) | some q => ∃ ν', f_X5_takeNumber ν = some (nI q.1, ν') ∧ PX k0 H tx μ0 ν' q.2 cs) := by
  unfold nmF f_X5_takeNumber
  cases h1 : ox H tx 3 p with
  | none =>
    show _ = _
    rw [toN (.inl rfl) h hH hp htx h1]
    simp only [bind_p]
    rw [if_neg (show ¬ (0 : Int32) ≤ -nI 1 by decide)]
    rfl
  | some a =>
    obtain ⟨ν1, e1, p1⟩ := toY (.inl rfl) hk h hH htx h1
    have hp1 := ox_p h1
    unfold ox at h1
    rw [if_pos hp1] at h1
    have ha := (ix_le h1).1 rfl
    cases h2 : ox H tx 3 (p + 1) with
    | none =>
      refine ⟨ν1, ?_, p1⟩
      rw [e1]
      simp only [bind_p]
      rw [if_pos (nI_pos' (by omega)), toN (.inl rfl) p1 hH (by omega) htx h2]
      simp only [bind_p]
      rw [if_neg (show ¬ (0 : Int32) ≤ -nI 1 by decide)]
    | some b =>
      obtain ⟨ν2, e2, p2⟩ := toY (.inl rfl) hk p1 hH htx h2
      have hp2 := ox_p h2
      unfold ox at h2
      rw [if_pos hp2] at h2
      have hb := (ix_le h2).1 rfl
      refine ⟨ν2, ?_, p2⟩
      rw [e1]
      simp only [bind_p]
      rw [if_pos (nI_pos' (by omega)), e2]
      simp only [bind_p]
      rw [if_pos (nI_pos' (by omega)), K10, nI_mul, nI_add]
theorem ix3 {ch : Nat} : (ix 3 ch = none ↔ ¬ (48 ≤ ch ∧ ch ≤ 57)) ∧ (∀ j, ix 3 ch = some j → 48 ≤ ch ∧ ch ≤ 57 ∧ j = ch - 48) := by
  unfold ix
  rw [if_pos rfl]
  by_cases q : 48 ≤ ch ∧ ch ≤ 57
  · rw [if_pos q]
    refine ⟨⟨fun z => by (cases z), fun z => absurd q z⟩, fun j hj => ?_⟩
    have := Option.some.inj hj
    omega
  · rw [if_neg q]
    exact ⟨⟨fun _ => q, fun _ => rfl⟩, fun j hj => by cases hj⟩
theorem dig7 {c0 H p o : Nat} {tx : Nat → Nat} {μ0 ξ : Mem} {cs : List Nat} (h : PM c0 H tx μ0 ξ p cs o) (hH : H ≤ 100) (hp : p ≤ H) (htx : ∀ i, i < H → tx i ≤ 127) : f_X7_isDigit ξ = some (match ox H tx 3 p with | none => nI 0 | some _ => nI 1) := by
  obtain ⟨⟨a1, a2, a3⟩, _⟩ := h
  unfold f_X7_isDigit ox
  rw [a1, a2]
  by_cases q : p < H
  · have ht := htx p q
    obtain ⟨i1, i2⟩ := ix3 (ch := tx p)
    rw [if_neg (nI_ge q (by omega)), ldI_n (by omega) (by omega), a3 p q, if_pos q]
    simp only [bind_p]
    cases hi : ix 3 (tx p) with
    | none =>
      have := i1.mp hi
      by_cases h48 : tx p < 48
      · rw [K48, if_pos (nI_lt h48 (by omega))]; rfl
      · rw [K48, if_neg (nI_nlt (by omega) (by omega)), K57, if_pos (nI_lt (by omega) (by omega))]; rfl
    | some j =>
      have := i2 j hi
      rw [K48, if_neg (nI_nlt (by omega) (by omega)), K57, if_neg (nI_nlt (by omega) (by omega))]; rfl
  · rw [if_pos (nI_le (by omega) (by omega)), if_neg q]; rfl
theorem num7 {c0 H p o : Nat} {tx : Nat → Nat} {μ0 ξ : Mem} {cs : List Nat} (h : PM c0 H tx μ0 ξ p cs o) (hH : H ≤ 100) (hp : p ≤ H) (htx : ∀ i, i < H → tx i ≤ 127) : (match nmF H tx p with | none => ∃ ξ', f_X7_isNumber ξ = some (nI 0, ξ') ∧ PM c0 H tx μ0 ξ' p cs o | some q => ∃ ξ', f_X7_isNumber ξ = some (nI 1, ξ') ∧ PM c0 H tx μ0 ξ' q.2 cs o ∧ gI ξ' 2000 14 = nI q.1) := by
  unfold nmF
  obtain ⟨N, hF⟩ := FU_8
  have h0 : PM c0 H tx μ0 (sI (sI ξ 2000 14 (nI 0)) 2000 15 (nI 0)) p cs o := PM_v (PM_v h (.inl rfl)) (.inr rfl)
  have d0 := dig7 h0 hH hp htx
  have st : f_X7_isNumber ξ = f_X7_isNumber_10 (N + 1 + 1 + 1 + 1 + 1 + 1 + 1 + 1) (sI (sI ξ 2000 14 (nI 0)) 2000 15 (nI 0)) := by
    unfold f_X7_isNumber
    rw [← hF]
    rfl
  rw [st]
  cases h1 : ox H tx 3 p with
  | none =>
    rw [h1] at d0
    refine ⟨sI (sI ξ 2000 14 (nI 0)) 2000 15 (nI 0), ?_, h0⟩
    rw [f_X7_isNumber_10, gI_at, if_neg (by decide), d0]
    simp only [bind_p]
    rw [if_pos (show nI 0 = (0 : Int32) from rfl)]
    unfold f_X7_isNumber_72
    rw [gI_at, if_pos (by decide)]
    rfl
  | some a =>
    rw [h1] at d0
    have hp1 := ox_p h1
    unfold ox at h1
    rw [if_pos hp1] at h1
    obtain ⟨i1, i2, i3⟩ := (ix3 (ch := tx p)).2 a h1
    have e1 : f_X7_isNumber_10 (N + 1 + 1 + 1 + 1 + 1 + 1 + 1 + 1) (sI (sI ξ 2000 14 (nI 0)) 2000 15 (nI 0)) = f_X7_isNumber_10 (N + 1 + 1 + 1 + 1 + 1 + 1 + 1) (sI (sI (sI (sI (sI ξ 2000 14 (nI 0)) 2000 15 (nI 0)) 2000 14 (nI a)) 2000 13 (nI (p + 1))) 2000 15 (nI 1)) := by
      rw [f_X7_isNumber_10, gI_at, if_neg (by decide), d0]
      simp only [bind_p]
      rw [if_neg (show ¬ nI 1 = (0 : Int32) by decide), h0.1.2.1, ldI_n (by omega) (by omega), h0.1.2.2 p hp1]
      simp only [bind_p]
      rw [gI_ne2 (by omega), gI_at, K10, nI_mul, nI_add, K48, nI_sub (by omega), gI_ne2 (by omega), h0.1.2.1, K1, nI_add, gI_ne2 (by omega), gI_ne2 (by omega), gI_at, nI_add, show 10 * 0 + tx p - 48 = a by omega]
    have p1 : PM c0 H tx μ0 (sI (sI (sI (sI (sI ξ 2000 14 (nI 0)) 2000 15 (nI 0)) 2000 14 (nI a)) 2000 13 (nI (p + 1))) 2000 15 (nI 1)) (p + 1) cs o := PM_v (PM_p (PM_v h0 (.inl rfl))) (.inr rfl)
    have d1 := dig7 p1 hH (by omega) htx
    rw [e1]
    cases h2 : ox H tx 3 (p + 1) with
    | none =>
      rw [h2] at d1
      refine ⟨_, ?_, p1, ?_⟩
      · rw [f_X7_isNumber_10, gI_at, if_neg (by decide), d1]
        simp only [bind_p]
        rw [if_pos (show nI 0 = (0 : Int32) from rfl)]
        unfold f_X7_isNumber_72
        rw [gI_at, if_neg (by decide)]
        rfl
      · rw [gI_ne2 (by omega), gI_ne2 (by omega), gI_at]
    | some b =>
      rw [h2] at d1
      have hp2 := ox_p h2
      unfold ox at h2
      rw [if_pos hp2] at h2
      obtain ⟨j1, j2, j3⟩ := (ix3 (ch := tx (p + 1))).2 b h2
      refine ⟨sI (sI (sI (sI (sI (sI (sI (sI ξ 2000 14 (nI 0)) 2000 15 (nI 0)) 2000 14 (nI a)) 2000 13 (nI (p + 1))) 2000 15 (nI 1)) 2000 14 (nI (a * 10 + b))) 2000 13 (nI (p + 2))) 2000 15 (nI 2), ?_, PM_v (PM_p (PM_v p1 (.inl rfl))) (.inr rfl), ?_⟩
      · rw [f_X7_isNumber_10, gI_at, if_neg (by decide), d1]
        simp only [bind_p]
        rw [if_neg (show ¬ nI 1 = (0 : Int32) by decide), p1.1.2.1, ldI_n (by omega) (by omega), p1.1.2.2 (p + 1) hp2]
        simp only [bind_p]
        rw [gI_ne2 (by omega), gI_ne2 (by omega), gI_at, K10, nI_mul, nI_add, K48, nI_sub (by omega), gI_ne2 (by omega), p1.1.2.1, K1, nI_add, gI_ne2 (by omega), gI_ne2 (by omega), gI_at, nI_add, show 10 * a + tx (p + 1) - 48 = a * 10 + b by omega]
        rw [f_X7_isNumber_10, gI_at, if_pos (by decide)]
        unfold f_X7_isNumber_72
        rw [gI_at, if_neg (by decide)]
        rfl
      · rw [gI_ne2 (by omega), gI_ne2 (by omega), gI_at]
