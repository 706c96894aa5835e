/-! the grammar: what both answer at a place of the text, where they stand then, and the codes that come -/
def AgX (H : Nat) (tx : Nat → Nat) (p p' : Nat) (cs ns : List Nat) (b : Bool) (gx : Mem → Nat → Option (Int32 × Mem)) : Prop := ∀ k0 μ0 ν, 1000 ≤ k0 → PX k0 H tx μ0 ν p cs → ∃ ν', gx ν k0 = some (bI b, ν') ∧ PX k0 H tx μ0 ν' p' (cs ++ ns)
def AgM (H : Nat) (tx : Nat → Nat) (p p' : Nat) (cs ns : List Nat) (b : Bool) (o : Nat) (gm : Mem → Option (Int32 × Mem)) : Prop := ∀ c0 μ0 ξ, c0 ≤ 600 → PM c0 H tx μ0 ξ p cs o → ∃ ξ', gm ξ = some (bI b, ξ') ∧ PM c0 H tx μ0 ξ' p' (cs ++ ns) o
def OkP (H p p' : Nat) (ns : List Nat) : Prop := p ≤ p' ∧ p' ≤ H ∧ ns.length ≤ p' - p
def oxI (H : Nat) (tx : Nat → Nat) (k p : Nat) : Int32 := match ox H tx k p with | none => -nI 1 | some j => nI j
theorem ltr7 {c0 H p o : Nat} {tx : Nat → Nat} {μ0 ξ : Mem} {cs : List Nat} (h : PM c0 H tx μ0 ξ p cs o) (hH : H ≤ 100) (hp : p ≤ H) (htx : ∀ i, i < H → tx i ≤ 127) : f_X7_isTest ξ = f_X7_isTest_41 ξ (oxI H tx 4 p) := by
  obtain ⟨⟨a1, a2, a3⟩, _⟩ := h
  unfold f_X7_isTest oxI ox
  rw [a1, a2]
  by_cases q : p < H
  · have ht := htx p q
    rw [if_neg (nI_ge q (by omega)), ldI_n (by omega) (by omega), a3 p q, if_pos q]
    simp only [bind_p]
    by_cases z : tx p = 0
    · rw [z, if_pos (by decide), ix_0.1]; rfl
    · rw [K0, if_neg (nI_ge (by omega) (by omega)), ix_t (.inr (.inl rfl)) ht]; rfl
  · rw [if_pos (nI_le (by omega) (by omega)), if_neg q]; rfl
theorem rel7' {c0 H p o L : Nat} {tx : Nat → Nat} {μ0 ξ : Mem} {cs : List Nat} (h : PM c0 H tx μ0 ξ p cs o) (hH : H ≤ 100) (hp : p < H) (htx : ∀ i, i < H → tx i ≤ 127) (hL : L ≤ 5) : f_X7_isTest_41 ξ (nI L) = f_X7_isTest_99 (sI ξ 2000 13 (nI (p + 1))) (nI L) (oxI H tx 5 (p + 1)) := by
  have h1 := PM_p (p' := p + 1) h
  obtain ⟨⟨a1, a2, a3⟩, _⟩ := h1
  unfold f_X7_isTest_41 oxI ox
  rw [if_pos (nI_pos' (by omega)), h.1.2.1, K1, nI_add]
  simp only [bind_p]
  rw [a1, a2]
  by_cases q : p + 1 < H
  · have ht := htx (p + 1) q
    rw [if_neg (nI_ge q (by omega)), ldI_n (by omega) (by omega), a3 (p + 1) q, if_pos q]
    simp only [bind_p]
    by_cases z : tx (p + 1) = 0
    · rw [z, if_pos (by decide), ix_0.2]; rfl
    · rw [K0, if_neg (nI_ge (by omega) (by omega)), ix_t (.inr (.inr rfl)) ht]; rfl
  · rw [if_pos (nI_le (by omega) (by omega)), if_neg q]; rfl
theorem ge_m1 : ¬ (0 : Int32) ≤ -nI 1 := by decide
theorem test_ok {H p o : Nat} {tx : Nat → Nat} {cs : List Nat} (hH : H ≤ 100) (htx : ∀ i, i < H → tx i ≤ 127) (hp : p ≤ H) (hcs : cs.length ≤ p) : ∃ b p' ns, OkP H p p' ns ∧ (b = true → p + 3 ≤ p' ∧ ∀ d, d ≤ 10 → ∀ rest, dep (ns ++ rest) d = dep rest (d + 1)) ∧ AgX H tx p p' cs ns b f_X3_readTest ∧ AgM H tx p p' cs ns b o f_X7_isTest := by
  cases hL : ox H tx 4 p with
  | none =>
    refine ⟨false, p, [], ⟨Nat.le_refl _, hp, by simp⟩, fun z => (by cases z), fun k0 μ0 ν hk h => ⟨ν, ?_, by rw [List.append_nil]; exact h⟩, fun c0 μ0 ξ hc h => ⟨ξ, ?_, by rw [List.append_nil]; exact h⟩⟩
    · unfold f_X3_readTest
      rw [toN (.inr (.inl rfl)) h hH hp htx hL]
      simp only [bind_p]
      rw [if_neg ge_m1]; rfl
    · have e : oxI H tx 4 p = -nI 1 := by unfold oxI; rw [hL]
      rw [ltr7 h hH hp htx, e]
      unfold f_X7_isTest_41
      rw [if_neg ge_m1]; rfl
  | some L =>
    have hp1 := ox_p hL
    have hL5 : L ≤ 5 := by
      have q := hL
      unfold ox at q
      rw [if_pos hp1] at q
      exact (ix_le q).2.1 rfl
    have e4 : oxI H tx 4 p = nI L := by unfold oxI; rw [hL]
    cases hs : ox H tx 5 (p + 1) with
    | none =>
      refine ⟨false, p + 1, [], ⟨by omega, hp1, by simp⟩, fun z => (by cases z), fun k0 μ0 ν hk h => ?_, fun c0 μ0 ξ hc h => ⟨sI ξ 2000 13 (nI (p + 1)), ?_, by rw [List.append_nil]; exact PM_p h⟩⟩
      · obtain ⟨ν1, e1, p1⟩ := toY (.inr (.inl rfl)) hk h hH htx hL
        refine ⟨ν1, ?_, by rw [List.append_nil]; exact p1⟩
        unfold f_X3_readTest
        rw [e1]
        simp only [bind_p]
        rw [if_pos (nI_pos' (by omega)), toN (.inr (.inr rfl)) p1 hH hp1 htx hs]
        simp only [bind_p]
        rw [if_neg ge_m1]; rfl
      · have e5 : oxI H tx 5 (p + 1) = -nI 1 := by unfold oxI; rw [hs]
        rw [ltr7 h hH hp htx, e4, rel7' h hH hp1 htx hL5, e5]
        unfold f_X7_isTest_99
        rw [if_neg ge_m1]; rfl
    | some s =>
      have hp2 := ox_p hs
      have hs2 : s ≤ 2 := by
        have q := hs
        unfold ox at q
        rw [if_pos hp2] at q
        exact (ix_le q).2.2 rfl
      have e5 : oxI H tx 5 (p + 1) = nI s := by unfold oxI; rw [hs]
      have m2 : ∀ c0 μ0 ξ, PM c0 H tx μ0 ξ p cs o → f_X7_isTest ξ = (f_X7_isNumber (sI (sI ξ 2000 13 (nI (p + 1))) 2000 13 (nI (p + 2)))).bind fun p32 => if p32.1 = (0 : Int32) then some ((0 : Int32), p32.2) else (f_X7_codes p32.2 ((((3 : Int32) + ((300 : Int32) * nI L)) + ((100 : Int32) * nI s)) + (gI p32.2 2000 14))).bind fun p37 => if p37.1 = (0 : Int32) then some ((0 : Int32), p37.2) else some ((1 : Int32), p37.2) := fun c0 μ0 ξ h => by
        rw [ltr7 h hH hp htx, e4, rel7' h hH hp1 htx hL5, e5]
        unfold f_X7_isTest_99
        rw [if_pos (nI_pos' (by omega)), gI_at, K1, nI_add]
        rfl
      cases hn : nmF H tx (p + 2) with
      | none =>
        refine ⟨false, p + 2, [], ⟨by omega, hp2, by simp⟩, fun z => (by cases z), fun k0 μ0 ν hk h => ?_, fun c0 μ0 ξ hc h => ?_⟩
        · obtain ⟨ν1, e1, p1⟩ := toY (.inr (.inl rfl)) hk h hH htx hL
          obtain ⟨ν2, e2, p2⟩ := toY (.inr (.inr rfl)) hk p1 hH htx hs
          have hnm := num6 hk p2 hH hp2 htx
          rw [hn] at hnm
          refine ⟨ν2, ?_, by rw [List.append_nil]; exact p2⟩
          unfold f_X3_readTest
          rw [e1]
          simp only [bind_p]
          rw [if_pos (nI_pos' (by omega)), e2]
          simp only [bind_p]
          rw [if_pos (nI_pos' (by omega)), hnm]
          simp only [bind_p]
          rw [if_neg ge_m1]; rfl
        · have hnm := num7 (PM_p (p' := p + 2) (PM_p (p' := p + 1) h)) hH hp2 htx
          rw [hn] at hnm
          obtain ⟨ξ', f1, f2⟩ := hnm
          refine ⟨ξ', ?_, by rw [List.append_nil]; exact f2⟩
          rw [m2 c0 μ0 ξ h, f1]
          simp only [bind_p]
          rw [if_pos (show nI 0 = (0 : Int32) from rfl)]; rfl
      | some q =>
        obtain ⟨nb1, nb2, nb3⟩ := nmF_b (n := q.1) (p' := q.2) (show nmF H tx (p + 2) = some (q.1, q.2) from hn)
        refine ⟨true, q.2, [3 + 300 * L + 100 * s + q.1], ⟨by omega, nb3, by simp; omega⟩, fun _ => ⟨by omega, fun d hd rest => ?_⟩, fun k0 μ0 ν hk h => ?_, fun c0 μ0 ξ hc h => ?_⟩
        · show dep ((3 + 300 * L + 100 * s + q.1) :: rest) d = _
          rw [dep, if_neg (by omega), if_neg (by omega), if_pos (by omega), if_pos (by omega)]
        · obtain ⟨ν1, e1, p1⟩ := toY (.inr (.inl rfl)) hk h hH htx hL
          obtain ⟨ν2, e2, p2⟩ := toY (.inr (.inr rfl)) hk p1 hH htx hs
          have hnm := num6 hk p2 hH hp2 htx
          rw [hn] at hnm
          obtain ⟨ν3, e3, p3⟩ := hnm
          have htk : nI (L * 1000 + s * 100 + q.1) = tokX (3 + 300 * L + 100 * s + q.1) := by
            rw [tok_3 (by omega)]
            exact congrArg nI (by omega)
          obtain ⟨ν4, e4', p4⟩ := PX_k (c := 3 + 300 * L + 100 * s + q.1) hk p3 (by omega) htk
          refine ⟨ν4, ?_, p4⟩
          unfold f_X3_readTest
          rw [e1]
          simp only [bind_p]
          rw [if_pos (nI_pos' (by omega)), e2]
          simp only [bind_p]
          rw [if_pos (nI_pos' (by omega)), e3]
          simp only [bind_p]
          rw [if_pos (nI_pos' (by omega)), K1000, K100, nI_mul, nI_mul, nI_add, nI_add, e4']
          rfl
        · have hnm := num7 (PM_p (p' := p + 2) (PM_p (p' := p + 1) h)) hH hp2 htx
          rw [hn] at hnm
          obtain ⟨ξ', f1, f2, f3⟩ := hnm
          obtain ⟨ξ2, g1, g2⟩ := PM_k (c := 3 + 300 * L + 100 * s + q.1) f2 (by omega)
          refine ⟨ξ2, ?_, g2⟩
          rw [m2 c0 μ0 ξ h, f1]
          simp only [bind_p]
          rw [if_neg (show ¬ nI 1 = (0 : Int32) by decide), f3, K3, K300, K100, nI_mul, nI_mul, nI_add, nI_add, nI_add, g1]
          simp only [bind_p]
          rw [if_neg (show ¬ nI 1 = (0 : Int32) by decide)]; rfl
def FS (H : Nat) (tx : Nat → Nat) (o dm : Nat) (gx : Mem → Nat → Int32 → Option (Int32 × Mem)) (gm : Mem → Option (Int32 × Mem)) : Prop :=
  ∀ p cs, p ≤ H → cs.length ≤ p → ∃ b p' ns, OkP H p p' ns ∧ (b = true → p + 3 ≤ p' ∧ ∀ d, d ≤ dm → ∀ rest, dep (ns ++ rest) d = dep rest (d + 1)) ∧ AgX H tx p p' cs ns b (fun ν k0 => gx ν k0 (nI o)) ∧ AgM H tx p p' cs ns b o gm
abbrev GX : Type := (Mem → Nat → Int32 → Option (Int32 × Mem)) × (Mem → Nat → Int32 → Option (Int32 × Mem))
abbrev GM : Type := (Mem → Option (Int32 × Mem)) × (Mem → Option (Int32 × Mem)) × (Mem → Option (Int32 × Mem))
theorem opN {c0 H p o c : Nat} {tx : Nat → Nat} {μ0 ξ : Mem} {cs : List Nat} (h : PM c0 H tx μ0 ξ p cs o) (hH : H ≤ 100) (hp : p ≤ H) (htx : ∀ i, i < H → tx i ≤ 127) (hc' : c ≤ 127) (ho : o ≤ 4) (hc : o = 4 ∨ ¬ (p < H ∧ tx p = c)) : f_X7_isOpened ξ (nI c) = some (nI 0, ξ) := by
  unfold f_X7_isOpened
  rw [h.2.2.1]
  by_cases h4 : o = 4
  · rw [h4, if_pos (show nI 4 = 4 from rfl)]; rfl
  · rw [if_neg (by rw [K4, nI_eq (by omega) (by omega)]; exact h4), isN h hH hp htx hc' (hc.resolve_left h4)]
    simp only [bind_p]
    rw [if_pos (show nI 0 = (0 : Int32) from rfl)]; rfl
theorem opY {c0 H p o c : Nat} {tx : Nat → Nat} {μ0 ξ : Mem} {cs : List Nat} (h : PM c0 H tx μ0 ξ p cs o) (hH : H ≤ 100) (hp : p < H) (ho : o < 4) (hc : tx p = c) : ∃ ξ', f_X7_isOpened ξ (nI c) = some (nI 1, ξ') ∧ PM c0 H tx μ0 ξ' (p + 1) cs (o + 1) := by
  obtain ⟨ξ1, e1, e2⟩ := isY h hH hp hc
  refine ⟨sI ξ1 2000 16 (nI (o + 1)), ?_, PM_o e2⟩
  unfold f_X7_isOpened
  rw [h.2.2.1, if_neg (by rw [K4, nI_eq (by omega) (by omega)]; omega), e1]
  simp only [bind_p]
  rw [if_neg (show ¬ nI 1 = (0 : Int32) by decide), e2.2.2.1, K1, nI_add]
theorem cl7 {c0 H p o : Nat} {tx : Nat → Nat} {μ0 ξ : Mem} {cs : List Nat} {G : GM} {r : Int32} (h : PM c0 H tx μ0 ξ p cs (o + 1)) (ho : o < 4) : ∃ ξ', f_X7_isF_72 G ξ r = some (r, ξ') ∧ PM c0 H tx μ0 ξ' p cs o := by
  refine ⟨sI ξ 2000 16 (nI o), ?_, PM_o h⟩
  unfold f_X7_isF_72
  rw [h.2.2.1, K1, nI_sub (by omega), Nat.add_sub_cancel]
  rfl
theorem ag_nil (cs : List Nat) : cs ++ [] = cs := List.append_nil cs
theorem F_ok {H o : Nat} {tx : Nat → Nat} {gx : GX} {gm : GM} (hH : H ≤ 100) (htx : ∀ i, i < H → tx i ≤ 127) (ho : o ≤ 4) (HE : o < 4 → FS H tx (o + 1) (2 * (o + 1)) gx.1 gm.1) (HF : o < 4 → FS H tx (o + 1) (2 * (o + 1) + 2) gx.2 gm.2.2) : FS H tx o (2 * o + 2) (b_X3_readOne gx) (b_X7_isF gm) := by
  intro p cs hp hcs
  by_cases hop : p < H ∧ (tx p = 33 ∨ tx p = 40)
  · obtain ⟨hp1, hc⟩ := hop
    have hnx : ∀ k0 μ0 ν, PX k0 H tx μ0 ν p cs → b_X3_readOne gx ν k0 (nI o) = f_X3_readOne_23 gx k0 ν (nI o) (nI (tx p)) := fun k0 μ0 ν h => by
      unfold b_X3_readOne
      rw [next6 h hH hp, if_pos hp1]
      simp only [bind_p]
      rcases hc with h1 | h1
      · rw [h1, if_pos (show nI 33 = (33 : Int32) from rfl)]
      · rw [h1, if_neg (show ¬ nI 40 = (33 : Int32) by decide), if_pos (show nI 40 = (40 : Int32) from rfl)]
    by_cases h4 : o = 4
    · have hox : ox H tx 4 p = none := by
        unfold ox
        rw [if_pos hp1]
        rcases hc with h1 | h1
        · rw [h1]; rfl
        · rw [h1]; rfl
      refine ⟨false, p, [], ⟨Nat.le_refl _, hp, by simp⟩, fun z => (by cases z), fun k0 μ0 ν hk h => ⟨ν, ?_, by rw [ag_nil]; exact h⟩, fun c0 μ0 ξ hc0 h => ⟨ξ, ?_, by rw [ag_nil]; exact h⟩⟩
      · show b_X3_readOne gx ν k0 (nI o) = _
        rw [hnx k0 μ0 ν h]
        unfold f_X3_readOne_23
        rw [K4, if_pos (nI_le (by omega) (by omega))]; rfl
      · unfold b_X7_isF
        rw [K33, opN h hH hp htx (by omega) ho (.inl h4)]
        simp only [bind_p]
        rw [if_pos (show nI 0 = (0 : Int32) from rfl), K40, opN h hH hp htx (by omega) ho (.inl h4)]
        simp only [bind_p]
        have e : oxI H tx 4 p = -nI 1 := by unfold oxI; rw [hox]
        rw [if_pos (show nI 0 = (0 : Int32) from rfl), ltr7 h hH hp htx, e]
        unfold f_X7_isTest_41
        rw [if_neg ge_m1]; rfl
    · have ho4 : o < 4 := by omega
      rcases hc with h1 | h1
      · obtain ⟨b, p', ns, ⟨k1, k2, k3⟩, kd, ax, am⟩ := HF ho4 (p + 1) cs hp1 (by omega)
        have x23 : ∀ k0 μ0 ν, 1000 ≤ k0 → PX k0 H tx μ0 ν p cs → ∃ ν', b_X3_readOne gx ν k0 (nI o) = (if bI b = (0 : Int32) then some ((0 : Int32), ν') else (f_X3_keep ν' k0 (-1 : Int32)).bind fun μ45 => some ((1 : Int32), μ45)) ∧ PX k0 H tx μ0 ν' p' (cs ++ ns) := fun k0 μ0 ν hk h => by
          obtain ⟨ν1, e1, p1⟩ := tkY hk h hH hp1 h1
          obtain ⟨ν2, e2, p2⟩ := ax k0 μ0 ν1 hk p1
          refine ⟨ν2, ?_, p2⟩
          have e2' : gx.2 ν1 k0 (nI (o + 1)) = some (bI b, ν2) := e2
          rw [hnx k0 μ0 ν h, h1]
          unfold f_X3_readOne_23
          rw [K4, if_neg (nI_ge ho4 (by omega)), e1]
          simp only [bind_p]
          rw [if_neg (show ¬ nI 1 = (0 : Int32) by decide), if_neg (show ¬ nI 33 = (40 : Int32) by decide), show nI o + (1 : Int32) = nI (o + 1) from nI_add o 1, e2']
          rfl
        have m23 : ∀ c0 μ0 ξ, c0 ≤ 600 → PM c0 H tx μ0 ξ p cs o → ∃ ξ', b_X7_isF gm ξ = (if bI b = (0 : Int32) then f_X7_isF_28 gm ξ' else (f_X7_codes ξ' (0 : Int32)).bind fun p69 => if p69.1 = (0 : Int32) then f_X7_isF_28 gm p69.2 else f_X7_isF_29 gm p69.2 (1 : Int32)) ∧ PM c0 H tx μ0 ξ' p' (cs ++ ns) (o + 1) := fun c0 μ0 ξ hc0 h => by
          obtain ⟨ξ1, e1, p1⟩ := opY h hH hp1 ho4 h1
          obtain ⟨ξ2, e2, p2⟩ := am c0 μ0 ξ1 hc0 p1
          refine ⟨ξ2, ?_, p2⟩
          unfold b_X7_isF
          rw [K33, e1]
          simp only [bind_p]
          rw [if_neg (show ¬ nI 1 = (0 : Int32) by decide), e2]
          rfl
        cases hb : b
        · refine ⟨false, p', ns, ⟨by omega, k2, by omega⟩, fun z => (by cases z), fun k0 μ0 ν hk h => ?_, fun c0 μ0 ξ hc0 h => ?_⟩
          · obtain ⟨ν', e1, e2⟩ := x23 k0 μ0 ν hk h
            refine ⟨ν', ?_, e2⟩
            show b_X3_readOne gx ν k0 (nI o) = _
            rw [e1, hb, if_pos (show bI false = (0 : Int32) from rfl)]; rfl
          · obtain ⟨ξ', e1, e2⟩ := m23 c0 μ0 ξ hc0 h
            obtain ⟨ξ2, f1, f2⟩ := cl7 (G := gm) (r := 0) e2 ho4
            refine ⟨ξ2, ?_, f2⟩
            rw [e1, hb, if_pos (show bI false = (0 : Int32) from rfl)]
            exact f1
        · obtain ⟨kp, kdd⟩ := kd hb
          refine ⟨true, p', ns ++ [0], ⟨by omega, k2, by rw [len1]; omega⟩, fun _ => ⟨by omega, fun d hd rest => ?_⟩, fun k0 μ0 ν hk h => ?_, fun c0 μ0 ξ hc0 h => ?_⟩
          · rw [List.append_assoc, kdd d (by omega)]
            show dep (0 :: rest) (d + 1) = _
            rw [dep, if_pos rfl, if_pos (by omega)]
          · obtain ⟨ν', e1, e2⟩ := x23 k0 μ0 ν hk h
            obtain ⟨ν2, f1, f2⟩ := PX_k (c := 0) (t := -1) hk e2 (by rw [List.length_append]; omega) rfl
            refine ⟨ν2, ?_, by rw [← List.append_assoc]; exact f2⟩
            show b_X3_readOne gx ν k0 (nI o) = _
            rw [e1, hb, if_neg (show ¬ bI true = (0 : Int32) by decide), f1]; rfl
          · obtain ⟨ξ', e1, e2⟩ := m23 c0 μ0 ξ hc0 h
            obtain ⟨ξ2, f1, f2⟩ := PM_k (c := 0) e2 (by rw [List.length_append]; omega)
            obtain ⟨ξ3, g1, g2⟩ := cl7 (G := gm) (r := 1) f2 ho4
            refine ⟨ξ3, ?_, by rw [← List.append_assoc]; exact g2⟩
            rw [e1, hb, if_neg (show ¬ bI true = (0 : Int32) by decide), K0, f1]
            simp only [bind_p]
            rw [if_neg (show ¬ nI 1 = nI 0 by decide)]
            exact g1
      · obtain ⟨b, p', ns, ⟨k1, k2, k3⟩, kd, ax, am⟩ := HE ho4 (p + 1) cs hp1 (by omega)
        have x23 : ∀ k0 μ0 ν, 1000 ≤ k0 → PX k0 H tx μ0 ν p cs → ∃ ν', b_X3_readOne gx ν k0 (nI o) = (if bI b = (0 : Int32) then some ((0 : Int32), ν') else (f_X5_takeSign ν' (41 : Int32)).bind fun p55 => if p55.1 = (0 : Int32) then some ((0 : Int32), p55.2) else some ((1 : Int32), p55.2)) ∧ PX k0 H tx μ0 ν' p' (cs ++ ns) := fun k0 μ0 ν hk h => by
          obtain ⟨ν1, e1, p1⟩ := tkY hk h hH hp1 h1
          obtain ⟨ν2, e2, p2⟩ := ax k0 μ0 ν1 hk p1
          refine ⟨ν2, ?_, p2⟩
          have e2' : gx.1 ν1 k0 (nI (o + 1)) = some (bI b, ν2) := e2
          rw [hnx k0 μ0 ν h, h1]
          unfold f_X3_readOne_23
          rw [K4, if_neg (nI_ge ho4 (by omega)), e1]
          simp only [bind_p]
          rw [if_neg (show ¬ nI 1 = (0 : Int32) by decide), if_pos (show nI 40 = (40 : Int32) from rfl), show nI o + (1 : Int32) = nI (o + 1) from nI_add o 1, e2']
          rfl
        have m23 : ∀ c0 μ0 ξ, c0 ≤ 600 → PM c0 H tx μ0 ξ p cs o → ∃ ξ', b_X7_isF gm ξ = (if bI b = (0 : Int32) then f_X7_isF_62 gm ξ' else (f_X7_is ξ' (41 : Int32)).bind fun p59 => if p59.1 = (0 : Int32) then f_X7_isF_62 gm p59.2 else f_X7_isF_63 gm p59.2 (1 : Int32)) ∧ PM c0 H tx μ0 ξ' p' (cs ++ ns) (o + 1) := fun c0 μ0 ξ hc0 h => by
          obtain ⟨ξ1, e1, p1⟩ := opY h hH hp1 ho4 h1
          obtain ⟨ξ2, e2, p2⟩ := am c0 μ0 ξ1 hc0 p1
          refine ⟨ξ2, ?_, p2⟩
          unfold b_X7_isF
          rw [K33, opN h hH hp htx (by omega) ho (.inr (fun z => by omega))]
          simp only [bind_p]
          rw [if_pos (show nI 0 = (0 : Int32) from rfl), K40, e1]
          simp only [bind_p]
          rw [if_neg (show ¬ nI 1 = (0 : Int32) by decide), e2]
          rfl
        cases hb : b
        · refine ⟨false, p', ns, ⟨by omega, k2, by omega⟩, fun z => (by cases z), fun k0 μ0 ν hk h => ?_, fun c0 μ0 ξ hc0 h => ?_⟩
          · obtain ⟨ν', e1, e2⟩ := x23 k0 μ0 ν hk h
            refine ⟨ν', ?_, e2⟩
            show b_X3_readOne gx ν k0 (nI o) = _
            rw [e1, hb, if_pos (show bI false = (0 : Int32) from rfl)]; rfl
          · obtain ⟨ξ', e1, e2⟩ := m23 c0 μ0 ξ hc0 h
            obtain ⟨ξ2, f1, f2⟩ := cl7 (G := gm) (r := 0) e2 ho4
            refine ⟨ξ2, ?_, f2⟩
            rw [e1, hb, if_pos (show bI false = (0 : Int32) from rfl)]
            exact f1
        · obtain ⟨kp, kdd⟩ := kd hb
          by_cases hcl : p' < H ∧ tx p' = 41
          · refine ⟨true, p' + 1, ns, ⟨by omega, hcl.1, by omega⟩, fun _ => ⟨by omega, fun d hd rest => kdd d (by omega) rest⟩, fun k0 μ0 ν hk h => ?_, fun c0 μ0 ξ hc0 h => ?_⟩
            · obtain ⟨ν', e1, e2⟩ := x23 k0 μ0 ν hk h
              obtain ⟨ν2, f1, f2⟩ := tkY hk e2 hH hcl.1 hcl.2
              refine ⟨ν2, ?_, f2⟩
              show b_X3_readOne gx ν k0 (nI o) = _
              rw [e1, hb, if_neg (show ¬ bI true = (0 : Int32) by decide), K41, f1]
              simp only [bind_p]
              rw [if_neg (show ¬ nI 1 = (0 : Int32) by decide)]; rfl
            · obtain ⟨ξ', e1, e2⟩ := m23 c0 μ0 ξ hc0 h
              obtain ⟨ξ2, f1, f2⟩ := isY e2 hH hcl.1 hcl.2
              obtain ⟨ξ3, g1, g2⟩ := cl7 (G := gm) (r := 1) f2 ho4
              refine ⟨ξ3, ?_, g2⟩
              rw [e1, hb, if_neg (show ¬ bI true = (0 : Int32) by decide), K41, f1]
              simp only [bind_p]
              rw [if_neg (show ¬ nI 1 = (0 : Int32) by decide)]
              exact g1
          · refine ⟨false, p', ns, ⟨by omega, k2, by omega⟩, fun z => (by cases z), fun k0 μ0 ν hk h => ?_, fun c0 μ0 ξ hc0 h => ?_⟩
            · obtain ⟨ν', e1, e2⟩ := x23 k0 μ0 ν hk h
              refine ⟨ν', ?_, e2⟩
              show b_X3_readOne gx ν k0 (nI o) = _
              rw [e1, hb, if_neg (show ¬ bI true = (0 : Int32) by decide), K41, tkN e2 hH k2 htx (by omega) hcl]
              simp only [bind_p]
              rw [if_pos (show nI 0 = (0 : Int32) from rfl)]; rfl
            · obtain ⟨ξ', e1, e2⟩ := m23 c0 μ0 ξ hc0 h
              obtain ⟨ξ3, g1, g2⟩ := cl7 (G := gm) (r := 0) e2 ho4
              refine ⟨ξ3, ?_, g2⟩
              rw [e1, hb, if_neg (show ¬ bI true = (0 : Int32) by decide), K41, isN e2 hH k2 htx (by omega) hcl]
              simp only [bind_p]
              rw [if_pos (show nI 0 = (0 : Int32) from rfl)]
              exact g1
  · obtain ⟨b, p', ns, t1, t2, t3, t4⟩ := test_ok (o := o) hH htx hp hcs
    refine ⟨b, p', ns, t1, fun z => ⟨(t2 z).1, fun d hd rest => (t2 z).2 d (by omega) rest⟩, fun k0 μ0 ν hk h => ?_, fun c0 μ0 ξ hc0 h => ?_⟩
    · obtain ⟨ν', e1, e2⟩ := t3 k0 μ0 ν hk h
      refine ⟨ν', ?_, e2⟩
      show b_X3_readOne gx ν k0 (nI o) = _
      unfold b_X3_readOne
      rw [next6 h hH hp]
      simp only [bind_p]
      have hne : ∀ c, (c = 33 ∨ c = 40) → ¬ (if p < H then nI (tx p) else -nI 1) = nI c := fun c hc z => by
        by_cases q : p < H
        · have ht := htx p q
          rw [if_pos q, nI_eq (by omega) (by omega)] at z
          exact hop ⟨q, by omega⟩
        · rw [if_neg q, nI_iI, nI_iI, iI_neg, iI_eqI (by omega) (by omega) (by omega) (by omega)] at z
          omega
      rw [K33, if_neg (hne 33 (.inl rfl)), K40, if_neg (hne 40 (.inr rfl)), e1]
      rfl
    · obtain ⟨ξ', e1, e2⟩ := t4 c0 μ0 ξ hc0 h
      refine ⟨ξ', ?_, e2⟩
      unfold b_X7_isF
      rw [K33, opN h hH hp htx (by omega) ho (.inr (fun z => hop ⟨z.1, .inl z.2⟩))]
      simp only [bind_p]
      rw [if_pos (show nI 0 = (0 : Int32) from rfl), K40, opN h hH hp htx (by omega) ho (.inr (fun z => hop ⟨z.1, .inr z.2⟩))]
      simp only [bind_p]
      rw [if_pos (show nI 0 = (0 : Int32) from rfl), e1]
      rfl
