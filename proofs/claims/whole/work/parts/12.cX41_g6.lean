/-! the clauses of a text -/
theorem o_of (x : Int32) : ∃ o, x = nI o := ⟨x.toBitVec.toNat, by
  apply Int32.toBitVec_inj.mp
  simp [nI]⟩
theorem st_f {n : Nat} {ξ : Mem} {a b d : Int32} : f_X7_store_29 (n + 1) ξ a b (0 : Int32) d = f_X7_store_123 ξ a b d := by
  rw [f_X7_store_29, if_pos rfl]
theorem st_d {n : Nat} {ξ : Mem} {a b : Int32} : f_X7_store_29 (n + 1) ξ a b (1 : Int32) (1 : Int32) = f_X7_store_123 ξ a b 1 := by
  rw [f_X7_store_29, if_neg (show ¬ (1 : Int32) = (0 : Int32) by decide), if_neg (show ¬ (1 : Int32) = (0 : Int32) by decide)]
theorem st_c {n m st : Nat} {ξ : Mem} {a : Int32} (hm : m ≤ 9) (hst : st < 6) (h : gI ξ 2000 17 = nI st) : f_X7_store_29 (n + 1) ξ a (nI m) (1 : Int32) (0 : Int32) = (f_X7_isClause ξ (nI (10 * st + m))).bind fun p52 =>
          if p52.1 = (0 : Int32) then
            f_X7_store_64 (fun μ z0 z1 z2 z3 => f_X7_store_29 n μ z0 z1 z2 z3) p52.2 a (nI m) (0 : Int32)
          else
            f_X7_store_65 (fun μ z0 z1 z2 z3 => f_X7_store_29 n μ z0 z1 z2 z3) p52.2 a (nI m) (0 : Int32) (1 : Int32) := by
  rw [f_X7_store_29, if_neg (show ¬ (1 : Int32) = (0 : Int32) by decide), if_pos rfl, K10, if_neg (nI_ge (by omega) (by omega)), h, nI_mul, nI_add]
def StF (H : Nat) (tx : Nat → Nat) (p m : Nat) (l : List CL) : Prop :=
  ∃ p', p' ≤ H ∧ (∀ k0 μ ν n, 1000 ≤ k0 → m + 1 < n → XI k0 H tx μ ν p l → ∃ ν', f_X3_understands_22 k0 n ν (nI (l.length + 1)) = some (nI 0, ν') ∧ gI ν' 2 2 = nI p' ∧ XFr k0 μ ν') ∧
    (∀ c0 st μ ξ n, c0 ≤ 600 → st < 6 → gI μ 2000 17 = nI st → m + 2 < n → MI c0 st H tx μ ξ p l → ∃ ξ' w, f_X7_store_29 n ξ (nI c0) (nI l.length) (1 : Int32) (0 : Int32) = f_X7_store_123 ξ' (nI c0) w (0 : Int32) ∧ gI ξ' 2000 13 = nI p' ∧ MFr c0 st μ ξ')
def StY (H : Nat) (tx : Nat → Nat) (p m : Nat) (l : List CL) : Prop :=
  ∃ l', l'.length ≤ 10 ∧ (∀ q ∈ l', okC q) ∧ cat (ces l') = cat l' ∧ (cat l').length ≤ H ∧ (∀ k0 μ ν n, 1000 ≤ k0 → m + 1 < n → XI k0 H tx μ ν p l → ∃ ν', f_X3_understands_22 k0 n ν (nI (l.length + 1)) = some (nI 1, ν') ∧ XI k0 H tx μ ν' H l') ∧
    (∀ c0 st μ ξ n, c0 ≤ 600 → st < 6 → gI μ 2000 17 = nI st → m + 2 < n → MI c0 st H tx μ ξ p l → ∃ ξ', f_X7_store_29 n ξ (nI c0) (nI l.length) (1 : Int32) (0 : Int32) = f_X7_store_123 ξ' (nI c0) (nI l'.length) (1 : Int32) ∧ MI c0 st H tx μ ξ' H l')
theorem MA_P {c0 st H p o : Nat} {tx : Nat → Nat} {ξ ξ' : Mem} {l : List CL} {cs : List Nat} (h : MA c0 st ξ l) (hP : PM c0 H tx ξ ξ' p cs o) : MA c0 st ξ' l := by
  have hc := hP.2.2.2.1
  intro i q hq
  rw [hc 2020 (by omega) (by omega), hc 2021 (by omega) (by omega), hc 2022 (by omega) (by omega), hc 2023 (by omega) (by omega)]
  exact h i q hq
theorem und_go {H : Nat} {tx : Nat → Nat} (hH : H ≤ 100) (htx : ∀ i, i < H → tx i ≤ 127) (m : Nat) (ih : ∀ m', m = m' + 1 → ∀ l p, l.length + m' = 9 → p ≤ H → (cat l).length ≤ p → cat (ces l) = cat l → (∀ q ∈ l, okC q) → StF H tx p m' l ∨ StY H tx p m' l) :
    ∀ l p, l.length + m = 9 → p ≤ H → (cat l).length ≤ p → cat (ces l) = cat l → (∀ q ∈ l, okC q) → StF H tx p m l ∨ StY H tx p m l := by
  intro l p hl hp hcs hcl hq
  have hs17 : ∀ {c0 st : Nat} {μ ξ : Mem}, MFr c0 st μ ξ → gI μ 2000 17 = nI st → gI ξ 2000 17 = nI st := fun h e => (h.2.1 17 (by omega)).trans e
  rcases clause_ok hH htx hp (by omega) hcs hcl with ⟨p', a1, a2, a3⟩ | ⟨p', q, a0, a1, a2, a3, a4, a5, a6⟩
  · refine .inl ⟨p', a1, fun k0 μ ν n hk hn h => ?_, fun c0 st μ ξ n hc hst h17 hn h => ?_⟩
    · obtain ⟨n, rfl⟩ := suc_of (show 0 < n by omega)
      obtain ⟨ν', e, f1, f2⟩ := a2 k0 μ ν hk h
      refine ⟨ν', ?_, f1, f2⟩
      rw [f_X3_understands_22, K10, if_neg (nI_nlt (by omega) (by omega)), show f_X3_readClause ν k0 = some (nI 0, ν') from e]
      simp only [bind_p]
      rw [if_pos (show nI 0 = (0 : Int32) from rfl)]; rfl
    · obtain ⟨n, rfl⟩ := suc_of (show 0 < n by omega)
      obtain ⟨n, rfl⟩ := suc_of (show 0 < n by omega)
      obtain ⟨ξ', e, f1, f2⟩ := a3 c0 st μ ξ hc hst h
      refine ⟨ξ', nI l.length, ?_, f1, f2⟩
      rw [st_c (by omega) hst (hs17 h.2.2 h17), show f_X7_isClause ξ (nI (10 * st + l.length)) = some (nI 0, ξ') from e]
      simp only [bind_p]
      rw [if_pos (show nI 0 = (0 : Int32) from rfl)]
      unfold f_X7_store_64 f_X7_store_65
      rw [if_pos rfl]
      exact st_f
  have hcat : cat (l ++ [q]) = cat l ++ q.2.2 := cat_a l q
  have hcl' : cat (ces (l ++ [q])) = cat (l ++ [q]) := by
    by_cases z : q.1 < 2
    · rw [ces_a z, cat_a, cat_a, hcl]
    · rw [ces_b z, hcat, a4 z, ag_nil, hcl]
  have hlen' : (l ++ [q]).length = l.length + 1 := by rw [List.length_append]; rfl
  have hq' : ∀ r ∈ l ++ [q], okC r := fun r hr => by
    rcases List.mem_append.mp hr with h | h
    · exact hq r h
    · rw [List.mem_singleton.mp h]; exact a3
  have hcs' : (cat (l ++ [q])).length ≤ p' := by rw [hcat, List.length_append]; omega
  by_cases hend : p' = H
  · subst hend
    refine .inr ⟨l ++ [q], by omega, hq', hcl', hcs', fun k0 μ ν n hk hn h => ?_, fun c0 st μ ξ n hc hst h17 hn h => ?_⟩
    · obtain ⟨n, rfl⟩ := suc_of (show 0 < n by omega)
      obtain ⟨ν', e, f⟩ := a5 k0 μ ν hk h
      refine ⟨ν', ?_, f⟩
      rw [f_X3_understands_22, K10, if_neg (nI_nlt (by omega) (by omega)), show f_X3_readClause ν k0 = some (nI 1, ν') from e]
      simp only [bind_p]
      rw [if_neg (show ¬ nI 1 = (0 : Int32) by decide), next6 f.1 hH a1, if_neg (show ¬ p' < p' by omega)]
      simp only [bind_p]
      rw [if_neg (show ¬ (0 : Int32) ≤ -nI 1 by decide)]; rfl
    · obtain ⟨n, rfl⟩ := suc_of (show 0 < n by omega)
      obtain ⟨n, rfl⟩ := suc_of (show 0 < n by omega)
      obtain ⟨ξ', e, f⟩ := a6 c0 st μ ξ hc hst h
      obtain ⟨o, hP⟩ := f.1
      refine ⟨ξ', ?_, f⟩
      rw [st_c (by omega) hst (hs17 h.2.2 h17), show f_X7_isClause ξ (nI (10 * st + l.length)) = some (nI 1, ξ') from e]
      simp only [bind_p]
      rw [if_neg (show ¬ nI 1 = (0 : Int32) by decide)]
      unfold f_X7_store_65
      rw [if_neg (show ¬ (1 : Int32) = (0 : Int32) by decide), hP.1.1, hP.1.2.1]
      simp only [bind_p]
      rw [if_pos trivial]
      unfold f_X7_store_92
      rw [if_neg (show ¬ (1 : Int32) = (0 : Int32) by decide)]
      unfold f_X7_store_114 f_X7_store_119
      rw [hlen', K1, nI_add]
      exact st_d
  have hpH : p' < H := by omega
  have xs : ∀ k0 μ ν n, 1000 ≤ k0 → XI k0 H tx μ ν p l → ∃ ν', f_X3_understands_22 k0 (n + 1) ν (nI (l.length + 1)) = (if nI (l.length + 1) = (10 : Int32) then
            some ((0 : Int32), ν')
          else
            (f_X5_takeSign ν' (59 : Int32)).bind fun p34 =>
            if p34.1 = (0 : Int32) then
              some ((0 : Int32), p34.2)
            else
              (some (nI (l.length + 1) + (1 : Int32))).bind fun v36 =>
              f_X3_understands_22 k0 n p34.2 v36) ∧ XI k0 H tx μ ν' p' (l ++ [q]) := fun k0 μ ν n hk h => by
    obtain ⟨ν', e, f⟩ := a5 k0 μ ν hk h
    refine ⟨ν', ?_, f⟩
    have ht := htx p' hpH
    rw [f_X3_understands_22, if_neg (show ¬ (10 : Int32) < nI (l.length + 1) by rw [K10]; exact nI_nlt (by omega) (by omega)), show f_X3_readClause ν k0 = some (nI 1, ν') from e]
    simp only [bind_p]
    rw [if_neg (show ¬ nI 1 = (0 : Int32) by decide), next6 f.1 hH a1, if_pos hpH]
    simp only [bind_p]
    rw [if_pos (nI_pos' (by omega))]
  have ys : ∀ c0 st μ ξ n, c0 ≤ 600 → st < 6 → gI μ 2000 17 = nI st → MI c0 st H tx μ ξ p l → ∃ ξ', f_X7_store_29 (n + 1) ξ (nI c0) (nI l.length) (1 : Int32) (0 : Int32) = f_X7_store_92 (fun μ z0 z1 z2 z3 => f_X7_store_29 n μ z0 z1 z2 z3) ξ' (nI c0) (nI (l.length + 1)) (0 : Int32) ∧ MI c0 st H tx μ ξ' p' (l ++ [q]) := fun c0 st μ ξ n hc hst h17 h => by
    obtain ⟨ξ', e, f⟩ := a6 c0 st μ ξ hc hst h
    obtain ⟨o, hP⟩ := f.1
    refine ⟨ξ', ?_, f⟩
    rw [st_c (by omega) hst (hs17 h.2.2 h17), show f_X7_isClause ξ (nI (10 * st + l.length)) = some (nI 1, ξ') from e]
    simp only [bind_p]
    rw [if_neg (show ¬ nI 1 = (0 : Int32) by decide)]
    unfold f_X7_store_65
    rw [if_neg (show ¬ (1 : Int32) = (0 : Int32) by decide), hP.1.1, hP.1.2.1]
    simp only [bind_p]
    rw [if_neg (by rw [nI_eq (by omega) (by omega)]; omega), K1, nI_add]
  by_cases h10 : l.length = 9
  · refine .inl ⟨p', a1, fun k0 μ ν n hk hn h => ?_, fun c0 st μ ξ n hc hst h17 hn h => ?_⟩
    · obtain ⟨n, rfl⟩ := suc_of (show 0 < n by omega)
      obtain ⟨ν', e, f⟩ := xs k0 μ ν n hk h
      refine ⟨ν', ?_, f.1.1.2.1, f.2.2⟩
      rw [e, h10, if_pos (show nI (9 + 1) = (10 : Int32) from rfl)]; rfl
    · obtain ⟨n, rfl⟩ := suc_of (show 0 < n by omega)
      obtain ⟨n, rfl⟩ := suc_of (show 0 < n by omega)
      obtain ⟨ξ', e, f⟩ := ys c0 st μ ξ (n + 1) hc hst h17 h
      obtain ⟨o, hP⟩ := f.1
      refine ⟨ξ', nI (l.length + 1), ?_, hP.1.2.1, f.2.2⟩
      rw [e]
      unfold f_X7_store_92
      rw [if_pos rfl, if_pos (by rw [K10]; exact nI_le (by omega) (by omega))]
      unfold f_X7_store_118 f_X7_store_119
      exact st_f
  have hne : ¬ nI (l.length + 1) = (10 : Int32) := by rw [K10, nI_eq (by omega) (by omega)]; omega
  have hnle : ¬ (10 : Int32) ≤ nI (l.length + 1) := by rw [K10]; exact nI_ge (by omega) (by omega)
  by_cases hs : tx p' = 59
  case neg =>
    have hs' : ¬ (p' < H ∧ tx p' = 59) := fun z => hs z.2
    refine .inl ⟨p', a1, fun k0 μ ν n hk hn h => ?_, fun c0 st μ ξ n hc hst h17 hn h => ?_⟩
    · obtain ⟨n, rfl⟩ := suc_of (show 0 < n by omega)
      obtain ⟨ν', e, f⟩ := xs k0 μ ν n hk h
      refine ⟨ν', ?_, f.1.1.2.1, f.2.2⟩
      rw [e, if_neg hne, K59, tkN f.1 hH a1 htx (by omega) hs']
      simp only [bind_p]
      rw [if_pos (show nI 0 = (0 : Int32) from rfl)]; rfl
    · obtain ⟨n, rfl⟩ := suc_of (show 0 < n by omega)
      obtain ⟨n, rfl⟩ := suc_of (show 0 < n by omega)
      obtain ⟨ξ', e, f⟩ := ys c0 st μ ξ (n + 1) hc hst h17 h
      obtain ⟨o, hP⟩ := f.1
      refine ⟨ξ', nI (l.length + 1), ?_, hP.1.2.1, f.2.2⟩
      rw [e]
      unfold f_X7_store_92
      rw [if_pos rfl, if_neg hnle, K59, isN hP hH a1 htx (by omega) hs']
      simp only [bind_p]
      rw [if_pos (show nI 0 = (0 : Int32) from rfl)]
      unfold f_X7_store_118 f_X7_store_119
      exact st_f
  obtain ⟨m', rfl⟩ := suc_of (show 0 < m by omega)
  have x2 : ∀ k0 μ ν n, 1000 ≤ k0 → XI k0 H tx μ ν p l → ∃ ν', f_X3_understands_22 k0 (n + 1) ν (nI (l.length + 1)) = f_X3_understands_22 k0 n ν' (nI ((l ++ [q]).length + 1)) ∧ XI k0 H tx μ ν' (p' + 1) (l ++ [q]) := fun k0 μ ν n hk h => by
    obtain ⟨ν', e, f⟩ := xs k0 μ ν n hk h
    obtain ⟨ν2, e2, f2⟩ := tkY hk f.1 hH hpH hs
    refine ⟨ν2, ?_, PX_s f2, XA_P hk f.2.1 f2, XFr_P f.2.2 f2⟩
    rw [e, if_neg hne, K59, e2]
    simp only [bind_p]
    rw [if_neg (show ¬ nI 1 = (0 : Int32) by decide), K1, nI_add, hlen']
  have y2 : ∀ c0 st μ ξ n, c0 ≤ 600 → st < 6 → gI μ 2000 17 = nI st → MI c0 st H tx μ ξ p l → ∃ ξ', f_X7_store_29 (n + 1) ξ (nI c0) (nI l.length) (1 : Int32) (0 : Int32) = f_X7_store_29 n ξ' (nI c0) (nI (l ++ [q]).length) (1 : Int32) (0 : Int32) ∧ MI c0 st H tx μ ξ' (p' + 1) (l ++ [q]) := fun c0 st μ ξ n hc hst h17 h => by
    obtain ⟨ξ', e, f⟩ := ys c0 st μ ξ n hc hst h17 h
    obtain ⟨o, hP⟩ := f.1
    obtain ⟨ξ2, e2, f2⟩ := isY hP hH hpH hs
    refine ⟨ξ2, ?_, ⟨o, PM_s f2⟩, MA_P f.2.1 f2, MFr_P f.2.2 f2⟩
    rw [e]
    unfold f_X7_store_92
    rw [if_pos rfl, if_neg hnle, K59, e2]
    simp only [bind_p]
    rw [if_neg (show ¬ nI 1 = (0 : Int32) by decide), hlen']
    rfl
  rcases ih m' rfl (l ++ [q]) (p' + 1) (by omega) hpH (by omega) hcl' hq' with ⟨p3, i1, i2, i3⟩ | ⟨l', i1, i2, i3, i4, i5, i6⟩
  · refine .inl ⟨p3, i1, fun k0 μ ν n hk hn h => ?_, fun c0 st μ ξ n hc hst h17 hn h => ?_⟩
    · obtain ⟨n, rfl⟩ := suc_of (show 0 < n by omega)
      obtain ⟨ν', e, f⟩ := x2 k0 μ ν n hk h
      obtain ⟨ν2, e2, f2⟩ := i2 k0 μ ν' n hk (by omega) f
      exact ⟨ν2, e.trans e2, f2⟩
    · obtain ⟨n, rfl⟩ := suc_of (show 0 < n by omega)
      obtain ⟨ξ', e, f⟩ := y2 c0 st μ ξ n hc hst h17 h
      obtain ⟨ξ2, w, e2, f2⟩ := i3 c0 st μ ξ' n hc hst h17 (by omega) f
      exact ⟨ξ2, w, e.trans e2, f2⟩
  · refine .inr ⟨l', i1, i2, i3, i4, fun k0 μ ν n hk hn h => ?_, fun c0 st μ ξ n hc hst h17 hn h => ?_⟩
    · obtain ⟨n, rfl⟩ := suc_of (show 0 < n by omega)
      obtain ⟨ν', e, f⟩ := x2 k0 μ ν n hk h
      obtain ⟨ν2, e2, f2⟩ := i5 k0 μ ν' n hk (by omega) f
      exact ⟨ν2, e.trans e2, f2⟩
    · obtain ⟨n, rfl⟩ := suc_of (show 0 < n by omega)
      obtain ⟨ξ', e, f⟩ := y2 c0 st μ ξ n hc hst h17 h
      obtain ⟨ξ2, e2, f2⟩ := i6 c0 st μ ξ' n hc hst h17 (by omega) f
      exact ⟨ξ2, e.trans e2, f2⟩
theorem und_ok {H : Nat} {tx : Nat → Nat} (hH : H ≤ 100) (htx : ∀ i, i < H → tx i ≤ 127) : ∀ m l p, l.length + m = 9 → p ≤ H → (cat l).length ≤ p → cat (ces l) = cat l → (∀ q ∈ l, okC q) → StF H tx p m l ∨ StY H tx p m l := by
  intro m
  induction m with
  | zero => exact und_go hH htx 0 (fun m' h => by omega)
  | succ m ih => exact und_go hH htx (m + 1) (fun m' h => by
      obtain rfl : m = m' := by omega
      exact ih)
