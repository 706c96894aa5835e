/-! T and E -/
/-- behind a T's first F -/
theorem L_ok {H o : Nat} {tx : Nat → Nat} {gx : GX} {gm : GM} (hH : H ≤ 100) (htx : ∀ i, i < H → tx i ≤ 127) (ho : o ≤ 4) (HF : FS H tx o (2 * o + 2) gx.2 gm.2.2) :
    ∀ m p cs f, H - p ≤ m → p ≤ H → cs.length ≤ p → 3 * f ≤ p → ∃ b p' ns, OkP H p p' ns ∧ (b = true → ∀ d, d ≤ 2 * o + 1 → ∀ rest, dep (ns ++ rest) (d + 1) = dep rest (d + 1)) ∧
      (∀ (κ : Mem → Int32 → Int32 → Option (Int32 × Mem)) (t : Int32) n k0 μ0 ν, m < n → 1000 ≤ k0 → PX k0 H tx μ0 ν p cs → ∃ ν', f_X3_readAny_22 gx k0 κ n ν (nI o) t (nI f) = (if b = true then f_X3_readAny_61 gx k0 κ ν' (nI o) t else some (nI 0, ν')) ∧ PX k0 H tx μ0 ν' p' (cs ++ ns)) ∧
      (∀ n c0 μ0 ξ, m < n → c0 ≤ 600 → PM c0 H tx μ0 ξ p cs o → ∃ ξ', f_X7_isT_9 gm n ξ = some (bI b, ξ') ∧ PM c0 H tx μ0 ξ' p' (cs ++ ns) o) := by
  intro m
  induction m with
  | zero =>
    intro p cs f hm hp hcs hf
    have hno : ¬ (p < H ∧ tx p = 38) := fun z => by omega
    refine ⟨true, p, [], ⟨Nat.le_refl _, hp, by simp⟩, fun _ d _ rest => rfl, fun κ t n k0 μ0 ν hn hk h => ⟨ν, ?_, by rw [ag_nil]; exact h⟩, fun n c0 μ0 ξ hn hc0 h => ⟨ξ, ?_, by rw [ag_nil]; exact h⟩⟩
    · obtain ⟨n, rfl⟩ := suc_of hn
      rw [f_X3_readAny_22, K100, if_neg (nI_ge (by omega) (by omega)), K38, tkN h hH hp htx (by omega) hno]
      simp only [bind_p]
      rw [if_pos (show nI 0 = (0 : Int32) from rfl), if_pos trivial]
    · obtain ⟨n, rfl⟩ := suc_of hn
      rw [f_X7_isT_9, K38, isN h hH hp htx (by omega) hno]
      simp only [bind_p]
      rw [if_pos (show nI 0 = (0 : Int32) from rfl)]; rfl
  | succ m ih =>
    intro p cs f hm hp hcs hf
    by_cases hc : p < H ∧ tx p = 38
    · obtain ⟨b, p', ns, ⟨k1, k2, k3⟩, kd, ax, am⟩ := HF (p + 1) cs hc.1 (by omega)
      have x1 : ∀ (κ : Mem → Int32 → Int32 → Option (Int32 × Mem)) (t : Int32) n k0 μ0 ν, 1000 ≤ k0 → PX k0 H tx μ0 ν p cs → ∃ ν', f_X3_readAny_22 gx k0 κ (n + 1) ν (nI o) t (nI f) = (if bI b = (0 : Int32) then some ((0 : Int32), ν') else (f_X3_keep ν' k0 (-2 : Int32)).bind fun μ50 => f_X3_readAny_22 gx k0 κ n μ50 (nI o) t (nI (f + 1))) ∧ PX k0 H tx μ0 ν' p' (cs ++ ns) := fun κ t n k0 μ0 ν hk h => by
        obtain ⟨ν1, e1, p1⟩ := tkY hk h hH hc.1 hc.2
        obtain ⟨ν2, e2, p2⟩ := ax k0 μ0 ν1 hk p1
        have e2' : gx.2 ν1 k0 (nI o) = some (bI b, ν2) := e2
        refine ⟨ν2, ?_, p2⟩
        rw [f_X3_readAny_22, K100, if_neg (nI_ge (by omega) (by omega)), K38, e1]
        simp only [bind_p]
        rw [if_neg (show ¬ nI 1 = (0 : Int32) by decide), e2', show nI f + (1 : Int32) = nI (f + 1) from nI_add f 1]
        rfl
      have m1 : ∀ n c0 μ0 ξ, c0 ≤ 600 → PM c0 H tx μ0 ξ p cs o → ∃ ξ', f_X7_isT_9 gm (n + 1) ξ = (if bI b = (0 : Int32) then some ((0 : Int32), ξ') else (f_X7_codes ξ' (1 : Int32)).bind fun p34 => if p34.1 = (0 : Int32) then some ((0 : Int32), p34.2) else f_X7_isT_9 gm n p34.2) ∧ PM c0 H tx μ0 ξ' p' (cs ++ ns) o := fun n c0 μ0 ξ hc0 h => by
        obtain ⟨ξ1, e1, p1⟩ := isY h hH hc.1 hc.2
        obtain ⟨ξ2, e2, p2⟩ := am c0 μ0 ξ1 hc0 p1
        refine ⟨ξ2, ?_, p2⟩
        rw [f_X7_isT_9, K38, e1]
        simp only [bind_p]
        rw [if_neg (show ¬ nI 1 = (0 : Int32) by decide), e2]
        rfl
      cases hb : b
      · refine ⟨false, p', ns, ⟨by omega, k2, by omega⟩, fun z => (by cases z), fun κ t n k0 μ0 ν hn hk h => ?_, fun n c0 μ0 ξ hn hc0 h => ?_⟩
        · obtain ⟨n, rfl⟩ := suc_of (show 0 < n by omega)
          obtain ⟨ν', e1, e2⟩ := x1 κ t n k0 μ0 ν hk h
          refine ⟨ν', ?_, e2⟩
          rw [e1, hb, if_pos (show bI false = (0 : Int32) from rfl), if_neg (show ¬ false = true by decide)]; rfl
        · obtain ⟨n, rfl⟩ := suc_of (show 0 < n by omega)
          obtain ⟨ξ', e1, e2⟩ := m1 n c0 μ0 ξ hc0 h
          refine ⟨ξ', ?_, e2⟩
          rw [e1, hb, if_pos (show bI false = (0 : Int32) from rfl)]; rfl
      · obtain ⟨kp, kdd⟩ := kd hb
        obtain ⟨b2, p2, ns2, ⟨j1, j2, j3⟩, jd, jx, jm⟩ := ih p' (cs ++ ns ++ [1]) (f + 1) (by omega) k2 (by rw [len1, List.length_append]; omega) (by omega)
        refine ⟨b2, p2, ns ++ [1] ++ ns2, ⟨by omega, j2, by rw [List.length_append, len1]; omega⟩, fun z d hd rest => ?_, fun κ t n k0 μ0 ν hn hk h => ?_, fun n c0 μ0 ξ hn hc0 h => ?_⟩
        · rw [List.append_assoc, List.append_assoc, kdd (d + 1) (by omega)]
          show dep (1 :: (ns2 ++ rest)) (d + 1 + 1) = _
          rw [dep, if_neg (by omega), if_pos (by omega), if_pos (by omega)]
          exact jd z d hd rest
        · obtain ⟨n, rfl⟩ := suc_of (show 0 < n by omega)
          obtain ⟨ν', e1, e2⟩ := x1 κ t n k0 μ0 ν hk h
          obtain ⟨ν2, f1, f2⟩ := PX_k (c := 1) (t := -2) hk e2 (by rw [List.length_append]; omega) rfl
          obtain ⟨ν3, g1, g2⟩ := jx κ t n k0 μ0 ν2 (by omega) hk f2
          refine ⟨ν3, ?_, by rw [← List.append_assoc, ← List.append_assoc]; exact g2⟩
          rw [e1, hb, if_neg (show ¬ bI true = (0 : Int32) by decide), f1]
          exact g1
        · obtain ⟨n, rfl⟩ := suc_of (show 0 < n by omega)
          obtain ⟨ξ', e1, e2⟩ := m1 n c0 μ0 ξ hc0 h
          obtain ⟨ξ2, f1, f2⟩ := PM_k (c := 1) e2 (by rw [List.length_append]; omega)
          obtain ⟨ξ3, g1, g2⟩ := jm n c0 μ0 ξ2 (by omega) hc0 f2
          refine ⟨ξ3, ?_, by rw [← List.append_assoc, ← List.append_assoc]; exact g2⟩
          rw [e1, hb, if_neg (show ¬ bI true = (0 : Int32) by decide), K1, f1]
          simp only [bind_p]
          rw [if_neg (show ¬ nI 1 = (0 : Int32) by decide)]
          exact g1
    · refine ⟨true, p, [], ⟨Nat.le_refl _, hp, by simp⟩, fun _ d _ rest => rfl, fun κ t n k0 μ0 ν hn hk h => ⟨ν, ?_, by rw [ag_nil]; exact h⟩, fun n c0 μ0 ξ hn hc0 h => ⟨ξ, ?_, by rw [ag_nil]; exact h⟩⟩
      · obtain ⟨n, rfl⟩ := suc_of (show 0 < n by omega)
        rw [f_X3_readAny_22, K100, if_neg (nI_ge (by omega) (by omega)), K38, tkN h hH hp htx (by omega) hc]
        simp only [bind_p]
        rw [if_pos (show nI 0 = (0 : Int32) from rfl), if_pos trivial]
      · obtain ⟨n, rfl⟩ := suc_of (show 0 < n by omega)
        rw [f_X7_isT_9, K38, isN h hH hp htx (by omega) hc]
        simp only [bind_p]
        rw [if_pos (show nI 0 = (0 : Int32) from rfl)]; rfl
theorem T_ok {H o : Nat} {tx : Nat → Nat} {gx : GX} {gm : GM} (hH : H ≤ 100) (htx : ∀ i, i < H → tx i ≤ 127) (ho : o ≤ 4) (HF : FS H tx o (2 * o + 2) gx.2 gm.2.2) :
    ∀ p cs, p ≤ H → cs.length ≤ p → ∃ b p' ns, OkP H p p' ns ∧ (b = true → p + 3 ≤ p' ∧ ∀ d, d ≤ 2 * o + 1 → ∀ rest, dep (ns ++ rest) d = dep rest (d + 1)) ∧
      (∀ (κ : Mem → Int32 → Int32 → Option (Int32 × Mem)) (t : Int32) k0 μ0 ν, 1000 ≤ k0 → PX k0 H tx μ0 ν p cs → ∃ ν', ((gx.2 ν k0 (nI o)).bind fun p57 => if p57.1 = (0 : Int32) then some ((0 : Int32), p57.2) else f_X3_readAny_22 gx k0 κ FU p57.2 (nI o) t (0 : Int32)) = (if b = true then f_X3_readAny_61 gx k0 κ ν' (nI o) t else some (nI 0, ν')) ∧ PX k0 H tx μ0 ν' p' (cs ++ ns)) ∧
      AgM H tx p p' cs ns b o (b_X7_isT gm) := by
  intro p cs hp hcs
  obtain ⟨b, p1, ns1, ⟨k1, k2, k3⟩, kd, ax, am⟩ := HF p cs hp hcs
  cases hb : b
  · refine ⟨false, p1, ns1, ⟨k1, k2, k3⟩, fun z => (by cases z), fun κ t k0 μ0 ν hk h => ?_, fun c0 μ0 ξ hc0 h => ?_⟩
    · obtain ⟨ν', e1, e2⟩ := ax k0 μ0 ν hk h
      have e1' : gx.2 ν k0 (nI o) = some (bI b, ν') := e1
      refine ⟨ν', ?_, e2⟩
      rw [e1']
      simp only [bind_p]
      rw [hb, if_pos (show bI false = (0 : Int32) from rfl), if_neg (show ¬ false = true by decide)]; rfl
    · obtain ⟨ξ', e1, e2⟩ := am c0 μ0 ξ hc0 h
      refine ⟨ξ', ?_, e2⟩
      unfold b_X7_isT
      rw [e1]
      simp only [bind_p]
      rw [hb, if_pos (show bI false = (0 : Int32) from rfl)]; rfl
  · obtain ⟨kp, kdd⟩ := kd hb
    obtain ⟨b2, p2, ns2, ⟨j1, j2, j3⟩, jd, jx, jm⟩ := L_ok (gx := gx) (gm := gm) hH htx ho HF 100 p1 (cs ++ ns1) 0 (by omega) k2 (by rw [List.length_append]; omega) (by omega)
    refine ⟨b2, p2, ns1 ++ ns2, ⟨by omega, j2, by rw [List.length_append]; omega⟩, fun z => ⟨by omega, fun d hd rest => ?_⟩, fun κ t k0 μ0 ν hk h => ?_, fun c0 μ0 ξ hc0 h => ?_⟩
    · rw [List.append_assoc, kdd d (by omega)]
      exact jd z d hd rest
    · obtain ⟨ν', e1, e2⟩ := ax k0 μ0 ν hk h
      have e1' : gx.2 ν k0 (nI o) = some (bI b, ν') := e1
      obtain ⟨ν2, f1, f2⟩ := jx κ t FU k0 μ0 ν' (FU_p _ (by omega)) hk e2
      refine ⟨ν2, ?_, by rw [← List.append_assoc]; exact f2⟩
      rw [e1']
      simp only [bind_p]
      rw [hb, if_neg (show ¬ bI true = (0 : Int32) by decide)]
      exact f1
    · obtain ⟨ξ', e1, e2⟩ := am c0 μ0 ξ hc0 h
      obtain ⟨ξ2, f1, f2⟩ := jm FU c0 μ0 ξ' (FU_p _ (by omega)) hc0 e2
      refine ⟨ξ2, ?_, by rw [← List.append_assoc]; exact f2⟩
      unfold b_X7_isT
      rw [e1]
      simp only [bind_p]
      rw [hb, if_neg (show ¬ bI true = (0 : Int32) by decide)]
      exact f1
/-- behind an E's first T -/
theorem R_ok {H o : Nat} {tx : Nat → Nat} {gx : GX} {gm gm' : GM} (hH : H ≤ 100) (htx : ∀ i, i < H → tx i ≤ 127) (ho : o ≤ 4) (HF : FS H tx o (2 * o + 2) gx.2 gm'.2.2) (hgm : gm.2.1 = b_X7_isT gm') :
    ∀ m p cs t, H - p ≤ m → p ≤ H → cs.length ≤ p → 3 * (t + 1) ≤ p → ∃ b p' ns, OkP H p p' ns ∧ (b = true → ∀ d, d ≤ 2 * o → ∀ rest, dep (ns ++ rest) (d + 1) = dep rest (d + 1)) ∧
      (∀ n k0 μ0 ν, m < n → 1000 ≤ k0 → PX k0 H tx μ0 ν p cs → ∃ ν', f_X3_readAny_71 gx k0 (fun μ z0 z1 => f_X3_readAny_2 gx k0 n μ z0 z1) ν (nI o) (nI t) = some (bI b, ν') ∧ PX k0 H tx μ0 ν' p' (cs ++ ns)) ∧
      (∀ n c0 μ0 ξ, m < n → c0 ≤ 600 → PM c0 H tx μ0 ξ p cs o → ∃ ξ', f_X7_isE_9 gm n ξ = some (bI b, ξ') ∧ PM c0 H tx μ0 ξ' p' (cs ++ ns) o) := by
  intro m
  induction m with
  | zero =>
    intro p cs t hm hp hcs ht
    have hno : ¬ (p < H ∧ tx p = 124) := fun z => by omega
    refine ⟨true, p, [], ⟨Nat.le_refl _, hp, by simp⟩, fun _ d _ rest => rfl, fun n k0 μ0 ν hn hk h => ⟨ν, ?_, by rw [ag_nil]; exact h⟩, fun n c0 μ0 ξ hn hc0 h => ⟨ξ, ?_, by rw [ag_nil]; exact h⟩⟩
    · unfold f_X3_readAny_71
      rw [K124, tkN h hH hp htx (by omega) hno]
      simp only [bind_p]
      rw [if_pos (show nI 0 = (0 : Int32) from rfl)]; rfl
    · obtain ⟨n, rfl⟩ := suc_of hn
      rw [f_X7_isE_9, K124, isN h hH hp htx (by omega) hno]
      simp only [bind_p]
      rw [if_pos (show nI 0 = (0 : Int32) from rfl)]; rfl
  | succ m ih =>
    intro p cs t hm hp hcs ht
    by_cases hc : p < H ∧ tx p = 124
    · obtain ⟨b, p', ns, ⟨k1, k2, k3⟩, kd, ax, am⟩ := T_ok (gx := gx) (gm := gm') hH htx ho HF (p + 1) cs hc.1 (by omega)
      have x1 : ∀ n k0 μ0 ν, 1000 ≤ k0 → PX k0 H tx μ0 ν p cs → ∃ ν', f_X3_readAny_71 gx k0 (fun μ z0 z1 => f_X3_readAny_2 gx k0 (n + 1) μ z0 z1) ν (nI o) (nI t) = (if b = true then f_X3_readAny_61 gx k0 (fun μ z0 z1 => f_X3_readAny_2 gx k0 n μ z0 z1) ν' (nI o) (nI (t + 1)) else some (nI 0, ν')) ∧ PX k0 H tx μ0 ν' p' (cs ++ ns) := fun n k0 μ0 ν hk h => by
        obtain ⟨ν1, e1, p1⟩ := tkY hk h hH hc.1 hc.2
        obtain ⟨ν2, e2, p2⟩ := ax (fun μ z0 z1 => f_X3_readAny_2 gx k0 n μ z0 z1) (nI (t + 1)) k0 μ0 ν1 hk p1
        refine ⟨ν2, ?_, p2⟩
        unfold f_X3_readAny_71
        rw [K124, e1]
        simp only [bind_p]
        rw [if_neg (show ¬ nI 1 = (0 : Int32) by decide), show nI t + (1 : Int32) = nI (t + 1) from nI_add t 1, f_X3_readAny_2, K100, if_neg (nI_ge (by omega) (by omega))]
        exact e2
      have m1 : ∀ n c0 μ0 ξ, c0 ≤ 600 → PM c0 H tx μ0 ξ p cs o → ∃ ξ', f_X7_isE_9 gm (n + 1) ξ = (if bI b = (0 : Int32) then some ((0 : Int32), ξ') else (f_X7_codes ξ' (2 : Int32)).bind fun p34 => if p34.1 = (0 : Int32) then some ((0 : Int32), p34.2) else f_X7_isE_9 gm n p34.2) ∧ PM c0 H tx μ0 ξ' p' (cs ++ ns) o := fun n c0 μ0 ξ hc0 h => by
        obtain ⟨ξ1, e1, p1⟩ := isY h hH hc.1 hc.2
        obtain ⟨ξ2, e2, p2⟩ := am c0 μ0 ξ1 hc0 p1
        refine ⟨ξ2, ?_, p2⟩
        rw [f_X7_isE_9, K124, e1]
        simp only [bind_p]
        rw [if_neg (show ¬ nI 1 = (0 : Int32) by decide), hgm, e2]
        rfl
      cases hb : b
      · refine ⟨false, p', ns, ⟨by omega, k2, by omega⟩, fun z => (by cases z), fun n k0 μ0 ν hn hk h => ?_, fun n c0 μ0 ξ hn hc0 h => ?_⟩
        · obtain ⟨n, rfl⟩ := suc_of (show 0 < n by omega)
          obtain ⟨ν', e1, e2⟩ := x1 n k0 μ0 ν hk h
          refine ⟨ν', ?_, e2⟩
          rw [e1, hb, if_neg (show ¬ false = true by decide)]; rfl
        · obtain ⟨n, rfl⟩ := suc_of (show 0 < n by omega)
          obtain ⟨ξ', e1, e2⟩ := m1 n c0 μ0 ξ hc0 h
          refine ⟨ξ', ?_, e2⟩
          rw [e1, hb, if_pos (show bI false = (0 : Int32) from rfl)]; rfl
      · obtain ⟨kp, kdd⟩ := kd hb
        obtain ⟨b2, p2, ns2, ⟨j1, j2, j3⟩, jd, jx, jm⟩ := ih p' (cs ++ ns ++ [2]) (t + 1) (by omega) k2 (by rw [len1, List.length_append]; omega) (by omega)
        refine ⟨b2, p2, ns ++ [2] ++ ns2, ⟨by omega, j2, by rw [List.length_append, len1]; omega⟩, fun z d hd rest => ?_, fun n k0 μ0 ν hn hk h => ?_, fun n c0 μ0 ξ hn hc0 h => ?_⟩
        · rw [List.append_assoc, List.append_assoc, kdd (d + 1) (by omega)]
          show dep (2 :: (ns2 ++ rest)) (d + 1 + 1) = _
          rw [dep, if_neg (by omega), if_pos (by omega), if_pos (by omega)]
          exact jd z d hd rest
        · obtain ⟨n, rfl⟩ := suc_of (show 0 < n by omega)
          obtain ⟨ν', e1, e2⟩ := x1 n k0 μ0 ν hk h
          obtain ⟨ν2, f1, f2⟩ := PX_k (c := 2) (t := -3) hk e2 (by rw [List.length_append]; omega) rfl
          obtain ⟨ν3, g1, g2⟩ := jx n k0 μ0 ν2 (by omega) hk f2
          refine ⟨ν3, ?_, by rw [← List.append_assoc, ← List.append_assoc]; exact g2⟩
          rw [e1, hb, if_pos rfl]
          unfold f_X3_readAny_61
          rw [K0, if_neg (nI_ge (by omega) (by omega)), f1]
          exact g1
        · obtain ⟨n, rfl⟩ := suc_of (show 0 < n by omega)
          obtain ⟨ξ', e1, e2⟩ := m1 n c0 μ0 ξ hc0 h
          obtain ⟨ξ2, f1, f2⟩ := PM_k (c := 2) e2 (by rw [List.length_append]; omega)
          obtain ⟨ξ3, g1, g2⟩ := jm n c0 μ0 ξ2 (by omega) hc0 f2
          refine ⟨ξ3, ?_, by rw [← List.append_assoc, ← List.append_assoc]; exact g2⟩
          rw [e1, hb, if_neg (show ¬ bI true = (0 : Int32) by decide), K2, f1]
          simp only [bind_p]
          rw [if_neg (show ¬ nI 1 = (0 : Int32) by decide)]
          exact g1
    · refine ⟨true, p, [], ⟨Nat.le_refl _, hp, by simp⟩, fun _ d _ rest => rfl, fun n k0 μ0 ν hn hk h => ⟨ν, ?_, by rw [ag_nil]; exact h⟩, fun n c0 μ0 ξ hn hc0 h => ⟨ξ, ?_, by rw [ag_nil]; exact h⟩⟩
      · unfold f_X3_readAny_71
        rw [K124, tkN h hH hp htx (by omega) hc]
        simp only [bind_p]
        rw [if_pos (show nI 0 = (0 : Int32) from rfl)]; rfl
      · obtain ⟨n, rfl⟩ := suc_of (show 0 < n by omega)
        rw [f_X7_isE_9, K124, isN h hH hp htx (by omega) hc]
        simp only [bind_p]
        rw [if_pos (show nI 0 = (0 : Int32) from rfl)]; rfl
theorem E_ok {H o : Nat} {tx : Nat → Nat} {gx : GX} {gm gm' : GM} (hH : H ≤ 100) (htx : ∀ i, i < H → tx i ≤ 127) (ho : o ≤ 4) (HF : FS H tx o (2 * o + 2) gx.2 gm'.2.2) (hgm : gm.2.1 = b_X7_isT gm') : FS H tx o (2 * o) (b_X3_readAny gx) (b_X7_isE gm) := by
  intro p cs hp hcs
  obtain ⟨b, p1, ns1, ⟨k1, k2, k3⟩, kd, ax, am⟩ := T_ok (gx := gx) (gm := gm') hH htx ho HF p cs hp hcs
  obtain ⟨N, hFU, hN⟩ : ∃ N, FU = N + 1 ∧ 4000 < N := ⟨4999, rfl, by omega⟩
  have x1 : ∀ k0 μ0 ν, 1000 ≤ k0 → PX k0 H tx μ0 ν p cs → ∃ ν', b_X3_readAny gx ν k0 (nI o) = (if b = true then f_X3_readAny_61 gx k0 (fun μ z0 z1 => f_X3_readAny_2 gx k0 N μ z0 z1) ν' (nI o) (nI 0) else some (nI 0, ν')) ∧ PX k0 H tx μ0 ν' p1 (cs ++ ns1) := fun k0 μ0 ν hk h => by
    obtain ⟨ν2, e2, p2⟩ := ax (fun μ z0 z1 => f_X3_readAny_2 gx k0 N μ z0 z1) (nI 0) k0 μ0 ν hk h
    refine ⟨ν2, ?_, p2⟩
    have st : b_X3_readAny gx ν k0 (nI o) = f_X3_readAny_2 gx k0 (N + 1) ν (nI o) (nI 0) := by
      unfold b_X3_readAny
      rw [← hFU]
      rfl
    rw [st, f_X3_readAny_2, K100, if_neg (nI_ge (by omega) (by omega))]
    exact e2
  cases hb : b
  · refine ⟨false, p1, ns1, ⟨k1, k2, k3⟩, fun z => (by cases z), fun k0 μ0 ν hk h => ?_, fun c0 μ0 ξ hc0 h => ?_⟩
    · obtain ⟨ν', e1, e2⟩ := x1 k0 μ0 ν hk h
      refine ⟨ν', ?_, e2⟩
      show b_X3_readAny gx ν k0 (nI o) = _
      rw [e1, hb, if_neg (show ¬ false = true by decide)]; rfl
    · obtain ⟨ξ', e1, e2⟩ := am c0 μ0 ξ hc0 h
      refine ⟨ξ', ?_, e2⟩
      unfold b_X7_isE
      rw [hgm, e1]
      simp only [bind_p]
      rw [hb, if_pos (show bI false = (0 : Int32) from rfl)]; rfl
  · obtain ⟨kp, kdd⟩ := kd hb
    obtain ⟨b2, p2, ns2, ⟨j1, j2, j3⟩, jd, jx, jm⟩ := R_ok (gx := gx) (gm := gm) (gm' := gm') hH htx ho HF hgm 100 p1 (cs ++ ns1) 0 (by omega) k2 (by rw [List.length_append]; omega) (by omega)
    refine ⟨b2, p2, ns1 ++ ns2, ⟨by omega, j2, by rw [List.length_append]; omega⟩, fun z => ⟨by omega, fun d hd rest => ?_⟩, fun k0 μ0 ν hk h => ?_, fun c0 μ0 ξ hc0 h => ?_⟩
    · rw [List.append_assoc, kdd d (by omega)]
      exact jd z d hd rest
    · obtain ⟨ν', e1, e2⟩ := x1 k0 μ0 ν hk h
      obtain ⟨ν2, f1, f2⟩ := jx N k0 μ0 ν' (by omega) hk e2
      refine ⟨ν2, ?_, by rw [← List.append_assoc]; exact f2⟩
      show b_X3_readAny gx ν k0 (nI o) = _
      rw [e1, hb, if_pos rfl]
      unfold f_X3_readAny_61
      rw [if_pos (show nI 0 ≤ (0 : Int32) by decide)]
      exact f1
    · obtain ⟨ξ', e1, e2⟩ := am c0 μ0 ξ hc0 h
      obtain ⟨ξ2, f1, f2⟩ := jm FU c0 μ0 ξ' (FU_p _ (by omega)) hc0 e2
      refine ⟨ξ2, ?_, by rw [← List.append_assoc]; exact f2⟩
      unfold b_X7_isE
      rw [hgm, e1]
      simp only [bind_p]
      rw [hb, if_neg (show ¬ bI true = (0 : Int32) by decide)]
      exact f1
theorem EF_ok {H : Nat} {tx : Nat → Nat} (hH : H ≤ 100) (htx : ∀ i, i < H → tx i ≤ 127) : ∀ j o, o + j = 4 → (∀ dX dM, 2 * j + 1 ≤ dX → 3 * j + 1 ≤ dM → FS H tx o (2 * o + 2) (G_read dX).2 (G_efs dM).2.2) ∧ (∀ dX dM, 2 * j + 2 ≤ dX → 3 * j + 3 ≤ dM → FS H tx o (2 * o) (G_read dX).1 (G_efs dM).1) := by
  intro j
  induction j with
  | zero =>
    intro o hj
    have hF : ∀ dX dM, 2 * 0 + 1 ≤ dX → 3 * 0 + 1 ≤ dM → FS H tx o (2 * o + 2) (G_read dX).2 (G_efs dM).2.2 := fun dX dM h1 h2 => by
      obtain ⟨dX, rfl⟩ := suc_of (show 0 < dX by omega)
      obtain ⟨dM, rfl⟩ := suc_of (show 0 < dM by omega)
      exact F_ok (gx := G_read dX) (gm := G_efs dM) hH htx (by omega) (fun z => by omega) (fun z => by omega)
    refine ⟨hF, fun dX dM h1 h2 => ?_⟩
    obtain ⟨dX, rfl⟩ := suc_of (show 0 < dX by omega)
    obtain ⟨dM, rfl⟩ := suc_of (show 0 < dM by omega)
    obtain ⟨dM, rfl⟩ := suc_of (show 0 < dM by omega)
    exact E_ok (gx := G_read dX) (gm := G_efs (dM + 1)) (gm' := G_efs dM) hH htx (by omega) (hF dX dM (by omega) (by omega)) rfl
  | succ j ih =>
    intro o hj
    obtain ⟨i1, i2⟩ := ih (o + 1) (by omega)
    have hF : ∀ dX dM, 2 * (j + 1) + 1 ≤ dX → 3 * (j + 1) + 1 ≤ dM → FS H tx o (2 * o + 2) (G_read dX).2 (G_efs dM).2.2 := fun dX dM h1 h2 => by
      obtain ⟨dX, rfl⟩ := suc_of (show 0 < dX by omega)
      obtain ⟨dM, rfl⟩ := suc_of (show 0 < dM by omega)
      exact F_ok (gx := G_read dX) (gm := G_efs dM) hH htx (by omega) (fun _ => i2 dX dM (by omega) (by omega)) (fun _ => i1 dX dM (by omega) (by omega))
    refine ⟨hF, fun dX dM h1 h2 => ?_⟩
    obtain ⟨dX, rfl⟩ := suc_of (show 0 < dX by omega)
    obtain ⟨dM, rfl⟩ := suc_of (show 0 < dM by omega)
    obtain ⟨dM, rfl⟩ := suc_of (show 0 < dM by omega)
    exact E_ok (gx := G_read dX) (gm := G_efs (dM + 1)) (gm' := G_efs dM) hH htx (by omega) (hF dX dM (by omega) (by omega)) rfl
theorem any_ok {H : Nat} {tx : Nat → Nat} (hH : H ≤ 100) (htx : ∀ i, i < H → tx i ≤ 127) : FS H tx 0 0 f_X3_readAny f_X7_isE := (EF_ok hH htx 4 0 rfl).2 16 24 (by omega) (by omega)
