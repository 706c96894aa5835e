/-! acts, in the reference -/
theorem tick7_0 {μ0 : Mem} {v e d : Nat} : ∀ (μ : Mem) (bs : List Nat) (x : Int32), CR7 μ0 μ bs → bs.length + 1 ≤ 20 → ∃ ν, G_ticks (d + 1) μ (nI e) (nI 0) x = some (x + nI e, ν) ∧ CR7 μ0 ν (bs ++ [10]) := by
  intro μ bs x h hl
  obtain ⟨ν, e1, e2⟩ := bg7 (b := 10) h (by omega)
  refine ⟨ν, ?_, e2⟩
  show b_X7_ticks (G_ticks d) μ (nI e) (nI 0) x = _
  unfold b_X7_ticks
  simp (disch := omega) only [ofN, lC_lt, lC_ge, lC_eq, lC_gt, lC_le, T_ltL, F_ltL, T_leL, F_leL, T_eqL, F_eqL, m1_0, lN_add, nI_lE, lN_i, ↓reduceIte, bind_p, T_lt, F_lt, T_le, F_le, T_eq, F_eq, F_neg, T_ltm, F_lem, F_ltm, nI_add, nI_mul, nI_sub, ldI_n, stI_n, aix_n, ldL_n, stL_n, ldF_n, gI_atE, gI_ne1, gI_ne2, gL_atE, gL_ne1, gL_ne2, gL_s, gI_s, w7T, w7F1, w7F2, and31, K0, K1, K2, K3, K4, K5, K6, K7, K8, K9, K10, K11, K12, K14, K16, K18, K20, K24, K29, K30, K31, K32, K33, K36, K38, K40, K41, K42, K48, K50, K51, K54, K57, K59, K60, K63, K70, K71, K84, K94, K97, K100, K101, K104, K108, K112, K120, K121, K122, K123, K124, K125, K127, K255, K300, K1000, K9999, K99999, K2147483647, e1]
theorem tick7 {μ0 : Mem} {v e k d : Nat} (he : e < 6) (hv : gI μ0 2002 e = nI v) (hk : k ≤ 6) : ∀ (μ : Mem) (bs : List Nat) (x : Int32), CR7 μ0 μ bs → bs.length + 2 ≤ 20 → ∃ ν, G_ticks (d + 3) μ (nI e) (nI k) x = some (tkV v e k x, ν) ∧ CR7 μ0 ν (bs ++ tkB k) := by
  intro μ bs x h hl
  have key : ∀ k', (k' = 1 ∨ k' = 3) → ∀ (μ : Mem) (bs : List Nat) (x : Int32), CR7 μ0 μ bs → bs.length + 1 ≤ 20 → ∃ ν, G_ticks (d + 2) μ (nI e) (nI k') x = some (x + nI e, ν) ∧ CR7 μ0 ν (bs ++ [10]) := fun k' hk' μ bs x h hl => by
    obtain ⟨ν, e1, e2⟩ := tick7_0 (v := v) (e := e) (d := d) μ bs x h hl
    refine ⟨ν, ?_, e2⟩
    show b_X7_ticks (G_ticks (d + 1)) μ (nI e) (nI k') x = _
    unfold b_X7_ticks f_X7_ticks_106 f_X7_above
    rcases hk' with rfl | rfl
    · simp (disch := omega) only [ofN, lC_lt, lC_ge, lC_eq, lC_gt, lC_le, T_ltL, F_ltL, T_leL, F_leL, T_eqL, F_eqL, m1_0, lN_add, nI_lE, lN_i, ↓reduceIte, bind_p, T_lt, F_lt, T_le, F_le, T_eq, F_eq, F_neg, T_ltm, F_lem, F_ltm, nI_add, nI_mul, nI_sub, ldI_n, stI_n, aix_n, ldL_n, stL_n, ldF_n, gI_atE, gI_ne1, gI_ne2, gL_atE, gL_ne1, gL_ne2, gL_s, gI_s, w7T, w7F1, w7F2, and31, K0, K1, K2, K3, K4, K5, K6, K7, K8, K9, K10, K11, K12, K14, K16, K18, K20, K24, K29, K30, K31, K32, K33, K36, K38, K40, K41, K42, K48, K50, K51, K54, K57, K59, K60, K63, K70, K71, K84, K94, K97, K100, K101, K104, K108, K112, K120, K121, K122, K123, K124, K125, K127, K255, K300, K1000, K9999, K99999, K2147483647, e1]
    · simp (disch := omega) only [ofN, lC_lt, lC_ge, lC_eq, lC_gt, lC_le, T_ltL, F_ltL, T_leL, F_leL, T_eqL, F_eqL, m1_0, lN_add, nI_lE, lN_i, ↓reduceIte, bind_p, T_lt, F_lt, T_le, F_le, T_eq, F_eq, F_neg, T_ltm, F_lem, F_ltm, nI_add, nI_mul, nI_sub, ldI_n, stI_n, aix_n, ldL_n, stL_n, ldF_n, gI_atE, gI_ne1, gI_ne2, gL_atE, gL_ne1, gL_ne2, gL_s, gI_s, w7T, w7F1, w7F2, and31, K0, K1, K2, K3, K4, K5, K6, K7, K8, K9, K10, K11, K12, K14, K16, K18, K20, K24, K29, K30, K31, K32, K33, K36, K38, K40, K41, K42, K48, K50, K51, K54, K57, K59, K60, K63, K70, K71, K84, K94, K97, K100, K101, K104, K108, K112, K120, K121, K122, K123, K124, K125, K127, K255, K300, K1000, K9999, K99999, K2147483647, e1]
  rcases (show k = 0 ∨ k = 1 ∨ k = 2 ∨ k = 3 ∨ k = 4 ∨ k = 5 ∨ k = 6 by omega) with rfl | rfl | rfl | rfl | rfl | rfl | rfl
  · exact tick7_0 (v := v) (d := d + 2) μ bs x h (by omega)
  · obtain ⟨ν, e1, e2⟩ := tick7_0 (v := v) (e := e) (d := d + 1) μ bs x h (by omega)
    refine ⟨ν, ?_, e2⟩
    show b_X7_ticks (G_ticks (d + 2)) μ (nI e) (nI 1) x = some (x + nI e, ν)
    unfold b_X7_ticks f_X7_ticks_106 f_X7_above
    simp (disch := omega) only [ofN, lC_lt, lC_ge, lC_eq, lC_gt, lC_le, T_ltL, F_ltL, T_leL, F_leL, T_eqL, F_eqL, m1_0, lN_add, nI_lE, lN_i, ↓reduceIte, bind_p, T_lt, F_lt, T_le, F_le, T_eq, F_eq, F_neg, T_ltm, F_lem, F_ltm, nI_add, nI_mul, nI_sub, ldI_n, stI_n, aix_n, ldL_n, stL_n, ldF_n, gI_atE, gI_ne1, gI_ne2, gL_atE, gL_ne1, gL_ne2, gL_s, gI_s, w7T, w7F1, w7F2, and31, K0, K1, K2, K3, K4, K5, K6, K7, K8, K9, K10, K11, K12, K14, K16, K18, K20, K24, K29, K30, K31, K32, K33, K36, K38, K40, K41, K42, K48, K50, K51, K54, K57, K59, K60, K63, K70, K71, K84, K94, K97, K100, K101, K104, K108, K112, K120, K121, K122, K123, K124, K125, K127, K255, K300, K1000, K9999, K99999, K2147483647, e1]
  · obtain ⟨ν, e1, e2⟩ := bg7 (b := 30) h (by omega)
    obtain ⟨ξ, f1, f2⟩ := tick7_0 (v := v) (e := e) (d := d + 1) ν _ (x * nI 3) e2 (by rw [len1]; omega)
    refine ⟨ξ, ?_, by rw [List.append_assoc] at f2; exact f2⟩
    show b_X7_ticks (G_ticks (d + 2)) μ (nI e) (nI 2) x = some (x * nI 3 + nI e, ξ)
    unfold b_X7_ticks
    simp (disch := omega) only [ofN, lC_lt, lC_ge, lC_eq, lC_gt, lC_le, T_ltL, F_ltL, T_leL, F_leL, T_eqL, F_eqL, m1_0, lN_add, nI_lE, lN_i, ↓reduceIte, bind_p, T_lt, F_lt, T_le, F_le, T_eq, F_eq, F_neg, T_ltm, F_lem, F_ltm, nI_add, nI_mul, nI_sub, ldI_n, stI_n, aix_n, ldL_n, stL_n, ldF_n, gI_atE, gI_ne1, gI_ne2, gL_atE, gL_ne1, gL_ne2, gL_s, gI_s, w7T, w7F1, w7F2, and31, K0, K1, K2, K3, K4, K5, K6, K7, K8, K9, K10, K11, K12, K14, K16, K18, K20, K24, K29, K30, K31, K32, K33, K36, K38, K40, K41, K42, K48, K50, K51, K54, K57, K59, K60, K63, K70, K71, K84, K94, K97, K100, K101, K104, K108, K112, K120, K121, K122, K123, K124, K125, K127, K255, K300, K1000, K9999, K99999, K2147483647, e1, f1]
  · obtain ⟨ν, e1, e2⟩ := tick7_0 (v := v) (e := e) (d := d + 1) μ bs x h (by omega)
    refine ⟨ν, ?_, e2⟩
    show b_X7_ticks (G_ticks (d + 2)) μ (nI e) (nI 3) x = some (x + nI e, ν)
    unfold b_X7_ticks f_X7_ticks_106 f_X7_above
    simp (disch := omega) only [ofN, lC_lt, lC_ge, lC_eq, lC_gt, lC_le, T_ltL, F_ltL, T_leL, F_leL, T_eqL, F_eqL, m1_0, lN_add, nI_lE, lN_i, ↓reduceIte, bind_p, T_lt, F_lt, T_le, F_le, T_eq, F_eq, F_neg, T_ltm, F_lem, F_ltm, nI_add, nI_mul, nI_sub, ldI_n, stI_n, aix_n, ldL_n, stL_n, ldF_n, gI_atE, gI_ne1, gI_ne2, gL_atE, gL_ne1, gL_ne2, gL_s, gI_s, w7T, w7F1, w7F2, and31, K0, K1, K2, K3, K4, K5, K6, K7, K8, K9, K10, K11, K12, K14, K16, K18, K20, K24, K29, K30, K31, K32, K33, K36, K38, K40, K41, K42, K48, K50, K51, K54, K57, K59, K60, K63, K70, K71, K84, K94, K97, K100, K101, K104, K108, K112, K120, K121, K122, K123, K124, K125, K127, K255, K300, K1000, K9999, K99999, K2147483647, e1]
  · obtain ⟨ν, e1, e2⟩ := bg7 (b := 50) h (by omega)
    obtain ⟨ξ, f1, f2⟩ := key 1 (.inl rfl) ν _ x e2 (by rw [len1]; omega)
    refine ⟨ξ, ?_, by rw [List.append_assoc] at f2; exact f2⟩
    show b_X7_ticks (G_ticks (d + 2)) μ (nI e) (nI 4) x = some (-(x + nI e), ξ)
    unfold b_X7_ticks
    simp (disch := omega) only [ofN, lC_lt, lC_ge, lC_eq, lC_gt, lC_le, T_ltL, F_ltL, T_leL, F_leL, T_eqL, F_eqL, m1_0, lN_add, nI_lE, lN_i, ↓reduceIte, bind_p, T_lt, F_lt, T_le, F_le, T_eq, F_eq, F_neg, T_ltm, F_lem, F_ltm, nI_add, nI_mul, nI_sub, ldI_n, stI_n, aix_n, ldL_n, stL_n, ldF_n, gI_atE, gI_ne1, gI_ne2, gL_atE, gL_ne1, gL_ne2, gL_s, gI_s, w7T, w7F1, w7F2, and31, K0, K1, K2, K3, K4, K5, K6, K7, K8, K9, K10, K11, K12, K14, K16, K18, K20, K24, K29, K30, K31, K32, K33, K36, K38, K40, K41, K42, K48, K50, K51, K54, K57, K59, K60, K63, K70, K71, K84, K94, K97, K100, K101, K104, K108, K112, K120, K121, K122, K123, K124, K125, K127, K255, K300, K1000, K9999, K99999, K2147483647, e1, f1]
  · obtain ⟨ν, e1, e2⟩ := bg7 (b := 30) h (by omega)
    obtain ⟨ξ, f1, f2⟩ := tick7_0 (v := v) (e := e) (d := d) ν _ (x * nI 3) e2 (by rw [len1]; omega)
    refine ⟨ξ, ?_, by rw [List.append_assoc] at f2; exact f2⟩
    have g1 : G_ticks (d + 2) μ (nI e) (nI 2) x = some (x * nI 3 + nI e, ξ) := by
      show b_X7_ticks (G_ticks (d + 1)) μ (nI e) (nI 2) x = _
      unfold b_X7_ticks
      simp (disch := omega) only [ofN, lC_lt, lC_ge, lC_eq, lC_gt, lC_le, T_ltL, F_ltL, T_leL, F_leL, T_eqL, F_eqL, m1_0, lN_add, nI_lE, lN_i, ↓reduceIte, bind_p, T_lt, F_lt, T_le, F_le, T_eq, F_eq, F_neg, T_ltm, F_lem, F_ltm, nI_add, nI_mul, nI_sub, ldI_n, stI_n, aix_n, ldL_n, stL_n, ldF_n, gI_atE, gI_ne1, gI_ne2, gL_atE, gL_ne1, gL_ne2, gL_s, gI_s, w7T, w7F1, w7F2, and31, K0, K1, K2, K3, K4, K5, K6, K7, K8, K9, K10, K11, K12, K14, K16, K18, K20, K24, K29, K30, K31, K32, K33, K36, K38, K40, K41, K42, K48, K50, K51, K54, K57, K59, K60, K63, K70, K71, K84, K94, K97, K100, K101, K104, K108, K112, K120, K121, K122, K123, K124, K125, K127, K255, K300, K1000, K9999, K99999, K2147483647, e1, f1]
    show b_X7_ticks (G_ticks (d + 2)) μ (nI e) (nI 5) x = some (x * nI 3 + nI e, ξ)
    unfold b_X7_ticks f_X7_ticks_106 f_X7_above
    simp (disch := omega) only [ofN, lC_lt, lC_ge, lC_eq, lC_gt, lC_le, T_ltL, F_ltL, T_leL, F_leL, T_eqL, F_eqL, m1_0, lN_add, nI_lE, lN_i, ↓reduceIte, bind_p, T_lt, F_lt, T_le, F_le, T_eq, F_eq, F_neg, T_ltm, F_lem, F_ltm, nI_add, nI_mul, nI_sub, ldI_n, stI_n, aix_n, ldL_n, stL_n, ldF_n, gI_atE, gI_ne1, gI_ne2, gL_atE, gL_ne1, gL_ne2, gL_s, gI_s, w7T, w7F1, w7F2, and31, K0, K1, K2, K3, K4, K5, K6, K7, K8, K9, K10, K11, K12, K14, K16, K18, K20, K24, K29, K30, K31, K32, K33, K36, K38, K40, K41, K42, K48, K50, K51, K54, K57, K59, K60, K63, K70, K71, K84, K94, K97, K100, K101, K104, K108, K112, K120, K121, K122, K123, K124, K125, K127, K255, K300, K1000, K9999, K99999, K2147483647, g1]
  · obtain ⟨ν, e1, e2⟩ := bg7 (b := 71) h (by omega)
    obtain ⟨ξ, f1, f2⟩ := key 3 (.inr rfl) ν _ x e2 (by rw [len1]; omega)
    refine ⟨ξ, ?_, by rw [List.append_assoc] at f2; exact f2⟩
    have hv' : gI ξ 2002 e = nI v := by rw [f2.1 2002 (by omega) (by omega)]; exact hv
    show b_X7_ticks (G_ticks (d + 2)) μ (nI e) (nI 6) x = some ((x + nI e) ^^^ nI v, ξ)
    unfold b_X7_ticks
    simp (disch := omega) only [ofN, lC_lt, lC_ge, lC_eq, lC_gt, lC_le, T_ltL, F_ltL, T_leL, F_leL, T_eqL, F_eqL, m1_0, lN_add, nI_lE, lN_i, ↓reduceIte, bind_p, T_lt, F_lt, T_le, F_le, T_eq, F_eq, F_neg, T_ltm, F_lem, F_ltm, nI_add, nI_mul, nI_sub, ldI_n, stI_n, aix_n, ldL_n, stL_n, ldF_n, gI_atE, gI_ne1, gI_ne2, gL_atE, gL_ne1, gL_ne2, gL_s, gI_s, w7T, w7F1, w7F2, and31, K0, K1, K2, K3, K4, K5, K6, K7, K8, K9, K10, K11, K12, K14, K16, K18, K20, K24, K29, K30, K31, K32, K33, K36, K38, K40, K41, K42, K48, K50, K51, K54, K57, K59, K60, K63, K70, K71, K84, K94, K97, K100, K101, K104, K108, K112, K120, K121, K122, K123, K124, K125, K127, K255, K300, K1000, K9999, K99999, K2147483647, e1, f1, hv']
theorem stir7_0 {μ0 : Mem} {κ v e d : Nat} (he : e < 6) (hv : gI μ0 2002 e = nI v) (hκ : gI μ0 2001 e = nI κ) (hκ6 : κ ≤ 6) : ∀ (μ : Mem) (bs : List Nat) (x : Int32), CR7 μ0 μ bs → bs.length + 3 ≤ 20 → ∃ ν, G_stirs (d + 1) μ (nI e) (nI 0) x = some (st0 v e κ x, ν) ∧ CR7 μ0 ν (bs ++ ([11] ++ tkB κ)) := by
  intro μ bs x h hl
  obtain ⟨ν, e1, e2⟩ := bg7 (b := 11) h (by omega)
  obtain ⟨ξ, f1, f2⟩ := tick7 (d := 5) he hv hκ6 ν _ x e2 (by rw [len1]; omega)
  have hκ' : gI ν 2001 e = nI κ := by rw [e2.1 2001 (by omega) (by omega)]; exact hκ
  have hv' : gI ξ 2002 e = nI v := by rw [f2.1 2002 (by omega) (by omega)]; exact hv
  refine ⟨ξ, ?_, by rw [List.append_assoc] at f2; exact f2⟩
  have f1' : f_X7_ticks ν (nI e) (nI κ) x = some (tkV v e κ x, ξ) := f1
  show b_X7_stirs (G_stirs d) μ (nI e) (nI 0) x = some (tkV v e κ x - nI v, ξ)
  unfold b_X7_stirs
  simp (disch := omega) only [ofN, lC_lt, lC_ge, lC_eq, lC_gt, lC_le, T_ltL, F_ltL, T_leL, F_leL, T_eqL, F_eqL, m1_0, lN_add, nI_lE, lN_i, ↓reduceIte, bind_p, T_lt, F_lt, T_le, F_le, T_eq, F_eq, F_neg, T_ltm, F_lem, F_ltm, nI_add, nI_mul, nI_sub, ldI_n, stI_n, aix_n, ldL_n, stL_n, ldF_n, gI_atE, gI_ne1, gI_ne2, gL_atE, gL_ne1, gL_ne2, gL_s, gI_s, w7T, w7F1, w7F2, and31, K0, K1, K2, K3, K4, K5, K6, K7, K8, K9, K10, K11, K12, K14, K16, K18, K20, K24, K29, K30, K31, K32, K33, K36, K38, K40, K41, K42, K48, K50, K51, K54, K57, K59, K60, K63, K70, K71, K84, K94, K97, K100, K101, K104, K108, K112, K120, K121, K122, K123, K124, K125, K127, K255, K300, K1000, K9999, K99999, K2147483647, e1, hκ', f1', hv']
theorem stir7_u {μ0 : Mem} {κ v e k d : Nat} (he : e < 6) (hv : gI μ0 2002 e = nI v) (hκ : gI μ0 2001 e = nI κ) (hκ6 : κ ≤ 6) (hk : k = 2 ∨ k = 3) : ∀ (μ : Mem) (bs : List Nat) (x : Int32), CR7 μ0 μ bs → bs.length + 3 ≤ 20 → ∃ ν, G_stirs (d + 2) μ (nI e) (nI k) x = some (st0 v e κ x, ν) ∧ CR7 μ0 ν (bs ++ ([11] ++ tkB κ)) := by
  intro μ bs x h hl
  obtain ⟨ν, e1, e2⟩ := stir7_0 (d := d) he hv hκ hκ6 μ bs x h hl
  refine ⟨ν, ?_, e2⟩
  show b_X7_stirs (G_stirs (d + 1)) μ (nI e) (nI k) x = _
  unfold b_X7_stirs f_X7_stirs_129 f_X7_above
  rcases hk with rfl | rfl
  · simp (disch := omega) only [ofN, lC_lt, lC_ge, lC_eq, lC_gt, lC_le, T_ltL, F_ltL, T_leL, F_leL, T_eqL, F_eqL, m1_0, lN_add, nI_lE, lN_i, ↓reduceIte, bind_p, T_lt, F_lt, T_le, F_le, T_eq, F_eq, F_neg, T_ltm, F_lem, F_ltm, nI_add, nI_mul, nI_sub, ldI_n, stI_n, aix_n, ldL_n, stL_n, ldF_n, gI_atE, gI_ne1, gI_ne2, gL_atE, gL_ne1, gL_ne2, gL_s, gI_s, w7T, w7F1, w7F2, and31, K0, K1, K2, K3, K4, K5, K6, K7, K8, K9, K10, K11, K12, K14, K16, K18, K20, K24, K29, K30, K31, K32, K33, K36, K38, K40, K41, K42, K48, K50, K51, K54, K57, K59, K60, K63, K70, K71, K84, K94, K97, K100, K101, K104, K108, K112, K120, K121, K122, K123, K124, K125, K127, K255, K300, K1000, K9999, K99999, K2147483647, e1]
  · simp (disch := omega) only [ofN, lC_lt, lC_ge, lC_eq, lC_gt, lC_le, T_ltL, F_ltL, T_leL, F_leL, T_eqL, F_eqL, m1_0, lN_add, nI_lE, lN_i, ↓reduceIte, bind_p, T_lt, F_lt, T_le, F_le, T_eq, F_eq, F_neg, T_ltm, F_lem, F_ltm, nI_add, nI_mul, nI_sub, ldI_n, stI_n, aix_n, ldL_n, stL_n, ldF_n, gI_atE, gI_ne1, gI_ne2, gL_atE, gL_ne1, gL_ne2, gL_s, gI_s, w7T, w7F1, w7F2, and31, K0, K1, K2, K3, K4, K5, K6, K7, K8, K9, K10, K11, K12, K14, K16, K18, K20, K24, K29, K30, K31, K32, K33, K36, K38, K40, K41, K42, K48, K50, K51, K54, K57, K59, K60, K63, K70, K71, K84, K94, K97, K100, K101, K104, K108, K112, K120, K121, K122, K123, K124, K125, K127, K255, K300, K1000, K9999, K99999, K2147483647, e1]
theorem stir7_1 {μ0 : Mem} {κ v e d : Nat} (he : e < 6) (hv : gI μ0 2002 e = nI v) (hκ : gI μ0 2001 e = nI κ) (hκ6 : κ ≤ 6) : ∀ (μ : Mem) (bs : List Nat) (x : Int32), CR7 μ0 μ bs → bs.length + 4 ≤ 20 → ∃ ν, G_stirs (d + 2) μ (nI e) (nI 1) x = some (st0 v e κ x ^^^ nI 6, ν) ∧ CR7 μ0 ν (bs ++ ([20] ++ ([11] ++ tkB κ))) := by
  intro μ bs x h hl
  obtain ⟨ν, e1, e2⟩ := bg7 (b := 20) h (by omega)
  obtain ⟨ξ, f1, f2⟩ := stir7_0 (d := d) he hv hκ hκ6 ν _ x e2 (by rw [len1]; omega)
  refine ⟨ξ, ?_, by rw [List.append_assoc] at f2; exact f2⟩
  show b_X7_stirs (G_stirs (d + 1)) μ (nI e) (nI 1) x = _
  unfold b_X7_stirs
  simp (disch := omega) only [ofN, lC_lt, lC_ge, lC_eq, lC_gt, lC_le, T_ltL, F_ltL, T_leL, F_leL, T_eqL, F_eqL, m1_0, lN_add, nI_lE, lN_i, ↓reduceIte, bind_p, T_lt, F_lt, T_le, F_le, T_eq, F_eq, F_neg, T_ltm, F_lem, F_ltm, nI_add, nI_mul, nI_sub, ldI_n, stI_n, aix_n, ldL_n, stL_n, ldF_n, gI_atE, gI_ne1, gI_ne2, gL_atE, gL_ne1, gL_ne2, gL_s, gI_s, w7T, w7F1, w7F2, and31, K0, K1, K2, K3, K4, K5, K6, K7, K8, K9, K10, K11, K12, K14, K16, K18, K20, K24, K29, K30, K31, K32, K33, K36, K38, K40, K41, K42, K48, K50, K51, K54, K57, K59, K60, K63, K70, K71, K84, K94, K97, K100, K101, K104, K108, K112, K120, K121, K122, K123, K124, K125, K127, K255, K300, K1000, K9999, K99999, K2147483647, e1, f1]
theorem stir7 {μ0 : Mem} {κ v e k d : Nat} (he : e < 6) (hv : gI μ0 2002 e = nI v) (hκ : gI μ0 2001 e = nI κ) (hκ6 : κ ≤ 6) (hk : k ≤ 6) : ∀ (μ : Mem) (bs : List Nat) (x : Int32), CR7 μ0 μ bs → bs.length + 6 ≤ 20 → ∃ ν, G_stirs (d + 3) μ (nI e) (nI k) x = some (stV v e κ k x, ν) ∧ CR7 μ0 ν (bs ++ stB κ k) := by
  intro μ bs x h hl
  have htl := tkB_l κ
  rcases (show k = 0 ∨ k = 1 ∨ k = 2 ∨ k = 3 ∨ k = 4 ∨ k = 5 ∨ k = 6 by omega) with rfl | rfl | rfl | rfl | rfl | rfl | rfl
  · exact stir7_0 (d := d + 2) he hv hκ hκ6 μ bs x h (by omega)
  · exact stir7_1 (d := d + 1) he hv hκ hκ6 μ bs x h (by omega)
  · exact stir7_u (d := d + 1) he hv hκ hκ6 (.inl rfl) μ bs x h (by omega)
  · exact stir7_u (d := d + 1) he hv hκ hκ6 (.inr rfl) μ bs x h (by omega)
  · obtain ⟨ν, e1, e2⟩ := bg7 (b := 51) h (by omega)
    obtain ⟨ξ, f1, f2⟩ := stir7_1 (d := d) he hv hκ hκ6 ν _ (x + nI 1) e2 (by rw [len1]; omega)
    refine ⟨ξ, ?_, by rw [List.append_assoc] at f2; exact f2⟩
    show b_X7_stirs (G_stirs (d + 2)) μ (nI e) (nI 4) x = some (st0 v e κ (x + nI 1) ^^^ nI 6, ξ)
    unfold b_X7_stirs
    simp (disch := omega) only [ofN, lC_lt, lC_ge, lC_eq, lC_gt, lC_le, T_ltL, F_ltL, T_leL, F_leL, T_eqL, F_eqL, m1_0, lN_add, nI_lE, lN_i, ↓reduceIte, bind_p, T_lt, F_lt, T_le, F_le, T_eq, F_eq, F_neg, T_ltm, F_lem, F_ltm, nI_add, nI_mul, nI_sub, ldI_n, stI_n, aix_n, ldL_n, stL_n, ldF_n, gI_atE, gI_ne1, gI_ne2, gL_atE, gL_ne1, gL_ne2, gL_s, gI_s, w7T, w7F1, w7F2, and31, K0, K1, K2, K3, K4, K5, K6, K7, K8, K9, K10, K11, K12, K14, K16, K18, K20, K24, K29, K30, K31, K32, K33, K36, K38, K40, K41, K42, K48, K50, K51, K54, K57, K59, K60, K63, K70, K71, K84, K94, K97, K100, K101, K104, K108, K112, K120, K121, K122, K123, K124, K125, K127, K255, K300, K1000, K9999, K99999, K2147483647, e1, f1]
  · obtain ⟨ξ, f1, f2⟩ := stir7_u (d := d) he hv hκ hκ6 (.inl rfl) μ bs x h (by omega)
    refine ⟨ξ, ?_, f2⟩
    show b_X7_stirs (G_stirs (d + 2)) μ (nI e) (nI 5) x = some (st0 v e κ x, ξ)
    unfold b_X7_stirs f_X7_stirs_129 f_X7_above
    simp (disch := omega) only [ofN, lC_lt, lC_ge, lC_eq, lC_gt, lC_le, T_ltL, F_ltL, T_leL, F_leL, T_eqL, F_eqL, m1_0, lN_add, nI_lE, lN_i, ↓reduceIte, bind_p, T_lt, F_lt, T_le, F_le, T_eq, F_eq, F_neg, T_ltm, F_lem, F_ltm, nI_add, nI_mul, nI_sub, ldI_n, stI_n, aix_n, ldL_n, stL_n, ldF_n, gI_atE, gI_ne1, gI_ne2, gL_atE, gL_ne1, gL_ne2, gL_s, gI_s, w7T, w7F1, w7F2, and31, K0, K1, K2, K3, K4, K5, K6, K7, K8, K9, K10, K11, K12, K14, K16, K18, K20, K24, K29, K30, K31, K32, K33, K36, K38, K40, K41, K42, K48, K50, K51, K54, K57, K59, K60, K63, K70, K71, K84, K94, K97, K100, K101, K104, K108, K112, K120, K121, K122, K123, K124, K125, K127, K255, K300, K1000, K9999, K99999, K2147483647, f1]
  · obtain ⟨ν, e1, e2⟩ := bg7 (b := 70) h (by omega)
    obtain ⟨ξ, f1, f2⟩ := stir7_u (d := d) he hv hκ hκ6 (.inr rfl) ν _ x e2 (by rw [len1]; omega)
    obtain ⟨ζ, g1, g2⟩ := tick7 (k := 3) (d := 5) he hv (by omega) ξ _ (nI 2) f2 (by simp only [List.length_append, List.length_cons, List.length_nil]; omega)
    have g1' : f_X7_ticks ξ (nI e) (nI 3) (nI 2) = some (nI 2 + nI e, ζ) := g1
    refine ⟨ζ, ?_, ?_⟩
    · show b_X7_stirs (G_stirs (d + 2)) μ (nI e) (nI 6) x = some (st0 v e κ x + (nI 2 + nI e), ζ)
      unfold b_X7_stirs
      simp (disch := omega) only [bind_p, ↓reduceIte, K0, K1, K2, K3, K4, K6, K70, T_eq, F_eq, e1, f1, g1']
    · have q1 : bs ++ [70] ++ ([11] ++ tkB κ) ++ tkB 3 = bs ++ stB κ 6 := by
        show bs ++ [70] ++ ([11] ++ tkB κ) ++ [10] = bs ++ ([70] ++ (([11] ++ tkB κ) ++ [10]))
        rw [List.append_assoc, List.append_assoc]
      rw [q1] at g2
      exact g2
theorem tell7_0 {μ0 : Mem} {κ v e d : Nat} (he : e < 6) (hv : gI μ0 2002 e = nI v) (hκ : gI μ0 2001 e = nI κ) (hκ6 : κ ≤ 6) : ∀ (μ : Mem) (bs : List Nat) (x : Int32), CR7 μ0 μ bs → bs.length + 7 ≤ 20 → ∃ ν, G_tells (d + 1) μ (nI e) (nI 0) x = some (te0 v e κ x, ν) ∧ CR7 μ0 ν (bs ++ ([12] ++ stB κ κ)) := by
  intro μ bs x h hl
  obtain ⟨ν, e1, e2⟩ := bg7 (b := 12) h (by omega)
  obtain ⟨ξ, f1, f2⟩ := stir7 (d := 5) he hv hκ hκ6 hκ6 ν _ x e2 (by rw [len1]; omega)
  have hκ' : gI ν 2001 e = nI κ := by rw [e2.1 2001 (by omega) (by omega)]; exact hκ
  refine ⟨ξ, ?_, by rw [List.append_assoc] at f2; exact f2⟩
  have f1' : f_X7_stirs ν (nI e) (nI κ) x = some (stV v e κ κ x, ξ) := f1
  show b_X7_tells (G_tells d) μ (nI e) (nI 0) x = some (stV v e κ κ x * nI 2, ξ)
  unfold b_X7_tells
  simp (disch := omega) only [ofN, lC_lt, lC_ge, lC_eq, lC_gt, lC_le, T_ltL, F_ltL, T_leL, F_leL, T_eqL, F_eqL, m1_0, lN_add, nI_lE, lN_i, ↓reduceIte, bind_p, T_lt, F_lt, T_le, F_le, T_eq, F_eq, F_neg, T_ltm, F_lem, F_ltm, nI_add, nI_mul, nI_sub, ldI_n, stI_n, aix_n, ldL_n, stL_n, ldF_n, gI_atE, gI_ne1, gI_ne2, gL_atE, gL_ne1, gL_ne2, gL_s, gI_s, w7T, w7F1, w7F2, and31, K0, K1, K2, K3, K4, K5, K6, K7, K8, K9, K10, K11, K12, K14, K16, K18, K20, K24, K29, K30, K31, K32, K33, K36, K38, K40, K41, K42, K48, K50, K51, K54, K57, K59, K60, K63, K70, K71, K84, K94, K97, K100, K101, K104, K108, K112, K120, K121, K122, K123, K124, K125, K127, K255, K300, K1000, K9999, K99999, K2147483647, e1, hκ', f1']
theorem tell7_u {μ0 : Mem} {κ v e k d : Nat} (he : e < 6) (hv : gI μ0 2002 e = nI v) (hκ : gI μ0 2001 e = nI κ) (hκ6 : κ ≤ 6) (hk : k = 1 ∨ k = 2) : ∀ (μ : Mem) (bs : List Nat) (x : Int32), CR7 μ0 μ bs → bs.length + 7 ≤ 20 → ∃ ν, G_tells (d + 2) μ (nI e) (nI k) x = some (te0 v e κ x, ν) ∧ CR7 μ0 ν (bs ++ ([12] ++ stB κ κ)) := by
  intro μ bs x h hl
  obtain ⟨ν, e1, e2⟩ := tell7_0 (d := d) he hv hκ hκ6 μ bs x h hl
  refine ⟨ν, ?_, e2⟩
  show b_X7_tells (G_tells (d + 1)) μ (nI e) (nI k) x = _
  unfold b_X7_tells f_X7_above
  rcases hk with rfl | rfl
  · simp (disch := omega) only [ofN, lC_lt, lC_ge, lC_eq, lC_gt, lC_le, T_ltL, F_ltL, T_leL, F_leL, T_eqL, F_eqL, m1_0, lN_add, nI_lE, lN_i, ↓reduceIte, bind_p, T_lt, F_lt, T_le, F_le, T_eq, F_eq, F_neg, T_ltm, F_lem, F_ltm, nI_add, nI_mul, nI_sub, ldI_n, stI_n, aix_n, ldL_n, stL_n, ldF_n, gI_atE, gI_ne1, gI_ne2, gL_atE, gL_ne1, gL_ne2, gL_s, gI_s, w7T, w7F1, w7F2, and31, K0, K1, K2, K3, K4, K5, K6, K7, K8, K9, K10, K11, K12, K14, K16, K18, K20, K24, K29, K30, K31, K32, K33, K36, K38, K40, K41, K42, K48, K50, K51, K54, K57, K59, K60, K63, K70, K71, K84, K94, K97, K100, K101, K104, K108, K112, K120, K121, K122, K123, K124, K125, K127, K255, K300, K1000, K9999, K99999, K2147483647, e1]
  · simp (disch := omega) only [ofN, lC_lt, lC_ge, lC_eq, lC_gt, lC_le, T_ltL, F_ltL, T_leL, F_leL, T_eqL, F_eqL, m1_0, lN_add, nI_lE, lN_i, ↓reduceIte, bind_p, T_lt, F_lt, T_le, F_le, T_eq, F_eq, F_neg, T_ltm, F_lem, F_ltm, nI_add, nI_mul, nI_sub, ldI_n, stI_n, aix_n, ldL_n, stL_n, ldF_n, gI_atE, gI_ne1, gI_ne2, gL_atE, gL_ne1, gL_ne2, gL_s, gI_s, w7T, w7F1, w7F2, and31, K0, K1, K2, K3, K4, K5, K6, K7, K8, K9, K10, K11, K12, K14, K16, K18, K20, K24, K29, K30, K31, K32, K33, K36, K38, K40, K41, K42, K48, K50, K51, K54, K57, K59, K60, K63, K70, K71, K84, K94, K97, K100, K101, K104, K108, K112, K120, K121, K122, K123, K124, K125, K127, K255, K300, K1000, K9999, K99999, K2147483647, e1]
theorem tell7_3 {μ0 : Mem} {κ v e d : Nat} (he : e < 6) (hv : gI μ0 2002 e = nI v) (hκ : gI μ0 2001 e = nI κ) (hκ6 : κ ≤ 6) : ∀ (μ : Mem) (bs : List Nat) (x : Int32), CR7 μ0 μ bs → bs.length + 13 ≤ 20 → ∃ ν, G_tells (d + 2) μ (nI e) (nI 3) x = some (te0 v e κ x + stV v e κ κ (nI 1), ν) ∧ CR7 μ0 ν (bs ++ ([40] ++ (([12] ++ stB κ κ) ++ stB κ κ))) := by
  intro μ bs x h hl
  have hsl := stB_l κ κ
  obtain ⟨ν, e1, e2⟩ := bg7 (b := 40) h (by omega)
  obtain ⟨ξ, f1, f2⟩ := tell7_0 (d := d) he hv hκ hκ6 ν _ x e2 (by rw [len1]; omega)
  obtain ⟨ζ, g1, g2⟩ := stir7 (d := 5) he hv hκ hκ6 hκ6 ξ _ (nI 1) f2 (by simp only [List.length_append, List.length_cons, List.length_nil]; omega)
  have hκ' : gI ξ 2001 e = nI κ := by rw [f2.1 2001 (by omega) (by omega)]; exact hκ
  have g1' : f_X7_stirs ξ (nI e) (nI κ) (nI 1) = some (stV v e κ κ (nI 1), ζ) := g1
  refine ⟨ζ, ?_, ?_⟩
  · show b_X7_tells (G_tells (d + 1)) μ (nI e) (nI 3) x = _
    unfold b_X7_tells
    simp (disch := omega) only [ofN, lC_lt, lC_ge, lC_eq, lC_gt, lC_le, T_ltL, F_ltL, T_leL, F_leL, T_eqL, F_eqL, m1_0, lN_add, nI_lE, lN_i, ↓reduceIte, bind_p, T_lt, F_lt, T_le, F_le, T_eq, F_eq, F_neg, T_ltm, F_lem, F_ltm, nI_add, nI_mul, nI_sub, ldI_n, stI_n, aix_n, ldL_n, stL_n, ldF_n, gI_atE, gI_ne1, gI_ne2, gL_atE, gL_ne1, gL_ne2, gL_s, gI_s, w7T, w7F1, w7F2, and31, K0, K1, K2, K3, K4, K5, K6, K7, K8, K9, K10, K11, K12, K14, K16, K18, K20, K24, K29, K30, K31, K32, K33, K36, K38, K40, K41, K42, K48, K50, K51, K54, K57, K59, K60, K63, K70, K71, K84, K94, K97, K100, K101, K104, K108, K112, K120, K121, K122, K123, K124, K125, K127, K255, K300, K1000, K9999, K99999, K2147483647, e1, f1, hκ', g1']
  · have q1 : bs ++ [40] ++ ([12] ++ stB κ κ) ++ stB κ κ = bs ++ ([40] ++ (([12] ++ stB κ κ) ++ stB κ κ)) := by
      rw [List.append_assoc, List.append_assoc]
    rw [q1] at g2
    exact g2
theorem tell7 {μ0 : Mem} {κ v e k d : Nat} (he : e < 6) (hv : gI μ0 2002 e = nI v) (hκ : gI μ0 2001 e = nI κ) (hκ6 : κ ≤ 6) (hk : k ≤ 6) : ∀ (μ : Mem) (bs : List Nat) (x : Int32), CR7 μ0 μ bs → bs.length + 13 ≤ 20 → ∃ ν, G_tells (d + 3) μ (nI e) (nI k) x = some (teV v e κ k x, ν) ∧ CR7 μ0 ν (bs ++ teB κ k) := by
  intro μ bs x h hl
  rcases (show k = 0 ∨ k = 1 ∨ k = 2 ∨ k = 3 ∨ k = 4 ∨ k = 5 ∨ k = 6 by omega) with rfl | rfl | rfl | rfl | rfl | rfl | rfl
  · exact tell7_0 (d := d + 2) he hv hκ hκ6 μ bs x h (by omega)
  · exact tell7_u (d := d + 1) he hv hκ hκ6 (.inl rfl) μ bs x h (by omega)
  · exact tell7_u (d := d + 1) he hv hκ hκ6 (.inr rfl) μ bs x h (by omega)
  · exact tell7_3 (d := d + 1) he hv hκ hκ6 μ bs x h (by omega)
  · obtain ⟨ξ, f1, f2⟩ := tell7_u (d := d) he hv hκ hκ6 (.inl rfl) μ bs x h (by omega)
    refine ⟨ξ, ?_, f2⟩
    show b_X7_tells (G_tells (d + 2)) μ (nI e) (nI 4) x = some (te0 v e κ x, ξ)
    unfold b_X7_tells f_X7_above
    simp (disch := omega) only [ofN, lC_lt, lC_ge, lC_eq, lC_gt, lC_le, T_ltL, F_ltL, T_leL, F_leL, T_eqL, F_eqL, m1_0, lN_add, nI_lE, lN_i, ↓reduceIte, bind_p, T_lt, F_lt, T_le, F_le, T_eq, F_eq, F_neg, T_ltm, F_lem, F_ltm, nI_add, nI_mul, nI_sub, ldI_n, stI_n, aix_n, ldL_n, stL_n, ldF_n, gI_atE, gI_ne1, gI_ne2, gL_atE, gL_ne1, gL_ne2, gL_s, gI_s, w7T, w7F1, w7F2, and31, K0, K1, K2, K3, K4, K5, K6, K7, K8, K9, K10, K11, K12, K14, K16, K18, K20, K24, K29, K30, K31, K32, K33, K36, K38, K40, K41, K42, K48, K50, K51, K54, K57, K59, K60, K63, K70, K71, K84, K94, K97, K100, K101, K104, K108, K112, K120, K121, K122, K123, K124, K125, K127, K255, K300, K1000, K9999, K99999, K2147483647, f1]
  · obtain ⟨ν, e1, e2⟩ := bg7 (b := 60) h (by omega)
    obtain ⟨ξ, f1, f2⟩ := tell7_u (d := d) he hv hκ hκ6 (.inr rfl) ν _ (x - nI e) e2 (by rw [len1]; omega)
    refine ⟨ξ, ?_, by rw [List.append_assoc] at f2; exact f2⟩
    show b_X7_tells (G_tells (d + 2)) μ (nI e) (nI 5) x = some (te0 v e κ (x - nI e), ξ)
    unfold b_X7_tells
    simp (disch := omega) only [ofN, lC_lt, lC_ge, lC_eq, lC_gt, lC_le, T_ltL, F_ltL, T_leL, F_leL, T_eqL, F_eqL, m1_0, lN_add, nI_lE, lN_i, ↓reduceIte, bind_p, T_lt, F_lt, T_le, F_le, T_eq, F_eq, F_neg, T_ltm, F_lem, F_ltm, nI_add, nI_mul, nI_sub, ldI_n, stI_n, aix_n, ldL_n, stL_n, ldF_n, gI_atE, gI_ne1, gI_ne2, gL_atE, gL_ne1, gL_ne2, gL_s, gI_s, w7T, w7F1, w7F2, and31, K0, K1, K2, K3, K4, K5, K6, K7, K8, K9, K10, K11, K12, K14, K16, K18, K20, K24, K29, K30, K31, K32, K33, K36, K38, K40, K41, K42, K48, K50, K51, K54, K57, K59, K60, K63, K70, K71, K84, K94, K97, K100, K101, K104, K108, K112, K120, K121, K122, K123, K124, K125, K127, K255, K300, K1000, K9999, K99999, K2147483647, e1, f1]
  · obtain ⟨ξ, f1, f2⟩ := tell7_3 (d := d) he hv hκ hκ6 μ bs x h (by omega)
    refine ⟨ξ, ?_, f2⟩
    show b_X7_tells (G_tells (d + 2)) μ (nI e) (nI 6) x = some (te0 v e κ x + stV v e κ κ (nI 1), ξ)
    unfold b_X7_tells f_X7_above
    simp (disch := omega) only [ofN, lC_lt, lC_ge, lC_eq, lC_gt, lC_le, T_ltL, F_ltL, T_leL, F_leL, T_eqL, F_eqL, m1_0, lN_add, nI_lE, lN_i, ↓reduceIte, bind_p, T_lt, F_lt, T_le, F_le, T_eq, F_eq, F_neg, T_ltm, F_lem, F_ltm, nI_add, nI_mul, nI_sub, ldI_n, stI_n, aix_n, ldL_n, stL_n, ldF_n, gI_atE, gI_ne1, gI_ne2, gL_atE, gL_ne1, gL_ne2, gL_s, gI_s, w7T, w7F1, w7F2, and31, K0, K1, K2, K3, K4, K5, K6, K7, K8, K9, K10, K11, K12, K14, K16, K18, K20, K24, K29, K30, K31, K32, K33, K36, K38, K40, K41, K42, K48, K50, K51, K54, K57, K59, K60, K63, K70, K71, K84, K94, K97, K100, K101, K104, K108, K112, K120, K121, K122, K123, K124, K125, K127, K255, K300, K1000, K9999, K99999, K2147483647, f1]
/-- the end of act: the trace alone has changed -/
theorem act_fin {T : PT} {μ ν ξ : Mem} {bs : List Nat} {r : Int32} {fx fm : Mem → Option (Int32 × Mem)} (hR : RR T μ) (hl : bs.length ≤ 20) (h1 : fx μ = some (r, ν)) (h2 : fm ν = some (r, ξ))
    (c1 : ∀ k, k ≠ 5 → k ≠ 6 → gI ν k = gI μ k) (c2 : ∀ k, gL ν k = gL μ k) (c3 : gI ν 5 1 = nI bs.length) (c4 : ∀ i, i < bs.length → gI ν 6 i = nI (bs.getD i 0)) (d1 : CR7 ν ξ bs) : Step μ fx fm := by
  obtain ⟨⟨_, _, x3, _, x5, x6⟩, ⟨_, _, m3, _, m5, m6⟩, _, _, o3, _, o5, o6⟩ := id hR
  obtain ⟨k1, k2, k3, k4, k5⟩ := d1
  have e1 : ∀ k, k ≠ 5 → k ≠ 6 → k ≠ 2000 → k ≠ 2038 → gI ξ k = gI μ k := fun k q1 q2 q3 q4 => (k1 k q3 q4).trans (c1 k q1 q2)
  have e2 : ∀ i, i ≠ 37 → gI ξ 2000 i = gI μ 2000 i := fun i q => by rw [k2 i q, c1 2000 (by omega) (by omega)]
  have e3 : ∀ k, gL ξ k = gL μ k := fun k => (k3 k).trans (c2 k)
  refine ⟨r, ν, ξ, glo T (fun a b => if a = 37 then bs.length else if a = 38 then bs.getD b 0 else T.1 2 a b), h1, h2, ?_⟩
  refine R_glob hR (glo_0 _ _) (glo_1 _ _) (by rw [glo_r]) (by rw [glo_2]; rfl) (by rw [glo_2]; rfl) (fun k hk => e1 k (by omega) (by omega) (by omega) (by omega)) (fun k q1 q2 q3 q4 => e1 k (by omega) (by omega) (by omega) q4) (fun i q1 q2 => e2 i q2) ?_ ?_ ?_ ?_ ?_ ?_ ?_ ?_ ?_
  all_goals rw [glo_2]
  all_goals try rw [glo_r]
  · rw [e1 2 (by omega) (by omega) (by omega) (by omega), e1 3 (by omega) (by omega) (by omega) (by omega)]; exact x3
  · rw [k1 5 (by omega) (by omega), k1 6 (by omega) (by omega)]
    exact ⟨c3, fun i hi _ => c4 i hi⟩
  · intro t ht
    rw [e1 _ (by omega) (by omega) (by omega) (by omega), e3]; exact x6 t ht
  · rw [e2 11 (by omega), e1 2012 (by omega) (by omega) (by omega) (by omega)]; exact m3
  · exact ⟨k4, fun i hi _ => k5 i hi⟩
  · intro t ht
    rw [e1 2042 (by omega) (by omega) (by omega) (by omega), e1 2043 (by omega) (by omega) (by omega) (by omega), e3]; exact m6 t ht
  · exact o3
  · show bs.length ≤ 100000
    omega
  · exact o6
theorem s_act {T : PT} {μ : Mem} (hR : RR T μ) (a b x : Int32) : Step μ (fun μ => f_X6_act μ a b x) (fun μ => f_X7_act μ a b x) := by
  obtain ⟨⟨x1, _⟩, ⟨m1, _⟩, o1, _⟩ := id hR
  have hE := o1.1.1
  have nil7 : ∀ ν, CR7 ν (sI ν 2000 37 (nI 0)) [] := fun ν => ⟨fun k q1 q2 => gI_sI_ne q1, fun i hi => gI_ne2 hi, fun k => rfl, gI_at _ _ _ _, fun i hi => by simp at hi⟩
  have no : f_X6_act μ a b x = some (0, sI μ 5 1 (nI 0)) → f_X7_act (sI μ 5 1 (nI 0)) a b x = some (0, sI (sI μ 5 1 (nI 0)) 2000 37 (nI 0)) → Step μ (fun μ => f_X6_act μ a b x) (fun μ => f_X7_act μ a b x) := fun h1 h2 =>
    act_fin (bs := []) hR (by simp) h1 h2 (fun k q1 q2 => gI_sI_ne q1) (fun k => rfl) (gI_at _ _ _ _) (fun i hi => by simp at hi) (nil7 _)
  have x0 : gI (sI μ 5 1 (nI 0)) 100 0 = nI (T.1 0 0 0) := by rw [gI_ne1 (by omega)]; exact x1.1.1
  have m0 : ∀ ν, (∀ k, k ≠ 5 → k ≠ 6 → gI ν k = gI μ k) → gI (sI ν 2000 37 (nI 0)) 2000 0 = nI (T.1 0 0 0) := fun ν hν => by rw [gI_ne2 (by omega), hν 2000 (by omega) (by omega)]; exact m1.1.1
  rcases oneS (S := 100) (E := T.1 0 0 0) (by omega) a with ⟨e, he, rfl, hx, hm⟩ | ⟨hn, hx, hm⟩
  · rcases arg b (lo := 0) (hi := 2) (A := 0) (B := 2) (C := 0) (D := 2) rfl rfl rfl rfl with ⟨q, _, hq, _, rfl, hbx, hbm⟩ | ⟨_, hbx, hbm⟩
    · obtain ⟨κ, hκd⟩ : ∃ κ, κ = T.1 0 1 e := ⟨_, rfl⟩
      obtain ⟨v, hvd⟩ : ∃ v, v = T.1 0 2 e := ⟨_, rfl⟩
      have hκ6 : κ ≤ 6 := by rw [hκd]; exact (o1.e he).1.1
      have xk : gI μ (100 + 1 + 1 + e) 0 = nI κ := by rw [hκd]; exact (x1.2.1 e he).1 0 (by omega)
      have xv : gI μ (100 + 1 + 1 + e) 1 = nI v := by rw [hvd]; exact (x1.2.1 e he).1 1 (by omega)
      have mk : gI μ 2001 e = nI κ := by rw [hκd]; exact (m1.2.1 e he).1 0 (by omega)
      have mv : gI μ 2002 e = nI v := by rw [hvd]; exact (m1.2.1 e he).1 1 (by omega)
      obtain ⟨μ1, hμ1⟩ : ∃ μ1, μ1 = sI (sI (sI (sI μ 5 1 (nI 0)) 5 2 (nI κ)) 5 3 (nI v)) 5 4 (nI e) := ⟨_, rfl⟩
      have hCS : CS μ μ1 [] κ v e := by
        rw [hμ1]
        refine ⟨fun k q1 q2 => by rw [gI_sI_ne q1, gI_sI_ne q1, gI_sI_ne q1, gI_sI_ne q1], fun k => rfl, ?_, ?_, ?_, ?_, fun i hi => by simp at hi⟩
        · rw [gI_ne2 (by omega), gI_ne2 (by omega), gI_ne2 (by omega), gI_at]; rfl
        · rw [gI_ne2 (by omega), gI_ne2 (by omega), gI_at]
        · rw [gI_ne2 (by omega), gI_at]
        · rw [gI_at]
      have cl : ∀ r ν, (G_acts 39).2 μ1 (nI κ) (nI q) x (nI 0) = some (r, ν) → f_X6_act μ (nI e) (nI q) x = some (r, ν) := fun r ν hr => by
        unfold f_X6_act f_X0_perform
        rw [show (sI μ 5 1 (0 : Int32)) = sI μ 5 1 (nI 0) from rfl]
        simp only [bind_p]
        rw [hx _ x0, hbx]
        simp only [bind_p]
        rw [if_neg (by decide), if_neg (by decide), aix_n (by omega) (by omega)]
        simp only [bind_p]
        rw [K0, ldI_n (by omega) (by omega), gI_ne1 (by omega), xk]
        simp only [bind_p]
        rw [K1, ldI_n (by omega) (by omega), gI_ne1 (by omega), gI_ne1 (by omega), xv]
        simp only [bind_p]
        rw [← hμ1]
        have ho : f_X0_own μ1 (nI q) x (nI 0) = some (r, ν) := by
          show (G_acts (39 + 1)).1 μ1 (nI q) x (nI 0) = _
          rw [own6 hCS, hr]
          rfl
        rw [ho]
        rfl
      have cm : ∀ r ν ξ, (∀ k, k ≠ 5 → k ≠ 6 → gI ν k = gI μ k) → (if nI q = (0 : Int32) then (f_X7_ticks (sI ν 2000 37 (nI 0)) (nI e) (nI κ) x).bind fun p44 => some (p44.1, p44.2) else if nI q = (1 : Int32) then (f_X7_stirs (sI ν 2000 37 (nI 0)) (nI e) (nI κ) x).bind fun p40 => some (p40.1, p40.2) else (f_X7_tells (sI ν 2000 37 (nI 0)) (nI e) (nI κ) x).bind fun p36 => some (p36.1, p36.2)) = some (r, ξ) → f_X7_act ν (nI e) (nI q) x = some (r, ξ) := fun r ν ξ hν hr => by
        unfold f_X7_act
        rw [show (sI ν 2000 37 (0 : Int32)) = sI ν 2000 37 (nI 0) from rfl]
        simp only [bind_p]
        rw [hm _ (m0 ν hν), hbm]
        simp only [bind_p]
        rw [if_neg (by decide), if_neg (by decide), ldI_n (by omega) (by omega), gI_ne1 (by omega), hν 2001 (by omega) (by omega), mk]
        exact hr
      rcases (show q = 0 ∨ q = 1 ∨ q = 2 by omega) with rfl | rfl | rfl
      · obtain ⟨ν, r1, r2⟩ := tick6 (k := κ) (d := 37) hκ6 μ1 [] 0 x hCS (by simp) (by omega)
        obtain ⟨ξ, f1, f2⟩ := tick7 (μ0 := ν) (v := v) (k := κ) (d := 5) (by omega : e < 6) (by rw [r2.1 2002 (by omega) (by omega)]; exact mv) hκ6 _ [] x (nil7 ν) (by simp)
        have f1' : f_X7_ticks (sI ν 2000 37 (nI 0)) (nI e) (nI κ) x = some (tkV v e κ x, ξ) := f1
        refine act_fin (bs := tkB κ) hR (by have := tkB_l κ; omega) (cl _ ν r1) (cm _ ν ξ r2.1 ?_) r2.1 r2.2.1 r2.2.2.1 r2.2.2.2.2.2.2 f2
        rw [if_pos (show nI 0 = (0 : Int32) from rfl), f1']
        rfl
      · obtain ⟨ν, r1, r2⟩ := stir6 (k := κ) (d := 33) hκ6 hκ6 μ1 [] 0 x hCS (by simp) (by omega)
        obtain ⟨ξ, f1, f2⟩ := stir7 (μ0 := ν) (v := v) (k := κ) (d := 5) (by omega : e < 6) (by rw [r2.1 2002 (by omega) (by omega)]; exact mv) (by rw [r2.1 2001 (by omega) (by omega)]; exact mk) hκ6 hκ6 _ [] x (nil7 ν) (by simp)
        have f1' : f_X7_stirs (sI ν 2000 37 (nI 0)) (nI e) (nI κ) x = some (stV v e κ κ x, ξ) := f1
        refine act_fin (bs := stB κ κ) hR (by have := stB_l κ κ; omega) (cl _ ν r1) (cm _ ν ξ r2.1 ?_) r2.1 r2.2.1 r2.2.2.1 r2.2.2.2.2.2.2 f2
        rw [if_neg (show ¬ nI 1 = (0 : Int32) by decide), if_pos (show nI 1 = (1 : Int32) from rfl), f1']
        rfl
      · obtain ⟨ν, r1, r2⟩ := tell6 (k := κ) (d := 30) hκ6 hκ6 μ1 [] 0 x hCS (by simp) (by omega)
        obtain ⟨ξ, f1, f2⟩ := tell7 (μ0 := ν) (v := v) (k := κ) (d := 5) (by omega : e < 6) (by rw [r2.1 2002 (by omega) (by omega)]; exact mv) (by rw [r2.1 2001 (by omega) (by omega)]; exact mk) hκ6 hκ6 _ [] x (nil7 ν) (by simp)
        have f1' : f_X7_tells (sI ν 2000 37 (nI 0)) (nI e) (nI κ) x = some (teV v e κ κ x, ξ) := f1
        refine act_fin (bs := teB κ κ) hR (by have := teB_l κ κ; omega) (cl _ ν r1) (cm _ ν ξ r2.1 ?_) r2.1 r2.2.1 r2.2.2.1 r2.2.2.2.2.2.2 f2
        rw [if_neg (show ¬ nI 2 = (0 : Int32) by decide), if_neg (show ¬ nI 2 = (1 : Int32) by decide), f1']
        rfl
    · refine no ?_ ?_
      · unfold f_X6_act
        rw [show (sI μ 5 1 (0 : Int32)) = sI μ 5 1 (nI 0) from rfl]
        simp only [bind_p]
        rw [hx _ x0, hbx]; rfl
      · unfold f_X7_act
        rw [show (sI (sI μ 5 1 (nI 0)) 2000 37 (0 : Int32)) = sI (sI μ 5 1 (nI 0)) 2000 37 (nI 0) from rfl]
        simp only [bind_p]
        rw [hm _ (m0 _ (fun k q1 q2 => gI_sI_ne q1)), hbm]; rfl
  · refine no ?_ ?_
    · unfold f_X6_act
      rw [show (sI μ 5 1 (0 : Int32)) = sI μ 5 1 (nI 0) from rfl]
      simp only [bind_p]
      rw [hx _ x0]; rfl
    · unfold f_X7_act
      rw [show (sI (sI μ 5 1 (nI 0)) 2000 37 (0 : Int32)) = sI (sI μ 5 1 (nI 0)) 2000 37 (nI 0) from rfl]
      simp only [bind_p]
      rw [hm _ (m0 _ (fun k q1 q2 => gI_sI_ne q1))]; rfl
