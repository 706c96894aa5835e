/-! acts -/
theorem getD_l {bs : List Nat} {b i : Nat} (h : i < bs.length) : (bs ++ [b]).getD i 0 = bs.getD i 0 := by
  rw [List.getD_eq_getElem?_getD, List.getD_eq_getElem?_getD, List.getElem?_append_left h]
theorem getD_e (bs : List Nat) (b : Nat) : (bs ++ [b]).getD bs.length 0 = b := by simp
/-- the trace in the class, what it acts for .. -/
def CS (μ0 μ : Mem) (bs : List Nat) (κ v e : Nat) : Prop := (∀ k, k ≠ 5 → k ≠ 6 → gI μ k = gI μ0 k) ∧ (∀ k, gL μ k = gL μ0 k) ∧ gI μ 5 1 = nI bs.length ∧ gI μ 5 2 = nI κ ∧ gI μ 5 3 = nI v ∧ gI μ 5 4 = nI e ∧ ∀ i, i < bs.length → gI μ 6 i = nI (bs.getD i 0)
/-- .. in the reference -/
def CR7 (μ0 μ : Mem) (bs : List Nat) : Prop := (∀ k, k ≠ 2000 → k ≠ 2038 → gI μ k = gI μ0 k) ∧ (∀ i, i ≠ 37 → gI μ 2000 i = gI μ0 2000 i) ∧ (∀ k, gL μ k = gL μ0 k) ∧ gI μ 2000 37 = nI bs.length ∧ ∀ i, i < bs.length → gI μ 2038 i = nI (bs.getD i 0)
theorem bg6 {μ0 μ : Mem} {bs : List Nat} {κ v e b : Nat} (h : CS μ0 μ bs κ v e) (hl : bs.length < 20) : ∃ ν, f_X0_begin μ (nI b) = some ν ∧ CS μ0 ν (bs ++ [b]) κ v e := by
  obtain ⟨h1, h2, h3, h4, h5, h6, h7⟩ := h
  refine ⟨sI (sI μ 6 bs.length (nI b)) 5 1 (nI (bs.length + 1)), ?_, ?_⟩
  · unfold f_X0_begin f_X0_begin_19
    rw [h3, K20, if_neg (nI_ge hl (by omega)), stI_n hl (by omega)]
    simp only [bind_p]
    rw [gI_ne1 (by omega), h3, K1, nI_add]
  · refine ⟨fun k q1 q2 => by rw [gI_sI_ne q1, gI_sI_ne q2]; exact h1 k q1 q2, h2, ?_, ?_, ?_, ?_, fun i hi => ?_⟩
    · rw [gI_at, List.length_append]; rfl
    · rw [gI_ne2 (by omega), gI_ne1 (by omega)]; exact h4
    · rw [gI_ne2 (by omega), gI_ne1 (by omega)]; exact h5
    · rw [gI_ne2 (by omega), gI_ne1 (by omega)]; exact h6
    · have hi' : i < bs.length + 1 := by simpa using hi
      rw [gI_ne1 (by omega)]
      by_cases q : i = bs.length
      · subst q; rw [gI_at, getD_e]
      · rw [gI_ne2 q, getD_l (by omega)]; exact h7 i (by omega)
theorem bg7 {μ0 μ : Mem} {bs : List Nat} {b : Nat} (h : CR7 μ0 μ bs) (hl : bs.length < 20) : ∃ ν, f_X7_ran μ (nI b) = some ν ∧ CR7 μ0 ν (bs ++ [b]) := by
  obtain ⟨h1, h2, h4, h3, h7⟩ := h
  refine ⟨sI (sI μ 2038 bs.length (nI b)) 2000 37 (nI (bs.length + 1)), ?_, ?_⟩
  · unfold f_X7_ran f_X7_ran_19
    rw [h3, K20, if_neg (nI_ge hl (by omega)), stI_n hl (by omega)]
    simp only [bind_p]
    rw [gI_ne1 (by omega), h3, K1, nI_add]
  · refine ⟨fun k q1 q2 => by rw [gI_sI_ne q1, gI_sI_ne q2]; exact h1 k q1 q2, fun i hi => by rw [gI_ne2 hi, gI_ne1 (by omega)]; exact h2 i hi, h4, ?_, fun i hi => ?_⟩
    · rw [gI_at, List.length_append]; rfl
    · have hi' : i < bs.length + 1 := by simpa using hi
      rw [gI_ne1 (by omega)]
      by_cases q : i = bs.length
      · subst q; rw [gI_at, getD_e]
      · rw [gI_ne2 q, getD_l (by omega)]; exact h7 i (by omega)
theorem fB_0_0 : fBO (0 * 3 + 0) = nI 10 := rfl
theorem fB_0_1 : fBO (0 * 3 + 1) = nI 11 := rfl
theorem fB_0_2 : fBO (0 * 3 + 2) = nI 12 := rfl
theorem fB_1_0 : fBO (1 * 3 + 0) = nI 0 := rfl
theorem fB_1_1 : fBO (1 * 3 + 1) = nI 20 := rfl
theorem fB_1_2 : fBO (1 * 3 + 2) = nI 0 := rfl
theorem fB_2_0 : fBO (2 * 3 + 0) = nI 30 := rfl
theorem fB_2_1 : fBO (2 * 3 + 1) = nI 0 := rfl
theorem fB_2_2 : fBO (2 * 3 + 2) = nI 0 := rfl
theorem fB_3_0 : fBO (3 * 3 + 0) = nI 0 := rfl
theorem fB_3_1 : fBO (3 * 3 + 1) = nI 0 := rfl
theorem fB_3_2 : fBO (3 * 3 + 2) = nI 40 := rfl
theorem fB_4_0 : fBO (4 * 3 + 0) = nI 50 := rfl
theorem fB_4_1 : fBO (4 * 3 + 1) = nI 51 := rfl
theorem fB_4_2 : fBO (4 * 3 + 2) = nI 0 := rfl
theorem fB_5_0 : fBO (5 * 3 + 0) = nI 0 := rfl
theorem fB_5_1 : fBO (5 * 3 + 1) = nI 0 := rfl
theorem fB_5_2 : fBO (5 * 3 + 2) = nI 60 := rfl
theorem fB_6_0 : fBO (6 * 3 + 0) = nI 71 := rfl
theorem fB_6_1 : fBO (6 * 3 + 1) = nI 70 := rfl
theorem fB_6_2 : fBO (6 * 3 + 2) = nI 0 := rfl
theorem wb_0_0 {μ : Mem} : f_X0_withBody μ (nI 0) (nI 0) = some (nI 0) := by
  unfold f_X0_withBody
  obtain ⟨N, hFU⟩ := FU_8; rw [hFU]; clear hFU
  rw [f_X0_withBody_4]
  simp (disch := omega) only [ofN, lC_lt, lC_ge, lC_eq, lC_gt, lC_le, T_ltL, F_ltL, T_leL, F_leL, T_eqL, F_eqL, m1_0, lN_add, nI_lE, lN_i, ↓reduceIte, bind_p, T_lt, F_lt, T_le, F_le, T_eq, F_eq, F_neg, T_ltm, F_lem, F_ltm, nI_add, nI_mul, nI_sub, ldI_n, stI_n, aix_n, ldL_n, stL_n, ldF_n, gI_atE, gI_ne1, gI_ne2, gL_atE, gL_ne1, gL_ne2, gL_s, gI_s, w7T, w7F1, w7F2, and31, K0, K1, K2, K3, K4, K5, K6, K7, K8, K9, K10, K11, K12, K14, K16, K18, K20, K24, K29, K30, K31, K32, K33, K36, K38, K40, K41, K42, K48, K50, K51, K54, K57, K59, K60, K63, K70, K71, K84, K94, K97, K100, K101, K104, K108, K112, K120, K121, K122, K123, K124, K125, K127, K255, K300, K1000, K9999, K99999, K2147483647, L0, L1, L2, L3, L4, L5, L6, L9, L29, L30, L60, L127, L9999, L1000000000, w6T, fB_0_0]
theorem rn_0_0 {μ0 μ : Mem} {bs : List Nat} {κ v e deep : Nat} (h : CS μ0 μ bs κ v e) (hl : bs.length < 20) (hd : deep ≤ 18) : ∃ ν, CS μ0 ν (bs ++ [10]) κ v e ∧ ∀ (G : (Mem → Int32 → Int32 → Int32 → Option (Int32 × Mem)) × (Mem → Int32 → Int32 → Int32 → Int32 → Option (Int32 × Mem))) (x : Int32), b_X0_run G μ (nI 0) (nI 0) x (nI deep) = some (x + gI ν 5 4, ν) := by
  obtain ⟨ν, e1, e2⟩ := bg6 (b := 10) h hl
  refine ⟨ν, e2, fun G x => ?_⟩
  unfold b_X0_run
  rw [wb_0_0]
  simp (disch := omega) only [ofN, lC_lt, lC_ge, lC_eq, lC_gt, lC_le, T_ltL, F_ltL, T_leL, F_leL, T_eqL, F_eqL, m1_0, lN_add, nI_lE, lN_i, ↓reduceIte, bind_p, T_lt, F_lt, T_le, F_le, T_eq, F_eq, F_neg, T_ltm, F_lem, F_ltm, nI_add, nI_mul, nI_sub, ldI_n, stI_n, aix_n, ldL_n, stL_n, ldF_n, gI_atE, gI_ne1, gI_ne2, gL_atE, gL_ne1, gL_ne2, gL_s, gI_s, w7T, w7F1, w7F2, and31, K0, K1, K2, K3, K4, K5, K6, K7, K8, K9, K10, K11, K12, K14, K16, K18, K20, K24, K29, K30, K31, K32, K33, K36, K38, K40, K41, K42, K48, K50, K51, K54, K57, K59, K60, K63, K70, K71, K84, K94, K97, K100, K101, K104, K108, K112, K120, K121, K122, K123, K124, K125, K127, K255, K300, K1000, K9999, K99999, K2147483647, fB_0_0, fAB_0, e1]
theorem wb_0_1 {μ : Mem} : f_X0_withBody μ (nI 0) (nI 1) = some (nI 0) := by
  unfold f_X0_withBody
  obtain ⟨N, hFU⟩ := FU_8; rw [hFU]; clear hFU
  rw [f_X0_withBody_4]
  simp (disch := omega) only [ofN, lC_lt, lC_ge, lC_eq, lC_gt, lC_le, T_ltL, F_ltL, T_leL, F_leL, T_eqL, F_eqL, m1_0, lN_add, nI_lE, lN_i, ↓reduceIte, bind_p, T_lt, F_lt, T_le, F_le, T_eq, F_eq, F_neg, T_ltm, F_lem, F_ltm, nI_add, nI_mul, nI_sub, ldI_n, stI_n, aix_n, ldL_n, stL_n, ldF_n, gI_atE, gI_ne1, gI_ne2, gL_atE, gL_ne1, gL_ne2, gL_s, gI_s, w7T, w7F1, w7F2, and31, K0, K1, K2, K3, K4, K5, K6, K7, K8, K9, K10, K11, K12, K14, K16, K18, K20, K24, K29, K30, K31, K32, K33, K36, K38, K40, K41, K42, K48, K50, K51, K54, K57, K59, K60, K63, K70, K71, K84, K94, K97, K100, K101, K104, K108, K112, K120, K121, K122, K123, K124, K125, K127, K255, K300, K1000, K9999, K99999, K2147483647, L0, L1, L2, L3, L4, L5, L6, L9, L29, L30, L60, L127, L9999, L1000000000, w6T, fB_0_1]
theorem rn_0_1 {μ0 μ : Mem} {bs : List Nat} {κ v e deep : Nat} (h : CS μ0 μ bs κ v e) (hl : bs.length < 20) (hd : deep ≤ 18) : ∃ ν, CS μ0 ν (bs ++ [11]) κ v e ∧ ∀ (G : (Mem → Int32 → Int32 → Int32 → Option (Int32 × Mem)) × (Mem → Int32 → Int32 → Int32 → Int32 → Option (Int32 × Mem))) (x : Int32), b_X0_run G μ (nI 0) (nI 1) x (nI deep) = (G.1 ν (nI 0) x (nI (deep + 1))).bind fun p => some (p.1 - gI p.2 5 3, p.2) := by
  obtain ⟨ν, e1, e2⟩ := bg6 (b := 11) h hl
  refine ⟨ν, e2, fun G x => ?_⟩
  unfold b_X0_run
  rw [wb_0_1]
  simp (disch := omega) only [ofN, lC_lt, lC_ge, lC_eq, lC_gt, lC_le, T_ltL, F_ltL, T_leL, F_leL, T_eqL, F_eqL, m1_0, lN_add, nI_lE, lN_i, ↓reduceIte, bind_p, T_lt, F_lt, T_le, F_le, T_eq, F_eq, F_neg, T_ltm, F_lem, F_ltm, nI_add, nI_mul, nI_sub, ldI_n, stI_n, aix_n, ldL_n, stL_n, ldF_n, gI_atE, gI_ne1, gI_ne2, gL_atE, gL_ne1, gL_ne2, gL_s, gI_s, w7T, w7F1, w7F2, and31, K0, K1, K2, K3, K4, K5, K6, K7, K8, K9, K10, K11, K12, K14, K16, K18, K20, K24, K29, K30, K31, K32, K33, K36, K38, K40, K41, K42, K48, K50, K51, K54, K57, K59, K60, K63, K70, K71, K84, K94, K97, K100, K101, K104, K108, K112, K120, K121, K122, K123, K124, K125, K127, K255, K300, K1000, K9999, K99999, K2147483647, fB_0_1, fAB_0, e1]
theorem wb_0_2 {μ : Mem} : f_X0_withBody μ (nI 0) (nI 2) = some (nI 0) := by
  unfold f_X0_withBody
  obtain ⟨N, hFU⟩ := FU_8; rw [hFU]; clear hFU
  rw [f_X0_withBody_4]
  simp (disch := omega) only [ofN, lC_lt, lC_ge, lC_eq, lC_gt, lC_le, T_ltL, F_ltL, T_leL, F_leL, T_eqL, F_eqL, m1_0, lN_add, nI_lE, lN_i, ↓reduceIte, bind_p, T_lt, F_lt, T_le, F_le, T_eq, F_eq, F_neg, T_ltm, F_lem, F_ltm, nI_add, nI_mul, nI_sub, ldI_n, stI_n, aix_n, ldL_n, stL_n, ldF_n, gI_atE, gI_ne1, gI_ne2, gL_atE, gL_ne1, gL_ne2, gL_s, gI_s, w7T, w7F1, w7F2, and31, K0, K1, K2, K3, K4, K5, K6, K7, K8, K9, K10, K11, K12, K14, K16, K18, K20, K24, K29, K30, K31, K32, K33, K36, K38, K40, K41, K42, K48, K50, K51, K54, K57, K59, K60, K63, K70, K71, K84, K94, K97, K100, K101, K104, K108, K112, K120, K121, K122, K123, K124, K125, K127, K255, K300, K1000, K9999, K99999, K2147483647, L0, L1, L2, L3, L4, L5, L6, L9, L29, L30, L60, L127, L9999, L1000000000, w6T, fB_0_2]
theorem rn_0_2 {μ0 μ : Mem} {bs : List Nat} {κ v e deep : Nat} (h : CS μ0 μ bs κ v e) (hl : bs.length < 20) (hd : deep ≤ 18) : ∃ ν, CS μ0 ν (bs ++ [12]) κ v e ∧ ∀ (G : (Mem → Int32 → Int32 → Int32 → Option (Int32 × Mem)) × (Mem → Int32 → Int32 → Int32 → Int32 → Option (Int32 × Mem))) (x : Int32), b_X0_run G μ (nI 0) (nI 2) x (nI deep) = (G.1 ν (nI 1) x (nI (deep + 1))).bind fun p => some (p.1 * nI 2, p.2) := by
  obtain ⟨ν, e1, e2⟩ := bg6 (b := 12) h hl
  refine ⟨ν, e2, fun G x => ?_⟩
  unfold b_X0_run
  rw [wb_0_2]
  simp (disch := omega) only [ofN, lC_lt, lC_ge, lC_eq, lC_gt, lC_le, T_ltL, F_ltL, T_leL, F_leL, T_eqL, F_eqL, m1_0, lN_add, nI_lE, lN_i, ↓reduceIte, bind_p, T_lt, F_lt, T_le, F_le, T_eq, F_eq, F_neg, T_ltm, F_lem, F_ltm, nI_add, nI_mul, nI_sub, ldI_n, stI_n, aix_n, ldL_n, stL_n, ldF_n, gI_atE, gI_ne1, gI_ne2, gL_atE, gL_ne1, gL_ne2, gL_s, gI_s, w7T, w7F1, w7F2, and31, K0, K1, K2, K3, K4, K5, K6, K7, K8, K9, K10, K11, K12, K14, K16, K18, K20, K24, K29, K30, K31, K32, K33, K36, K38, K40, K41, K42, K48, K50, K51, K54, K57, K59, K60, K63, K70, K71, K84, K94, K97, K100, K101, K104, K108, K112, K120, K121, K122, K123, K124, K125, K127, K255, K300, K1000, K9999, K99999, K2147483647, fB_0_2, fAB_0, e1]
theorem wb_1_0 {μ : Mem} : f_X0_withBody μ (nI 1) (nI 0) = some (nI 0) := by
  unfold f_X0_withBody
  obtain ⟨N, hFU⟩ := FU_8; rw [hFU]; clear hFU
  rw [f_X0_withBody_4]
  simp (disch := omega) only [ofN, lC_lt, lC_ge, lC_eq, lC_gt, lC_le, T_ltL, F_ltL, T_leL, F_leL, T_eqL, F_eqL, m1_0, lN_add, nI_lE, lN_i, ↓reduceIte, bind_p, T_lt, F_lt, T_le, F_le, T_eq, F_eq, F_neg, T_ltm, F_lem, F_ltm, nI_add, nI_mul, nI_sub, ldI_n, stI_n, aix_n, ldL_n, stL_n, ldF_n, gI_atE, gI_ne1, gI_ne2, gL_atE, gL_ne1, gL_ne2, gL_s, gI_s, w7T, w7F1, w7F2, and31, K0, K1, K2, K3, K4, K5, K6, K7, K8, K9, K10, K11, K12, K14, K16, K18, K20, K24, K29, K30, K31, K32, K33, K36, K38, K40, K41, K42, K48, K50, K51, K54, K57, K59, K60, K63, K70, K71, K84, K94, K97, K100, K101, K104, K108, K112, K120, K121, K122, K123, K124, K125, K127, K255, K300, K1000, K9999, K99999, K2147483647, L0, L1, L2, L3, L4, L5, L6, L9, L29, L30, L60, L127, L9999, L1000000000, w6T, fB_1_0, fB_0_0, fAB_1]
  rw [f_X0_withBody_4]
  simp (disch := omega) only [ofN, lC_lt, lC_ge, lC_eq, lC_gt, lC_le, T_ltL, F_ltL, T_leL, F_leL, T_eqL, F_eqL, m1_0, lN_add, nI_lE, lN_i, ↓reduceIte, bind_p, T_lt, F_lt, T_le, F_le, T_eq, F_eq, F_neg, T_ltm, F_lem, F_ltm, nI_add, nI_mul, nI_sub, ldI_n, stI_n, aix_n, ldL_n, stL_n, ldF_n, gI_atE, gI_ne1, gI_ne2, gL_atE, gL_ne1, gL_ne2, gL_s, gI_s, w7T, w7F1, w7F2, and31, K0, K1, K2, K3, K4, K5, K6, K7, K8, K9, K10, K11, K12, K14, K16, K18, K20, K24, K29, K30, K31, K32, K33, K36, K38, K40, K41, K42, K48, K50, K51, K54, K57, K59, K60, K63, K70, K71, K84, K94, K97, K100, K101, K104, K108, K112, K120, K121, K122, K123, K124, K125, K127, K255, K300, K1000, K9999, K99999, K2147483647, L0, L1, L2, L3, L4, L5, L6, L9, L29, L30, L60, L127, L9999, L1000000000, w6T, fB_1_0, fB_0_0, fAB_1]
theorem rn_1_0 {μ0 μ : Mem} {bs : List Nat} {κ v e deep : Nat} (h : CS μ0 μ bs κ v e) (hl : bs.length < 20) (hd : deep ≤ 18) : ∃ ν, CS μ0 ν (bs ++ [10]) κ v e ∧ ∀ (G : (Mem → Int32 → Int32 → Int32 → Option (Int32 × Mem)) × (Mem → Int32 → Int32 → Int32 → Int32 → Option (Int32 × Mem))) (x : Int32), b_X0_run G μ (nI 1) (nI 0) x (nI deep) = some (x + gI ν 5 4, ν) := by
  obtain ⟨ν, e1, e2⟩ := bg6 (b := 10) h hl
  refine ⟨ν, e2, fun G x => ?_⟩
  unfold b_X0_run
  rw [wb_1_0]
  simp (disch := omega) only [ofN, lC_lt, lC_ge, lC_eq, lC_gt, lC_le, T_ltL, F_ltL, T_leL, F_leL, T_eqL, F_eqL, m1_0, lN_add, nI_lE, lN_i, ↓reduceIte, bind_p, T_lt, F_lt, T_le, F_le, T_eq, F_eq, F_neg, T_ltm, F_lem, F_ltm, nI_add, nI_mul, nI_sub, ldI_n, stI_n, aix_n, ldL_n, stL_n, ldF_n, gI_atE, gI_ne1, gI_ne2, gL_atE, gL_ne1, gL_ne2, gL_s, gI_s, w7T, w7F1, w7F2, and31, K0, K1, K2, K3, K4, K5, K6, K7, K8, K9, K10, K11, K12, K14, K16, K18, K20, K24, K29, K30, K31, K32, K33, K36, K38, K40, K41, K42, K48, K50, K51, K54, K57, K59, K60, K63, K70, K71, K84, K94, K97, K100, K101, K104, K108, K112, K120, K121, K122, K123, K124, K125, K127, K255, K300, K1000, K9999, K99999, K2147483647, fB_0_0, fAB_0, e1]
theorem wb_1_1 {μ : Mem} : f_X0_withBody μ (nI 1) (nI 1) = some (nI 1) := by
  unfold f_X0_withBody
  obtain ⟨N, hFU⟩ := FU_8; rw [hFU]; clear hFU
  rw [f_X0_withBody_4]
  simp (disch := omega) only [ofN, lC_lt, lC_ge, lC_eq, lC_gt, lC_le, T_ltL, F_ltL, T_leL, F_leL, T_eqL, F_eqL, m1_0, lN_add, nI_lE, lN_i, ↓reduceIte, bind_p, T_lt, F_lt, T_le, F_le, T_eq, F_eq, F_neg, T_ltm, F_lem, F_ltm, nI_add, nI_mul, nI_sub, ldI_n, stI_n, aix_n, ldL_n, stL_n, ldF_n, gI_atE, gI_ne1, gI_ne2, gL_atE, gL_ne1, gL_ne2, gL_s, gI_s, w7T, w7F1, w7F2, and31, K0, K1, K2, K3, K4, K5, K6, K7, K8, K9, K10, K11, K12, K14, K16, K18, K20, K24, K29, K30, K31, K32, K33, K36, K38, K40, K41, K42, K48, K50, K51, K54, K57, K59, K60, K63, K70, K71, K84, K94, K97, K100, K101, K104, K108, K112, K120, K121, K122, K123, K124, K125, K127, K255, K300, K1000, K9999, K99999, K2147483647, L0, L1, L2, L3, L4, L5, L6, L9, L29, L30, L60, L127, L9999, L1000000000, w6T, fB_1_1]
theorem rn_1_1 {μ0 μ : Mem} {bs : List Nat} {κ v e deep : Nat} (h : CS μ0 μ bs κ v e) (hl : bs.length < 20) (hd : deep ≤ 18) : ∃ ν, CS μ0 ν (bs ++ [20]) κ v e ∧ ∀ (G : (Mem → Int32 → Int32 → Int32 → Option (Int32 × Mem)) × (Mem → Int32 → Int32 → Int32 → Int32 → Option (Int32 × Mem))) (x : Int32), b_X0_run G μ (nI 1) (nI 1) x (nI deep) = (G.2 ν (nI 0) (nI 1) x (nI (deep + 1))).bind fun p => some (p.1 ^^^ nI 6, p.2) := by
  obtain ⟨ν, e1, e2⟩ := bg6 (b := 20) h hl
  refine ⟨ν, e2, fun G x => ?_⟩
  unfold b_X0_run
  rw [wb_1_1]
  simp (disch := omega) only [ofN, lC_lt, lC_ge, lC_eq, lC_gt, lC_le, T_ltL, F_ltL, T_leL, F_leL, T_eqL, F_eqL, m1_0, lN_add, nI_lE, lN_i, ↓reduceIte, bind_p, T_lt, F_lt, T_le, F_le, T_eq, F_eq, F_neg, T_ltm, F_lem, F_ltm, nI_add, nI_mul, nI_sub, ldI_n, stI_n, aix_n, ldL_n, stL_n, ldF_n, gI_atE, gI_ne1, gI_ne2, gL_atE, gL_ne1, gL_ne2, gL_s, gI_s, w7T, w7F1, w7F2, and31, K0, K1, K2, K3, K4, K5, K6, K7, K8, K9, K10, K11, K12, K14, K16, K18, K20, K24, K29, K30, K31, K32, K33, K36, K38, K40, K41, K42, K48, K50, K51, K54, K57, K59, K60, K63, K70, K71, K84, K94, K97, K100, K101, K104, K108, K112, K120, K121, K122, K123, K124, K125, K127, K255, K300, K1000, K9999, K99999, K2147483647, fB_1_1, fAB_1, e1]
theorem wb_1_2 {μ : Mem} : f_X0_withBody μ (nI 1) (nI 2) = some (nI 0) := by
  unfold f_X0_withBody
  obtain ⟨N, hFU⟩ := FU_8; rw [hFU]; clear hFU
  rw [f_X0_withBody_4]
  simp (disch := omega) only [ofN, lC_lt, lC_ge, lC_eq, lC_gt, lC_le, T_ltL, F_ltL, T_leL, F_leL, T_eqL, F_eqL, m1_0, lN_add, nI_lE, lN_i, ↓reduceIte, bind_p, T_lt, F_lt, T_le, F_le, T_eq, F_eq, F_neg, T_ltm, F_lem, F_ltm, nI_add, nI_mul, nI_sub, ldI_n, stI_n, aix_n, ldL_n, stL_n, ldF_n, gI_atE, gI_ne1, gI_ne2, gL_atE, gL_ne1, gL_ne2, gL_s, gI_s, w7T, w7F1, w7F2, and31, K0, K1, K2, K3, K4, K5, K6, K7, K8, K9, K10, K11, K12, K14, K16, K18, K20, K24, K29, K30, K31, K32, K33, K36, K38, K40, K41, K42, K48, K50, K51, K54, K57, K59, K60, K63, K70, K71, K84, K94, K97, K100, K101, K104, K108, K112, K120, K121, K122, K123, K124, K125, K127, K255, K300, K1000, K9999, K99999, K2147483647, L0, L1, L2, L3, L4, L5, L6, L9, L29, L30, L60, L127, L9999, L1000000000, w6T, fB_1_2, fB_0_2, fAB_1]
  rw [f_X0_withBody_4]
  simp (disch := omega) only [ofN, lC_lt, lC_ge, lC_eq, lC_gt, lC_le, T_ltL, F_ltL, T_leL, F_leL, T_eqL, F_eqL, m1_0, lN_add, nI_lE, lN_i, ↓reduceIte, bind_p, T_lt, F_lt, T_le, F_le, T_eq, F_eq, F_neg, T_ltm, F_lem, F_ltm, nI_add, nI_mul, nI_sub, ldI_n, stI_n, aix_n, ldL_n, stL_n, ldF_n, gI_atE, gI_ne1, gI_ne2, gL_atE, gL_ne1, gL_ne2, gL_s, gI_s, w7T, w7F1, w7F2, and31, K0, K1, K2, K3, K4, K5, K6, K7, K8, K9, K10, K11, K12, K14, K16, K18, K20, K24, K29, K30, K31, K32, K33, K36, K38, K40, K41, K42, K48, K50, K51, K54, K57, K59, K60, K63, K70, K71, K84, K94, K97, K100, K101, K104, K108, K112, K120, K121, K122, K123, K124, K125, K127, K255, K300, K1000, K9999, K99999, K2147483647, L0, L1, L2, L3, L4, L5, L6, L9, L29, L30, L60, L127, L9999, L1000000000, w6T, fB_1_2, fB_0_2, fAB_1]
theorem rn_1_2 {μ0 μ : Mem} {bs : List Nat} {κ v e deep : Nat} (h : CS μ0 μ bs κ v e) (hl : bs.length < 20) (hd : deep ≤ 18) : ∃ ν, CS μ0 ν (bs ++ [12]) κ v e ∧ ∀ (G : (Mem → Int32 → Int32 → Int32 → Option (Int32 × Mem)) × (Mem → Int32 → Int32 → Int32 → Int32 → Option (Int32 × Mem))) (x : Int32), b_X0_run G μ (nI 1) (nI 2) x (nI deep) = (G.1 ν (nI 1) x (nI (deep + 1))).bind fun p => some (p.1 * nI 2, p.2) := by
  obtain ⟨ν, e1, e2⟩ := bg6 (b := 12) h hl
  refine ⟨ν, e2, fun G x => ?_⟩
  unfold b_X0_run
  rw [wb_1_2]
  simp (disch := omega) only [ofN, lC_lt, lC_ge, lC_eq, lC_gt, lC_le, T_ltL, F_ltL, T_leL, F_leL, T_eqL, F_eqL, m1_0, lN_add, nI_lE, lN_i, ↓reduceIte, bind_p, T_lt, F_lt, T_le, F_le, T_eq, F_eq, F_neg, T_ltm, F_lem, F_ltm, nI_add, nI_mul, nI_sub, ldI_n, stI_n, aix_n, ldL_n, stL_n, ldF_n, gI_atE, gI_ne1, gI_ne2, gL_atE, gL_ne1, gL_ne2, gL_s, gI_s, w7T, w7F1, w7F2, and31, K0, K1, K2, K3, K4, K5, K6, K7, K8, K9, K10, K11, K12, K14, K16, K18, K20, K24, K29, K30, K31, K32, K33, K36, K38, K40, K41, K42, K48, K50, K51, K54, K57, K59, K60, K63, K70, K71, K84, K94, K97, K100, K101, K104, K108, K112, K120, K121, K122, K123, K124, K125, K127, K255, K300, K1000, K9999, K99999, K2147483647, fB_0_2, fAB_0, e1]
theorem wb_2_0 {μ : Mem} : f_X0_withBody μ (nI 2) (nI 0) = some (nI 2) := by
  unfold f_X0_withBody
  obtain ⟨N, hFU⟩ := FU_8; rw [hFU]; clear hFU
  rw [f_X0_withBody_4]
  simp (disch := omega) only [ofN, lC_lt, lC_ge, lC_eq, lC_gt, lC_le, T_ltL, F_ltL, T_leL, F_leL, T_eqL, F_eqL, m1_0, lN_add, nI_lE, lN_i, ↓reduceIte, bind_p, T_lt, F_lt, T_le, F_le, T_eq, F_eq, F_neg, T_ltm, F_lem, F_ltm, nI_add, nI_mul, nI_sub, ldI_n, stI_n, aix_n, ldL_n, stL_n, ldF_n, gI_atE, gI_ne1, gI_ne2, gL_atE, gL_ne1, gL_ne2, gL_s, gI_s, w7T, w7F1, w7F2, and31, K0, K1, K2, K3, K4, K5, K6, K7, K8, K9, K10, K11, K12, K14, K16, K18, K20, K24, K29, K30, K31, K32, K33, K36, K38, K40, K41, K42, K48, K50, K51, K54, K57, K59, K60, K63, K70, K71, K84, K94, K97, K100, K101, K104, K108, K112, K120, K121, K122, K123, K124, K125, K127, K255, K300, K1000, K9999, K99999, K2147483647, L0, L1, L2, L3, L4, L5, L6, L9, L29, L30, L60, L127, L9999, L1000000000, w6T, fB_2_0]
theorem rn_2_0 {μ0 μ : Mem} {bs : List Nat} {κ v e deep : Nat} (h : CS μ0 μ bs κ v e) (hl : bs.length < 20) (hd : deep ≤ 18) : ∃ ν, CS μ0 ν (bs ++ [30]) κ v e ∧ ∀ (G : (Mem → Int32 → Int32 → Int32 → Option (Int32 × Mem)) × (Mem → Int32 → Int32 → Int32 → Int32 → Option (Int32 × Mem))) (x : Int32), b_X0_run G μ (nI 2) (nI 0) x (nI deep) = (G.2 ν (nI 0) (nI 0) (x * nI 3) (nI (deep + 1))).bind fun p => some (p.1, p.2) := by
  obtain ⟨ν, e1, e2⟩ := bg6 (b := 30) h hl
  refine ⟨ν, e2, fun G x => ?_⟩
  unfold b_X0_run
  rw [wb_2_0]
  simp (disch := omega) only [ofN, lC_lt, lC_ge, lC_eq, lC_gt, lC_le, T_ltL, F_ltL, T_leL, F_leL, T_eqL, F_eqL, m1_0, lN_add, nI_lE, lN_i, ↓reduceIte, bind_p, T_lt, F_lt, T_le, F_le, T_eq, F_eq, F_neg, T_ltm, F_lem, F_ltm, nI_add, nI_mul, nI_sub, ldI_n, stI_n, aix_n, ldL_n, stL_n, ldF_n, gI_atE, gI_ne1, gI_ne2, gL_atE, gL_ne1, gL_ne2, gL_s, gI_s, w7T, w7F1, w7F2, and31, K0, K1, K2, K3, K4, K5, K6, K7, K8, K9, K10, K11, K12, K14, K16, K18, K20, K24, K29, K30, K31, K32, K33, K36, K38, K40, K41, K42, K48, K50, K51, K54, K57, K59, K60, K63, K70, K71, K84, K94, K97, K100, K101, K104, K108, K112, K120, K121, K122, K123, K124, K125, K127, K255, K300, K1000, K9999, K99999, K2147483647, fB_2_0, fAB_2, e1]
theorem wb_2_1 {μ : Mem} : f_X0_withBody μ (nI 2) (nI 1) = some (nI 0) := by
  unfold f_X0_withBody
  obtain ⟨N, hFU⟩ := FU_8; rw [hFU]; clear hFU
  rw [f_X0_withBody_4]
  simp (disch := omega) only [ofN, lC_lt, lC_ge, lC_eq, lC_gt, lC_le, T_ltL, F_ltL, T_leL, F_leL, T_eqL, F_eqL, m1_0, lN_add, nI_lE, lN_i, ↓reduceIte, bind_p, T_lt, F_lt, T_le, F_le, T_eq, F_eq, F_neg, T_ltm, F_lem, F_ltm, nI_add, nI_mul, nI_sub, ldI_n, stI_n, aix_n, ldL_n, stL_n, ldF_n, gI_atE, gI_ne1, gI_ne2, gL_atE, gL_ne1, gL_ne2, gL_s, gI_s, w7T, w7F1, w7F2, and31, K0, K1, K2, K3, K4, K5, K6, K7, K8, K9, K10, K11, K12, K14, K16, K18, K20, K24, K29, K30, K31, K32, K33, K36, K38, K40, K41, K42, K48, K50, K51, K54, K57, K59, K60, K63, K70, K71, K84, K94, K97, K100, K101, K104, K108, K112, K120, K121, K122, K123, K124, K125, K127, K255, K300, K1000, K9999, K99999, K2147483647, L0, L1, L2, L3, L4, L5, L6, L9, L29, L30, L60, L127, L9999, L1000000000, w6T, fB_2_1, fB_0_1, fAB_2]
  rw [f_X0_withBody_4]
  simp (disch := omega) only [ofN, lC_lt, lC_ge, lC_eq, lC_gt, lC_le, T_ltL, F_ltL, T_leL, F_leL, T_eqL, F_eqL, m1_0, lN_add, nI_lE, lN_i, ↓reduceIte, bind_p, T_lt, F_lt, T_le, F_le, T_eq, F_eq, F_neg, T_ltm, F_lem, F_ltm, nI_add, nI_mul, nI_sub, ldI_n, stI_n, aix_n, ldL_n, stL_n, ldF_n, gI_atE, gI_ne1, gI_ne2, gL_atE, gL_ne1, gL_ne2, gL_s, gI_s, w7T, w7F1, w7F2, and31, K0, K1, K2, K3, K4, K5, K6, K7, K8, K9, K10, K11, K12, K14, K16, K18, K20, K24, K29, K30, K31, K32, K33, K36, K38, K40, K41, K42, K48, K50, K51, K54, K57, K59, K60, K63, K70, K71, K84, K94, K97, K100, K101, K104, K108, K112, K120, K121, K122, K123, K124, K125, K127, K255, K300, K1000, K9999, K99999, K2147483647, L0, L1, L2, L3, L4, L5, L6, L9, L29, L30, L60, L127, L9999, L1000000000, w6T, fB_2_1, fB_0_1, fAB_2]
theorem rn_2_1 {μ0 μ : Mem} {bs : List Nat} {κ v e deep : Nat} (h : CS μ0 μ bs κ v e) (hl : bs.length < 20) (hd : deep ≤ 18) : ∃ ν, CS μ0 ν (bs ++ [11]) κ v e ∧ ∀ (G : (Mem → Int32 → Int32 → Int32 → Option (Int32 × Mem)) × (Mem → Int32 → Int32 → Int32 → Int32 → Option (Int32 × Mem))) (x : Int32), b_X0_run G μ (nI 2) (nI 1) x (nI deep) = (G.1 ν (nI 0) x (nI (deep + 1))).bind fun p => some (p.1 - gI p.2 5 3, p.2) := by
  obtain ⟨ν, e1, e2⟩ := bg6 (b := 11) h hl
  refine ⟨ν, e2, fun G x => ?_⟩
  unfold b_X0_run
  rw [wb_2_1]
  simp (disch := omega) only [ofN, lC_lt, lC_ge, lC_eq, lC_gt, lC_le, T_ltL, F_ltL, T_leL, F_leL, T_eqL, F_eqL, m1_0, lN_add, nI_lE, lN_i, ↓reduceIte, bind_p, T_lt, F_lt, T_le, F_le, T_eq, F_eq, F_neg, T_ltm, F_lem, F_ltm, nI_add, nI_mul, nI_sub, ldI_n, stI_n, aix_n, ldL_n, stL_n, ldF_n, gI_atE, gI_ne1, gI_ne2, gL_atE, gL_ne1, gL_ne2, gL_s, gI_s, w7T, w7F1, w7F2, and31, K0, K1, K2, K3, K4, K5, K6, K7, K8, K9, K10, K11, K12, K14, K16, K18, K20, K24, K29, K30, K31, K32, K33, K36, K38, K40, K41, K42, K48, K50, K51, K54, K57, K59, K60, K63, K70, K71, K84, K94, K97, K100, K101, K104, K108, K112, K120, K121, K122, K123, K124, K125, K127, K255, K300, K1000, K9999, K99999, K2147483647, fB_0_1, fAB_0, e1]
theorem wb_2_2 {μ : Mem} : f_X0_withBody μ (nI 2) (nI 2) = some (nI 0) := by
  unfold f_X0_withBody
  obtain ⟨N, hFU⟩ := FU_8; rw [hFU]; clear hFU
  rw [f_X0_withBody_4]
  simp (disch := omega) only [ofN, lC_lt, lC_ge, lC_eq, lC_gt, lC_le, T_ltL, F_ltL, T_leL, F_leL, T_eqL, F_eqL, m1_0, lN_add, nI_lE, lN_i, ↓reduceIte, bind_p, T_lt, F_lt, T_le, F_le, T_eq, F_eq, F_neg, T_ltm, F_lem, F_ltm, nI_add, nI_mul, nI_sub, ldI_n, stI_n, aix_n, ldL_n, stL_n, ldF_n, gI_atE, gI_ne1, gI_ne2, gL_atE, gL_ne1, gL_ne2, gL_s, gI_s, w7T, w7F1, w7F2, and31, K0, K1, K2, K3, K4, K5, K6, K7, K8, K9, K10, K11, K12, K14, K16, K18, K20, K24, K29, K30, K31, K32, K33, K36, K38, K40, K41, K42, K48, K50, K51, K54, K57, K59, K60, K63, K70, K71, K84, K94, K97, K100, K101, K104, K108, K112, K120, K121, K122, K123, K124, K125, K127, K255, K300, K1000, K9999, K99999, K2147483647, L0, L1, L2, L3, L4, L5, L6, L9, L29, L30, L60, L127, L9999, L1000000000, w6T, fB_2_2, fB_0_2, fAB_2]
  rw [f_X0_withBody_4]
  simp (disch := omega) only [ofN, lC_lt, lC_ge, lC_eq, lC_gt, lC_le, T_ltL, F_ltL, T_leL, F_leL, T_eqL, F_eqL, m1_0, lN_add, nI_lE, lN_i, ↓reduceIte, bind_p, T_lt, F_lt, T_le, F_le, T_eq, F_eq, F_neg, T_ltm, F_lem, F_ltm, nI_add, nI_mul, nI_sub, ldI_n, stI_n, aix_n, ldL_n, stL_n, ldF_n, gI_atE, gI_ne1, gI_ne2, gL_atE, gL_ne1, gL_ne2, gL_s, gI_s, w7T, w7F1, w7F2, and31, K0, K1, K2, K3, K4, K5, K6, K7, K8, K9, K10, K11, K12, K14, K16, K18, K20, K24, K29, K30, K31, K32, K33, K36, K38, K40, K41, K42, K48, K50, K51, K54, K57, K59, K60, K63, K70, K71, K84, K94, K97, K100, K101, K104, K108, K112, K120, K121, K122, K123, K124, K125, K127, K255, K300, K1000, K9999, K99999, K2147483647, L0, L1, L2, L3, L4, L5, L6, L9, L29, L30, L60, L127, L9999, L1000000000, w6T, fB_2_2, fB_0_2, fAB_2]
theorem rn_2_2 {μ0 μ : Mem} {bs : List Nat} {κ v e deep : Nat} (h : CS μ0 μ bs κ v e) (hl : bs.length < 20) (hd : deep ≤ 18) : ∃ ν, CS μ0 ν (bs ++ [12]) κ v e ∧ ∀ (G : (Mem → Int32 → Int32 → Int32 → Option (Int32 × Mem)) × (Mem → Int32 → Int32 → Int32 → Int32 → Option (Int32 × Mem))) (x : Int32), b_X0_run G μ (nI 2) (nI 2) x (nI deep) = (G.1 ν (nI 1) x (nI (deep + 1))).bind fun p => some (p.1 * nI 2, p.2) := by
  obtain ⟨ν, e1, e2⟩ := bg6 (b := 12) h hl
  refine ⟨ν, e2, fun G x => ?_⟩
  unfold b_X0_run
  rw [wb_2_2]
  simp (disch := omega) only [ofN, lC_lt, lC_ge, lC_eq, lC_gt, lC_le, T_ltL, F_ltL, T_leL, F_leL, T_eqL, F_eqL, m1_0, lN_add, nI_lE, lN_i, ↓reduceIte, bind_p, T_lt, F_lt, T_le, F_le, T_eq, F_eq, F_neg, T_ltm, F_lem, F_ltm, nI_add, nI_mul, nI_sub, ldI_n, stI_n, aix_n, ldL_n, stL_n, ldF_n, gI_atE, gI_ne1, gI_ne2, gL_atE, gL_ne1, gL_ne2, gL_s, gI_s, w7T, w7F1, w7F2, and31, K0, K1, K2, K3, K4, K5, K6, K7, K8, K9, K10, K11, K12, K14, K16, K18, K20, K24, K29, K30, K31, K32, K33, K36, K38, K40, K41, K42, K48, K50, K51, K54, K57, K59, K60, K63, K70, K71, K84, K94, K97, K100, K101, K104, K108, K112, K120, K121, K122, K123, K124, K125, K127, K255, K300, K1000, K9999, K99999, K2147483647, fB_0_2, fAB_0, e1]
theorem wb_3_0 {μ : Mem} : f_X0_withBody μ (nI 3) (nI 0) = some (nI 0) := by
  unfold f_X0_withBody
  obtain ⟨N, hFU⟩ := FU_8; rw [hFU]; clear hFU
  rw [f_X0_withBody_4]
  simp (disch := omega) only [ofN, lC_lt, lC_ge, lC_eq, lC_gt, lC_le, T_ltL, F_ltL, T_leL, F_leL, T_eqL, F_eqL, m1_0, lN_add, nI_lE, lN_i, ↓reduceIte, bind_p, T_lt, F_lt, T_le, F_le, T_eq, F_eq, F_neg, T_ltm, F_lem, F_ltm, nI_add, nI_mul, nI_sub, ldI_n, stI_n, aix_n, ldL_n, stL_n, ldF_n, gI_atE, gI_ne1, gI_ne2, gL_atE, gL_ne1, gL_ne2, gL_s, gI_s, w7T, w7F1, w7F2, and31, K0, K1, K2, K3, K4, K5, K6, K7, K8, K9, K10, K11, K12, K14, K16, K18, K20, K24, K29, K30, K31, K32, K33, K36, K38, K40, K41, K42, K48, K50, K51, K54, K57, K59, K60, K63, K70, K71, K84, K94, K97, K100, K101, K104, K108, K112, K120, K121, K122, K123, K124, K125, K127, K255, K300, K1000, K9999, K99999, K2147483647, L0, L1, L2, L3, L4, L5, L6, L9, L29, L30, L60, L127, L9999, L1000000000, w6T, fB_3_0, fB_0_0, fAB_3]
  rw [f_X0_withBody_4]
  simp (disch := omega) only [ofN, lC_lt, lC_ge, lC_eq, lC_gt, lC_le, T_ltL, F_ltL, T_leL, F_leL, T_eqL, F_eqL, m1_0, lN_add, nI_lE, lN_i, ↓reduceIte, bind_p, T_lt, F_lt, T_le, F_le, T_eq, F_eq, F_neg, T_ltm, F_lem, F_ltm, nI_add, nI_mul, nI_sub, ldI_n, stI_n, aix_n, ldL_n, stL_n, ldF_n, gI_atE, gI_ne1, gI_ne2, gL_atE, gL_ne1, gL_ne2, gL_s, gI_s, w7T, w7F1, w7F2, and31, K0, K1, K2, K3, K4, K5, K6, K7, K8, K9, K10, K11, K12, K14, K16, K18, K20, K24, K29, K30, K31, K32, K33, K36, K38, K40, K41, K42, K48, K50, K51, K54, K57, K59, K60, K63, K70, K71, K84, K94, K97, K100, K101, K104, K108, K112, K120, K121, K122, K123, K124, K125, K127, K255, K300, K1000, K9999, K99999, K2147483647, L0, L1, L2, L3, L4, L5, L6, L9, L29, L30, L60, L127, L9999, L1000000000, w6T, fB_3_0, fB_0_0, fAB_3]
theorem rn_3_0 {μ0 μ : Mem} {bs : List Nat} {κ v e deep : Nat} (h : CS μ0 μ bs κ v e) (hl : bs.length < 20) (hd : deep ≤ 18) : ∃ ν, CS μ0 ν (bs ++ [10]) κ v e ∧ ∀ (G : (Mem → Int32 → Int32 → Int32 → Option (Int32 × Mem)) × (Mem → Int32 → Int32 → Int32 → Int32 → Option (Int32 × Mem))) (x : Int32), b_X0_run G μ (nI 3) (nI 0) x (nI deep) = some (x + gI ν 5 4, ν) := by
  obtain ⟨ν, e1, e2⟩ := bg6 (b := 10) h hl
  refine ⟨ν, e2, fun G x => ?_⟩
  unfold b_X0_run
  rw [wb_3_0]
  simp (disch := omega) only [ofN, lC_lt, lC_ge, lC_eq, lC_gt, lC_le, T_ltL, F_ltL, T_leL, F_leL, T_eqL, F_eqL, m1_0, lN_add, nI_lE, lN_i, ↓reduceIte, bind_p, T_lt, F_lt, T_le, F_le, T_eq, F_eq, F_neg, T_ltm, F_lem, F_ltm, nI_add, nI_mul, nI_sub, ldI_n, stI_n, aix_n, ldL_n, stL_n, ldF_n, gI_atE, gI_ne1, gI_ne2, gL_atE, gL_ne1, gL_ne2, gL_s, gI_s, w7T, w7F1, w7F2, and31, K0, K1, K2, K3, K4, K5, K6, K7, K8, K9, K10, K11, K12, K14, K16, K18, K20, K24, K29, K30, K31, K32, K33, K36, K38, K40, K41, K42, K48, K50, K51, K54, K57, K59, K60, K63, K70, K71, K84, K94, K97, K100, K101, K104, K108, K112, K120, K121, K122, K123, K124, K125, K127, K255, K300, K1000, K9999, K99999, K2147483647, fB_0_0, fAB_0, e1]
theorem wb_3_1 {μ : Mem} : f_X0_withBody μ (nI 3) (nI 1) = some (nI 0) := by
  unfold f_X0_withBody
  obtain ⟨N, hFU⟩ := FU_8; rw [hFU]; clear hFU
  rw [f_X0_withBody_4]
  simp (disch := omega) only [ofN, lC_lt, lC_ge, lC_eq, lC_gt, lC_le, T_ltL, F_ltL, T_leL, F_leL, T_eqL, F_eqL, m1_0, lN_add, nI_lE, lN_i, ↓reduceIte, bind_p, T_lt, F_lt, T_le, F_le, T_eq, F_eq, F_neg, T_ltm, F_lem, F_ltm, nI_add, nI_mul, nI_sub, ldI_n, stI_n, aix_n, ldL_n, stL_n, ldF_n, gI_atE, gI_ne1, gI_ne2, gL_atE, gL_ne1, gL_ne2, gL_s, gI_s, w7T, w7F1, w7F2, and31, K0, K1, K2, K3, K4, K5, K6, K7, K8, K9, K10, K11, K12, K14, K16, K18, K20, K24, K29, K30, K31, K32, K33, K36, K38, K40, K41, K42, K48, K50, K51, K54, K57, K59, K60, K63, K70, K71, K84, K94, K97, K100, K101, K104, K108, K112, K120, K121, K122, K123, K124, K125, K127, K255, K300, K1000, K9999, K99999, K2147483647, L0, L1, L2, L3, L4, L5, L6, L9, L29, L30, L60, L127, L9999, L1000000000, w6T, fB_3_1, fB_0_1, fAB_3]
  rw [f_X0_withBody_4]
  simp (disch := omega) only [ofN, lC_lt, lC_ge, lC_eq, lC_gt, lC_le, T_ltL, F_ltL, T_leL, F_leL, T_eqL, F_eqL, m1_0, lN_add, nI_lE, lN_i, ↓reduceIte, bind_p, T_lt, F_lt, T_le, F_le, T_eq, F_eq, F_neg, T_ltm, F_lem, F_ltm, nI_add, nI_mul, nI_sub, ldI_n, stI_n, aix_n, ldL_n, stL_n, ldF_n, gI_atE, gI_ne1, gI_ne2, gL_atE, gL_ne1, gL_ne2, gL_s, gI_s, w7T, w7F1, w7F2, and31, K0, K1, K2, K3, K4, K5, K6, K7, K8, K9, K10, K11, K12, K14, K16, K18, K20, K24, K29, K30, K31, K32, K33, K36, K38, K40, K41, K42, K48, K50, K51, K54, K57, K59, K60, K63, K70, K71, K84, K94, K97, K100, K101, K104, K108, K112, K120, K121, K122, K123, K124, K125, K127, K255, K300, K1000, K9999, K99999, K2147483647, L0, L1, L2, L3, L4, L5, L6, L9, L29, L30, L60, L127, L9999, L1000000000, w6T, fB_3_1, fB_0_1, fAB_3]
theorem rn_3_1 {μ0 μ : Mem} {bs : List Nat} {κ v e deep : Nat} (h : CS μ0 μ bs κ v e) (hl : bs.length < 20) (hd : deep ≤ 18) : ∃ ν, CS μ0 ν (bs ++ [11]) κ v e ∧ ∀ (G : (Mem → Int32 → Int32 → Int32 → Option (Int32 × Mem)) × (Mem → Int32 → Int32 → Int32 → Int32 → Option (Int32 × Mem))) (x : Int32), b_X0_run G μ (nI 3) (nI 1) x (nI deep) = (G.1 ν (nI 0) x (nI (deep + 1))).bind fun p => some (p.1 - gI p.2 5 3, p.2) := by
  obtain ⟨ν, e1, e2⟩ := bg6 (b := 11) h hl
  refine ⟨ν, e2, fun G x => ?_⟩
  unfold b_X0_run
  rw [wb_3_1]
  simp (disch := omega) only [ofN, lC_lt, lC_ge, lC_eq, lC_gt, lC_le, T_ltL, F_ltL, T_leL, F_leL, T_eqL, F_eqL, m1_0, lN_add, nI_lE, lN_i, ↓reduceIte, bind_p, T_lt, F_lt, T_le, F_le, T_eq, F_eq, F_neg, T_ltm, F_lem, F_ltm, nI_add, nI_mul, nI_sub, ldI_n, stI_n, aix_n, ldL_n, stL_n, ldF_n, gI_atE, gI_ne1, gI_ne2, gL_atE, gL_ne1, gL_ne2, gL_s, gI_s, w7T, w7F1, w7F2, and31, K0, K1, K2, K3, K4, K5, K6, K7, K8, K9, K10, K11, K12, K14, K16, K18, K20, K24, K29, K30, K31, K32, K33, K36, K38, K40, K41, K42, K48, K50, K51, K54, K57, K59, K60, K63, K70, K71, K84, K94, K97, K100, K101, K104, K108, K112, K120, K121, K122, K123, K124, K125, K127, K255, K300, K1000, K9999, K99999, K2147483647, fB_0_1, fAB_0, e1]
theorem wb_3_2 {μ : Mem} : f_X0_withBody μ (nI 3) (nI 2) = some (nI 3) := by
  unfold f_X0_withBody
  obtain ⟨N, hFU⟩ := FU_8; rw [hFU]; clear hFU
  rw [f_X0_withBody_4]
  simp (disch := omega) only [ofN, lC_lt, lC_ge, lC_eq, lC_gt, lC_le, T_ltL, F_ltL, T_leL, F_leL, T_eqL, F_eqL, m1_0, lN_add, nI_lE, lN_i, ↓reduceIte, bind_p, T_lt, F_lt, T_le, F_le, T_eq, F_eq, F_neg, T_ltm, F_lem, F_ltm, nI_add, nI_mul, nI_sub, ldI_n, stI_n, aix_n, ldL_n, stL_n, ldF_n, gI_atE, gI_ne1, gI_ne2, gL_atE, gL_ne1, gL_ne2, gL_s, gI_s, w7T, w7F1, w7F2, and31, K0, K1, K2, K3, K4, K5, K6, K7, K8, K9, K10, K11, K12, K14, K16, K18, K20, K24, K29, K30, K31, K32, K33, K36, K38, K40, K41, K42, K48, K50, K51, K54, K57, K59, K60, K63, K70, K71, K84, K94, K97, K100, K101, K104, K108, K112, K120, K121, K122, K123, K124, K125, K127, K255, K300, K1000, K9999, K99999, K2147483647, L0, L1, L2, L3, L4, L5, L6, L9, L29, L30, L60, L127, L9999, L1000000000, w6T, fB_3_2]
theorem rn_3_2 {μ0 μ : Mem} {bs : List Nat} {κ v e deep : Nat} (h : CS μ0 μ bs κ v e) (hl : bs.length < 20) (hd : deep ≤ 18) : ∃ ν, CS μ0 ν (bs ++ [40]) κ v e ∧ ∀ (G : (Mem → Int32 → Int32 → Int32 → Option (Int32 × Mem)) × (Mem → Int32 → Int32 → Int32 → Int32 → Option (Int32 × Mem))) (x : Int32), b_X0_run G μ (nI 3) (nI 2) x (nI deep) = (G.2 ν (nI 0) (nI 2) x (nI (deep + 1))).bind fun p => (G.1 p.2 (nI 1) (nI 1) (nI (deep + 1))).bind fun q => some (p.1 + q.1, q.2) := by
  obtain ⟨ν, e1, e2⟩ := bg6 (b := 40) h hl
  refine ⟨ν, e2, fun G x => ?_⟩
  unfold b_X0_run
  rw [wb_3_2]
  simp (disch := omega) only [ofN, lC_lt, lC_ge, lC_eq, lC_gt, lC_le, T_ltL, F_ltL, T_leL, F_leL, T_eqL, F_eqL, m1_0, lN_add, nI_lE, lN_i, ↓reduceIte, bind_p, T_lt, F_lt, T_le, F_le, T_eq, F_eq, F_neg, T_ltm, F_lem, F_ltm, nI_add, nI_mul, nI_sub, ldI_n, stI_n, aix_n, ldL_n, stL_n, ldF_n, gI_atE, gI_ne1, gI_ne2, gL_atE, gL_ne1, gL_ne2, gL_s, gI_s, w7T, w7F1, w7F2, and31, K0, K1, K2, K3, K4, K5, K6, K7, K8, K9, K10, K11, K12, K14, K16, K18, K20, K24, K29, K30, K31, K32, K33, K36, K38, K40, K41, K42, K48, K50, K51, K54, K57, K59, K60, K63, K70, K71, K84, K94, K97, K100, K101, K104, K108, K112, K120, K121, K122, K123, K124, K125, K127, K255, K300, K1000, K9999, K99999, K2147483647, fB_3_2, fAB_3, e1]
theorem wb_4_0 {μ : Mem} : f_X0_withBody μ (nI 4) (nI 0) = some (nI 4) := by
  unfold f_X0_withBody
  obtain ⟨N, hFU⟩ := FU_8; rw [hFU]; clear hFU
  rw [f_X0_withBody_4]
  simp (disch := omega) only [ofN, lC_lt, lC_ge, lC_eq, lC_gt, lC_le, T_ltL, F_ltL, T_leL, F_leL, T_eqL, F_eqL, m1_0, lN_add, nI_lE, lN_i, ↓reduceIte, bind_p, T_lt, F_lt, T_le, F_le, T_eq, F_eq, F_neg, T_ltm, F_lem, F_ltm, nI_add, nI_mul, nI_sub, ldI_n, stI_n, aix_n, ldL_n, stL_n, ldF_n, gI_atE, gI_ne1, gI_ne2, gL_atE, gL_ne1, gL_ne2, gL_s, gI_s, w7T, w7F1, w7F2, and31, K0, K1, K2, K3, K4, K5, K6, K7, K8, K9, K10, K11, K12, K14, K16, K18, K20, K24, K29, K30, K31, K32, K33, K36, K38, K40, K41, K42, K48, K50, K51, K54, K57, K59, K60, K63, K70, K71, K84, K94, K97, K100, K101, K104, K108, K112, K120, K121, K122, K123, K124, K125, K127, K255, K300, K1000, K9999, K99999, K2147483647, L0, L1, L2, L3, L4, L5, L6, L9, L29, L30, L60, L127, L9999, L1000000000, w6T, fB_4_0]
theorem rn_4_0 {μ0 μ : Mem} {bs : List Nat} {κ v e deep : Nat} (h : CS μ0 μ bs κ v e) (hl : bs.length < 20) (hd : deep ≤ 18) : ∃ ν, CS μ0 ν (bs ++ [50]) κ v e ∧ ∀ (G : (Mem → Int32 → Int32 → Int32 → Option (Int32 × Mem)) × (Mem → Int32 → Int32 → Int32 → Int32 → Option (Int32 × Mem))) (x : Int32), b_X0_run G μ (nI 4) (nI 0) x (nI deep) = (G.2 ν (nI 1) (nI 0) x (nI (deep + 1))).bind fun p => some (-p.1, p.2) := by
  obtain ⟨ν, e1, e2⟩ := bg6 (b := 50) h hl
  refine ⟨ν, e2, fun G x => ?_⟩
  unfold b_X0_run
  rw [wb_4_0]
  simp (disch := omega) only [ofN, lC_lt, lC_ge, lC_eq, lC_gt, lC_le, T_ltL, F_ltL, T_leL, F_leL, T_eqL, F_eqL, m1_0, lN_add, nI_lE, lN_i, ↓reduceIte, bind_p, T_lt, F_lt, T_le, F_le, T_eq, F_eq, F_neg, T_ltm, F_lem, F_ltm, nI_add, nI_mul, nI_sub, ldI_n, stI_n, aix_n, ldL_n, stL_n, ldF_n, gI_atE, gI_ne1, gI_ne2, gL_atE, gL_ne1, gL_ne2, gL_s, gI_s, w7T, w7F1, w7F2, and31, K0, K1, K2, K3, K4, K5, K6, K7, K8, K9, K10, K11, K12, K14, K16, K18, K20, K24, K29, K30, K31, K32, K33, K36, K38, K40, K41, K42, K48, K50, K51, K54, K57, K59, K60, K63, K70, K71, K84, K94, K97, K100, K101, K104, K108, K112, K120, K121, K122, K123, K124, K125, K127, K255, K300, K1000, K9999, K99999, K2147483647, fB_4_0, fAB_4, e1]
theorem wb_4_1 {μ : Mem} : f_X0_withBody μ (nI 4) (nI 1) = some (nI 4) := by
  unfold f_X0_withBody
  obtain ⟨N, hFU⟩ := FU_8; rw [hFU]; clear hFU
  rw [f_X0_withBody_4]
  simp (disch := omega) only [ofN, lC_lt, lC_ge, lC_eq, lC_gt, lC_le, T_ltL, F_ltL, T_leL, F_leL, T_eqL, F_eqL, m1_0, lN_add, nI_lE, lN_i, ↓reduceIte, bind_p, T_lt, F_lt, T_le, F_le, T_eq, F_eq, F_neg, T_ltm, F_lem, F_ltm, nI_add, nI_mul, nI_sub, ldI_n, stI_n, aix_n, ldL_n, stL_n, ldF_n, gI_atE, gI_ne1, gI_ne2, gL_atE, gL_ne1, gL_ne2, gL_s, gI_s, w7T, w7F1, w7F2, and31, K0, K1, K2, K3, K4, K5, K6, K7, K8, K9, K10, K11, K12, K14, K16, K18, K20, K24, K29, K30, K31, K32, K33, K36, K38, K40, K41, K42, K48, K50, K51, K54, K57, K59, K60, K63, K70, K71, K84, K94, K97, K100, K101, K104, K108, K112, K120, K121, K122, K123, K124, K125, K127, K255, K300, K1000, K9999, K99999, K2147483647, L0, L1, L2, L3, L4, L5, L6, L9, L29, L30, L60, L127, L9999, L1000000000, w6T, fB_4_1]
theorem rn_4_1 {μ0 μ : Mem} {bs : List Nat} {κ v e deep : Nat} (h : CS μ0 μ bs κ v e) (hl : bs.length < 20) (hd : deep ≤ 18) : ∃ ν, CS μ0 ν (bs ++ [51]) κ v e ∧ ∀ (G : (Mem → Int32 → Int32 → Int32 → Option (Int32 × Mem)) × (Mem → Int32 → Int32 → Int32 → Int32 → Option (Int32 × Mem))) (x : Int32), b_X0_run G μ (nI 4) (nI 1) x (nI deep) = (G.2 ν (nI 1) (nI 1) (x + nI 1) (nI (deep + 1))).bind fun p => some (p.1, p.2) := by
  obtain ⟨ν, e1, e2⟩ := bg6 (b := 51) h hl
  refine ⟨ν, e2, fun G x => ?_⟩
  unfold b_X0_run
  rw [wb_4_1]
  simp (disch := omega) only [ofN, lC_lt, lC_ge, lC_eq, lC_gt, lC_le, T_ltL, F_ltL, T_leL, F_leL, T_eqL, F_eqL, m1_0, lN_add, nI_lE, lN_i, ↓reduceIte, bind_p, T_lt, F_lt, T_le, F_le, T_eq, F_eq, F_neg, T_ltm, F_lem, F_ltm, nI_add, nI_mul, nI_sub, ldI_n, stI_n, aix_n, ldL_n, stL_n, ldF_n, gI_atE, gI_ne1, gI_ne2, gL_atE, gL_ne1, gL_ne2, gL_s, gI_s, w7T, w7F1, w7F2, and31, K0, K1, K2, K3, K4, K5, K6, K7, K8, K9, K10, K11, K12, K14, K16, K18, K20, K24, K29, K30, K31, K32, K33, K36, K38, K40, K41, K42, K48, K50, K51, K54, K57, K59, K60, K63, K70, K71, K84, K94, K97, K100, K101, K104, K108, K112, K120, K121, K122, K123, K124, K125, K127, K255, K300, K1000, K9999, K99999, K2147483647, fB_4_1, fAB_4, e1]
theorem wb_4_2 {μ : Mem} : f_X0_withBody μ (nI 4) (nI 2) = some (nI 0) := by
  unfold f_X0_withBody
  obtain ⟨N, hFU⟩ := FU_8; rw [hFU]; clear hFU
  rw [f_X0_withBody_4]
  simp (disch := omega) only [ofN, lC_lt, lC_ge, lC_eq, lC_gt, lC_le, T_ltL, F_ltL, T_leL, F_leL, T_eqL, F_eqL, m1_0, lN_add, nI_lE, lN_i, ↓reduceIte, bind_p, T_lt, F_lt, T_le, F_le, T_eq, F_eq, F_neg, T_ltm, F_lem, F_ltm, nI_add, nI_mul, nI_sub, ldI_n, stI_n, aix_n, ldL_n, stL_n, ldF_n, gI_atE, gI_ne1, gI_ne2, gL_atE, gL_ne1, gL_ne2, gL_s, gI_s, w7T, w7F1, w7F2, and31, K0, K1, K2, K3, K4, K5, K6, K7, K8, K9, K10, K11, K12, K14, K16, K18, K20, K24, K29, K30, K31, K32, K33, K36, K38, K40, K41, K42, K48, K50, K51, K54, K57, K59, K60, K63, K70, K71, K84, K94, K97, K100, K101, K104, K108, K112, K120, K121, K122, K123, K124, K125, K127, K255, K300, K1000, K9999, K99999, K2147483647, L0, L1, L2, L3, L4, L5, L6, L9, L29, L30, L60, L127, L9999, L1000000000, w6T, fB_4_2, fB_1_2, fB_0_2, fAB_4, fAB_1]
  rw [f_X0_withBody_4]
  simp (disch := omega) only [ofN, lC_lt, lC_ge, lC_eq, lC_gt, lC_le, T_ltL, F_ltL, T_leL, F_leL, T_eqL, F_eqL, m1_0, lN_add, nI_lE, lN_i, ↓reduceIte, bind_p, T_lt, F_lt, T_le, F_le, T_eq, F_eq, F_neg, T_ltm, F_lem, F_ltm, nI_add, nI_mul, nI_sub, ldI_n, stI_n, aix_n, ldL_n, stL_n, ldF_n, gI_atE, gI_ne1, gI_ne2, gL_atE, gL_ne1, gL_ne2, gL_s, gI_s, w7T, w7F1, w7F2, and31, K0, K1, K2, K3, K4, K5, K6, K7, K8, K9, K10, K11, K12, K14, K16, K18, K20, K24, K29, K30, K31, K32, K33, K36, K38, K40, K41, K42, K48, K50, K51, K54, K57, K59, K60, K63, K70, K71, K84, K94, K97, K100, K101, K104, K108, K112, K120, K121, K122, K123, K124, K125, K127, K255, K300, K1000, K9999, K99999, K2147483647, L0, L1, L2, L3, L4, L5, L6, L9, L29, L30, L60, L127, L9999, L1000000000, w6T, fB_4_2, fB_1_2, fB_0_2, fAB_4, fAB_1]
  rw [f_X0_withBody_4]
  simp (disch := omega) only [ofN, lC_lt, lC_ge, lC_eq, lC_gt, lC_le, T_ltL, F_ltL, T_leL, F_leL, T_eqL, F_eqL, m1_0, lN_add, nI_lE, lN_i, ↓reduceIte, bind_p, T_lt, F_lt, T_le, F_le, T_eq, F_eq, F_neg, T_ltm, F_lem, F_ltm, nI_add, nI_mul, nI_sub, ldI_n, stI_n, aix_n, ldL_n, stL_n, ldF_n, gI_atE, gI_ne1, gI_ne2, gL_atE, gL_ne1, gL_ne2, gL_s, gI_s, w7T, w7F1, w7F2, and31, K0, K1, K2, K3, K4, K5, K6, K7, K8, K9, K10, K11, K12, K14, K16, K18, K20, K24, K29, K30, K31, K32, K33, K36, K38, K40, K41, K42, K48, K50, K51, K54, K57, K59, K60, K63, K70, K71, K84, K94, K97, K100, K101, K104, K108, K112, K120, K121, K122, K123, K124, K125, K127, K255, K300, K1000, K9999, K99999, K2147483647, L0, L1, L2, L3, L4, L5, L6, L9, L29, L30, L60, L127, L9999, L1000000000, w6T, fB_4_2, fB_1_2, fB_0_2, fAB_4, fAB_1]
theorem rn_4_2 {μ0 μ : Mem} {bs : List Nat} {κ v e deep : Nat} (h : CS μ0 μ bs κ v e) (hl : bs.length < 20) (hd : deep ≤ 18) : ∃ ν, CS μ0 ν (bs ++ [12]) κ v e ∧ ∀ (G : (Mem → Int32 → Int32 → Int32 → Option (Int32 × Mem)) × (Mem → Int32 → Int32 → Int32 → Int32 → Option (Int32 × Mem))) (x : Int32), b_X0_run G μ (nI 4) (nI 2) x (nI deep) = (G.1 ν (nI 1) x (nI (deep + 1))).bind fun p => some (p.1 * nI 2, p.2) := by
  obtain ⟨ν, e1, e2⟩ := bg6 (b := 12) h hl
  refine ⟨ν, e2, fun G x => ?_⟩
  unfold b_X0_run
  rw [wb_4_2]
  simp (disch := omega) only [ofN, lC_lt, lC_ge, lC_eq, lC_gt, lC_le, T_ltL, F_ltL, T_leL, F_leL, T_eqL, F_eqL, m1_0, lN_add, nI_lE, lN_i, ↓reduceIte, bind_p, T_lt, F_lt, T_le, F_le, T_eq, F_eq, F_neg, T_ltm, F_lem, F_ltm, nI_add, nI_mul, nI_sub, ldI_n, stI_n, aix_n, ldL_n, stL_n, ldF_n, gI_atE, gI_ne1, gI_ne2, gL_atE, gL_ne1, gL_ne2, gL_s, gI_s, w7T, w7F1, w7F2, and31, K0, K1, K2, K3, K4, K5, K6, K7, K8, K9, K10, K11, K12, K14, K16, K18, K20, K24, K29, K30, K31, K32, K33, K36, K38, K40, K41, K42, K48, K50, K51, K54, K57, K59, K60, K63, K70, K71, K84, K94, K97, K100, K101, K104, K108, K112, K120, K121, K122, K123, K124, K125, K127, K255, K300, K1000, K9999, K99999, K2147483647, fB_0_2, fAB_0, e1]
theorem wb_5_0 {μ : Mem} : f_X0_withBody μ (nI 5) (nI 0) = some (nI 2) := by
  unfold f_X0_withBody
  obtain ⟨N, hFU⟩ := FU_8; rw [hFU]; clear hFU
  rw [f_X0_withBody_4]
  simp (disch := omega) only [ofN, lC_lt, lC_ge, lC_eq, lC_gt, lC_le, T_ltL, F_ltL, T_leL, F_leL, T_eqL, F_eqL, m1_0, lN_add, nI_lE, lN_i, ↓reduceIte, bind_p, T_lt, F_lt, T_le, F_le, T_eq, F_eq, F_neg, T_ltm, F_lem, F_ltm, nI_add, nI_mul, nI_sub, ldI_n, stI_n, aix_n, ldL_n, stL_n, ldF_n, gI_atE, gI_ne1, gI_ne2, gL_atE, gL_ne1, gL_ne2, gL_s, gI_s, w7T, w7F1, w7F2, and31, K0, K1, K2, K3, K4, K5, K6, K7, K8, K9, K10, K11, K12, K14, K16, K18, K20, K24, K29, K30, K31, K32, K33, K36, K38, K40, K41, K42, K48, K50, K51, K54, K57, K59, K60, K63, K70, K71, K84, K94, K97, K100, K101, K104, K108, K112, K120, K121, K122, K123, K124, K125, K127, K255, K300, K1000, K9999, K99999, K2147483647, L0, L1, L2, L3, L4, L5, L6, L9, L29, L30, L60, L127, L9999, L1000000000, w6T, fB_5_0, fB_2_0, fAB_5]
  rw [f_X0_withBody_4]
  simp (disch := omega) only [ofN, lC_lt, lC_ge, lC_eq, lC_gt, lC_le, T_ltL, F_ltL, T_leL, F_leL, T_eqL, F_eqL, m1_0, lN_add, nI_lE, lN_i, ↓reduceIte, bind_p, T_lt, F_lt, T_le, F_le, T_eq, F_eq, F_neg, T_ltm, F_lem, F_ltm, nI_add, nI_mul, nI_sub, ldI_n, stI_n, aix_n, ldL_n, stL_n, ldF_n, gI_atE, gI_ne1, gI_ne2, gL_atE, gL_ne1, gL_ne2, gL_s, gI_s, w7T, w7F1, w7F2, and31, K0, K1, K2, K3, K4, K5, K6, K7, K8, K9, K10, K11, K12, K14, K16, K18, K20, K24, K29, K30, K31, K32, K33, K36, K38, K40, K41, K42, K48, K50, K51, K54, K57, K59, K60, K63, K70, K71, K84, K94, K97, K100, K101, K104, K108, K112, K120, K121, K122, K123, K124, K125, K127, K255, K300, K1000, K9999, K99999, K2147483647, L0, L1, L2, L3, L4, L5, L6, L9, L29, L30, L60, L127, L9999, L1000000000, w6T, fB_5_0, fB_2_0, fAB_5]
theorem rn_5_0 {μ0 μ : Mem} {bs : List Nat} {κ v e deep : Nat} (h : CS μ0 μ bs κ v e) (hl : bs.length < 20) (hd : deep ≤ 18) : ∃ ν, CS μ0 ν (bs ++ [30]) κ v e ∧ ∀ (G : (Mem → Int32 → Int32 → Int32 → Option (Int32 × Mem)) × (Mem → Int32 → Int32 → Int32 → Int32 → Option (Int32 × Mem))) (x : Int32), b_X0_run G μ (nI 5) (nI 0) x (nI deep) = (G.2 ν (nI 0) (nI 0) (x * nI 3) (nI (deep + 1))).bind fun p => some (p.1, p.2) := by
  obtain ⟨ν, e1, e2⟩ := bg6 (b := 30) h hl
  refine ⟨ν, e2, fun G x => ?_⟩
  unfold b_X0_run
  rw [wb_5_0]
  simp (disch := omega) only [ofN, lC_lt, lC_ge, lC_eq, lC_gt, lC_le, T_ltL, F_ltL, T_leL, F_leL, T_eqL, F_eqL, m1_0, lN_add, nI_lE, lN_i, ↓reduceIte, bind_p, T_lt, F_lt, T_le, F_le, T_eq, F_eq, F_neg, T_ltm, F_lem, F_ltm, nI_add, nI_mul, nI_sub, ldI_n, stI_n, aix_n, ldL_n, stL_n, ldF_n, gI_atE, gI_ne1, gI_ne2, gL_atE, gL_ne1, gL_ne2, gL_s, gI_s, w7T, w7F1, w7F2, and31, K0, K1, K2, K3, K4, K5, K6, K7, K8, K9, K10, K11, K12, K14, K16, K18, K20, K24, K29, K30, K31, K32, K33, K36, K38, K40, K41, K42, K48, K50, K51, K54, K57, K59, K60, K63, K70, K71, K84, K94, K97, K100, K101, K104, K108, K112, K120, K121, K122, K123, K124, K125, K127, K255, K300, K1000, K9999, K99999, K2147483647, fB_2_0, fAB_2, e1]
theorem wb_5_1 {μ : Mem} : f_X0_withBody μ (nI 5) (nI 1) = some (nI 0) := by
  unfold f_X0_withBody
  obtain ⟨N, hFU⟩ := FU_8; rw [hFU]; clear hFU
  rw [f_X0_withBody_4]
  simp (disch := omega) only [ofN, lC_lt, lC_ge, lC_eq, lC_gt, lC_le, T_ltL, F_ltL, T_leL, F_leL, T_eqL, F_eqL, m1_0, lN_add, nI_lE, lN_i, ↓reduceIte, bind_p, T_lt, F_lt, T_le, F_le, T_eq, F_eq, F_neg, T_ltm, F_lem, F_ltm, nI_add, nI_mul, nI_sub, ldI_n, stI_n, aix_n, ldL_n, stL_n, ldF_n, gI_atE, gI_ne1, gI_ne2, gL_atE, gL_ne1, gL_ne2, gL_s, gI_s, w7T, w7F1, w7F2, and31, K0, K1, K2, K3, K4, K5, K6, K7, K8, K9, K10, K11, K12, K14, K16, K18, K20, K24, K29, K30, K31, K32, K33, K36, K38, K40, K41, K42, K48, K50, K51, K54, K57, K59, K60, K63, K70, K71, K84, K94, K97, K100, K101, K104, K108, K112, K120, K121, K122, K123, K124, K125, K127, K255, K300, K1000, K9999, K99999, K2147483647, L0, L1, L2, L3, L4, L5, L6, L9, L29, L30, L60, L127, L9999, L1000000000, w6T, fB_5_1, fB_2_1, fB_0_1, fAB_5, fAB_2]
  rw [f_X0_withBody_4]
  simp (disch := omega) only [ofN, lC_lt, lC_ge, lC_eq, lC_gt, lC_le, T_ltL, F_ltL, T_leL, F_leL, T_eqL, F_eqL, m1_0, lN_add, nI_lE, lN_i, ↓reduceIte, bind_p, T_lt, F_lt, T_le, F_le, T_eq, F_eq, F_neg, T_ltm, F_lem, F_ltm, nI_add, nI_mul, nI_sub, ldI_n, stI_n, aix_n, ldL_n, stL_n, ldF_n, gI_atE, gI_ne1, gI_ne2, gL_atE, gL_ne1, gL_ne2, gL_s, gI_s, w7T, w7F1, w7F2, and31, K0, K1, K2, K3, K4, K5, K6, K7, K8, K9, K10, K11, K12, K14, K16, K18, K20, K24, K29, K30, K31, K32, K33, K36, K38, K40, K41, K42, K48, K50, K51, K54, K57, K59, K60, K63, K70, K71, K84, K94, K97, K100, K101, K104, K108, K112, K120, K121, K122, K123, K124, K125, K127, K255, K300, K1000, K9999, K99999, K2147483647, L0, L1, L2, L3, L4, L5, L6, L9, L29, L30, L60, L127, L9999, L1000000000, w6T, fB_5_1, fB_2_1, fB_0_1, fAB_5, fAB_2]
  rw [f_X0_withBody_4]
  simp (disch := omega) only [ofN, lC_lt, lC_ge, lC_eq, lC_gt, lC_le, T_ltL, F_ltL, T_leL, F_leL, T_eqL, F_eqL, m1_0, lN_add, nI_lE, lN_i, ↓reduceIte, bind_p, T_lt, F_lt, T_le, F_le, T_eq, F_eq, F_neg, T_ltm, F_lem, F_ltm, nI_add, nI_mul, nI_sub, ldI_n, stI_n, aix_n, ldL_n, stL_n, ldF_n, gI_atE, gI_ne1, gI_ne2, gL_atE, gL_ne1, gL_ne2, gL_s, gI_s, w7T, w7F1, w7F2, and31, K0, K1, K2, K3, K4, K5, K6, K7, K8, K9, K10, K11, K12, K14, K16, K18, K20, K24, K29, K30, K31, K32, K33, K36, K38, K40, K41, K42, K48, K50, K51, K54, K57, K59, K60, K63, K70, K71, K84, K94, K97, K100, K101, K104, K108, K112, K120, K121, K122, K123, K124, K125, K127, K255, K300, K1000, K9999, K99999, K2147483647, L0, L1, L2, L3, L4, L5, L6, L9, L29, L30, L60, L127, L9999, L1000000000, w6T, fB_5_1, fB_2_1, fB_0_1, fAB_5, fAB_2]
theorem rn_5_1 {μ0 μ : Mem} {bs : List Nat} {κ v e deep : Nat} (h : CS μ0 μ bs κ v e) (hl : bs.length < 20) (hd : deep ≤ 18) : ∃ ν, CS μ0 ν (bs ++ [11]) κ v e ∧ ∀ (G : (Mem → Int32 → Int32 → Int32 → Option (Int32 × Mem)) × (Mem → Int32 → Int32 → Int32 → Int32 → Option (Int32 × Mem))) (x : Int32), b_X0_run G μ (nI 5) (nI 1) x (nI deep) = (G.1 ν (nI 0) x (nI (deep + 1))).bind fun p => some (p.1 - gI p.2 5 3, p.2) := by
  obtain ⟨ν, e1, e2⟩ := bg6 (b := 11) h hl
  refine ⟨ν, e2, fun G x => ?_⟩
  unfold b_X0_run
  rw [wb_5_1]
  simp (disch := omega) only [ofN, lC_lt, lC_ge, lC_eq, lC_gt, lC_le, T_ltL, F_ltL, T_leL, F_leL, T_eqL, F_eqL, m1_0, lN_add, nI_lE, lN_i, ↓reduceIte, bind_p, T_lt, F_lt, T_le, F_le, T_eq, F_eq, F_neg, T_ltm, F_lem, F_ltm, nI_add, nI_mul, nI_sub, ldI_n, stI_n, aix_n, ldL_n, stL_n, ldF_n, gI_atE, gI_ne1, gI_ne2, gL_atE, gL_ne1, gL_ne2, gL_s, gI_s, w7T, w7F1, w7F2, and31, K0, K1, K2, K3, K4, K5, K6, K7, K8, K9, K10, K11, K12, K14, K16, K18, K20, K24, K29, K30, K31, K32, K33, K36, K38, K40, K41, K42, K48, K50, K51, K54, K57, K59, K60, K63, K70, K71, K84, K94, K97, K100, K101, K104, K108, K112, K120, K121, K122, K123, K124, K125, K127, K255, K300, K1000, K9999, K99999, K2147483647, fB_0_1, fAB_0, e1]
theorem wb_5_2 {μ : Mem} : f_X0_withBody μ (nI 5) (nI 2) = some (nI 5) := by
  unfold f_X0_withBody
  obtain ⟨N, hFU⟩ := FU_8; rw [hFU]; clear hFU
  rw [f_X0_withBody_4]
  simp (disch := omega) only [ofN, lC_lt, lC_ge, lC_eq, lC_gt, lC_le, T_ltL, F_ltL, T_leL, F_leL, T_eqL, F_eqL, m1_0, lN_add, nI_lE, lN_i, ↓reduceIte, bind_p, T_lt, F_lt, T_le, F_le, T_eq, F_eq, F_neg, T_ltm, F_lem, F_ltm, nI_add, nI_mul, nI_sub, ldI_n, stI_n, aix_n, ldL_n, stL_n, ldF_n, gI_atE, gI_ne1, gI_ne2, gL_atE, gL_ne1, gL_ne2, gL_s, gI_s, w7T, w7F1, w7F2, and31, K0, K1, K2, K3, K4, K5, K6, K7, K8, K9, K10, K11, K12, K14, K16, K18, K20, K24, K29, K30, K31, K32, K33, K36, K38, K40, K41, K42, K48, K50, K51, K54, K57, K59, K60, K63, K70, K71, K84, K94, K97, K100, K101, K104, K108, K112, K120, K121, K122, K123, K124, K125, K127, K255, K300, K1000, K9999, K99999, K2147483647, L0, L1, L2, L3, L4, L5, L6, L9, L29, L30, L60, L127, L9999, L1000000000, w6T, fB_5_2]
theorem rn_5_2 {μ0 μ : Mem} {bs : List Nat} {κ v e deep : Nat} (h : CS μ0 μ bs κ v e) (hl : bs.length < 20) (hd : deep ≤ 18) : ∃ ν, CS μ0 ν (bs ++ [60]) κ v e ∧ ∀ (G : (Mem → Int32 → Int32 → Int32 → Option (Int32 × Mem)) × (Mem → Int32 → Int32 → Int32 → Int32 → Option (Int32 × Mem))) (x : Int32), b_X0_run G μ (nI 5) (nI 2) x (nI deep) = (G.2 ν (nI 2) (nI 2) (x - gI ν 5 4) (nI (deep + 1))).bind fun p => some (p.1, p.2) := by
  obtain ⟨ν, e1, e2⟩ := bg6 (b := 60) h hl
  refine ⟨ν, e2, fun G x => ?_⟩
  unfold b_X0_run
  rw [wb_5_2]
  simp (disch := omega) only [ofN, lC_lt, lC_ge, lC_eq, lC_gt, lC_le, T_ltL, F_ltL, T_leL, F_leL, T_eqL, F_eqL, m1_0, lN_add, nI_lE, lN_i, ↓reduceIte, bind_p, T_lt, F_lt, T_le, F_le, T_eq, F_eq, F_neg, T_ltm, F_lem, F_ltm, nI_add, nI_mul, nI_sub, ldI_n, stI_n, aix_n, ldL_n, stL_n, ldF_n, gI_atE, gI_ne1, gI_ne2, gL_atE, gL_ne1, gL_ne2, gL_s, gI_s, w7T, w7F1, w7F2, and31, K0, K1, K2, K3, K4, K5, K6, K7, K8, K9, K10, K11, K12, K14, K16, K18, K20, K24, K29, K30, K31, K32, K33, K36, K38, K40, K41, K42, K48, K50, K51, K54, K57, K59, K60, K63, K70, K71, K84, K94, K97, K100, K101, K104, K108, K112, K120, K121, K122, K123, K124, K125, K127, K255, K300, K1000, K9999, K99999, K2147483647, fB_5_2, fAB_5, e1]
theorem wb_6_0 {μ : Mem} : f_X0_withBody μ (nI 6) (nI 0) = some (nI 6) := by
  unfold f_X0_withBody
  obtain ⟨N, hFU⟩ := FU_8; rw [hFU]; clear hFU
  rw [f_X0_withBody_4]
  simp (disch := omega) only [ofN, lC_lt, lC_ge, lC_eq, lC_gt, lC_le, T_ltL, F_ltL, T_leL, F_leL, T_eqL, F_eqL, m1_0, lN_add, nI_lE, lN_i, ↓reduceIte, bind_p, T_lt, F_lt, T_le, F_le, T_eq, F_eq, F_neg, T_ltm, F_lem, F_ltm, nI_add, nI_mul, nI_sub, ldI_n, stI_n, aix_n, ldL_n, stL_n, ldF_n, gI_atE, gI_ne1, gI_ne2, gL_atE, gL_ne1, gL_ne2, gL_s, gI_s, w7T, w7F1, w7F2, and31, K0, K1, K2, K3, K4, K5, K6, K7, K8, K9, K10, K11, K12, K14, K16, K18, K20, K24, K29, K30, K31, K32, K33, K36, K38, K40, K41, K42, K48, K50, K51, K54, K57, K59, K60, K63, K70, K71, K84, K94, K97, K100, K101, K104, K108, K112, K120, K121, K122, K123, K124, K125, K127, K255, K300, K1000, K9999, K99999, K2147483647, L0, L1, L2, L3, L4, L5, L6, L9, L29, L30, L60, L127, L9999, L1000000000, w6T, fB_6_0]
theorem rn_6_0 {μ0 μ : Mem} {bs : List Nat} {κ v e deep : Nat} (h : CS μ0 μ bs κ v e) (hl : bs.length < 20) (hd : deep ≤ 18) : ∃ ν, CS μ0 ν (bs ++ [71]) κ v e ∧ ∀ (G : (Mem → Int32 → Int32 → Int32 → Option (Int32 × Mem)) × (Mem → Int32 → Int32 → Int32 → Int32 → Option (Int32 × Mem))) (x : Int32), b_X0_run G μ (nI 6) (nI 0) x (nI deep) = (G.2 ν (nI 3) (nI 0) x (nI (deep + 1))).bind fun p => some (p.1 ^^^ gI p.2 5 3, p.2) := by
  obtain ⟨ν, e1, e2⟩ := bg6 (b := 71) h hl
  refine ⟨ν, e2, fun G x => ?_⟩
  unfold b_X0_run
  rw [wb_6_0]
  simp (disch := omega) only [ofN, lC_lt, lC_ge, lC_eq, lC_gt, lC_le, T_ltL, F_ltL, T_leL, F_leL, T_eqL, F_eqL, m1_0, lN_add, nI_lE, lN_i, ↓reduceIte, bind_p, T_lt, F_lt, T_le, F_le, T_eq, F_eq, F_neg, T_ltm, F_lem, F_ltm, nI_add, nI_mul, nI_sub, ldI_n, stI_n, aix_n, ldL_n, stL_n, ldF_n, gI_atE, gI_ne1, gI_ne2, gL_atE, gL_ne1, gL_ne2, gL_s, gI_s, w7T, w7F1, w7F2, and31, K0, K1, K2, K3, K4, K5, K6, K7, K8, K9, K10, K11, K12, K14, K16, K18, K20, K24, K29, K30, K31, K32, K33, K36, K38, K40, K41, K42, K48, K50, K51, K54, K57, K59, K60, K63, K70, K71, K84, K94, K97, K100, K101, K104, K108, K112, K120, K121, K122, K123, K124, K125, K127, K255, K300, K1000, K9999, K99999, K2147483647, fB_6_0, fAB_6, e1]
theorem wb_6_1 {μ : Mem} : f_X0_withBody μ (nI 6) (nI 1) = some (nI 6) := by
  unfold f_X0_withBody
  obtain ⟨N, hFU⟩ := FU_8; rw [hFU]; clear hFU
  rw [f_X0_withBody_4]
  simp (disch := omega) only [ofN, lC_lt, lC_ge, lC_eq, lC_gt, lC_le, T_ltL, F_ltL, T_leL, F_leL, T_eqL, F_eqL, m1_0, lN_add, nI_lE, lN_i, ↓reduceIte, bind_p, T_lt, F_lt, T_le, F_le, T_eq, F_eq, F_neg, T_ltm, F_lem, F_ltm, nI_add, nI_mul, nI_sub, ldI_n, stI_n, aix_n, ldL_n, stL_n, ldF_n, gI_atE, gI_ne1, gI_ne2, gL_atE, gL_ne1, gL_ne2, gL_s, gI_s, w7T, w7F1, w7F2, and31, K0, K1, K2, K3, K4, K5, K6, K7, K8, K9, K10, K11, K12, K14, K16, K18, K20, K24, K29, K30, K31, K32, K33, K36, K38, K40, K41, K42, K48, K50, K51, K54, K57, K59, K60, K63, K70, K71, K84, K94, K97, K100, K101, K104, K108, K112, K120, K121, K122, K123, K124, K125, K127, K255, K300, K1000, K9999, K99999, K2147483647, L0, L1, L2, L3, L4, L5, L6, L9, L29, L30, L60, L127, L9999, L1000000000, w6T, fB_6_1]
theorem rn_6_1 {μ0 μ : Mem} {bs : List Nat} {κ v e deep : Nat} (h : CS μ0 μ bs κ v e) (hl : bs.length < 20) (hd : deep ≤ 18) : ∃ ν, CS μ0 ν (bs ++ [70]) κ v e ∧ ∀ (G : (Mem → Int32 → Int32 → Int32 → Option (Int32 × Mem)) × (Mem → Int32 → Int32 → Int32 → Int32 → Option (Int32 × Mem))) (x : Int32), b_X0_run G μ (nI 6) (nI 1) x (nI deep) = (G.2 ν (nI 3) (nI 1) x (nI (deep + 1))).bind fun p => (G.2 p.2 (nI 3) (nI 0) (nI 2) (nI (deep + 1))).bind fun q => some (p.1 + q.1, q.2) := by
  obtain ⟨ν, e1, e2⟩ := bg6 (b := 70) h hl
  refine ⟨ν, e2, fun G x => ?_⟩
  unfold b_X0_run
  rw [wb_6_1]
  simp (disch := omega) only [ofN, lC_lt, lC_ge, lC_eq, lC_gt, lC_le, T_ltL, F_ltL, T_leL, F_leL, T_eqL, F_eqL, m1_0, lN_add, nI_lE, lN_i, ↓reduceIte, bind_p, T_lt, F_lt, T_le, F_le, T_eq, F_eq, F_neg, T_ltm, F_lem, F_ltm, nI_add, nI_mul, nI_sub, ldI_n, stI_n, aix_n, ldL_n, stL_n, ldF_n, gI_atE, gI_ne1, gI_ne2, gL_atE, gL_ne1, gL_ne2, gL_s, gI_s, w7T, w7F1, w7F2, and31, K0, K1, K2, K3, K4, K5, K6, K7, K8, K9, K10, K11, K12, K14, K16, K18, K20, K24, K29, K30, K31, K32, K33, K36, K38, K40, K41, K42, K48, K50, K51, K54, K57, K59, K60, K63, K70, K71, K84, K94, K97, K100, K101, K104, K108, K112, K120, K121, K122, K123, K124, K125, K127, K255, K300, K1000, K9999, K99999, K2147483647, fB_6_1, fAB_6, e1]
theorem wb_6_2 {μ : Mem} : f_X0_withBody μ (nI 6) (nI 2) = some (nI 3) := by
  unfold f_X0_withBody
  obtain ⟨N, hFU⟩ := FU_8; rw [hFU]; clear hFU
  rw [f_X0_withBody_4]
  simp (disch := omega) only [ofN, lC_lt, lC_ge, lC_eq, lC_gt, lC_le, T_ltL, F_ltL, T_leL, F_leL, T_eqL, F_eqL, m1_0, lN_add, nI_lE, lN_i, ↓reduceIte, bind_p, T_lt, F_lt, T_le, F_le, T_eq, F_eq, F_neg, T_ltm, F_lem, F_ltm, nI_add, nI_mul, nI_sub, ldI_n, stI_n, aix_n, ldL_n, stL_n, ldF_n, gI_atE, gI_ne1, gI_ne2, gL_atE, gL_ne1, gL_ne2, gL_s, gI_s, w7T, w7F1, w7F2, and31, K0, K1, K2, K3, K4, K5, K6, K7, K8, K9, K10, K11, K12, K14, K16, K18, K20, K24, K29, K30, K31, K32, K33, K36, K38, K40, K41, K42, K48, K50, K51, K54, K57, K59, K60, K63, K70, K71, K84, K94, K97, K100, K101, K104, K108, K112, K120, K121, K122, K123, K124, K125, K127, K255, K300, K1000, K9999, K99999, K2147483647, L0, L1, L2, L3, L4, L5, L6, L9, L29, L30, L60, L127, L9999, L1000000000, w6T, fB_6_2, fB_3_2, fAB_6]
  rw [f_X0_withBody_4]
  simp (disch := omega) only [ofN, lC_lt, lC_ge, lC_eq, lC_gt, lC_le, T_ltL, F_ltL, T_leL, F_leL, T_eqL, F_eqL, m1_0, lN_add, nI_lE, lN_i, ↓reduceIte, bind_p, T_lt, F_lt, T_le, F_le, T_eq, F_eq, F_neg, T_ltm, F_lem, F_ltm, nI_add, nI_mul, nI_sub, ldI_n, stI_n, aix_n, ldL_n, stL_n, ldF_n, gI_atE, gI_ne1, gI_ne2, gL_atE, gL_ne1, gL_ne2, gL_s, gI_s, w7T, w7F1, w7F2, and31, K0, K1, K2, K3, K4, K5, K6, K7, K8, K9, K10, K11, K12, K14, K16, K18, K20, K24, K29, K30, K31, K32, K33, K36, K38, K40, K41, K42, K48, K50, K51, K54, K57, K59, K60, K63, K70, K71, K84, K94, K97, K100, K101, K104, K108, K112, K120, K121, K122, K123, K124, K125, K127, K255, K300, K1000, K9999, K99999, K2147483647, L0, L1, L2, L3, L4, L5, L6, L9, L29, L30, L60, L127, L9999, L1000000000, w6T, fB_6_2, fB_3_2, fAB_6]
theorem rn_6_2 {μ0 μ : Mem} {bs : List Nat} {κ v e deep : Nat} (h : CS μ0 μ bs κ v e) (hl : bs.length < 20) (hd : deep ≤ 18) : ∃ ν, CS μ0 ν (bs ++ [40]) κ v e ∧ ∀ (G : (Mem → Int32 → Int32 → Int32 → Option (Int32 × Mem)) × (Mem → Int32 → Int32 → Int32 → Int32 → Option (Int32 × Mem))) (x : Int32), b_X0_run G μ (nI 6) (nI 2) x (nI deep) = (G.2 ν (nI 0) (nI 2) x (nI (deep + 1))).bind fun p => (G.1 p.2 (nI 1) (nI 1) (nI (deep + 1))).bind fun q => some (p.1 + q.1, q.2) := by
  obtain ⟨ν, e1, e2⟩ := bg6 (b := 40) h hl
  refine ⟨ν, e2, fun G x => ?_⟩
  unfold b_X0_run
  rw [wb_6_2]
  simp (disch := omega) only [ofN, lC_lt, lC_ge, lC_eq, lC_gt, lC_le, T_ltL, F_ltL, T_leL, F_leL, T_eqL, F_eqL, m1_0, lN_add, nI_lE, lN_i, ↓reduceIte, bind_p, T_lt, F_lt, T_le, F_le, T_eq, F_eq, F_neg, T_ltm, F_lem, F_ltm, nI_add, nI_mul, nI_sub, ldI_n, stI_n, aix_n, ldL_n, stL_n, ldF_n, gI_atE, gI_ne1, gI_ne2, gL_atE, gL_ne1, gL_ne2, gL_s, gI_s, w7T, w7F1, w7F2, and31, K0, K1, K2, K3, K4, K5, K6, K7, K8, K9, K10, K11, K12, K14, K16, K18, K20, K24, K29, K30, K31, K32, K33, K36, K38, K40, K41, K42, K48, K50, K51, K54, K57, K59, K60, K63, K70, K71, K84, K94, K97, K100, K101, K104, K108, K112, K120, K121, K122, K123, K124, K125, K127, K255, K300, K1000, K9999, K99999, K2147483647, fB_3_2, fAB_3, e1]
def tkV (v e k : Nat) (x : Int32) : Int32 := if k = 2 ∨ k = 5 then x * nI 3 + nI e else if k = 4 then -(x + nI e) else if k = 6 then (x + nI e) ^^^ nI v else x + nI e
def tkB (k : Nat) : List Nat := if k = 2 ∨ k = 5 then [30, 10] else if k = 4 then [50, 10] else if k = 6 then [71, 10] else [10]
def st0 (v e κ : Nat) (x : Int32) : Int32 := tkV v e κ x - nI v
def stV (v e κ k : Nat) (x : Int32) : Int32 := if k = 1 then st0 v e κ x ^^^ nI 6 else if k = 4 then st0 v e κ (x + nI 1) ^^^ nI 6 else if k = 6 then st0 v e κ x + (nI 2 + nI e) else st0 v e κ x
def stB (κ k : Nat) : List Nat := if k = 1 then [20] ++ ([11] ++ tkB κ) else if k = 4 then [51] ++ ([20] ++ ([11] ++ tkB κ)) else if k = 6 then [70] ++ (([11] ++ tkB κ) ++ [10]) else [11] ++ tkB κ
def te0 (v e κ : Nat) (x : Int32) : Int32 := stV v e κ κ x * nI 2
def teV (v e κ k : Nat) (x : Int32) : Int32 := if k = 3 ∨ k = 6 then te0 v e κ x + stV v e κ κ (nI 1) else if k = 5 then te0 v e κ (x - nI e) else te0 v e κ x
def teB (κ k : Nat) : List Nat := if k = 3 ∨ k = 6 then [40] ++ (([12] ++ stB κ κ) ++ stB κ κ) else if k = 5 then [60] ++ ([12] ++ stB κ κ) else [12] ++ stB κ κ
theorem tkB_l (k : Nat) : (tkB k).length ≤ 2 := by
  unfold tkB
  split
  · decide
  · split
    · decide
    · split <;> decide
theorem stB_l (κ k : Nat) : (stB κ k).length ≤ 5 := by
  have := tkB_l κ
  unfold stB
  split
  · simp only [List.length_append, List.length_cons, List.length_nil]; omega
  · split
    · simp only [List.length_append, List.length_cons, List.length_nil]; omega
    · split
      · simp only [List.length_append, List.length_cons, List.length_nil]; omega
      · simp only [List.length_append, List.length_cons, List.length_nil]; omega
theorem teB_l (κ k : Nat) : (teB κ k).length ≤ 12 := by
  have := stB_l κ κ
  unfold teB
  split
  · simp only [List.length_append, List.length_cons, List.length_nil]; omega
  · split
    · simp only [List.length_append, List.length_cons, List.length_nil]; omega
    · simp only [List.length_append, List.length_cons, List.length_nil]; omega
theorem len1 (bs : List Nat) (b : Nat) : (bs ++ [b]).length = bs.length + 1 := by simp
/-- ticks, in the class -/
theorem tick6 {μ0 : Mem} {κ v e k d : Nat} (hk : k ≤ 6) : ∀ (μ : Mem) (bs : List Nat) (deep : Nat) (x : Int32), CS μ0 μ bs κ v e → bs.length + 2 ≤ 20 → deep ≤ 17 → ∃ ν, (G_acts (d + 2)).2 μ (nI k) (nI 0) x (nI deep) = some (tkV v e k x, ν) ∧ CS μ0 ν (bs ++ tkB k) κ v e := by
  intro μ bs deep x h hl hd
  show ∃ ν, b_X0_run (G_acts (d + 1)) μ (nI k) (nI 0) x (nI deep) = _ ∧ _
  rcases (show k = 0 ∨ k = 1 ∨ k = 2 ∨ k = 3 ∨ k = 4 ∨ k = 5 ∨ k = 6 by omega) with rfl | rfl | rfl | rfl | rfl | rfl | rfl
  · obtain ⟨ν, c1, r1⟩ := rn_0_0 h (by omega) (show deep ≤ 18 by omega)
    refine ⟨ν, ?_, c1⟩
    rw [r1, c1.2.2.2.2.2.1]
    rfl
  · obtain ⟨ν, c1, r1⟩ := rn_1_0 h (by omega) (show deep ≤ 18 by omega)
    refine ⟨ν, ?_, c1⟩
    rw [r1, c1.2.2.2.2.2.1]
    rfl
  · obtain ⟨ν, c1, r1⟩ := rn_2_0 h (by omega) (show deep ≤ 18 by omega)
    obtain ⟨ξ, c2, r2⟩ := rn_0_0 c1 (by rw [len1]; omega) (show deep + 1 ≤ 18 by omega)
    refine ⟨ξ, ?_, by rw [List.append_assoc] at c2; exact c2⟩
    have r2' : ∀ x, (G_acts (d + 1)).2 ν (nI 0) (nI 0) x (nI (deep + 1)) = some (x + gI ξ 5 4, ξ) := fun x => r2 (G_acts d) x
    rw [r1, r2', c2.2.2.2.2.2.1]
    simp only [bind_p]
    rfl
  · obtain ⟨ν, c1, r1⟩ := rn_3_0 h (by omega) (show deep ≤ 18 by omega)
    refine ⟨ν, ?_, c1⟩
    rw [r1, c1.2.2.2.2.2.1]
    rfl
  · obtain ⟨ν, c1, r1⟩ := rn_4_0 h (by omega) (show deep ≤ 18 by omega)
    obtain ⟨ξ, c2, r2⟩ := rn_1_0 c1 (by rw [len1]; omega) (show deep + 1 ≤ 18 by omega)
    refine ⟨ξ, ?_, by rw [List.append_assoc] at c2; exact c2⟩
    have r2' : ∀ x, (G_acts (d + 1)).2 ν (nI 1) (nI 0) x (nI (deep + 1)) = some (x + gI ξ 5 4, ξ) := fun x => r2 (G_acts d) x
    rw [r1, r2', c2.2.2.2.2.2.1]
    simp only [bind_p]
    rfl
  · obtain ⟨ν, c1, r1⟩ := rn_5_0 h (by omega) (show deep ≤ 18 by omega)
    obtain ⟨ξ, c2, r2⟩ := rn_0_0 c1 (by rw [len1]; omega) (show deep + 1 ≤ 18 by omega)
    refine ⟨ξ, ?_, by rw [List.append_assoc] at c2; exact c2⟩
    have r2' : ∀ x, (G_acts (d + 1)).2 ν (nI 0) (nI 0) x (nI (deep + 1)) = some (x + gI ξ 5 4, ξ) := fun x => r2 (G_acts d) x
    rw [r1, r2', c2.2.2.2.2.2.1]
    simp only [bind_p]
    rfl
  · obtain ⟨ν, c1, r1⟩ := rn_6_0 h (by omega) (show deep ≤ 18 by omega)
    obtain ⟨ξ, c2, r2⟩ := rn_3_0 c1 (by rw [len1]; omega) (show deep + 1 ≤ 18 by omega)
    refine ⟨ξ, ?_, by rw [List.append_assoc] at c2; exact c2⟩
    have r2' : ∀ x, (G_acts (d + 1)).2 ν (nI 3) (nI 0) x (nI (deep + 1)) = some (x + gI ξ 5 4, ξ) := fun x => r2 (G_acts d) x
    rw [r1, r2', c2.2.2.2.2.2.1]
    simp only [bind_p]
    rw [c2.2.2.2.2.1]
    rfl
/-- stirs, in the class -/
theorem own6 {μ0 μ : Mem} {bs : List Nat} {κ v e d : Nat} {a x dp : Int32} (h : CS μ0 μ bs κ v e) : (G_acts (d + 1)).1 μ a x dp = ((G_acts d).2 μ (nI κ) a x dp).bind fun p => some (p.1, p.2) := by
  show b_X0_own (G_acts d) μ a x dp = _
  unfold b_X0_own
  rw [h.2.2.2.1]
theorem stir6_0 {μ0 : Mem} {κ v e k d : Nat} (hκ : κ ≤ 6) (hk : k = 0 ∨ k = 2 ∨ k = 3 ∨ k = 5) : ∀ (μ : Mem) (bs : List Nat) (deep : Nat) (x : Int32), CS μ0 μ bs κ v e → bs.length + 3 ≤ 20 → deep ≤ 16 → ∃ ν, (G_acts (d + 4)).2 μ (nI k) (nI 1) x (nI deep) = some (st0 v e κ x, ν) ∧ CS μ0 ν (bs ++ ([11] ++ tkB κ)) κ v e := by
  intro μ bs deep x h hl hd
  show ∃ ν, b_X0_run (G_acts (d + 3)) μ (nI k) (nI 1) x (nI deep) = _ ∧ _
  obtain ⟨ν, c1, r1⟩ : ∃ ν, CS μ0 ν (bs ++ [11]) κ v e ∧ ∀ G x, b_X0_run G μ (nI k) (nI 1) x (nI deep) = (G.1 ν (nI 0) x (nI (deep + 1))).bind fun p => some (p.1 - gI p.2 5 3, p.2) := by
    rcases hk with rfl | rfl | rfl | rfl
    · exact rn_0_1 h (by omega) (by omega)
    · exact rn_2_1 h (by omega) (by omega)
    · exact rn_3_1 h (by omega) (by omega)
    · exact rn_5_1 h (by omega) (by omega)
  obtain ⟨ξ, t1, t2⟩ := tick6 (d := d) hκ ν (bs ++ [11]) (deep + 1) x c1 (by rw [len1]; omega) (by omega)
  refine ⟨ξ, ?_, by rw [List.append_assoc] at t2; exact t2⟩
  rw [r1, own6 c1, t1]
  simp only [bind_p]
  rw [t2.2.2.2.2.1]
  rfl
theorem stir6_1 {μ0 : Mem} {κ v e d : Nat} (hκ : κ ≤ 6) : ∀ (μ : Mem) (bs : List Nat) (deep : Nat) (x : Int32), CS μ0 μ bs κ v e → bs.length + 4 ≤ 20 → deep ≤ 15 → ∃ ν, (G_acts (d + 5)).2 μ (nI 1) (nI 1) x (nI deep) = some (st0 v e κ x ^^^ nI 6, ν) ∧ CS μ0 ν (bs ++ ([20] ++ ([11] ++ tkB κ))) κ v e := by
  intro μ bs deep x h hl hd
  show ∃ ν, b_X0_run (G_acts (d + 4)) μ (nI 1) (nI 1) x (nI deep) = _ ∧ _
  obtain ⟨ν, c1, r1⟩ := rn_1_1 h (by omega) (show deep ≤ 18 by omega)
  obtain ⟨ξ, t1, t2⟩ := stir6_0 (d := d) hκ (.inl rfl) ν (bs ++ [20]) (deep + 1) x c1 (by rw [len1]; omega) (by omega)
  refine ⟨ξ, ?_, by rw [List.append_assoc] at t2; exact t2⟩
  rw [r1, t1]
  simp only [bind_p]
theorem stir6 {μ0 : Mem} {κ v e k d : Nat} (hκ : κ ≤ 6) (hk : k ≤ 6) : ∀ (μ : Mem) (bs : List Nat) (deep : Nat) (x : Int32), CS μ0 μ bs κ v e → bs.length + 6 ≤ 20 → deep ≤ 14 → ∃ ν, (G_acts (d + 6)).2 μ (nI k) (nI 1) x (nI deep) = some (stV v e κ k x, ν) ∧ CS μ0 ν (bs ++ stB κ k) κ v e := by
  intro μ bs deep x h hl hd
  rcases (show (k = 0 ∨ k = 2 ∨ k = 3 ∨ k = 5) ∨ k = 1 ∨ k = 4 ∨ k = 6 by omega) with hk' | rfl | rfl | rfl
  · obtain ⟨ν, t1, t2⟩ := stir6_0 (d := d + 2) hκ hk' μ bs deep x h (by omega) (by omega)
    unfold stV stB
    rw [if_neg (by omega), if_neg (by omega), if_neg (by omega), if_neg (by omega), if_neg (by omega), if_neg (by omega)]
    exact ⟨ν, t1, t2⟩
  · exact stir6_1 (d := d + 1) hκ μ bs deep x h (by omega) (by omega)
  · show ∃ ν, b_X0_run (G_acts (d + 5)) μ (nI 4) (nI 1) x (nI deep) = _ ∧ _
    obtain ⟨ν, c1, r1⟩ := rn_4_1 h (by omega) (show deep ≤ 18 by omega)
    obtain ⟨ξ, t1, t2⟩ := stir6_1 (d := d) hκ ν (bs ++ [51]) (deep + 1) (x + nI 1) c1 (by rw [len1]; omega) (by omega)
    refine ⟨ξ, ?_, by rw [List.append_assoc] at t2; exact t2⟩
    rw [r1, t1]
    rfl
  · show ∃ ν, b_X0_run (G_acts (d + 5)) μ (nI 6) (nI 1) x (nI deep) = _ ∧ _
    obtain ⟨ν, c1, r1⟩ := rn_6_1 h (by omega) (show deep ≤ 18 by omega)
    have htl := tkB_l κ
    obtain ⟨ξ, t1, t2⟩ := stir6_0 (d := d + 1) hκ (.inr (.inr (.inl rfl))) ν (bs ++ [70]) (deep + 1) x c1 (by rw [len1]; omega) (by omega)
    obtain ⟨ζ, u1, u2⟩ := tick6 (k := 3) (d := d + 3) (by omega) ξ _ (deep + 1) (nI 2) t2 (by simp only [List.length_append, List.length_cons, List.length_nil]; omega) (by omega)
    refine ⟨ζ, ?_, ?_⟩
    · rw [r1, t1]
      simp only [bind_p]
      rw [u1]
      rfl
    · have e1 : bs ++ [70] ++ ([11] ++ tkB κ) ++ tkB 3 = bs ++ stB κ 6 := by
        show bs ++ [70] ++ ([11] ++ tkB κ) ++ [10] = bs ++ ([70] ++ (([11] ++ tkB κ) ++ [10]))
        rw [List.append_assoc, List.append_assoc]
      rw [e1] at u2
      exact u2
/-- tells, in the class -/
theorem tell6_0 {μ0 : Mem} {κ v e k d : Nat} (hκ : κ ≤ 6) (hk : k = 0 ∨ k = 1 ∨ k = 2 ∨ k = 4) : ∀ (μ : Mem) (bs : List Nat) (deep : Nat) (x : Int32), CS μ0 μ bs κ v e → bs.length + 7 ≤ 20 → deep ≤ 13 → ∃ ν, (G_acts (d + 8)).2 μ (nI k) (nI 2) x (nI deep) = some (te0 v e κ x, ν) ∧ CS μ0 ν (bs ++ ([12] ++ stB κ κ)) κ v e := by
  intro μ bs deep x h hl hd
  show ∃ ν, b_X0_run (G_acts (d + 7)) μ (nI k) (nI 2) x (nI deep) = _ ∧ _
  obtain ⟨ν, c1, r1⟩ : ∃ ν, CS μ0 ν (bs ++ [12]) κ v e ∧ ∀ G x, b_X0_run G μ (nI k) (nI 2) x (nI deep) = (G.1 ν (nI 1) x (nI (deep + 1))).bind fun p => some (p.1 * nI 2, p.2) := by
    rcases hk with rfl | rfl | rfl | rfl
    · exact rn_0_2 h (by omega) (by omega)
    · exact rn_1_2 h (by omega) (by omega)
    · exact rn_2_2 h (by omega) (by omega)
    · exact rn_4_2 h (by omega) (by omega)
  obtain ⟨ξ, t1, t2⟩ := stir6 (d := d) hκ hκ ν (bs ++ [12]) (deep + 1) x c1 (by rw [len1]; omega) (by omega)
  refine ⟨ξ, ?_, by rw [List.append_assoc] at t2; exact t2⟩
  rw [r1, own6 c1, t1]
  simp only [bind_p]
  rfl
theorem tell6 {μ0 : Mem} {κ v e k d : Nat} (hκ : κ ≤ 6) (hk : k ≤ 6) : ∀ (μ : Mem) (bs : List Nat) (deep : Nat) (x : Int32), CS μ0 μ bs κ v e → bs.length + 13 ≤ 20 → deep ≤ 12 → ∃ ν, (G_acts (d + 9)).2 μ (nI k) (nI 2) x (nI deep) = some (teV v e κ k x, ν) ∧ CS μ0 ν (bs ++ teB κ k) κ v e := by
  intro μ bs deep x h hl hd
  have hsl := stB_l κ κ
  rcases (show (k = 0 ∨ k = 1 ∨ k = 2 ∨ k = 4) ∨ (k = 3 ∨ k = 6) ∨ k = 5 by omega) with hk' | hk' | rfl
  · obtain ⟨ν, t1, t2⟩ := tell6_0 (d := d + 1) hκ hk' μ bs deep x h (by omega) (by omega)
    unfold teV teB
    rw [if_neg (by omega), if_neg (by omega), if_neg (by omega), if_neg (by omega)]
    exact ⟨ν, t1, t2⟩
  · show ∃ ν, b_X0_run (G_acts (d + 8)) μ (nI k) (nI 2) x (nI deep) = _ ∧ _
    obtain ⟨ν, c1, r1⟩ : ∃ ν, CS μ0 ν (bs ++ [40]) κ v e ∧ ∀ G x, b_X0_run G μ (nI k) (nI 2) x (nI deep) = (G.2 ν (nI 0) (nI 2) x (nI (deep + 1))).bind fun p => (G.1 p.2 (nI 1) (nI 1) (nI (deep + 1))).bind fun q => some (p.1 + q.1, q.2) := by
      rcases hk' with rfl | rfl
      · exact rn_3_2 h (by omega) (by omega)
      · exact rn_6_2 h (by omega) (by omega)
    obtain ⟨ξ, t1, t2⟩ := tell6_0 (d := d) hκ (.inl rfl) ν (bs ++ [40]) (deep + 1) x c1 (by rw [len1]; omega) (by omega)
    obtain ⟨ζ, u1, u2⟩ := stir6 (d := d + 1) hκ hκ ξ _ (deep + 1) (nI 1) t2 (by simp only [List.length_append, List.length_cons, List.length_nil]; omega) (by omega)
    refine ⟨ζ, ?_, ?_⟩
    · unfold teV
      rw [if_pos hk', r1, t1]
      simp only [bind_p]
      rw [own6 t2, u1]
      simp only [bind_p]
    · unfold teB
      rw [if_pos hk']
      have e1 : bs ++ [40] ++ ([12] ++ stB κ κ) ++ stB κ κ = bs ++ ([40] ++ (([12] ++ stB κ κ) ++ stB κ κ)) := by
        rw [List.append_assoc, List.append_assoc]
      rw [e1] at u2
      exact u2
  · show ∃ ν, b_X0_run (G_acts (d + 8)) μ (nI 5) (nI 2) x (nI deep) = _ ∧ _
    obtain ⟨ν, c1, r1⟩ := rn_5_2 h (by omega) (show deep ≤ 18 by omega)
    obtain ⟨ξ, t1, t2⟩ := tell6_0 (d := d) hκ (.inr (.inr (.inl rfl))) ν (bs ++ [60]) (deep + 1) (x - nI e) c1 (by rw [len1]; omega) (by omega)
    refine ⟨ξ, ?_, by rw [List.append_assoc] at t2; exact t2⟩
    rw [r1, c1.2.2.2.2.2.1, t1]
    rfl
