/-- .. of a question that writes nothing -/
def Ask (μ : Mem) {α : Type} (fx fm : Mem → Option α) : Prop := ∃ r, fx μ = some r ∧ fm μ = some r
theorem s_count {T : PT} {μ : Mem} (hR : RR T μ) (a : Int32) : Ask μ (fun μ => f_X6_count μ a) (fun μ => f_X7_count μ a) := by
  obtain ⟨⟨x1, _, ⟨x3, _⟩, ⟨x4, _⟩, ⟨x5, _⟩, _⟩, ⟨m1, _, ⟨m3, _⟩, ⟨m4, _⟩, ⟨m5, _⟩, _⟩, o1, _⟩ := id hR
  have e1 : gI μ 2000 0 = gI μ 100 0 := m1.1.1.trans x1.1.1.symm
  have e2 : gI μ 2000 17 = gI μ 1 6 := m4.trans x4.symm
  have e3 : gI μ 2000 27 = gI μ (100 + 10) 1 := m1.2.2.1.1.trans x1.2.2.1.1.symm
  have e4 : gI μ 2000 31 = gI μ (100 + 30) 1 := m1.2.2.2.1.1.trans x1.2.2.2.1.1.symm
  have e5 : gI μ 2000 34 = gI μ (100 + 50) 1 := m1.2.2.2.2.1.trans x1.2.2.2.2.1.symm
  have e6 : gI μ 2000 11 = gI μ 2 1 := m3.trans x3.symm
  have e7 : gI μ 2000 37 = gI μ 5 1 := m5.trans x5.symm
  have h : f_X7_count μ a = f_X6_count μ a := by
    unfold f_X7_count f_X6_count
    rw [e1, e2, e3, e4, e5, e6, e7]
  have h2 : ∃ r, f_X6_count μ a = some r := by
    unfold f_X6_count
    repeat' split
    all_goals exact ⟨_, rfl⟩
  obtain ⟨r, hr⟩ := h2
  exact ⟨r, hr, h.trans hr⟩
theorem s_trace {T : PT} {μ : Mem} (hR : RR T μ) (a : Int32) : Ask μ (fun μ => f_X6_trace μ a) (fun μ => f_X7_trace μ a) := by
  obtain ⟨⟨_, _, _, _, ⟨x5, x5'⟩, _⟩, ⟨_, _, _, _, ⟨m5, m5'⟩, _⟩, _, _, _, _, o5, _⟩ := id hR
  obtain ⟨R, hRd⟩ : ∃ R, R = T.1 2 37 0 := ⟨_, rfl⟩
  rw [← hRd] at x5 x5' m5 m5' o5
  obtain ⟨c, hc⟩ : ∃ c, c = min R 20 := ⟨_, rfl⟩
  have hx : (if (20 : Int32) < nI R then (20 : Int32) else nI R) = nI c := by
    by_cases h : 20 < R
    · rw [K20, if_pos (nI_lt (a := 20) h (by omega))]
      rw [show c = 20 by omega]
    · rw [K20, if_neg (nI_nlt (a := 20) (b := R) (by omega) (by omega))]
      rw [show c = R by omega]
  have hm : (if nI R < (20 : Int32) then nI R else (20 : Int32)) = nI c := by
    by_cases h : R < 20
    · rw [K20, if_pos (nI_lt (b := 20) h (by omega))]
      rw [show c = R by omega]
    · rw [K20, if_neg (nI_nlt (b := 20) (a := R) (by omega) (by omega))]
      rw [show c = 20 by omega]
  by_cases h : 0 ≤ a.toInt ∧ a.toInt < c
  · obtain ⟨i, hi, rfl, hi'⟩ := nat_of h.1
    have : i < c := by omega
    refine ⟨nI (T.1 2 38 i), ?_, ?_⟩
    · show f_X6_trace μ _ = _
      unfold f_X6_trace
      rw [x5, hx]
      simp (disch := omega) only [ofN, lC_lt, lC_ge, lC_eq, lC_gt, lC_le, T_ltL, F_ltL, T_leL, F_leL, T_eqL, F_eqL, m1_0, lN_add, nI_lE, lN_i, ↓reduceIte, bind_s, T_lt, F_lt, T_le, F_le, T_eq, F_eq, F_neg, T_ltm, F_lem, F_ltm, nI_add, nI_mul, nI_sub, ldI_n, stI_n, aix_n, ldL_n, stL_n, ldF_n, gI_atE, gI_ne1, gI_ne2, gL_atE, gL_ne1, gL_ne2, gL_s, gI_s, w7T, w7F1, w7F2, and31, K0, K1, K2, K3, K4, K5, K6, K7, K8, K9, K10, K11, K12, K14, K16, K18, K20, K24, K29, K30, K31, K32, K33, K36, K38, K40, K41, K42, K48, K50, K51, K54, K57, K59, K60, K63, K70, K71, K84, K94, K97, K100, K101, K104, K108, K112, K120, K121, K122, K123, K124, K125, K127, K255, K300, K1000, K9999, K99999, K2147483647, L0, L1, L2, L3, L4, L5, L6, L9, L29, L30, L60, L127, L9999, L1000000000, nI_lE, w6T, w6F1, w6F2, x5' i (by omega) (by omega)]
    · show f_X7_trace μ _ = _
      unfold f_X7_trace
      rw [m5, hm]
      simp (disch := omega) only [ofN, lC_lt, lC_ge, lC_eq, lC_gt, lC_le, T_ltL, F_ltL, T_leL, F_leL, T_eqL, F_eqL, m1_0, lN_add, nI_lE, lN_i, ↓reduceIte, bind_s, T_lt, F_lt, T_le, F_le, T_eq, F_eq, F_neg, T_ltm, F_lem, F_ltm, nI_add, nI_mul, nI_sub, ldI_n, stI_n, aix_n, ldL_n, stL_n, ldF_n, gI_atE, gI_ne1, gI_ne2, gL_atE, gL_ne1, gL_ne2, gL_s, gI_s, w7T, w7F1, w7F2, and31, K0, K1, K2, K3, K4, K5, K6, K7, K8, K9, K10, K11, K12, K14, K16, K18, K20, K24, K29, K30, K31, K32, K33, K36, K38, K40, K41, K42, K48, K50, K51, K54, K57, K59, K60, K63, K70, K71, K84, K94, K97, K100, K101, K104, K108, K112, K120, K121, K122, K123, K124, K125, K127, K255, K300, K1000, K9999, K99999, K2147483647, m5' i (by omega) (by omega)]
  · have hc1 : (nI c - 1).toInt = (c : Int) - 1 := by
      rw [show nI c - 1 = iI ((c : Int) - 1) by rw [nI_iI, show (1 : Int32) = iI 1 from rfl, iI_sub], iI_toInt (by omega) (by omega)]
    have h0 : (0 : Int32).toInt = 0 := by decide
    have h0' : (0 : Int64).toInt = 0 := by decide
    refine ⟨-1, ?_, ?_⟩
    · show f_X6_trace μ _ = _
      unfold f_X6_trace
      rw [x5, hx, w6_no (fun q => h ?_)]
      · rfl
      · rw [Int64.le_iff_toInt_le, Int64.le_iff_toInt_le, Int32.toInt_toInt64, Int32.toInt_toInt64, hc1, h0'] at q
        omega
    · show f_X7_trace μ _ = _
      unfold f_X7_trace
      rw [m5, hm, w7_no (fun q => h ?_)]
      · rfl
      · rw [Int32.le_iff_toInt_le, Int32.le_iff_toInt_le, hc1, h0] at q
        omega
def isUn (κ k : Nat) : Bool := κ == k || k == 0 || (κ == 4 && k == 1) || (κ == 5 && k == 2) || (κ == 6 && k == 3)
theorem under6 {μ : Mem} {N κ k : Nat} (hκ : κ ≤ 6) (hk : k ≤ 6) : f_X6_isUnder_4 μ (N + 1 + 1 + 1 + 1 + 1 + 1) (nI k) (nI κ) (nI 0) = some (nI (isUn κ k).toNat) := by
  rcases (show κ = 0 ∨ κ = 1 ∨ κ = 2 ∨ κ = 3 ∨ κ = 4 ∨ κ = 5 ∨ κ = 6 by omega) with rfl | rfl | rfl | rfl | rfl | rfl | rfl <;>
  rcases (show k = 0 ∨ k = 1 ∨ k = 2 ∨ k = 3 ∨ k = 4 ∨ k = 5 ∨ k = 6 by omega) with rfl | rfl | rfl | rfl | rfl | rfl | rfl <;>
  first
  | (rw [show isUn _ _ = true from rfl, Bool.toNat_true]; (repeat (rw [f_X6_isUnder_4]; simp (disch := omega) only [ofN, lC_lt, lC_ge, lC_eq, lC_gt, lC_le, T_ltL, F_ltL, T_leL, F_leL, T_eqL, F_eqL, m1_0, lN_add, nI_lE, lN_i, ↓reduceIte, bind_s, T_lt, F_lt, T_le, F_le, T_eq, F_eq, F_neg, T_ltm, F_lem, F_ltm, nI_add, nI_mul, nI_sub, ldI_n, stI_n, aix_n, ldL_n, stL_n, ldF_n, gI_atE, gI_ne1, gI_ne2, gL_atE, gL_ne1, gL_ne2, gL_s, gI_s, w7T, w7F1, w7F2, and31, K0, K1, K2, K3, K4, K5, K6, K7, K8, K9, K10, K11, K12, K14, K16, K18, K20, K24, K29, K30, K31, K32, K33, K36, K38, K40, K41, K42, K48, K50, K51, K54, K57, K59, K60, K63, K70, K71, K84, K94, K97, K100, K101, K104, K108, K112, K120, K121, K122, K123, K124, K125, K127, K255, K300, K1000, K9999, K99999, K2147483647, fAB_0, fAB_1, fAB_2, fAB_3, fAB_4, fAB_5, fAB_6])); done)
  | (rw [show isUn _ _ = false from rfl, Bool.toNat_false]; (repeat (rw [f_X6_isUnder_4]; simp (disch := omega) only [ofN, lC_lt, lC_ge, lC_eq, lC_gt, lC_le, T_ltL, F_ltL, T_leL, F_leL, T_eqL, F_eqL, m1_0, lN_add, nI_lE, lN_i, ↓reduceIte, bind_s, T_lt, F_lt, T_le, F_le, T_eq, F_eq, F_neg, T_ltm, F_lem, F_ltm, nI_add, nI_mul, nI_sub, ldI_n, stI_n, aix_n, ldL_n, stL_n, ldF_n, gI_atE, gI_ne1, gI_ne2, gL_atE, gL_ne1, gL_ne2, gL_s, gI_s, w7T, w7F1, w7F2, and31, K0, K1, K2, K3, K4, K5, K6, K7, K8, K9, K10, K11, K12, K14, K16, K18, K20, K24, K29, K30, K31, K32, K33, K36, K38, K40, K41, K42, K48, K50, K51, K54, K57, K59, K60, K63, K70, K71, K84, K94, K97, K100, K101, K104, K108, K112, K120, K121, K122, K123, K124, K125, K127, K255, K300, K1000, K9999, K99999, K2147483647, fAB_0, fAB_1, fAB_2, fAB_3, fAB_4, fAB_5, fAB_6])); done)
theorem under7 {μ : Mem} {N e κ k : Nat} (he : e < 6) (hm : gI μ 2001 e = nI κ) (hκ : κ ≤ 6) (hk : k ≤ 6) : f_X7_taken_31 μ (N + 1 + 1 + 1 + 1 + 1 + 1) (nI e) (nI k) (nI κ) = some (if isUn κ k then nI κ else -nI 12) := by
  rcases (show κ = 0 ∨ κ = 1 ∨ κ = 2 ∨ κ = 3 ∨ κ = 4 ∨ κ = 5 ∨ κ = 6 by omega) with rfl | rfl | rfl | rfl | rfl | rfl | rfl <;>
  rcases (show k = 0 ∨ k = 1 ∨ k = 2 ∨ k = 3 ∨ k = 4 ∨ k = 5 ∨ k = 6 by omega) with rfl | rfl | rfl | rfl | rfl | rfl | rfl <;>
  first
  | (rw [if_pos (show isUn _ _ = true from rfl)]; (repeat (rw [f_X7_taken_31]; simp (disch := omega) only [ofN, lC_lt, lC_ge, lC_eq, lC_gt, lC_le, T_ltL, F_ltL, T_leL, F_leL, T_eqL, F_eqL, m1_0, lN_add, nI_lE, lN_i, ↓reduceIte, bind_s, T_lt, F_lt, T_le, F_le, T_eq, F_eq, F_neg, T_ltm, F_lem, F_ltm, nI_add, nI_mul, nI_sub, ldI_n, stI_n, aix_n, ldL_n, stL_n, ldF_n, gI_atE, gI_ne1, gI_ne2, gL_atE, gL_ne1, gL_ne2, gL_s, gI_s, w7T, w7F1, w7F2, and31, K0, K1, K2, K3, K4, K5, K6, K7, K8, K9, K10, K11, K12, K14, K16, K18, K20, K24, K29, K30, K31, K32, K33, K36, K38, K40, K41, K42, K48, K50, K51, K54, K57, K59, K60, K63, K70, K71, K84, K94, K97, K100, K101, K104, K108, K112, K120, K121, K122, K123, K124, K125, K127, K255, K300, K1000, K9999, K99999, K2147483647, hm, f_X7_taken_48, f_X7_above])); done)
  | (rw [if_neg (show ¬ isUn _ _ = true by decide)]; (repeat (rw [f_X7_taken_31]; simp (disch := omega) only [ofN, lC_lt, lC_ge, lC_eq, lC_gt, lC_le, T_ltL, F_ltL, T_leL, F_leL, T_eqL, F_eqL, m1_0, lN_add, nI_lE, lN_i, ↓reduceIte, bind_s, T_lt, F_lt, T_le, F_le, T_eq, F_eq, F_neg, T_ltm, F_lem, F_ltm, nI_add, nI_mul, nI_sub, ldI_n, stI_n, aix_n, ldL_n, stL_n, ldF_n, gI_atE, gI_ne1, gI_ne2, gL_atE, gL_ne1, gL_ne2, gL_s, gI_s, w7T, w7F1, w7F2, and31, K0, K1, K2, K3, K4, K5, K6, K7, K8, K9, K10, K11, K12, K14, K16, K18, K20, K24, K29, K30, K31, K32, K33, K36, K38, K40, K41, K42, K48, K50, K51, K54, K57, K59, K60, K63, K70, K71, K84, K94, K97, K100, K101, K104, K108, K112, K120, K121, K122, K123, K124, K125, K127, K255, K300, K1000, K9999, K99999, K2147483647, hm, f_X7_taken_48, f_X7_above])); done)
theorem s_taken {T : PT} {μ : Mem} (hR : RR T μ) (a b : Int32) : Ask μ (fun μ => f_X6_taken μ a b) (fun μ => f_X7_taken μ a b) := by
  obtain ⟨⟨x1, _⟩, ⟨m1, _⟩, o1, _⟩ := id hR
  have hE := o1.1.1
  rcases arg b (lo := 0) (hi := 6) (A := 0) (B := 6) (C := 0) (D := 6) rfl rfl rfl rfl with ⟨k, _, hk, _, rfl, hbx, hbm⟩ | ⟨_, hbx, hbm⟩
  · rcases oneS (S := 100) (E := T.1 0 0 0) (by omega) a with ⟨e, he, rfl, hx, hm⟩ | ⟨hn, hx, hm⟩
    · have hx0 : gI μ (100 + 1 + 1 + e) 0 = nI (T.1 0 1 e) := (x1.2.1 e he).1 0 (by omega)
      have hm0 : gI μ 2001 e = nI (T.1 0 1 e) := (m1.2.1 e he).1 0 (by omega)
      have hk6 := ((o1.2.1 e he).1).1
      obtain ⟨N, hN⟩ : ∃ N, FU = N + 1 + 1 + 1 + 1 + 1 + 1 := ⟨4994, rfl⟩
      refine ⟨if isUn (T.1 0 1 e) k then nI (T.1 0 1 e) else -nI 12, ?_, ?_⟩
      · show f_X6_taken μ _ _ = _
        unfold f_X6_taken f_X6_isUnder
        rw [hbx, hx μ x1.1.1, hN, K0]
        have hu := under6 (μ := μ) (N := N) hk6 hk
        cases hb : isUn (T.1 0 1 e) k
        · rw [hb] at hu
          simp (disch := omega) only [ofN, lC_lt, lC_ge, lC_eq, lC_gt, lC_le, T_ltL, F_ltL, T_leL, F_leL, T_eqL, F_eqL, m1_0, lN_add, nI_lE, lN_i, ↓reduceIte, bind_s, T_lt, F_lt, T_le, F_le, T_eq, F_eq, F_neg, T_ltm, F_lem, F_ltm, nI_add, nI_mul, nI_sub, ldI_n, stI_n, aix_n, ldL_n, stL_n, ldF_n, gI_atE, gI_ne1, gI_ne2, gL_atE, gL_ne1, gL_ne2, gL_s, gI_s, w7T, w7F1, w7F2, and31, K0, K1, K2, K3, K4, K5, K6, K7, K8, K9, K10, K11, K12, K14, K16, K18, K20, K24, K29, K30, K31, K32, K33, K36, K38, K40, K41, K42, K48, K50, K51, K54, K57, K59, K60, K63, K70, K71, K84, K94, K97, K100, K101, K104, K108, K112, K120, K121, K122, K123, K124, K125, K127, K255, K300, K1000, K9999, K99999, K2147483647, hx0, hu, Bool.toNat_false]
          rfl
        · rw [hb] at hu
          simp (disch := omega) only [ofN, lC_lt, lC_ge, lC_eq, lC_gt, lC_le, T_ltL, F_ltL, T_leL, F_leL, T_eqL, F_eqL, m1_0, lN_add, nI_lE, lN_i, ↓reduceIte, bind_s, T_lt, F_lt, T_le, F_le, T_eq, F_eq, F_neg, T_ltm, F_lem, F_ltm, nI_add, nI_mul, nI_sub, ldI_n, stI_n, aix_n, ldL_n, stL_n, ldF_n, gI_atE, gI_ne1, gI_ne2, gL_atE, gL_ne1, gL_ne2, gL_s, gI_s, w7T, w7F1, w7F2, and31, K0, K1, K2, K3, K4, K5, K6, K7, K8, K9, K10, K11, K12, K14, K16, K18, K20, K24, K29, K30, K31, K32, K33, K36, K38, K40, K41, K42, K48, K50, K51, K54, K57, K59, K60, K63, K70, K71, K84, K94, K97, K100, K101, K104, K108, K112, K120, K121, K122, K123, K124, K125, K127, K255, K300, K1000, K9999, K99999, K2147483647, hx0, hu, Bool.toNat_true]
      · show f_X7_taken μ _ _ = _
        unfold f_X7_taken
        rw [hbm, hm μ m1.1.1, hN]
        have hu := under7 (μ := μ) (N := N) (by omega) hm0 hk6 hk
        simp (disch := omega) only [ofN, lC_lt, lC_ge, lC_eq, lC_gt, lC_le, T_ltL, F_ltL, T_leL, F_leL, T_eqL, F_eqL, m1_0, lN_add, nI_lE, lN_i, ↓reduceIte, bind_s, T_lt, F_lt, T_le, F_le, T_eq, F_eq, F_neg, T_ltm, F_lem, F_ltm, nI_add, nI_mul, nI_sub, ldI_n, stI_n, aix_n, ldL_n, stL_n, ldF_n, gI_atE, gI_ne1, gI_ne2, gL_atE, gL_ne1, gL_ne2, gL_s, gI_s, w7T, w7F1, w7F2, and31, K0, K1, K2, K3, K4, K5, K6, K7, K8, K9, K10, K11, K12, K14, K16, K18, K20, K24, K29, K30, K31, K32, K33, K36, K38, K40, K41, K42, K48, K50, K51, K54, K57, K59, K60, K63, K70, K71, K84, K94, K97, K100, K101, K104, K108, K112, K120, K121, K122, K123, K124, K125, K127, K255, K300, K1000, K9999, K99999, K2147483647, hm0, hu]
    · refine ⟨-11, ?_, ?_⟩
      · show f_X6_taken μ a _ = _
        unfold f_X6_taken; rw [hbx, hx μ x1.1.1]; rfl
      · show f_X7_taken μ a _ = _
        unfold f_X7_taken; rw [hbm, hm μ m1.1.1]; rfl
  · refine ⟨-2, ?_, ?_⟩
    · show f_X6_taken μ a b = _
      unfold f_X6_taken; rw [hbx]; rfl
    · show f_X7_taken μ a b = _
      unfold f_X7_taken; rw [hbm]; rfl
