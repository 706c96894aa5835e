/-! of, told, pass -/
theorem XO_fr {a b : Nat} {μ ν : Mem} (h : fr a b μ ν) (hb : (100 ≤ a ∧ b ≤ 160) ∨ (300 ≤ a ∧ b ≤ 360)) : XO μ ν := fun k h1 h2 => ⟨h.1 k (by omega), h.2 k⟩
theorem RkO.fr' {S : Nat} {μ ν : Mem} (h : RkO S μ ν) : fr S (S + 8) μ ν := ⟨fun k hk => h.1 k (by omega), h.2.2⟩
theorem rk100 {T : PT} {μ : Mem} (hR : RR T μ) : ∃ ν, f_X6_reckon μ 100 = some ν ∧ XO μ ν ∧ XS ν 100 (T.1 0) ∧ MS ν (T.1 0) ∧ CX ν (T.1 2 17 0) T.2.2 ∧ CM ν (T.1 2 17 0) T.2.2 ∧ Rk ν 100 (T.1 0) (clF T.2.2 (T.1 0)) (T.1 0 0 0) ∧ ∀ e, e < T.1 0 0 0 → gI ν (100 + 1 + 1 + e) 9 = nxV (T.1 0) (clF T.2.2 (T.1 0)) e (T.1 0 10 0) := by
  obtain ⟨⟨x1, _⟩, ⟨m1, _⟩, o1, _⟩ := id hR
  obtain ⟨ν, e1, e2, e3, e4, e5⟩ := reckon6 (S := 100) (by omega) hR.CX x1 o1.dy (by omega)
  exact ⟨ν, e1, XO_fr e2.fr' (by omega), e5, MS_X (fun k hk => e2.1 k (by omega)) m1, hR.CX.O (fun k hk => e2.1 k (by omega)), hR.CM.O (fun k hk => e2.1 k (by omega)), e3, e4⟩
theorem same_rk {T : PT} {μ : Mem} {α : Type} {r : α} {ν ξ : Mem} {fx fm : Mem → Option (α × Mem)} (hR : RR T μ) (hx : XO μ ν) (hX : XS ν 100 (T.1 0)) (hM : MS ν (T.1 0)) (h1 : fx μ = some (r, ν)) (h2 : fm ν = some (r, ξ)) (s : Sk ν ξ) : Same T μ fx fm :=
  same_n hR h1 h2 hx hX s.MO (s.MS hM) hR.2.2.1
theorem s_of {T : PT} {μ : Mem} (hR : RR T μ) (a b : Int32) : Same T μ (fun μ => f_X6_of μ a b) (fun μ => f_X7_of μ a b) := by
  obtain ⟨⟨x1, _⟩, ⟨m1, _⟩, o1, _⟩ := id hR
  have hE := o1.1.1
  rcases oneS (S := 100) (E := T.1 0 0 0) (by omega) a with ⟨e, he, rfl, hx, hm⟩ | ⟨hn, hx, hm⟩
  · rcases arg b (lo := 0) (hi := 9) (A := 0) (B := 9) (C := 0) (D := 9) rfl rfl rfl rfl with ⟨w, _, hw, _, rfl, hbx, hbm⟩ | ⟨hn, hbx, hbm⟩
    · obtain ⟨ν, e1, e2, e3, e4, e5, e6, e7, e8⟩ := rk100 hR
      obtain ⟨hH, hl⟩ := holdM e6 e4 o1.1.2.2.2
      obtain ⟨l, hld⟩ : ∃ l, l = clF T.2.2 (T.1 0) := ⟨_, rfl⟩
      rw [← hld] at hH hl e7 e8
      have hk := o1.e he
      have hrx := e3.2.1 e he
      have hrm := e4.2.1 e he
      have c1 : ∀ v, gI ν (100 + 1 + 1 + e) w = v → f_X6_of μ (nI e) (nI w) = some (v, ν) := fun v hv => by
        unfold f_X6_of
        rw [hx μ x1.1.1, hbx, e1, aix_n (by omega) (by omega)]
        simp only [bind_p]
        rw [if_neg (by decide), if_neg (by decide), ldI_n (by omega) (by omega), hv]
        rfl
      have hm1 := hm ν e4.1.1
      have d0 : gI ν 2001 e = nI (T.1 0 1 e) := hrm.1 0 (by omega)
      have d1 : gI ν 2002 e = nI (T.1 0 2 e) := hrm.1 1 (by omega)
      have d2 : gI ν 2003 e = nI (T.1 0 3 e) := hrm.1 2 (by omega)
      have d3 : gI ν 2004 e = nI (T.1 0 4 e) := hrm.1 3 (by omega)
      have d4 : gI ν 2005 e = nI (T.1 0 5 e) := hrm.1 4 (by omega)
      have d5 : gI ν 2006 e = nI (T.1 0 6 e) := hrm.1 5 (by omega)
      have d6 : gI ν 2007 e = nI (T.1 0 7 e) := hrm.1 6 (by omega)
      rcases (show w = 0 ∨ w = 1 ∨ w = 2 ∨ w = 3 ∨ w = 4 ∨ w = 5 ∨ w = 6 ∨ w = 7 ∨ w = 8 ∨ w = 9 by omega) with rfl | rfl | rfl | rfl | rfl | rfl | rfl | rfl | rfl | rfl
      · refine same_rk hR e2 e3 e4 (c1 _ (hrx.1 0 (by omega))) ?_ (Sk.rfl' _)
        show f_X7_of ν _ _ = _
        unfold f_X7_of; rw [hm1]; simp (disch := omega) only [ofN, lC_lt, lC_ge, lC_eq, lC_gt, lC_le, T_ltL, F_ltL, T_leL, F_leL, T_eqL, F_eqL, m1_0, lN_add, nI_lE, lN_i, ↓reduceIte, bind_s, T_lt, F_lt, T_le, F_le, T_eq, F_eq, F_neg, T_ltm, F_lem, F_ltm, nI_add, nI_mul, nI_sub, ldI_n, stI_n, aix_n, ldL_n, stL_n, ldF_n, gI_atE, gI_ne1, gI_ne2, gL_atE, gL_ne1, gL_ne2, gL_s, gI_s, w7T, w7F1, w7F2, and31, K0, K1, K2, K3, K4, K5, K6, K7, K8, K9, K10, K11, K12, K14, K16, K18, K20, K24, K29, K30, K31, K32, K33, K36, K38, K40, K41, K42, K48, K50, K51, K54, K57, K59, K60, K63, K70, K71, K84, K94, K97, K100, K101, K104, K108, K112, K120, K121, K122, K123, K124, K125, K127, K255, K300, K1000, K9999, K99999, K2147483647, d0]
      · refine same_rk hR e2 e3 e4 (c1 _ (hrx.1 1 (by omega))) ?_ (Sk.rfl' _)
        show f_X7_of ν _ _ = _
        unfold f_X7_of; rw [hm1]; simp (disch := omega) only [ofN, lC_lt, lC_ge, lC_eq, lC_gt, lC_le, T_ltL, F_ltL, T_leL, F_leL, T_eqL, F_eqL, m1_0, lN_add, nI_lE, lN_i, ↓reduceIte, bind_s, T_lt, F_lt, T_le, F_le, T_eq, F_eq, F_neg, T_ltm, F_lem, F_ltm, nI_add, nI_mul, nI_sub, ldI_n, stI_n, aix_n, ldL_n, stL_n, ldF_n, gI_atE, gI_ne1, gI_ne2, gL_atE, gL_ne1, gL_ne2, gL_s, gI_s, w7T, w7F1, w7F2, and31, K0, K1, K2, K3, K4, K5, K6, K7, K8, K9, K10, K11, K12, K14, K16, K18, K20, K24, K29, K30, K31, K32, K33, K36, K38, K40, K41, K42, K48, K50, K51, K54, K57, K59, K60, K63, K70, K71, K84, K94, K97, K100, K101, K104, K108, K112, K120, K121, K122, K123, K124, K125, K127, K255, K300, K1000, K9999, K99999, K2147483647, d1]
      · refine same_rk hR e2 e3 e4 (c1 _ (hrx.1 2 (by omega))) ?_ (Sk.rfl' _)
        show f_X7_of ν _ _ = _
        unfold f_X7_of; rw [hm1]; simp (disch := omega) only [ofN, lC_lt, lC_ge, lC_eq, lC_gt, lC_le, T_ltL, F_ltL, T_leL, F_leL, T_eqL, F_eqL, m1_0, lN_add, nI_lE, lN_i, ↓reduceIte, bind_s, T_lt, F_lt, T_le, F_le, T_eq, F_eq, F_neg, T_ltm, F_lem, F_ltm, nI_add, nI_mul, nI_sub, ldI_n, stI_n, aix_n, ldL_n, stL_n, ldF_n, gI_atE, gI_ne1, gI_ne2, gL_atE, gL_ne1, gL_ne2, gL_s, gI_s, w7T, w7F1, w7F2, and31, K0, K1, K2, K3, K4, K5, K6, K7, K8, K9, K10, K11, K12, K14, K16, K18, K20, K24, K29, K30, K31, K32, K33, K36, K38, K40, K41, K42, K48, K50, K51, K54, K57, K59, K60, K63, K70, K71, K84, K94, K97, K100, K101, K104, K108, K112, K120, K121, K122, K123, K124, K125, K127, K255, K300, K1000, K9999, K99999, K2147483647, d2]
      · refine same_rk hR e2 e3 e4 (c1 _ (hrx.1 3 (by omega))) ?_ (Sk.rfl' _)
        show f_X7_of ν _ _ = _
        unfold f_X7_of; rw [hm1]; simp (disch := omega) only [ofN, lC_lt, lC_ge, lC_eq, lC_gt, lC_le, T_ltL, F_ltL, T_leL, F_leL, T_eqL, F_eqL, m1_0, lN_add, nI_lE, lN_i, ↓reduceIte, bind_s, T_lt, F_lt, T_le, F_le, T_eq, F_eq, F_neg, T_ltm, F_lem, F_ltm, nI_add, nI_mul, nI_sub, ldI_n, stI_n, aix_n, ldL_n, stL_n, ldF_n, gI_atE, gI_ne1, gI_ne2, gL_atE, gL_ne1, gL_ne2, gL_s, gI_s, w7T, w7F1, w7F2, and31, K0, K1, K2, K3, K4, K5, K6, K7, K8, K9, K10, K11, K12, K14, K16, K18, K20, K24, K29, K30, K31, K32, K33, K36, K38, K40, K41, K42, K48, K50, K51, K54, K57, K59, K60, K63, K70, K71, K84, K94, K97, K100, K101, K104, K108, K112, K120, K121, K122, K123, K124, K125, K127, K255, K300, K1000, K9999, K99999, K2147483647, d3]
      · refine same_rk hR e2 e3 e4 (c1 _ (hrx.1 4 (by omega))) ?_ (Sk.rfl' _)
        show f_X7_of ν _ _ = _
        unfold f_X7_of; rw [hm1]; simp (disch := omega) only [ofN, lC_lt, lC_ge, lC_eq, lC_gt, lC_le, T_ltL, F_ltL, T_leL, F_leL, T_eqL, F_eqL, m1_0, lN_add, nI_lE, lN_i, ↓reduceIte, bind_s, T_lt, F_lt, T_le, F_le, T_eq, F_eq, F_neg, T_ltm, F_lem, F_ltm, nI_add, nI_mul, nI_sub, ldI_n, stI_n, aix_n, ldL_n, stL_n, ldF_n, gI_atE, gI_ne1, gI_ne2, gL_atE, gL_ne1, gL_ne2, gL_s, gI_s, w7T, w7F1, w7F2, and31, K0, K1, K2, K3, K4, K5, K6, K7, K8, K9, K10, K11, K12, K14, K16, K18, K20, K24, K29, K30, K31, K32, K33, K36, K38, K40, K41, K42, K48, K50, K51, K54, K57, K59, K60, K63, K70, K71, K84, K94, K97, K100, K101, K104, K108, K112, K120, K121, K122, K123, K124, K125, K127, K255, K300, K1000, K9999, K99999, K2147483647, d4]
      · refine same_rk hR e2 e3 e4 (c1 _ (hrx.1 5 (by omega))) ?_ (Sk.rfl' _)
        show f_X7_of ν _ _ = _
        unfold f_X7_of; rw [hm1]; simp (disch := omega) only [ofN, lC_lt, lC_ge, lC_eq, lC_gt, lC_le, T_ltL, F_ltL, T_leL, F_leL, T_eqL, F_eqL, m1_0, lN_add, nI_lE, lN_i, ↓reduceIte, bind_s, T_lt, F_lt, T_le, F_le, T_eq, F_eq, F_neg, T_ltm, F_lem, F_ltm, nI_add, nI_mul, nI_sub, ldI_n, stI_n, aix_n, ldL_n, stL_n, ldF_n, gI_atE, gI_ne1, gI_ne2, gL_atE, gL_ne1, gL_ne2, gL_s, gI_s, w7T, w7F1, w7F2, and31, K0, K1, K2, K3, K4, K5, K6, K7, K8, K9, K10, K11, K12, K14, K16, K18, K20, K24, K29, K30, K31, K32, K33, K36, K38, K40, K41, K42, K48, K50, K51, K54, K57, K59, K60, K63, K70, K71, K84, K94, K97, K100, K101, K104, K108, K112, K120, K121, K122, K123, K124, K125, K127, K255, K300, K1000, K9999, K99999, K2147483647, d5]
      · refine same_rk hR e2 e3 e4 (c1 _ (hrx.1 6 (by omega))) ?_ (Sk.rfl' _)
        show f_X7_of ν _ _ = _
        unfold f_X7_of; rw [hm1]; simp (disch := omega) only [ofN, lC_lt, lC_ge, lC_eq, lC_gt, lC_le, T_ltL, F_ltL, T_leL, F_leL, T_eqL, F_eqL, m1_0, lN_add, nI_lE, lN_i, ↓reduceIte, bind_s, T_lt, F_lt, T_le, F_le, T_eq, F_eq, F_neg, T_ltm, F_lem, F_ltm, nI_add, nI_mul, nI_sub, ldI_n, stI_n, aix_n, ldL_n, stL_n, ldF_n, gI_atE, gI_ne1, gI_ne2, gL_atE, gL_ne1, gL_ne2, gL_s, gI_s, w7T, w7F1, w7F2, and31, K0, K1, K2, K3, K4, K5, K6, K7, K8, K9, K10, K11, K12, K14, K16, K18, K20, K24, K29, K30, K31, K32, K33, K36, K38, K40, K41, K42, K48, K50, K51, K54, K57, K59, K60, K63, K70, K71, K84, K94, K97, K100, K101, K104, K108, K112, K120, K121, K122, K123, K124, K125, K127, K255, K300, K1000, K9999, K99999, K2147483647, d6]
      · have ht := turn7 (μ := ν) (e := e) (by omega) hrm hk
        refine same_rk hR e2 e3 e4 (c1 _ (e7 e he).1) ?_ (Sk.rfl' _)
        show f_X7_of ν _ _ = _
        unfold f_X7_of; rw [hm1]; simp (disch := omega) only [ofN, lC_lt, lC_ge, lC_eq, lC_gt, lC_le, T_ltL, F_ltL, T_leL, F_leL, T_eqL, F_eqL, m1_0, lN_add, nI_lE, lN_i, ↓reduceIte, bind_s, T_lt, F_lt, T_le, F_le, T_eq, F_eq, F_neg, T_ltm, F_lem, F_ltm, nI_add, nI_mul, nI_sub, ldI_n, stI_n, aix_n, ldL_n, stL_n, ldF_n, gI_atE, gI_ne1, gI_ne2, gL_atE, gL_ne1, gL_ne2, gL_s, gI_s, w7T, w7F1, w7F2, and31, K0, K1, K2, K3, K4, K5, K6, K7, K8, K9, K10, K11, K12, K14, K16, K18, K20, K24, K29, K30, K31, K32, K33, K36, K38, K40, K41, K42, K48, K50, K51, K54, K57, K59, K60, K63, K70, K71, K84, K94, K97, K100, K101, K104, K108, K112, K120, K121, K122, K123, K124, K125, K127, K255, K300, K1000, K9999, K99999, K2147483647, ht]
      · obtain ⟨ξ, r1, r2⟩ := rest7 (e := e) (by omega) hH hl hrm hk
        refine same_rk hR e2 e3 e4 (c1 _ (e7 e he).2) ?_ r2
        show f_X7_of ν _ _ = _
        unfold f_X7_of; rw [hm1]; simp (disch := omega) only [ofN, lC_lt, lC_ge, lC_eq, lC_gt, lC_le, T_ltL, F_ltL, T_leL, F_leL, T_eqL, F_eqL, m1_0, lN_add, nI_lE, lN_i, ↓reduceIte, bind_s, T_lt, F_lt, T_le, F_le, T_eq, F_eq, F_neg, T_ltm, F_lem, F_ltm, nI_add, nI_mul, nI_sub, ldI_n, stI_n, aix_n, ldL_n, stL_n, ldF_n, gI_atE, gI_ne1, gI_ne2, gL_atE, gL_ne1, gL_ne2, gL_s, gI_s, w7T, w7F1, w7F2, and31, K0, K1, K2, K3, K4, K5, K6, K7, K8, K9, K10, K11, K12, K14, K16, K18, K20, K24, K29, K30, K31, K32, K33, K36, K38, K40, K41, K42, K48, K50, K51, K54, K57, K59, K60, K63, K70, K71, K84, K94, K97, K100, K101, K104, K108, K112, K120, K121, K122, K123, K124, K125, K127, K255, K300, K1000, K9999, K99999, K2147483647, r1]
      · have hc := e8 e he
        have hk5 := hk.1.2.2.2.2.2
        unfold nxV at hc
        by_cases h5 : T.1 0 5 e = 1
        · rw [if_pos h5] at hc
          rw [h5] at d4
          refine same_rk hR e2 e3 e4 (c1 _ hc) ?_ (Sk.rfl' _)
          show f_X7_of ν _ _ = _
          unfold f_X7_of; rw [hm1]; simp (disch := omega) only [ofN, lC_lt, lC_ge, lC_eq, lC_gt, lC_le, T_ltL, F_ltL, T_leL, F_leL, T_eqL, F_eqL, m1_0, lN_add, nI_lE, lN_i, ↓reduceIte, bind_s, T_lt, F_lt, T_le, F_le, T_eq, F_eq, F_neg, T_ltm, F_lem, F_ltm, nI_add, nI_mul, nI_sub, ldI_n, stI_n, aix_n, ldL_n, stL_n, ldF_n, gI_atE, gI_ne1, gI_ne2, gL_atE, gL_ne1, gL_ne2, gL_s, gI_s, w7T, w7F1, w7F2, and31, K0, K1, K2, K3, K4, K5, K6, K7, K8, K9, K10, K11, K12, K14, K16, K18, K20, K24, K29, K30, K31, K32, K33, K36, K38, K40, K41, K42, K48, K50, K51, K54, K57, K59, K60, K63, K70, K71, K84, K94, K97, K100, K101, K104, K108, K112, K120, K121, K122, K123, K124, K125, K127, K255, K300, K1000, K9999, K99999, K2147483647, d4]
        · rw [if_neg h5] at hc
          obtain ⟨ξ, r1, r2⟩ := inD7 (e := e) (d := T.1 0 10 0) (by omega) hH hl hrm hk e4.1.2.2.1 (by have := o1.1.2.2.1; omega)
          refine same_rk hR e2 e3 e4 (c1 _ hc) ?_ r2
          show f_X7_of ν _ _ = _
          unfold f_X7_of; rw [hm1]; simp (disch := omega) only [ofN, lC_lt, lC_ge, lC_eq, lC_gt, lC_le, T_ltL, F_ltL, T_leL, F_leL, T_eqL, F_eqL, m1_0, lN_add, nI_lE, lN_i, ↓reduceIte, bind_s, T_lt, F_lt, T_le, F_le, T_eq, F_eq, F_neg, T_ltm, F_lem, F_ltm, nI_add, nI_mul, nI_sub, ldI_n, stI_n, aix_n, ldL_n, stL_n, ldF_n, gI_atE, gI_ne1, gI_ne2, gL_atE, gL_ne1, gL_ne2, gL_s, gI_s, w7T, w7F1, w7F2, and31, K0, K1, K2, K3, K4, K5, K6, K7, K8, K9, K10, K11, K12, K14, K16, K18, K20, K24, K29, K30, K31, K32, K33, K36, K38, K40, K41, K42, K48, K50, K51, K54, K57, K59, K60, K63, K70, K71, K84, K94, K97, K100, K101, K104, K108, K112, K120, K121, K122, K123, K124, K125, K127, K255, K300, K1000, K9999, K99999, K2147483647, d4, r1]
    · refine same_q (r := -1) hR ?_ ?_
      · show f_X6_of μ _ b = _
        unfold f_X6_of; rw [hx μ x1.1.1, hbx]; rfl
      · show f_X7_of μ _ b = _
        unfold f_X7_of; rw [hm μ m1.1.1]
        simp only [bind_p]
        rw [if_neg (by decide), if_neg (fun q => hn (by rw [q]; decide)), if_neg (fun q => hn (by rw [q]; decide)), if_neg (fun q => hn (by rw [q]; decide)), if_neg (fun q => hn (by rw [q]; decide)), if_neg (fun q => hn (by rw [q]; decide)), if_neg (fun q => hn (by rw [q]; decide)), if_neg (fun q => hn (by rw [q]; decide)), if_neg (fun q => hn (by rw [q]; decide)), if_neg (fun q => hn (by rw [q]; decide)), if_neg (fun q => hn (by rw [q]; decide))]
  · refine same_q (r := -1) hR ?_ ?_
    · show f_X6_of μ a b = _
      unfold f_X6_of; rw [hx μ x1.1.1]; rfl
    · show f_X7_of μ a b = _
      unfold f_X7_of; rw [hm μ m1.1.1]; rfl
theorem quiet_l {ν : Mem} {w D st : Nat} {l : List CL} {σ : SG} (hX : XS ν 100 σ) (hM : MS ν σ) (ho : okDy w D st σ) (hD : D ≤ 900000) (hR : Rk ν 100 σ l (σ 0 0)) (hH : HM ν l) (hl : okL l) :
    ∀ m i n n' ξ, Sk ν ξ → i + m = 1001 → m < n → m < n' → ∃ r ζ, f_X2_firstQuiet_2 ν 100 n (nI i) = some r ∧ f_X7_quiet_2 n' ξ (nI i) = some (r, ζ) ∧ Sk ν ζ := by
  have hd := ho.2.1.2.1
  have h6 := ho.1.1
  intro m
  induction m with
  | zero =>
    intro i n n' ξ hs hi hn hn'
    obtain ⟨n, rfl⟩ := suc_of hn
    obtain ⟨n', rfl⟩ := suc_of hn'
    refine ⟨-5, ξ, ?_, ?_, hs⟩
    · rw [f_X2_firstQuiet_2, K1000, if_pos (nI_lt (by omega) (by omega))]
    · rw [f_X7_quiet_2, K1000, if_pos (nI_lt (by omega) (by omega))]
  | succ m ih =>
    intro i n n' ξ hs hi hn hn'
    obtain ⟨n, rfl⟩ := suc_of hn
    obtain ⟨n', rfl⟩ := suc_of hn'
    have hnx : nI i + (1 : Int32) = nI (i + 1) := by rw [K1, nI_add]
    have hob := offN_b σ l (σ 10 0 + i) (σ 0 0)
    have h64 := pow6 h6
    have g1 := gOff6 (on := σ 10 0 + i) h6 hX hR (fun e he => (ho.2.2 e he).1) (by omega)
    obtain ⟨ζ, g2, g3⟩ := goOff7 (on := σ 10 0 + i) h6 (hs.MS hM).1.1 (hH.sk hs) hl ((hs.MS hM).rows ho) (by omega)
    rw [f_X2_firstQuiet_2, f_X7_quiet_2, K1000, if_neg (nI_nlt (by omega) (by omega)), if_neg (nI_nlt (by omega) (by omega)), hX.1.2.2.1, (hs.MS hM).1.2.2.1, nI_add, g1, g2]
    simp only [bind_p]
    by_cases h : offN σ l (σ 10 0 + i) (σ 0 0) = 0
    · exact ⟨nI i, ζ, by rw [if_pos (by rw [h]; rfl)], by rw [if_pos (by rw [h]; rfl)], hs.trans g3⟩
    · obtain ⟨r, κ, f1, f2, f3⟩ := ih (i + 1) n n' ζ (hs.trans g3) (by omega) (by omega) (by omega)
      refine ⟨r, κ, ?_, ?_, f3⟩
      · rw [if_neg (nI_ne0 (by omega) (by omega)), hnx]; exact f1
      · rw [if_neg (nI_ne0 (by omega) (by omega)), hnx]; exact f2
theorem s_told {T : PT} {μ : Mem} (hR : RR T μ) (a : Int32) : Same T μ (fun μ => f_X6_told μ a) (fun μ => f_X7_told μ a) := by
  obtain ⟨⟨x1, _⟩, ⟨m1, _⟩, o1, _⟩ := id hR
  have hE := o1.1.1
  have hD := o1.1.2.2.1
  obtain ⟨ν, e1, e2, e3, e4, e5, e6, e7, e8⟩ := rk100 hR
  obtain ⟨hH, hl⟩ := holdM e6 e4 o1.1.2.2.2
  obtain ⟨k1, k2, _⟩ := hold6 e5 e3.1.2.2.2 o1.1.2.2.2
  by_cases h0 : a = 0
  · refine same_rk (r := nI (T.1 0 10 0)) hR e2 e3 e4 ?_ ?_ (Sk.rfl' _)
    · show f_X6_told μ a = _
      unfold f_X6_told; rw [e1]; simp only [bind_p]; rw [if_pos h0, e3.1.2.2.1]
    · show f_X7_told ν a = _
      unfold f_X7_told; rw [if_pos h0, e4.1.2.2.1]
  by_cases h1 : a = 1
  · refine same_rk (r := nI (allN (clF T.2.2 (T.1 0)))) hR e2 e3 e4 ?_ ?_ (Sk.rfl' _)
    · show f_X6_told μ a = _
      unfold f_X6_told; rw [e1]; simp only [bind_p]; rw [if_neg h0, if_pos h1, k1]
      simp only [bind_p]
      rcases k2 with ⟨q1, q2⟩ | ⟨q1, q2⟩
      · rw [if_pos q1, q2]; rfl
      · rw [if_neg q1, q2.1]
    · show f_X7_told ν a = _
      unfold f_X7_told; rw [if_neg h0, if_pos h1, allBy7 hH hl]; rfl
  by_cases h2 : a = 2
  · refine same_rk (r := nI (T.1 0 9 0)) hR e2 e3 e4 ?_ ?_ (Sk.rfl' _)
    · show f_X6_told μ a = _
      unfold f_X6_told; rw [e1]; simp only [bind_p]; rw [if_neg h0, if_neg h1, if_pos h2, e3.1.2.1]
    · show f_X7_told ν a = _
      unfold f_X7_told; rw [if_neg h0, if_neg h1, if_pos h2, e4.1.2.1]
  by_cases h3 : a = 3
  · obtain ⟨ζ, g2, g3⟩ := goOff7 (on := T.1 0 10 0) hE e4.1.1 hH hl (e4.rows o1.dy) (by omega)
    refine same_rk (r := nI (offN (T.1 0) (clF T.2.2 (T.1 0)) (T.1 0 10 0) (T.1 0 0 0))) hR e2 e3 e4 ?_ ?_ g3
    · show f_X6_told μ a = _
      unfold f_X6_told; rw [e1]; simp only [bind_p]; rw [if_neg h0, if_neg h1, if_neg h2, if_pos h3, e3.1.2.2.1, gOff6 hE e3 e7 (fun e he => o1.e he) (by omega)]; rfl
    · show f_X7_told ν a = _
      unfold f_X7_told; rw [if_neg h0, if_neg h1, if_neg h2, if_pos h3, e4.1.2.2.1, g2]; rfl
  by_cases h4 : a = 4
  · obtain ⟨r, ζ, g1, g2, g3⟩ := quiet_l e3 e4 o1.dy (by omega) e7 hH hl 1001 0 FU FU ν (Sk.rfl' _) (by omega) (FU_p _ (by omega)) (FU_p _ (by omega))
    refine same_rk (r := r) hR e2 e3 e4 ?_ ?_ g3
    · show f_X6_told μ a = _
      unfold f_X6_told f_X2_firstQuiet; rw [e1]; simp only [bind_p]; rw [if_neg h0, if_neg h1, if_neg h2, if_neg h3, if_pos h4, show (0 : Int32) = nI 0 from rfl, g1]; rfl
    · show f_X7_told ν a = _
      unfold f_X7_told f_X7_quiet; rw [if_neg h0, if_neg h1, if_neg h2, if_neg h3, if_pos h4, show (0 : Int32) = nI 0 from rfl, g2]; rfl
  by_cases h5 : a = 5
  · refine same_rk (r := nI (suE (T.1 0) 6 (T.1 0 0 0))) hR e2 e3 e4 ?_ ?_ (Sk.rfl' _)
    · show f_X6_told μ a = _
      unfold f_X6_told; rw [e1]; simp only [bind_p]; rw [if_neg h0, if_neg h1, if_neg h2, if_neg h3, if_neg h4, if_pos h5, show (5 : Int32) = nI 5 from rfl, tot6 hE e3 (by omega)]; rfl
    · show f_X7_told ν a = _
      unfold f_X7_told; rw [if_neg h0, if_neg h1, if_neg h2, if_neg h3, if_neg h4, if_pos h5, aw7 hE e4]; rfl
  by_cases h6 : a = 6
  · refine same_rk (r := nI (suE (T.1 0) 7 (T.1 0 0 0))) hR e2 e3 e4 ?_ ?_ (Sk.rfl' _)
    · show f_X6_told μ a = _
      unfold f_X6_told; rw [e1]; simp only [bind_p]; rw [if_neg h0, if_neg h1, if_neg h2, if_neg h3, if_neg h4, if_neg h5, if_pos h6, show (6 : Int32) = nI 6 from rfl, tot6 hE e3 (by omega)]; rfl
    · show f_X7_told ν a = _
      unfold f_X7_told; rw [if_neg h0, if_neg h1, if_neg h2, if_neg h3, if_neg h4, if_neg h5, if_pos h6, am7 hE e4]; rfl
  · refine same_rk (r := -1) hR e2 e3 e4 ?_ ?_ (Sk.rfl' _)
    · show f_X6_told μ a = _
      unfold f_X6_told; rw [e1]; simp only [bind_p]; rw [if_neg h0, if_neg h1, if_neg h2, if_neg h3, if_neg h4, if_neg h5, if_neg h6]
    · show f_X7_told ν a = _
      unfold f_X7_told; rw [if_neg h0, if_neg h1, if_neg h2, if_neg h3, if_neg h4, if_neg h5, if_neg h6]
/-! pass: the reference's cap -/
def cpE (τ : SG) : Nat → SG
  | 0 => τ
  | e + 1 => up (up (cpE τ e) 6 e (min (τ 6 e) 9999)) 7 e (min (τ 7 e) 9999)
theorem cpE_o {τ : SG} {a x : Nat} (h6 : a ≠ 6) (h7 : a ≠ 7) : ∀ i, cpE τ i a x = τ a x
  | 0 => rfl
  | i + 1 => by rw [cpE, up_n1 h7, up_n1 h6, cpE_o h6 h7 i]
theorem cpE_ge {τ : SG} {a x : Nat} : ∀ i, i ≤ x → cpE τ i a x = τ a x
  | 0, _ => rfl
  | i + 1, h => by rw [cpE, up_n2 (by omega), up_n2 (by omega), cpE_ge i (by omega)]
theorem cpE_lt {τ : SG} {x : Nat} : ∀ i, x < i → cpE τ i 6 x = min (τ 6 x) 9999 ∧ cpE τ i 7 x = min (τ 7 x) 9999
  | 0, h => by omega
  | i + 1, h => by
    rw [cpE]
    by_cases hx : x = i
    · subst hx
      exact ⟨by rw [up_n1 (by omega), up_at], up_at _ _ _ _⟩
    · rw [up_n2 hx, up_n2 hx, up_n2 hx, up_n2 hx]
      exact cpE_lt i (by omega)
theorem mm_1 {a b W : Nat} (h : a ≤ 9999) (hb : b ≤ 1) (hW : 20000 ≤ W) : min (min (a + b) W) 9999 = min (a + b) 9999 := by omega
theorem mm_2 {a : Nat} (h : a ≤ 9999) : min a 9999 = a := by omega
theorem cp_eq {D st : Nat} {l : List CL} {σ : SG} (ho : okDy 9999 D st σ) : cpE (dyS 2147483647 l σ) (σ 0 0) = dyS 9999 l σ := by
  funext a x
  by_cases h6 : a = 6 ∨ a = 7
  · by_cases hx : x < σ 0 0
    · obtain ⟨c1, c2⟩ := cpE_lt (τ := dyS 2147483647 l σ) (σ 0 0) hx
      obtain ⟨d1, d2⟩ := dyE_lt (W := 2147483647) (ms := 1 - hrd σ) (b := offN σ l (σ 10 0) (σ 0 0)) (σ := σ) (σ 0 0) hx
      obtain ⟨f1, f2⟩ := dyE_lt (W := 9999) (ms := 1 - hrd σ) (b := offN σ l (σ 10 0) (σ 0 0)) (σ := σ) (σ 0 0) hx
      have hb := ho.2.2 x hx
      rcases h6 with rfl | rfl
      · rw [c1]
        unfold dyS
        rw [up_n1 (by omega), up_n1 (by omega), d1, f1]
        by_cases hq : offN σ l (σ 10 0) (σ 0 0) / 2 ^ x % 2 = 1
        · rw [if_pos hq, if_pos hq]; exact mm_1 hb.2.1 (Nat.le_refl 1) (by decide)
        · rw [if_neg hq, if_neg hq]; exact mm_2 hb.2.1
      · rw [c2]
        unfold dyS
        rw [up_n1 (by omega), up_n1 (by omega), d2, f2]
        by_cases hq : offN σ l (σ 10 0) (σ 0 0) / 2 ^ x % 2 = 1
        · rw [if_pos hq, if_pos hq]; exact mm_1 hb.2.2 (Nat.sub_le 1 _) (by decide)
        · rw [if_neg hq, if_neg hq]; exact mm_2 hb.2.2
    · rw [cpE_ge _ (by omega)]
      unfold dyS
      rw [up_n1 (by omega), up_n1 (by omega), dyE_ge _ (by omega), dyE_ge _ (by omega)]
  · rw [cpE_o (by omega) (by omega)]
    unfold dyS up
    rw [dyE_o (by omega) (by omega), dyE_o (by omega) (by omega)]
theorem minI' {a W : Nat} (ha : a < 2147483648) (hW : W < 2147483648) : (if nI a < nI W then nI a else nI W) = nI (min a W) := by
  by_cases h : a < W
  · rw [if_pos (nI_lt h (by omega)), Nat.min_eq_left (by omega)]
  · rw [if_neg (nI_nlt (by omega) (by omega)), Nat.min_eq_right (by omega)]
theorem cap_l {κ : Mem → Int32 → Int32 → Option (Int32 × Mem)} {τ : SG} {N j w D st : Nat} (ho : okDy w D st τ) (hw : w ≤ 1000000) :
    ∀ m i n ν, i + m = τ 0 0 → m < n → MS ν (cpE τ i) → ∃ ξ, f_X7_pass_40 κ n ν (nI N) (nI j) (nI i) = κ ξ (nI N) (nI (j + 1)) ∧ MS ξ (cpE τ (τ 0 0)) ∧ MF ν ξ := by
  have h6 := ho.1.1
  intro m
  induction m with
  | zero =>
    intro i n ν hi hn hM
    obtain ⟨n, rfl⟩ := suc_of hn
    obtain rfl : i = τ 0 0 := by omega
    have h0 := hM.1.1
    rw [cpE_o (by omega) (by omega)] at h0
    refine ⟨ν, ?_, hM, MF.rfl' _⟩
    rw [f_X7_pass_40, h0, if_pos (nI_le (by omega) (by omega)), K1, nI_add]
    rfl
  | succ m ih =>
    intro i n ν hi hn hM
    obtain ⟨n, rfl⟩ := suc_of hn
    have h0 := hM.1.1
    rw [cpE_o (by omega) (by omega)] at h0
    have hnx : nI i + (1 : Int32) = nI (i + 1) := by rw [K1, nI_add]
    have hxr := hM.2.1 i (by rw [cpE_o (by omega) (by omega)]; omega)
    have g5 : gI ν 2006 i = nI (τ 6 i) := by
      have := hxr.1 5 (by omega)
      rw [cpE_ge i (Nat.le_refl _)] at this
      exact this
    have g6 : gI ν 2007 i = nI (τ 7 i) := by
      have := hxr.1 6 (by omega)
      rw [cpE_ge i (Nat.le_refl _)] at this
      exact this
    have hri := ho.2.2 i (by omega)
    have hM1 : MS (sI ν 2006 i (nI (min (τ 6 i) 9999))) (up (cpE τ i) 6 i (min (τ 6 i) 9999)) := MS_up hM rfl (.inr (.inr (.inl ⟨5, by omega, rfl, rfl, rfl⟩)))
    have hM2 : MS (sI (sI ν 2006 i (nI (min (τ 6 i) 9999))) 2007 i (nI (min (τ 7 i) 9999))) (cpE τ (i + 1)) := MS_up hM1 rfl (.inr (.inr (.inl ⟨6, by omega, rfl, rfl, rfl⟩)))
    obtain ⟨ξ, e1, e2, e3⟩ := ih (i + 1) n _ (by omega) (by omega) hM2
    refine ⟨ξ, ?_, e2, MF.trans (MF.trans (MF_s (by omega)) (MF_s (by omega))) e3⟩
    rw [f_X7_pass_40, h0, if_neg (nI_ge (by omega) (by omega)), ldI_n (by omega) (by omega), g5]
    simp only [bind_p]
    rw [K9999, minI' (by omega) (by omega), stI_n (by omega) (by omega)]
    simp only [bind_p]
    rw [ldI_n (by omega) (by omega), gI_ne1 (by omega), g6]
    simp only [bind_p]
    rw [minI' (by omega) (by omega), stI_n (by omega) (by omega)]
    simp only [bind_p]
    rw [hnx]
    exact e1
theorem pass_l {st N : Nat} {f : Nat → List CL} {l : List CL} : ∀ m j n ν σ D, j + m = N → m < n → N < 1000 → MS ν σ → CM ν st f → okDy 9999 D st σ → clF f σ = l → D + m ≤ 1000000 →
    ∃ ξ, f_X7_pass_29 n ν (nI N) (nI j) = some (nI (σ 10 0 + m), ξ) ∧ MS ξ (dyN 9999 l m σ) ∧ MF ν ξ := by
  intro m
  induction m with
  | zero =>
    intro j n ν σ D hi hn hN hM hC ho hl hD
    obtain ⟨n, rfl⟩ := suc_of hn
    refine ⟨ν, ?_, hM, MF.rfl' _⟩
    rw [f_X7_pass_29, if_pos (nI_le (by omega) (by omega)), hM.1.2.2.1]
    rfl
  | succ m ih =>
    intro j n ν σ D hi hn hN hM hC ho hl hD
    obtain ⟨n, rfl⟩ := suc_of hn
    obtain ⟨ξ, e1, e2, e3⟩ := gday7 hM hC ho (by omega) (by omega)
    have hE : dyS 2147483647 (clF f σ) σ 0 0 = σ 0 0 := dyS_o (by omega) (by omega) (by omega)
    obtain ⟨ζ, c1, c2, c3⟩ := cap_l (κ := fun μ z0 z1 => f_X7_pass_29 n μ z0 z1) (N := N) (j := j) (τ := dyS 2147483647 (clF f σ) σ) (dyS_ok (w' := 10000) ho (by omega) (by omega)) (by omega) (σ 0 0) 0 FU ξ (by omega) (FU_p _ (by have := ho.1.1; omega)) e2
    rw [hE, cp_eq ho, hl] at c2
    have h18 : dyS 9999 l σ 18 0 = σ 18 0 := dyS_o (by omega) (by omega) (by omega)
    obtain ⟨κ, g1, g2, g3⟩ := ih (j + 1) n ζ (dyS 9999 l σ) (D + 1) (by omega) (by omega) hN c2 ((e3.trans c3).CM' hC) (dyS_ok ho (by omega) (by omega)) (by unfold clF at hl ⊢; rw [h18]; exact hl) (by omega)
    refine ⟨κ, ?_, g2, (e3.trans c3).trans g3⟩
    rw [f_X7_pass_29, if_neg (nI_ge (by omega) (by omega)), e1]
    simp only [bind_p]
    rw [dyS_10, show σ 10 0 + 1 + m = σ 10 0 + (m + 1) by omega] at g1
    exact c1.trans g1
theorem okS_day {D st : Nat} {σ τ : SG} (h : okS 9999 st σ) (hd : okDy 9999 D st τ) (hD : τ 10 0 ≤ 99999) (hc : ∀ a x, a ≠ 6 → a ≠ 7 → a ≠ 10 → τ a x = σ a x) : okS 9999 st τ := by
  obtain ⟨⟨a1, a2, a3, a4⟩, b, ⟨c1, c2⟩, ⟨d1, d2⟩, e1, e2⟩ := h
  have h0 : τ 0 0 = σ 0 0 := hc _ _ (by omega) (by omega) (by omega)
  unfold okS
  rw [h0, hc 9 0 (by omega) (by omega) (by omega), hc 18 0 (by omega) (by omega) (by omega), hc 27 0 (by omega) (by omega) (by omega), hc 31 0 (by omega) (by omega) (by omega), hc 34 0 (by omega) (by omega) (by omega)]
  refine ⟨⟨a1, a2, hD, a4⟩, fun e he => ⟨?_, fun q hq => ?_⟩, ⟨c1, fun i hi => ?_⟩, ⟨d1, fun i hi => ?_⟩, e1, fun i hi => ?_⟩
  · obtain ⟨k1, k2, k3⟩ := hd.2.2 e (by rw [h0]; exact he)
    obtain ⟨⟨q1, q2, q3, q4, q5, q6⟩, _⟩ := k1
    exact ⟨q1, q2, q3, q4, q5, q6, k2, k3⟩
  · rw [hc 8 _ (by omega) (by omega) (by omega)]; exact (b e he).2 q hq
  · rw [hc 28 i (by omega) (by omega) (by omega), hc 29 i (by omega) (by omega) (by omega), hc 30 i (by omega) (by omega) (by omega)]; exact c2 i hi
  · rw [hc 32 i (by omega) (by omega) (by omega), hc 33 i (by omega) (by omega) (by omega)]; exact d2 i hi
  · rw [hc 35 i (by omega) (by omega) (by omega), hc 36 i (by omega) (by omega) (by omega)]; exact e2 i hi
theorem dyN_ok {l : List CL} {st : Nat} : ∀ (n : Nat) (σ : SG) (D : Nat), okDy 9999 D st σ → okDy 9999 (D + n) st (dyN 9999 l n σ)
  | 0, σ, D, h => h
  | n + 1, σ, D, h => by
    rw [dyN, show D + (n + 1) = D + 1 + n by omega]
    exact dyN_ok n _ _ (dyS_ok h (by omega) (by omega))
theorem s_pass {T : PT} {μ : Mem} (hR : RR T μ) (a : Int32) : Same T μ (fun μ => f_X6_pass μ a) (fun μ => f_X7_pass μ a) := by
  obtain ⟨⟨x1, _⟩, ⟨m1, _⟩, o1, _⟩ := id hR
  have hE := o1.1.1
  have hD := o1.1.2.2.1
  rcases arg a (lo := 0) (hi := 60) (A := 0) (B := 60) (C := 0) (D := 60) rfl rfl rfl rfl with ⟨n, _, hn, _, rfl, hax, ham⟩ | ⟨_, hax, ham⟩
  · by_cases hd : T.1 0 10 0 + n ≤ 99999
    · obtain ⟨ν, e1, e2, e3, e4, e5, e6, e7, e8⟩ := rk100 hR
      obtain ⟨ξ, f1, f2, f3, f4⟩ := go6 (W := 9999) (N := n) (by omega) e3 e7 o1.dy (by omega) (.inl ⟨rfl, rfl⟩)
      have hM : MS ξ (T.1 0) := MS_X (fun k hk => f3.1 k (by omega)) e4
      obtain ⟨ζ, g1, g2, g3⟩ := pass_l (N := n) n 0 FU ξ (T.1 0) 99999 (by omega) (FU_p _ (by omega)) (by omega) hM (e6.O (fun k hk => f3.1 k (by omega))) o1.dy rfl (by omega)
      have h10 : dyN 9999 (clF T.2.2 (T.1 0)) n (T.1 0) 10 0 = T.1 0 10 0 + n := dyN_10 _ _
      have hx3 := f2.1.2.2.1
      rw [h10] at hx3
      refine same_n (r := nI (T.1 0 10 0 + n)) (σ := dyN 9999 (clF T.2.2 (T.1 0)) n (T.1 0)) hR ?_ ?_ (XO.trans e2 (XO_fr f3 (by omega))) f2 g3.O g2 (okS_day o1 (dyN_ok n _ _ o1.dy) (by rw [h10]; exact hd) (fun a x h1 h2 h3 => dyN_o h1 h2 h3 _ _))
      · show f_X6_pass μ _ = _
        unfold f_X6_pass
        rw [hax]
        simp only [bind_p]
        rw [if_neg (by decide), x1.1.2.2.1, nI_add, K99999, if_pos (nI_le hd (by omega)), e1]
        simp only [bind_p]
        rw [K9999, f1]
        simp only [bind_p]
        rw [hx3]
      · show f_X7_pass ξ _ = _
        unfold f_X7_pass
        rw [ham]
        simp only [bind_p]
        rw [if_neg (by decide), hM.1.2.2.1, nI_add, K99999, if_pos (nI_le hd (by omega)), K0]
        exact g1
    · refine same_q (r := -3) hR ?_ ?_
      · show f_X6_pass μ _ = _
        unfold f_X6_pass
        rw [hax]
        simp only [bind_p]
        rw [if_neg (by decide), x1.1.2.2.1, nI_add, K99999, if_neg (nI_ge (by omega) (by omega))]
      · show f_X7_pass μ _ = _
        unfold f_X7_pass
        rw [ham]
        simp only [bind_p]
        rw [if_neg (by decide), m1.1.2.2.1, nI_add, K99999, if_neg (nI_ge (by omega) (by omega))]
  · exact same_q (r := -2) hR (by show f_X6_pass μ a = _; unfold f_X6_pass; rw [hax]; rfl) (by show f_X7_pass μ a = _; unfold f_X7_pass; rw [ham]; rfl)
