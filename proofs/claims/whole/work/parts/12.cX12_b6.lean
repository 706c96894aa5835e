theorem look_l {μ : Mem} {σ : SG} (x1 : XS μ 100 σ) (m1 : MS μ σ) {st : Nat} (o1 : okS 9999 st σ) : ∀ m i n n', i + m = σ 34 0 → m < n → m < n' → ∃ r, f_X6_looked_2 μ n (nI i) = some r ∧ f_X7_looked_2 μ n' (nI i) = some r := by
  have hE := o1.1.1
  have hxE : gI μ 100 0 = nI (σ 0 0) := x1.1.1
  have hB := o1.2.2.2.2.1
  have hxc : gI μ (100 + 50) 1 = nI (σ 34 0) := x1.2.2.2.2.1
  have hmc : gI μ 2000 34 = nI (σ 34 0) := m1.2.2.2.2.1
  intro m
  induction m with
  | zero =>
    intro i n n' hi hn hn'
    obtain ⟨n, rfl⟩ := suc_of hn
    obtain ⟨n', rfl⟩ := suc_of hn'
    refine ⟨-5, ?_, ?_⟩
    · rw [f_X6_looked_2]
      simp (disch := omega) only [ofN, lC_lt, lC_ge, lC_eq, lC_gt, lC_le, T_ltL, F_ltL, T_leL, F_leL, T_eqL, F_eqL, m1_0, lN_add, nI_lE, lN_i, ↓reduceIte, bind_s, T_lt, F_lt, T_le, F_le, T_eq, F_eq, F_neg, T_ltm, F_lem, F_ltm, nI_add, nI_mul, nI_sub, ldI_n, stI_n, aix_n, ldL_n, stL_n, ldF_n, gI_atE, gI_ne1, gI_ne2, gL_atE, gL_ne1, gL_ne2, gL_s, gI_s, w7T, w7F1, w7F2, and31, K0, K1, K2, K3, K4, K5, K6, K7, K8, K9, K10, K11, K12, K14, K16, K18, K20, K24, K29, K30, K31, K32, K33, K36, K38, K40, K41, K42, K48, K50, K51, K54, K57, K59, K60, K63, K70, K71, K84, K94, K97, K100, K101, K104, K108, K112, K120, K121, K122, K123, K124, K125, K127, K255, K300, K1000, K9999, K99999, K2147483647, hxc]
    · rw [f_X7_looked_2]
      simp (disch := omega) only [ofN, lC_lt, lC_ge, lC_eq, lC_gt, lC_le, T_ltL, F_ltL, T_leL, F_leL, T_eqL, F_eqL, m1_0, lN_add, nI_lE, lN_i, ↓reduceIte, bind_s, T_lt, F_lt, T_le, F_le, T_eq, F_eq, F_neg, T_ltm, F_lem, F_ltm, nI_add, nI_mul, nI_sub, ldI_n, stI_n, aix_n, ldL_n, stL_n, ldF_n, gI_atE, gI_ne1, gI_ne2, gL_atE, gL_ne1, gL_ne2, gL_s, gI_s, w7T, w7F1, w7F2, and31, K0, K1, K2, K3, K4, K5, K6, K7, K8, K9, K10, K11, K12, K14, K16, K18, K20, K24, K29, K30, K31, K32, K33, K36, K38, K40, K41, K42, K48, K50, K51, K54, K57, K59, K60, K63, K70, K71, K84, K94, K97, K100, K101, K104, K108, K112, K120, K121, K122, K123, K124, K125, K127, K255, K300, K1000, K9999, K99999, K2147483647, hmc]
  | succ m ih =>
    intro i n n' hi hn hn'
    obtain ⟨n, rfl⟩ := suc_of hn
    obtain ⟨n', rfl⟩ := suc_of hn'
    have hxr := x1.2.2.2.2.2 i (by omega)
    have hmr := m1.2.2.2.2.2 i (by omega)
    have hr := o1.2.2.2.2.2 i (by omega)
    obtain ⟨p, hp⟩ : ∃ p, p = σ 35 i := ⟨_, rfl⟩
    rw [← hp] at hxr hmr hr
    have hxw : gI μ (100 + 1 + 1 + p) 5 = nI (σ 6 p) := (x1.2.1 p hr.1).1 5 (by omega)
    have hmw : gI μ 2006 p = nI (σ 6 p) := (m1.2.1 p hr.1).1 5 (by omega)
    have hw := (o1.2.1 p hr.1).1
    rw [f_X6_looked_2, f_X7_looked_2]
    by_cases h : σ 6 p = σ 36 i
    · obtain ⟨r, h1, h2⟩ := ih (i + 1) n n' (by omega) (by omega) (by omega)
      refine ⟨r, ?_, ?_⟩
      · simp (disch := omega) only [ofN, lC_lt, lC_ge, lC_eq, lC_gt, lC_le, T_ltL, F_ltL, T_leL, F_leL, T_eqL, F_eqL, m1_0, lN_add, nI_lE, lN_i, ↓reduceIte, bind_s, T_lt, F_lt, T_le, F_le, T_eq, F_eq, F_neg, T_ltm, F_lem, F_ltm, nI_add, nI_mul, nI_sub, ldI_n, stI_n, aix_n, ldL_n, stL_n, ldF_n, gI_atE, gI_ne1, gI_ne2, gL_atE, gL_ne1, gL_ne2, gL_s, gI_s, w7T, w7F1, w7F2, and31, K0, K1, K2, K3, K4, K5, K6, K7, K8, K9, K10, K11, K12, K14, K16, K18, K20, K24, K29, K30, K31, K32, K33, K36, K38, K40, K41, K42, K48, K50, K51, K54, K57, K59, K60, K63, K70, K71, K84, K94, K97, K100, K101, K104, K108, K112, K120, K121, K122, K123, K124, K125, K127, K255, K300, K1000, K9999, K99999, K2147483647, hxc, hxE, hxr.1, hxr.2, f_X2_has, hxw, f_X6_looked_63]
        exact h1
      · simp (disch := omega) only [ofN, lC_lt, lC_ge, lC_eq, lC_gt, lC_le, T_ltL, F_ltL, T_leL, F_leL, T_eqL, F_eqL, m1_0, lN_add, nI_lE, lN_i, ↓reduceIte, bind_s, T_lt, F_lt, T_le, F_le, T_eq, F_eq, F_neg, T_ltm, F_lem, F_ltm, nI_add, nI_mul, nI_sub, ldI_n, stI_n, aix_n, ldL_n, stL_n, ldF_n, gI_atE, gI_ne1, gI_ne2, gL_atE, gL_ne1, gL_ne2, gL_s, gI_s, w7T, w7F1, w7F2, and31, K0, K1, K2, K3, K4, K5, K6, K7, K8, K9, K10, K11, K12, K14, K16, K18, K20, K24, K29, K30, K31, K32, K33, K36, K38, K40, K41, K42, K48, K50, K51, K54, K57, K59, K60, K63, K70, K71, K84, K94, K97, K100, K101, K104, K108, K112, K120, K121, K122, K123, K124, K125, K127, K255, K300, K1000, K9999, K99999, K2147483647, hmc, hmr.1, hmr.2, hmw]
        exact h2
    · refine ⟨nI i, ?_, ?_⟩
      · simp (disch := omega) only [ofN, lC_lt, lC_ge, lC_eq, lC_gt, lC_le, T_ltL, F_ltL, T_leL, F_leL, T_eqL, F_eqL, m1_0, lN_add, nI_lE, lN_i, ↓reduceIte, bind_s, T_lt, F_lt, T_le, F_le, T_eq, F_eq, F_neg, T_ltm, F_lem, F_ltm, nI_add, nI_mul, nI_sub, ldI_n, stI_n, aix_n, ldL_n, stL_n, ldF_n, gI_atE, gI_ne1, gI_ne2, gL_atE, gL_ne1, gL_ne2, gL_s, gI_s, w7T, w7F1, w7F2, and31, K0, K1, K2, K3, K4, K5, K6, K7, K8, K9, K10, K11, K12, K14, K16, K18, K20, K24, K29, K30, K31, K32, K33, K36, K38, K40, K41, K42, K48, K50, K51, K54, K57, K59, K60, K63, K70, K71, K84, K94, K97, K100, K101, K104, K108, K112, K120, K121, K122, K123, K124, K125, K127, K255, K300, K1000, K9999, K99999, K2147483647, hxc, hxE, hxr.1, hxr.2, f_X2_has, hxw, f_X6_looked_63]
      · simp (disch := omega) only [ofN, lC_lt, lC_ge, lC_eq, lC_gt, lC_le, T_ltL, F_ltL, T_leL, F_leL, T_eqL, F_eqL, m1_0, lN_add, nI_lE, lN_i, ↓reduceIte, bind_s, T_lt, F_lt, T_le, F_le, T_eq, F_eq, F_neg, T_ltm, F_lem, F_ltm, nI_add, nI_mul, nI_sub, ldI_n, stI_n, aix_n, ldL_n, stL_n, ldF_n, gI_atE, gI_ne1, gI_ne2, gL_atE, gL_ne1, gL_ne2, gL_s, gI_s, w7T, w7F1, w7F2, and31, K0, K1, K2, K3, K4, K5, K6, K7, K8, K9, K10, K11, K12, K14, K16, K18, K20, K24, K29, K30, K31, K32, K33, K36, K38, K40, K41, K42, K48, K50, K51, K54, K57, K59, K60, K63, K70, K71, K84, K94, K97, K100, K101, K104, K108, K112, K120, K121, K122, K123, K124, K125, K127, K255, K300, K1000, K9999, K99999, K2147483647, hmc, hmr.1, hmr.2, hmw]
theorem s_looked {T : PT} {μ : Mem} (hR : RR T μ) : Ask μ f_X6_looked f_X7_looked := by
  obtain ⟨⟨x1, _⟩, ⟨m1, _⟩, o1, _⟩ := id hR
  have hB := o1.2.2.2.2.1
  exact look_l x1 m1 o1 (T.1 0 34 0) 0 FU FU (by omega) (FU_p _ (by omega)) (FU_p _ (by omega))
theorem tapeF {T : PT} {μ : Mem} (hR : RR T μ) {t : Nat} (ht : t < 6) : ∃ L, L ≤ 60 ∧ L = T.1 2 43 t ∧ gI μ (1100 + 2 * t) 1 = nI L ∧ gI μ 2043 t = nI L ∧
    ((T.1 2 42 t = 0 ∧ L = 0 ∧ gI μ (1100 + 2 * t) 0 = -nI 1 ∧ gI μ 2042 t = -nI 1) ∨ ∃ s, s ≤ 4 ∧ T.1 2 42 t = s + 1 ∧ gI μ (1100 + 2 * t) 0 = nI s ∧ gI μ 2042 t = nI s) := by
  obtain ⟨⟨_, _, _, _, _, x6⟩, ⟨_, _, _, _, _, m6⟩, _, _, _, _, _, o6⟩ := id hR
  obtain ⟨a1, a2, _⟩ := x6 t ht
  obtain ⟨b1, b2, _⟩ := m6 t ht
  obtain ⟨c1, c2, c3⟩ := o6 t ht
  refine ⟨T.1 2 43 t, c2, rfl, a2, b2, ?_⟩
  by_cases h : T.1 2 42 t = 0
  · rw [h] at a1 b1
    exact .inl ⟨h, c3 h, a1, b1⟩
  · refine .inr ⟨T.1 2 42 t - 1, by omega, by omega, ?_, ?_⟩
    · rw [a1, show (1 : Int32) = nI 1 from rfl, nI_sub (by omega)]
    · rw [b1, show (1 : Int32) = nI 1 from rfl, nI_sub (by omega)]
theorem judge_l {T : PT} {μ : Mem} (hR : RR T μ) {t L : Nat} {b : Int32} (ht : t < 6) (hL : L ≤ 60) (hLx : gI μ (1100 + 2 * t) 1 = nI L) (hLm : gI μ 2043 t = nI L) (hs : (L = 0 ∧ gI μ 2042 t = -nI 1) ∨ gI μ 2042 t = nI 3) :
    ∀ m i n n', i + m = T.1 0 0 0 → m < n → m < n' → ∃ r, f_X6_judge_42 μ n b (1100 + 2 * t) (nI i) = some r ∧ f_X7_judge_36 μ n' (nI t) b (nI i) = some r := by
  obtain ⟨⟨x1, _, _, _, _, x6⟩, ⟨m1, _, _, _, _, m6⟩, o1, _⟩ := id hR
  have hE := o1.1.1
  have hxE : gI μ 100 0 = nI (T.1 0 0 0) := x1.1.1
  have hmE : gI μ 2000 0 = nI (T.1 0 0 0) := m1.1.1
  intro m
  induction m with
  | zero =>
    intro i n n' hi hn hn'
    obtain ⟨n, rfl⟩ := suc_of hn
    obtain ⟨n', rfl⟩ := suc_of hn'
    refine ⟨-5, ?_, ?_⟩
    · rw [f_X6_judge_42]
      simp (disch := omega) only [ofN, lC_lt, lC_ge, lC_eq, lC_gt, lC_le, T_ltL, F_ltL, T_leL, F_leL, T_eqL, F_eqL, m1_0, lN_add, nI_lE, lN_i, ↓reduceIte, bind_s, T_lt, F_lt, T_le, F_le, T_eq, F_eq, F_neg, T_ltm, F_lem, F_ltm, nI_add, nI_mul, nI_sub, ldI_n, stI_n, aix_n, ldL_n, stL_n, ldF_n, gI_atE, gI_ne1, gI_ne2, gL_atE, gL_ne1, gL_ne2, gL_s, gI_s, w7T, w7F1, w7F2, and31, K0, K1, K2, K3, K4, K5, K6, K7, K8, K9, K10, K11, K12, K14, K16, K18, K20, K24, K29, K30, K31, K32, K33, K36, K38, K40, K41, K42, K48, K50, K51, K54, K57, K59, K60, K63, K70, K71, K84, K94, K97, K100, K101, K104, K108, K112, K120, K121, K122, K123, K124, K125, K127, K255, K300, K1000, K9999, K99999, K2147483647, hxE]
    · rw [f_X7_judge_36]
      simp (disch := omega) only [ofN, lC_lt, lC_ge, lC_eq, lC_gt, lC_le, T_ltL, F_ltL, T_leL, F_leL, T_eqL, F_eqL, m1_0, lN_add, nI_lE, lN_i, ↓reduceIte, bind_s, T_lt, F_lt, T_le, F_le, T_eq, F_eq, F_neg, T_ltm, F_lem, F_ltm, nI_add, nI_mul, nI_sub, ldI_n, stI_n, aix_n, ldL_n, stL_n, ldF_n, gI_atE, gI_ne1, gI_ne2, gL_atE, gL_ne1, gL_ne2, gL_s, gI_s, w7T, w7F1, w7F2, and31, K0, K1, K2, K3, K4, K5, K6, K7, K8, K9, K10, K11, K12, K14, K16, K18, K20, K24, K29, K30, K31, K32, K33, K36, K38, K40, K41, K42, K48, K50, K51, K54, K57, K59, K60, K63, K70, K71, K84, K94, K97, K100, K101, K104, K108, K112, K120, K121, K122, K123, K124, K125, K127, K255, K300, K1000, K9999, K99999, K2147483647, hmE]
  | succ m ih =>
    intro i n n' hi hn hn'
    obtain ⟨n, rfl⟩ := suc_of hn
    obtain ⟨n', rfl⟩ := suc_of hn'
    have hxw : gI μ (100 + 1 + 1 + i) 5 = nI (T.1 0 6 i) := (x1.2.1 i (by omega)).1 5 (by omega)
    have hmw : gI μ 2006 i = nI (T.1 0 6 i) := (m1.2.1 i (by omega)).1 5 (by omega)
    have hw := (o1.2.1 i (by omega)).1
    rw [f_X6_judge_42, f_X7_judge_36]
    rcases ne_of b with ⟨j, hj, rfl⟩ | hb
    · by_cases h : j + i < L
      · have hs3 : gI μ 2042 t = nI 3 := hs.resolve_left (by omega)
        have hgx : gL μ (1100 + 2 * t + 1) (j + i) = T.2.1 t (j + i) := (x6 t ht).2.2 (j + i) (by omega)
        have hgm : gL μ 2044 (60 * t + j + i) = T.2.1 t (j + i) := by rw [Nat.add_assoc]; exact (m6 t ht).2.2 (j + i) (by omega)
        by_cases h2 : T.2.1 t (j + i) = lN (T.1 0 6 i)
        · obtain ⟨r, h3, h4⟩ := ih (i + 1) n n' (by omega) (by omega) (by omega)
          refine ⟨r, ?_, ?_⟩
          · simp (disch := omega) only [ofN, lC_lt, lC_ge, lC_eq, lC_gt, lC_le, T_ltL, F_ltL, T_leL, F_leL, T_eqL, F_eqL, m1_0, lN_add, nI_lE, lN_i, ↓reduceIte, bind_s, T_lt, F_lt, T_le, F_le, T_eq, F_eq, F_neg, T_ltm, F_lem, F_ltm, nI_add, nI_mul, nI_sub, ldI_n, stI_n, aix_n, ldL_n, stL_n, ldF_n, gI_atE, gI_ne1, gI_ne2, gL_atE, gL_ne1, gL_ne2, gL_s, gI_s, w7T, w7F1, w7F2, and31, K0, K1, K2, K3, K4, K5, K6, K7, K8, K9, K10, K11, K12, K14, K16, K18, K20, K24, K29, K30, K31, K32, K33, K36, K38, K40, K41, K42, K48, K50, K51, K54, K57, K59, K60, K63, K70, K71, K84, K94, K97, K100, K101, K104, K108, K112, K120, K121, K122, K123, K124, K125, K127, K255, K300, K1000, K9999, K99999, K2147483647, hxE, hLx, hgx, hxw, h2]
            exact h3
          · simp (disch := omega) only [ofN, lC_lt, lC_ge, lC_eq, lC_gt, lC_le, T_ltL, F_ltL, T_leL, F_leL, T_eqL, F_eqL, m1_0, lN_add, nI_lE, lN_i, ↓reduceIte, bind_s, T_lt, F_lt, T_le, F_le, T_eq, F_eq, F_neg, T_ltm, F_lem, F_ltm, nI_add, nI_mul, nI_sub, ldI_n, stI_n, aix_n, ldL_n, stL_n, ldF_n, gI_atE, gI_ne1, gI_ne2, gL_atE, gL_ne1, gL_ne2, gL_s, gI_s, w7T, w7F1, w7F2, and31, K0, K1, K2, K3, K4, K5, K6, K7, K8, K9, K10, K11, K12, K14, K16, K18, K20, K24, K29, K30, K31, K32, K33, K36, K38, K40, K41, K42, K48, K50, K51, K54, K57, K59, K60, K63, K70, K71, K84, K94, K97, K100, K101, K104, K108, K112, K120, K121, K122, K123, K124, K125, K127, K255, K300, K1000, K9999, K99999, K2147483647, hmE, hLm, hs3, hgm, hmw, h2]
            exact h4
        · have h2' : (T.2.1 t (j + i) = lN (T.1 0 6 i)) = False := eq_false h2
          refine ⟨nI i, ?_, ?_⟩
          · simp (disch := omega) only [ofN, lC_lt, lC_ge, lC_eq, lC_gt, lC_le, T_ltL, F_ltL, T_leL, F_leL, T_eqL, F_eqL, m1_0, lN_add, nI_lE, lN_i, ↓reduceIte, bind_s, T_lt, F_lt, T_le, F_le, T_eq, F_eq, F_neg, T_ltm, F_lem, F_ltm, nI_add, nI_mul, nI_sub, ldI_n, stI_n, aix_n, ldL_n, stL_n, ldF_n, gI_atE, gI_ne1, gI_ne2, gL_atE, gL_ne1, gL_ne2, gL_s, gI_s, w7T, w7F1, w7F2, and31, K0, K1, K2, K3, K4, K5, K6, K7, K8, K9, K10, K11, K12, K14, K16, K18, K20, K24, K29, K30, K31, K32, K33, K36, K38, K40, K41, K42, K48, K50, K51, K54, K57, K59, K60, K63, K70, K71, K84, K94, K97, K100, K101, K104, K108, K112, K120, K121, K122, K123, K124, K125, K127, K255, K300, K1000, K9999, K99999, K2147483647, hxE, hLx, hgx, hxw, h2']
          · simp (disch := omega) only [ofN, lC_lt, lC_ge, lC_eq, lC_gt, lC_le, T_ltL, F_ltL, T_leL, F_leL, T_eqL, F_eqL, m1_0, lN_add, nI_lE, lN_i, ↓reduceIte, bind_s, T_lt, F_lt, T_le, F_le, T_eq, F_eq, F_neg, T_ltm, F_lem, F_ltm, nI_add, nI_mul, nI_sub, ldI_n, stI_n, aix_n, ldL_n, stL_n, ldF_n, gI_atE, gI_ne1, gI_ne2, gL_atE, gL_ne1, gL_ne2, gL_s, gI_s, w7T, w7F1, w7F2, and31, K0, K1, K2, K3, K4, K5, K6, K7, K8, K9, K10, K11, K12, K14, K16, K18, K20, K24, K29, K30, K31, K32, K33, K36, K38, K40, K41, K42, K48, K50, K51, K54, K57, K59, K60, K63, K70, K71, K84, K94, K97, K100, K101, K104, K108, K112, K120, K121, K122, K123, K124, K125, K127, K255, K300, K1000, K9999, K99999, K2147483647, hmE, hLm, hs3, hgm, hmw, h2']
      · refine ⟨nI (100 + i), ?_, ?_⟩
        · simp (disch := omega) only [ofN, lC_lt, lC_ge, lC_eq, lC_gt, lC_le, T_ltL, F_ltL, T_leL, F_leL, T_eqL, F_eqL, m1_0, lN_add, nI_lE, lN_i, ↓reduceIte, bind_s, T_lt, F_lt, T_le, F_le, T_eq, F_eq, F_neg, T_ltm, F_lem, F_ltm, nI_add, nI_mul, nI_sub, ldI_n, stI_n, aix_n, ldL_n, stL_n, ldF_n, gI_atE, gI_ne1, gI_ne2, gL_atE, gL_ne1, gL_ne2, gL_s, gI_s, w7T, w7F1, w7F2, and31, K0, K1, K2, K3, K4, K5, K6, K7, K8, K9, K10, K11, K12, K14, K16, K18, K20, K24, K29, K30, K31, K32, K33, K36, K38, K40, K41, K42, K48, K50, K51, K54, K57, K59, K60, K63, K70, K71, K84, K94, K97, K100, K101, K104, K108, K112, K120, K121, K122, K123, K124, K125, K127, K255, K300, K1000, K9999, K99999, K2147483647, hxE, hLx]
        · rcases hs with ⟨_, hs⟩ | hs
          · simp (disch := omega) only [ofN, lC_lt, lC_ge, lC_eq, lC_gt, lC_le, T_ltL, F_ltL, T_leL, F_leL, T_eqL, F_eqL, m1_0, lN_add, nI_lE, lN_i, ↓reduceIte, bind_s, T_lt, F_lt, T_le, F_le, T_eq, F_eq, F_neg, T_ltm, F_lem, F_ltm, nI_add, nI_mul, nI_sub, ldI_n, stI_n, aix_n, ldL_n, stL_n, ldF_n, gI_atE, gI_ne1, gI_ne2, gL_atE, gL_ne1, gL_ne2, gL_s, gI_s, w7T, w7F1, w7F2, and31, K0, K1, K2, K3, K4, K5, K6, K7, K8, K9, K10, K11, K12, K14, K16, K18, K20, K24, K29, K30, K31, K32, K33, K36, K38, K40, K41, K42, K48, K50, K51, K54, K57, K59, K60, K63, K70, K71, K84, K94, K97, K100, K101, K104, K108, K112, K120, K121, K122, K123, K124, K125, K127, K255, K300, K1000, K9999, K99999, K2147483647, hmE, hLm, hs]
          · simp (disch := omega) only [ofN, lC_lt, lC_ge, lC_eq, lC_gt, lC_le, T_ltL, F_ltL, T_leL, F_leL, T_eqL, F_eqL, m1_0, lN_add, nI_lE, lN_i, ↓reduceIte, bind_s, T_lt, F_lt, T_le, F_le, T_eq, F_eq, F_neg, T_ltm, F_lem, F_ltm, nI_add, nI_mul, nI_sub, ldI_n, stI_n, aix_n, ldL_n, stL_n, ldF_n, gI_atE, gI_ne1, gI_ne2, gL_atE, gL_ne1, gL_ne2, gL_s, gI_s, w7T, w7F1, w7F2, and31, K0, K1, K2, K3, K4, K5, K6, K7, K8, K9, K10, K11, K12, K14, K16, K18, K20, K24, K29, K30, K31, K32, K33, K36, K38, K40, K41, K42, K48, K50, K51, K54, K57, K59, K60, K63, K70, K71, K84, K94, K97, K100, K101, K104, K108, K112, K120, K121, K122, K123, K124, K125, K127, K255, K300, K1000, K9999, K99999, K2147483647, hmE, hLm, hs]
    · have hb' : (b < nI 0) = True := eq_true hb
      refine ⟨nI (100 + i), ?_, ?_⟩
      · simp (disch := omega) only [ofN, lC_lt, lC_ge, lC_eq, lC_gt, lC_le, T_ltL, F_ltL, T_leL, F_leL, T_eqL, F_eqL, m1_0, lN_add, nI_lE, lN_i, ↓reduceIte, bind_s, T_lt, F_lt, T_le, F_le, T_eq, F_eq, F_neg, T_ltm, F_lem, F_ltm, nI_add, nI_mul, nI_sub, ldI_n, stI_n, aix_n, ldL_n, stL_n, ldF_n, gI_atE, gI_ne1, gI_ne2, gL_atE, gL_ne1, gL_ne2, gL_s, gI_s, w7T, w7F1, w7F2, and31, K0, K1, K2, K3, K4, K5, K6, K7, K8, K9, K10, K11, K12, K14, K16, K18, K20, K24, K29, K30, K31, K32, K33, K36, K38, K40, K41, K42, K48, K50, K51, K54, K57, K59, K60, K63, K70, K71, K84, K94, K97, K100, K101, K104, K108, K112, K120, K121, K122, K123, K124, K125, K127, K255, K300, K1000, K9999, K99999, K2147483647, hxE, hb']
      · rcases hs with ⟨_, hs⟩ | hs
        · simp (disch := omega) only [ofN, lC_lt, lC_ge, lC_eq, lC_gt, lC_le, T_ltL, F_ltL, T_leL, F_leL, T_eqL, F_eqL, m1_0, lN_add, nI_lE, lN_i, ↓reduceIte, bind_s, T_lt, F_lt, T_le, F_le, T_eq, F_eq, F_neg, T_ltm, F_lem, F_ltm, nI_add, nI_mul, nI_sub, ldI_n, stI_n, aix_n, ldL_n, stL_n, ldF_n, gI_atE, gI_ne1, gI_ne2, gL_atE, gL_ne1, gL_ne2, gL_s, gI_s, w7T, w7F1, w7F2, and31, K0, K1, K2, K3, K4, K5, K6, K7, K8, K9, K10, K11, K12, K14, K16, K18, K20, K24, K29, K30, K31, K32, K33, K36, K38, K40, K41, K42, K48, K50, K51, K54, K57, K59, K60, K63, K70, K71, K84, K94, K97, K100, K101, K104, K108, K112, K120, K121, K122, K123, K124, K125, K127, K255, K300, K1000, K9999, K99999, K2147483647, hmE, hs, hb']
        · simp (disch := omega) only [ofN, lC_lt, lC_ge, lC_eq, lC_gt, lC_le, T_ltL, F_ltL, T_leL, F_leL, T_eqL, F_eqL, m1_0, lN_add, nI_lE, lN_i, ↓reduceIte, bind_s, T_lt, F_lt, T_le, F_le, T_eq, F_eq, F_neg, T_ltm, F_lem, F_ltm, nI_add, nI_mul, nI_sub, ldI_n, stI_n, aix_n, ldL_n, stL_n, ldF_n, gI_atE, gI_ne1, gI_ne2, gL_atE, gL_ne1, gL_ne2, gL_s, gI_s, w7T, w7F1, w7F2, and31, K0, K1, K2, K3, K4, K5, K6, K7, K8, K9, K10, K11, K12, K14, K16, K18, K20, K24, K29, K30, K31, K32, K33, K36, K38, K40, K41, K42, K48, K50, K51, K54, K57, K59, K60, K63, K70, K71, K84, K94, K97, K100, K101, K104, K108, K112, K120, K121, K122, K123, K124, K125, K127, K255, K300, K1000, K9999, K99999, K2147483647, hmE, hs, hb']
theorem s_judge {T : PT} {μ : Mem} (hR : RR T μ) (a b : Int32) : Ask μ (fun μ => f_X6_judge μ a b) (fun μ => f_X7_judge μ a b) := by
  have hE := hR.2.2.1.1.1
  rcases arg a (lo := 0) (hi := 5) (A := 0) (B := 5) (C := 0) (D := 5) rfl rfl rfl rfl with ⟨t, _, ht, _, rfl, hax, ham⟩ | ⟨_, hax, ham⟩
  · obtain ⟨L, hL, _, hLx, hLm, hs⟩ := tapeF hR (t := t) (by omega)
    rcases hs with ⟨_, h0, hsx, hsm⟩ | ⟨s, hs4, _, hsx, hsm⟩
    · obtain ⟨r, h1, h2⟩ := judge_l hR (t := t) (b := b) (by omega) hL hLx hLm (.inl ⟨h0, hsm⟩) (T.1 0 0 0) 0 FU FU (by omega) (FU_p _ (by omega)) (FU_p _ (by omega))
      refine ⟨r, ?_, ?_⟩
      · show f_X6_judge μ _ _ = _
        unfold f_X6_judge; rw [hax]
        simp (disch := omega) only [ofN, lC_lt, lC_ge, lC_eq, lC_gt, lC_le, T_ltL, F_ltL, T_leL, F_leL, T_eqL, F_eqL, m1_0, lN_add, nI_lE, lN_i, ↓reduceIte, bind_s, T_lt, F_lt, T_le, F_le, T_eq, F_eq, F_neg, T_ltm, F_lem, F_ltm, nI_add, nI_mul, nI_sub, ldI_n, stI_n, aix_n, ldL_n, stL_n, ldF_n, gI_atE, gI_ne1, gI_ne2, gL_atE, gL_ne1, gL_ne2, gL_s, gI_s, w7T, w7F1, w7F2, and31, K0, K1, K2, K3, K4, K5, K6, K7, K8, K9, K10, K11, K12, K14, K16, K18, K20, K24, K29, K30, K31, K32, K33, K36, K38, K40, K41, K42, K48, K50, K51, K54, K57, K59, K60, K63, K70, K71, K84, K94, K97, K100, K101, K104, K108, K112, K120, K121, K122, K123, K124, K125, K127, K255, K300, K1000, K9999, K99999, K2147483647, hsx, f_X6_judge_39]
        exact h1
      · show f_X7_judge μ _ _ = _
        unfold f_X7_judge; rw [ham]
        simp (disch := omega) only [ofN, lC_lt, lC_ge, lC_eq, lC_gt, lC_le, T_ltL, F_ltL, T_leL, F_leL, T_eqL, F_eqL, m1_0, lN_add, nI_lE, lN_i, ↓reduceIte, bind_s, T_lt, F_lt, T_le, F_le, T_eq, F_eq, F_neg, T_ltm, F_lem, F_ltm, nI_add, nI_mul, nI_sub, ldI_n, stI_n, aix_n, ldL_n, stL_n, ldF_n, gI_atE, gI_ne1, gI_ne2, gL_atE, gL_ne1, gL_ne2, gL_s, gI_s, w7T, w7F1, w7F2, and31, K0, K1, K2, K3, K4, K5, K6, K7, K8, K9, K10, K11, K12, K14, K16, K18, K20, K24, K29, K30, K31, K32, K33, K36, K38, K40, K41, K42, K48, K50, K51, K54, K57, K59, K60, K63, K70, K71, K84, K94, K97, K100, K101, K104, K108, K112, K120, K121, K122, K123, K124, K125, K127, K255, K300, K1000, K9999, K99999, K2147483647, hsm, f_X7_judge_34]
        exact h2
    · by_cases h3 : s = 3
      · subst h3
        obtain ⟨r, h1, h2⟩ := judge_l hR (t := t) (b := b) (by omega) hL hLx hLm (.inr hsm) (T.1 0 0 0) 0 FU FU (by omega) (FU_p _ (by omega)) (FU_p _ (by omega))
        refine ⟨r, ?_, ?_⟩
        · show f_X6_judge μ _ _ = _
          unfold f_X6_judge; rw [hax]
          simp (disch := omega) only [ofN, lC_lt, lC_ge, lC_eq, lC_gt, lC_le, T_ltL, F_ltL, T_leL, F_leL, T_eqL, F_eqL, m1_0, lN_add, nI_lE, lN_i, ↓reduceIte, bind_s, T_lt, F_lt, T_le, F_le, T_eq, F_eq, F_neg, T_ltm, F_lem, F_ltm, nI_add, nI_mul, nI_sub, ldI_n, stI_n, aix_n, ldL_n, stL_n, ldF_n, gI_atE, gI_ne1, gI_ne2, gL_atE, gL_ne1, gL_ne2, gL_s, gI_s, w7T, w7F1, w7F2, and31, K0, K1, K2, K3, K4, K5, K6, K7, K8, K9, K10, K11, K12, K14, K16, K18, K20, K24, K29, K30, K31, K32, K33, K36, K38, K40, K41, K42, K48, K50, K51, K54, K57, K59, K60, K63, K70, K71, K84, K94, K97, K100, K101, K104, K108, K112, K120, K121, K122, K123, K124, K125, K127, K255, K300, K1000, K9999, K99999, K2147483647, hsx, f_X6_judge_39]
          exact h1
        · show f_X7_judge μ _ _ = _
          unfold f_X7_judge; rw [ham]
          simp (disch := omega) only [ofN, lC_lt, lC_ge, lC_eq, lC_gt, lC_le, T_ltL, F_ltL, T_leL, F_leL, T_eqL, F_eqL, m1_0, lN_add, nI_lE, lN_i, ↓reduceIte, bind_s, T_lt, F_lt, T_le, F_le, T_eq, F_eq, F_neg, T_ltm, F_lem, F_ltm, nI_add, nI_mul, nI_sub, ldI_n, stI_n, aix_n, ldL_n, stL_n, ldF_n, gI_atE, gI_ne1, gI_ne2, gL_atE, gL_ne1, gL_ne2, gL_s, gI_s, w7T, w7F1, w7F2, and31, K0, K1, K2, K3, K4, K5, K6, K7, K8, K9, K10, K11, K12, K14, K16, K18, K20, K24, K29, K30, K31, K32, K33, K36, K38, K40, K41, K42, K48, K50, K51, K54, K57, K59, K60, K63, K70, K71, K84, K94, K97, K100, K101, K104, K108, K112, K120, K121, K122, K123, K124, K125, K127, K255, K300, K1000, K9999, K99999, K2147483647, hsm, f_X7_judge_34]
          exact h2
      · refine ⟨-12, ?_, ?_⟩
        · show f_X6_judge μ _ _ = _
          unfold f_X6_judge; rw [hax]
          simp (disch := omega) only [ofN, lC_lt, lC_ge, lC_eq, lC_gt, lC_le, T_ltL, F_ltL, T_leL, F_leL, T_eqL, F_eqL, m1_0, lN_add, nI_lE, lN_i, ↓reduceIte, bind_s, T_lt, F_lt, T_le, F_le, T_eq, F_eq, F_neg, T_ltm, F_lem, F_ltm, nI_add, nI_mul, nI_sub, ldI_n, stI_n, aix_n, ldL_n, stL_n, ldF_n, gI_atE, gI_ne1, gI_ne2, gL_atE, gL_ne1, gL_ne2, gL_s, gI_s, w7T, w7F1, w7F2, and31, K0, K1, K2, K3, K4, K5, K6, K7, K8, K9, K10, K11, K12, K14, K16, K18, K20, K24, K29, K30, K31, K32, K33, K36, K38, K40, K41, K42, K48, K50, K51, K54, K57, K59, K60, K63, K70, K71, K84, K94, K97, K100, K101, K104, K108, K112, K120, K121, K122, K123, K124, K125, K127, K255, K300, K1000, K9999, K99999, K2147483647, hsx]
        · show f_X7_judge μ _ _ = _
          unfold f_X7_judge; rw [ham]
          simp (disch := omega) only [ofN, lC_lt, lC_ge, lC_eq, lC_gt, lC_le, T_ltL, F_ltL, T_leL, F_leL, T_eqL, F_eqL, m1_0, lN_add, nI_lE, lN_i, ↓reduceIte, bind_s, T_lt, F_lt, T_le, F_le, T_eq, F_eq, F_neg, T_ltm, F_lem, F_ltm, nI_add, nI_mul, nI_sub, ldI_n, stI_n, aix_n, ldL_n, stL_n, ldF_n, gI_atE, gI_ne1, gI_ne2, gL_atE, gL_ne1, gL_ne2, gL_s, gI_s, w7T, w7F1, w7F2, and31, K0, K1, K2, K3, K4, K5, K6, K7, K8, K9, K10, K11, K12, K14, K16, K18, K20, K24, K29, K30, K31, K32, K33, K36, K38, K40, K41, K42, K48, K50, K51, K54, K57, K59, K60, K63, K70, K71, K84, K94, K97, K100, K101, K104, K108, K112, K120, K121, K122, K123, K124, K125, K127, K255, K300, K1000, K9999, K99999, K2147483647, hsm]
  · refine ⟨-1, ?_, ?_⟩
    · show f_X6_judge μ a b = _
      unfold f_X6_judge; rw [hax]; rfl
    · show f_X7_judge μ a b = _
      unfold f_X7_judge; rw [ham]; rfl
theorem s_read {T : PT} {μ : Mem} (hR : RR T μ) (a b : Int32) : Ask μ (fun μ => f_X6_read μ a b) (fun μ => f_X7_read μ a b) := by
  obtain ⟨⟨_, _, _, _, _, x6⟩, ⟨_, _, _, _, _, m6⟩, _⟩ := id hR
  rcases arg a (lo := 0) (hi := 5) (A := 0) (B := 5) (C := 0) (D := 5) rfl rfl rfl rfl with ⟨t, _, ht, _, rfl, hax, ham⟩ | ⟨_, hax, ham⟩
  · obtain ⟨L, hL, _, hLx, hLm, hs⟩ := tapeF hR (t := t) (by omega)
    rcases argL b (L := L) (by omega) with ⟨i, hi, rfl⟩ | ⟨hbx, hbm⟩
    · rcases hs with ⟨_, h0, hsx, hsm⟩ | ⟨s, hs4, _, hsx, hsm⟩
      · omega
      · have hgx : gL μ (1100 + 2 * t + 1) i = T.2.1 t i := (x6 t (by omega)).2.2 i (by omega)
        have hgm : gL μ 2044 (60 * t + i) = T.2.1 t i := (m6 t (by omega)).2.2 i (by omega)
        refine ⟨T.2.1 t i, ?_, ?_⟩
        · show f_X6_read μ _ _ = _
          unfold f_X6_read; rw [hax]
          simp (disch := omega) only [ofN, lC_lt, lC_ge, lC_eq, lC_gt, lC_le, T_ltL, F_ltL, T_leL, F_leL, T_eqL, F_eqL, m1_0, lN_add, nI_lE, lN_i, ↓reduceIte, bind_s, T_lt, F_lt, T_le, F_le, T_eq, F_eq, F_neg, T_ltm, F_lem, F_ltm, nI_add, nI_mul, nI_sub, ldI_n, stI_n, aix_n, ldL_n, stL_n, ldF_n, gI_atE, gI_ne1, gI_ne2, gL_atE, gL_ne1, gL_ne2, gL_s, gI_s, w7T, w7F1, w7F2, and31, K0, K1, K2, K3, K4, K5, K6, K7, K8, K9, K10, K11, K12, K14, K16, K18, K20, K24, K29, K30, K31, K32, K33, K36, K38, K40, K41, K42, K48, K50, K51, K54, K57, K59, K60, K63, K70, K71, K84, K94, K97, K100, K101, K104, K108, K112, K120, K121, K122, K123, K124, K125, K127, K255, K300, K1000, K9999, K99999, K2147483647, hLx, L0, L1, L2, L3, L4, L5, L6, L9, L29, L30, L60, L127, L9999, L1000000000, w6T, hgx]
        · show f_X7_read μ _ _ = _
          unfold f_X7_read f_X7_isTape; rw [ham]
          simp (disch := omega) only [ofN, lC_lt, lC_ge, lC_eq, lC_gt, lC_le, T_ltL, F_ltL, T_leL, F_leL, T_eqL, F_eqL, m1_0, lN_add, nI_lE, lN_i, ↓reduceIte, bind_s, T_lt, F_lt, T_le, F_le, T_eq, F_eq, F_neg, T_ltm, F_lem, F_ltm, nI_add, nI_mul, nI_sub, ldI_n, stI_n, aix_n, ldL_n, stL_n, ldF_n, gI_atE, gI_ne1, gI_ne2, gL_atE, gL_ne1, gL_ne2, gL_s, gI_s, w7T, w7F1, w7F2, and31, K0, K1, K2, K3, K4, K5, K6, K7, K8, K9, K10, K11, K12, K14, K16, K18, K20, K24, K29, K30, K31, K32, K33, K36, K38, K40, K41, K42, K48, K50, K51, K54, K57, K59, K60, K63, K70, K71, K84, K94, K97, K100, K101, K104, K108, K112, K120, K121, K122, K123, K124, K125, K127, K255, K300, K1000, K9999, K99999, K2147483647, hsm, hLm, hgm]
    · refine ⟨-9223372036854775808, ?_, ?_⟩
      · show f_X6_read μ _ _ = _
        unfold f_X6_read; rw [hax]
        simp only [bind_s]
        rw [if_neg (by decide), aix_n (by omega) (by omega)]
        simp only [bind_s]
        rw [hLx, hbx]; rfl
      · show f_X7_read μ _ _ = _
        unfold f_X7_read f_X7_isTape; rw [ham]
        simp only [bind_s]
        rw [if_neg (by decide), ldI_n (by omega) (by omega)]
        simp only [bind_s]
        rcases hs with ⟨_, h0, hsx, hsm⟩ | ⟨s, hs4, _, hsx, hsm⟩
        · rw [hsm, if_pos (by decide)]
        · rw [hsm, if_neg (nI_pos (by omega)), ldI_n (by omega) (by omega)]
          simp only [bind_s]
          rw [hLm, hbm]; rfl
  · refine ⟨-9223372036854775808, ?_, ?_⟩
    · show f_X6_read μ a b = _
      unfold f_X6_read; rw [hax]; rfl
    · show f_X7_read μ a b = _
      unfold f_X7_read f_X7_isTape; rw [ham]; rfl
