/-! the reference keeps and takes back -/
def kp10 (ν : Mem) (k i : Nat) : Mem := sI (sI (sI (sI (sI (sI (sI (sI (sI (sI ν k i (gI ν 2001 i)) k (6 + i) (gI ν 2002 i)) k (12 + i) (gI ν 2003 i)) k (18 + i) (gI ν 2004 i)) k (24 + i) (gI ν 2005 i)) k (30 + i) (gI ν 2006 i)) k (36 + i) (gI ν 2007 i)) k (42 + i) (gI ν 2028 i)) k (48 + i) (gI ν 2029 i)) k (54 + i) (gI ν 2030 i)
def kp6 (ν : Mem) (k : Nat) : Mem := sI (sI (sI (sI (sI (sI ν k 120 (gI ν 2000 0)) k 121 (gI ν 2000 9)) k 122 (gI ν 2000 10)) k 123 (gI ν 2000 27)) k 124 (gI ν 2000 31 + nI 100 * gI ν 2000 34)) k 125 (gI ν 2000 18)
def KP (μ ν : Mem) (k n1 n2 n3 n4 : Nat) : Prop := (∀ a, a ≠ k → gI ν a = gI μ a) ∧ (∀ a, gL ν a = gL μ a) ∧
  (∀ x, x < n1 → gI ν k x = gI μ 2001 x ∧ gI ν k (6 + x) = gI μ 2002 x ∧ gI ν k (12 + x) = gI μ 2003 x ∧ gI ν k (18 + x) = gI μ 2004 x ∧ gI ν k (24 + x) = gI μ 2005 x ∧ gI ν k (30 + x) = gI μ 2006 x ∧ gI ν k (36 + x) = gI μ 2007 x ∧ gI ν k (42 + x) = gI μ 2028 x ∧ gI ν k (48 + x) = gI μ 2029 x ∧ gI ν k (54 + x) = gI μ 2030 x) ∧
  (∀ x, x < n2 → gI ν k (60 + x) = gI μ 2008 x) ∧ (∀ x, x < n3 → gI ν k (84 + x) = gI μ 2032 x ∧ gI ν k (94 + x) = gI μ 2033 x) ∧ (∀ x, x < n4 → gI ν k (104 + x) = gI μ 2035 x ∧ gI ν k (112 + x) = gI μ 2036 x)
theorem kp4 {μ : Mem} {k : Nat} (hk : k = 2040 ∨ k = 2041) : ∀ m i n ν, i + m = 8 → m < n → KP μ ν k 6 24 10 i → ∃ ν', f_X7_keep_197 k n ν (nI i) = some (kp6 ν' k) ∧ KP μ ν' k 6 24 10 8 := by
  intro m
  induction m with
  | zero =>
    intro i n ν hi hn h
    obtain ⟨n, rfl⟩ := suc_of hn
    obtain rfl : i = 8 := by omega
    refine ⟨ν, ?_, h⟩
    rw [f_X7_keep_197]
    simp (disch := omega) only [ofN, lC_lt, lC_ge, lC_eq, lC_gt, lC_le, T_ltL, F_ltL, T_leL, F_leL, T_eqL, F_eqL, m1_0, lN_add, nI_lE, lN_i, ↓reduceIte, bind_s, T_lt, F_lt, T_le, F_le, T_eq, F_eq, F_neg, T_ltm, F_lem, F_ltm, nI_add, nI_mul, nI_sub, ldI_n, stI_n, aix_n, ldL_n, stL_n, ldF_n, gI_atE, gI_ne1, gI_ne2, gL_atE, gL_ne1, gL_ne2, gL_s, gI_s, w7T, w7F1, w7F2, and31, K0, K1, K2, K3, K4, K5, K6, K7, K8, K9, K10, K11, K12, K14, K16, K18, K20, K24, K29, K30, K31, K32, K33, K36, K38, K40, K41, K42, K48, K50, K51, K54, K57, K59, K60, K63, K70, K71, K84, K94, K97, K100, K101, K104, K108, K112, K120, K121, K122, K123, K124, K125, K127, K255, K300, K1000, K9999, K99999, K2147483647, kp6]
  | succ m ih =>
    intro i n ν hi hn h
    obtain ⟨n, rfl⟩ := suc_of hn
    obtain ⟨hf, hl, h1, h2, h3, h4⟩ := h
    obtain ⟨ν', e1, e2⟩ := ih (i + 1) n (sI (sI ν k (104 + i) (gI ν 2035 i)) k (112 + i) (gI ν 2036 i)) (by omega) (by omega) ⟨fun a ha => by rw [gI_sI_ne ha, gI_sI_ne ha, hf a ha], hl, fun x hx => by have := h1 x hx; simp (disch := omega) only [gI_atE, gI_ne1, gI_ne2, gL_atE, gL_ne1, gL_ne2, gL_s, gI_s, up_atE, up_n1, up_n2]; exact this, fun x hx => by have := h2 x hx; simp (disch := omega) only [gI_atE, gI_ne1, gI_ne2, gL_atE, gL_ne1, gL_ne2, gL_s, gI_s, up_atE, up_n1, up_n2]; exact this, fun x hx => by have := h3 x hx; simp (disch := omega) only [gI_atE, gI_ne1, gI_ne2, gL_atE, gL_ne1, gL_ne2, gL_s, gI_s, up_atE, up_n1, up_n2]; exact this, fun x hx => by
      by_cases q : x = i
      · subst q; simp (disch := omega) only [gI_atE, gI_ne1, gI_ne2, gL_atE, gL_ne1, gL_ne2, gL_s, gI_s, up_atE, up_n1, up_n2, hf]; exact ⟨trivial, trivial⟩
      · have := h4 x (by omega); simp (disch := omega) only [gI_atE, gI_ne1, gI_ne2, gL_atE, gL_ne1, gL_ne2, gL_s, gI_s, up_atE, up_n1, up_n2]; exact this⟩
    refine ⟨ν', ?_, e2⟩
    rw [f_X7_keep_197]
    simp (disch := omega) only [ofN, lC_lt, lC_ge, lC_eq, lC_gt, lC_le, T_ltL, F_ltL, T_leL, F_leL, T_eqL, F_eqL, m1_0, lN_add, nI_lE, lN_i, ↓reduceIte, bind_s, T_lt, F_lt, T_le, F_le, T_eq, F_eq, F_neg, T_ltm, F_lem, F_ltm, nI_add, nI_mul, nI_sub, ldI_n, stI_n, aix_n, ldL_n, stL_n, ldF_n, gI_atE, gI_ne1, gI_ne2, gL_atE, gL_ne1, gL_ne2, gL_s, gI_s, w7T, w7F1, w7F2, and31, K0, K1, K2, K3, K4, K5, K6, K7, K8, K9, K10, K11, K12, K14, K16, K18, K20, K24, K29, K30, K31, K32, K33, K36, K38, K40, K41, K42, K48, K50, K51, K54, K57, K59, K60, K63, K70, K71, K84, K94, K97, K100, K101, K104, K108, K112, K120, K121, K122, K123, K124, K125, K127, K255, K300, K1000, K9999, K99999, K2147483647]
    exact e1
theorem kp3 {μ : Mem} {k : Nat} (hk : k = 2040 ∨ k = 2041) : ∀ m i n ν, i + m = 10 → m < n → KP μ ν k 6 24 i 0 → ∃ ν', f_X7_keep_159 k n ν (nI i) = some (kp6 ν' k) ∧ KP μ ν' k 6 24 10 8 := by
  intro m
  induction m with
  | zero =>
    intro i n ν hi hn h
    obtain ⟨n, rfl⟩ := suc_of hn
    obtain rfl : i = 10 := by omega
    obtain ⟨ν', e1, e2⟩ := kp4 hk 8 0 FU ν (by omega) (FU_p _ (by omega)) h
    refine ⟨ν', ?_, e2⟩
    rw [f_X7_keep_159]
    simp (disch := omega) only [ofN, lC_lt, lC_ge, lC_eq, lC_gt, lC_le, T_ltL, F_ltL, T_leL, F_leL, T_eqL, F_eqL, m1_0, lN_add, nI_lE, lN_i, ↓reduceIte, bind_s, T_lt, F_lt, T_le, F_le, T_eq, F_eq, F_neg, T_ltm, F_lem, F_ltm, nI_add, nI_mul, nI_sub, ldI_n, stI_n, aix_n, ldL_n, stL_n, ldF_n, gI_atE, gI_ne1, gI_ne2, gL_atE, gL_ne1, gL_ne2, gL_s, gI_s, w7T, w7F1, w7F2, and31, K0, K1, K2, K3, K4, K5, K6, K7, K8, K9, K10, K11, K12, K14, K16, K18, K20, K24, K29, K30, K31, K32, K33, K36, K38, K40, K41, K42, K48, K50, K51, K54, K57, K59, K60, K63, K70, K71, K84, K94, K97, K100, K101, K104, K108, K112, K120, K121, K122, K123, K124, K125, K127, K255, K300, K1000, K9999, K99999, K2147483647]
    exact e1
  | succ m ih =>
    intro i n ν hi hn h
    obtain ⟨n, rfl⟩ := suc_of hn
    obtain ⟨hf, hl, h1, h2, h3, h4⟩ := h
    obtain ⟨ν', e1, e2⟩ := ih (i + 1) n (sI (sI ν k (84 + i) (gI ν 2032 i)) k (94 + i) (gI ν 2033 i)) (by omega) (by omega) ⟨fun a ha => by rw [gI_sI_ne ha, gI_sI_ne ha, hf a ha], hl, fun x hx => by have := h1 x hx; simp (disch := omega) only [gI_atE, gI_ne1, gI_ne2, gL_atE, gL_ne1, gL_ne2, gL_s, gI_s, up_atE, up_n1, up_n2]; exact this, fun x hx => by have := h2 x hx; simp (disch := omega) only [gI_atE, gI_ne1, gI_ne2, gL_atE, gL_ne1, gL_ne2, gL_s, gI_s, up_atE, up_n1, up_n2]; exact this, fun x hx => by
      by_cases q : x = i
      · subst q; simp (disch := omega) only [gI_atE, gI_ne1, gI_ne2, gL_atE, gL_ne1, gL_ne2, gL_s, gI_s, up_atE, up_n1, up_n2, hf]; exact ⟨trivial, trivial⟩
      · have := h3 x (by omega); simp (disch := omega) only [gI_atE, gI_ne1, gI_ne2, gL_atE, gL_ne1, gL_ne2, gL_s, gI_s, up_atE, up_n1, up_n2]; exact this, fun x hx => by omega⟩
    refine ⟨ν', ?_, e2⟩
    rw [f_X7_keep_159]
    simp (disch := omega) only [ofN, lC_lt, lC_ge, lC_eq, lC_gt, lC_le, T_ltL, F_ltL, T_leL, F_leL, T_eqL, F_eqL, m1_0, lN_add, nI_lE, lN_i, ↓reduceIte, bind_s, T_lt, F_lt, T_le, F_le, T_eq, F_eq, F_neg, T_ltm, F_lem, F_ltm, nI_add, nI_mul, nI_sub, ldI_n, stI_n, aix_n, ldL_n, stL_n, ldF_n, gI_atE, gI_ne1, gI_ne2, gL_atE, gL_ne1, gL_ne2, gL_s, gI_s, w7T, w7F1, w7F2, and31, K0, K1, K2, K3, K4, K5, K6, K7, K8, K9, K10, K11, K12, K14, K16, K18, K20, K24, K29, K30, K31, K32, K33, K36, K38, K40, K41, K42, K48, K50, K51, K54, K57, K59, K60, K63, K70, K71, K84, K94, K97, K100, K101, K104, K108, K112, K120, K121, K122, K123, K124, K125, K127, K255, K300, K1000, K9999, K99999, K2147483647]
    exact e1
theorem kp2 {μ : Mem} {k : Nat} (hk : k = 2040 ∨ k = 2041) : ∀ m i n ν, i + m = 24 → m < n → KP μ ν k 6 i 0 0 → ∃ ν', f_X7_keep_133 k n ν (nI i) = some (kp6 ν' k) ∧ KP μ ν' k 6 24 10 8 := by
  intro m
  induction m with
  | zero =>
    intro i n ν hi hn h
    obtain ⟨n, rfl⟩ := suc_of hn
    obtain rfl : i = 24 := by omega
    obtain ⟨ν', e1, e2⟩ := kp3 hk 10 0 FU ν (by omega) (FU_p _ (by omega)) h
    refine ⟨ν', ?_, e2⟩
    rw [f_X7_keep_133]
    simp (disch := omega) only [ofN, lC_lt, lC_ge, lC_eq, lC_gt, lC_le, T_ltL, F_ltL, T_leL, F_leL, T_eqL, F_eqL, m1_0, lN_add, nI_lE, lN_i, ↓reduceIte, bind_s, T_lt, F_lt, T_le, F_le, T_eq, F_eq, F_neg, T_ltm, F_lem, F_ltm, nI_add, nI_mul, nI_sub, ldI_n, stI_n, aix_n, ldL_n, stL_n, ldF_n, gI_atE, gI_ne1, gI_ne2, gL_atE, gL_ne1, gL_ne2, gL_s, gI_s, w7T, w7F1, w7F2, and31, K0, K1, K2, K3, K4, K5, K6, K7, K8, K9, K10, K11, K12, K14, K16, K18, K20, K24, K29, K30, K31, K32, K33, K36, K38, K40, K41, K42, K48, K50, K51, K54, K57, K59, K60, K63, K70, K71, K84, K94, K97, K100, K101, K104, K108, K112, K120, K121, K122, K123, K124, K125, K127, K255, K300, K1000, K9999, K99999, K2147483647]
    exact e1
  | succ m ih =>
    intro i n ν hi hn h
    obtain ⟨n, rfl⟩ := suc_of hn
    obtain ⟨hf, hl, h1, h2, h3, h4⟩ := h
    obtain ⟨ν', e1, e2⟩ := ih (i + 1) n (sI ν k (60 + i) (gI ν 2008 i)) (by omega) (by omega) ⟨fun a ha => by rw [gI_sI_ne ha, hf a ha], hl, fun x hx => by have := h1 x hx; simp (disch := omega) only [gI_atE, gI_ne1, gI_ne2, gL_atE, gL_ne1, gL_ne2, gL_s, gI_s, up_atE, up_n1, up_n2]; exact this, fun x hx => by
      by_cases q : x = i
      · subst q; simp (disch := omega) only [gI_atE, gI_ne1, gI_ne2, gL_atE, gL_ne1, gL_ne2, gL_s, gI_s, up_atE, up_n1, up_n2, hf]
      · have := h2 x (by omega); simp (disch := omega) only [gI_atE, gI_ne1, gI_ne2, gL_atE, gL_ne1, gL_ne2, gL_s, gI_s, up_atE, up_n1, up_n2]; exact this, fun x hx => by omega, fun x hx => by omega⟩
    refine ⟨ν', ?_, e2⟩
    rw [f_X7_keep_133]
    simp (disch := omega) only [ofN, lC_lt, lC_ge, lC_eq, lC_gt, lC_le, T_ltL, F_ltL, T_leL, F_leL, T_eqL, F_eqL, m1_0, lN_add, nI_lE, lN_i, ↓reduceIte, bind_s, T_lt, F_lt, T_le, F_le, T_eq, F_eq, F_neg, T_ltm, F_lem, F_ltm, nI_add, nI_mul, nI_sub, ldI_n, stI_n, aix_n, ldL_n, stL_n, ldF_n, gI_atE, gI_ne1, gI_ne2, gL_atE, gL_ne1, gL_ne2, gL_s, gI_s, w7T, w7F1, w7F2, and31, K0, K1, K2, K3, K4, K5, K6, K7, K8, K9, K10, K11, K12, K14, K16, K18, K20, K24, K29, K30, K31, K32, K33, K36, K38, K40, K41, K42, K48, K50, K51, K54, K57, K59, K60, K63, K70, K71, K84, K94, K97, K100, K101, K104, K108, K112, K120, K121, K122, K123, K124, K125, K127, K255, K300, K1000, K9999, K99999, K2147483647]
    exact e1
theorem kp1 {μ : Mem} {k : Nat} (hk : k = 2040 ∨ k = 2041) : ∀ m i n ν, i + m = 6 → m < n → KP μ ν k i 0 0 0 → ∃ ν', f_X7_keep_2 k n ν (nI i) = some (kp6 ν' k) ∧ KP μ ν' k 6 24 10 8 := by
  intro m
  induction m with
  | zero =>
    intro i n ν hi hn h
    obtain ⟨n, rfl⟩ := suc_of hn
    obtain rfl : i = 6 := by omega
    obtain ⟨ν', e1, e2⟩ := kp2 hk 24 0 FU ν (by omega) (FU_p _ (by omega)) h
    refine ⟨ν', ?_, e2⟩
    rw [f_X7_keep_2]
    simp (disch := omega) only [ofN, lC_lt, lC_ge, lC_eq, lC_gt, lC_le, T_ltL, F_ltL, T_leL, F_leL, T_eqL, F_eqL, m1_0, lN_add, nI_lE, lN_i, ↓reduceIte, bind_s, T_lt, F_lt, T_le, F_le, T_eq, F_eq, F_neg, T_ltm, F_lem, F_ltm, nI_add, nI_mul, nI_sub, ldI_n, stI_n, aix_n, ldL_n, stL_n, ldF_n, gI_atE, gI_ne1, gI_ne2, gL_atE, gL_ne1, gL_ne2, gL_s, gI_s, w7T, w7F1, w7F2, and31, K0, K1, K2, K3, K4, K5, K6, K7, K8, K9, K10, K11, K12, K14, K16, K18, K20, K24, K29, K30, K31, K32, K33, K36, K38, K40, K41, K42, K48, K50, K51, K54, K57, K59, K60, K63, K70, K71, K84, K94, K97, K100, K101, K104, K108, K112, K120, K121, K122, K123, K124, K125, K127, K255, K300, K1000, K9999, K99999, K2147483647]
    exact e1
  | succ m ih =>
    intro i n ν hi hn h
    obtain ⟨n, rfl⟩ := suc_of hn
    obtain ⟨hf, hl, h1, h2, h3, h4⟩ := h
    obtain ⟨ν', e1, e2⟩ := ih (i + 1) n (kp10 ν k i) (by omega) (by omega) ⟨fun a ha => by unfold kp10; rw [gI_sI_ne ha, gI_sI_ne ha, gI_sI_ne ha, gI_sI_ne ha, gI_sI_ne ha, gI_sI_ne ha, gI_sI_ne ha, gI_sI_ne ha, gI_sI_ne ha, gI_sI_ne ha, hf a ha], hl, fun x hx => by
      unfold kp10
      by_cases q : x = i
      · subst q; simp (disch := omega) only [gI_atE, gI_ne1, gI_ne2, gL_atE, gL_ne1, gL_ne2, gL_s, gI_s, up_atE, up_n1, up_n2, hf]; exact ⟨trivial, trivial, trivial, trivial, trivial, trivial, trivial, trivial, trivial, trivial⟩
      · have := h1 x (by omega); simp (disch := omega) only [gI_atE, gI_ne1, gI_ne2, gL_atE, gL_ne1, gL_ne2, gL_s, gI_s, up_atE, up_n1, up_n2]; exact this, fun x hx => by omega, fun x hx => by omega, fun x hx => by omega⟩
    refine ⟨ν', ?_, e2⟩
    rw [f_X7_keep_2]
    simp (disch := omega) only [ofN, lC_lt, lC_ge, lC_eq, lC_gt, lC_le, T_ltL, F_ltL, T_leL, F_leL, T_eqL, F_eqL, m1_0, lN_add, nI_lE, lN_i, ↓reduceIte, bind_s, T_lt, F_lt, T_le, F_le, T_eq, F_eq, F_neg, T_ltm, F_lem, F_ltm, nI_add, nI_mul, nI_sub, ldI_n, stI_n, aix_n, ldL_n, stL_n, ldF_n, gI_atE, gI_ne1, gI_ne2, gL_atE, gL_ne1, gL_ne2, gL_s, gI_s, w7T, w7F1, w7F2, and31, K0, K1, K2, K3, K4, K5, K6, K7, K8, K9, K10, K11, K12, K14, K16, K18, K20, K24, K29, K30, K31, K32, K33, K36, K38, K40, K41, K42, K48, K50, K51, K54, K57, K59, K60, K63, K70, K71, K84, K94, K97, K100, K101, K104, K108, K112, K120, K121, K122, K123, K124, K125, K127, K255, K300, K1000, K9999, K99999, K2147483647]
    exact e1
theorem keep_ok {μ : Mem} {k W st : Nat} {σ : SG} (hk : k = 2040 ∨ k = 2041) (hM : MS μ σ) (ho : okS W st σ) : ∃ ν, f_X7_keep μ k = some ν ∧ (∀ a, a ≠ k → gI ν a = gI μ a) ∧ (∀ a, gL ν a = gL μ a) ∧ IM ν k σ := by
  obtain ⟨ν, e1, hf, hl, h1, h2, h3, h4⟩ := kp1 hk 6 0 FU μ (by omega) (FU_p _ (by omega)) ⟨fun _ _ => rfl, fun _ => rfl, fun x hx => by omega, fun x hx => by omega, fun x hx => by omega, fun x hx => by omega⟩
  obtain ⟨⟨a1, a2, a3, a4⟩, b, ⟨c1, c2⟩, ⟨d1, d2⟩, g1, g2⟩ := hM
  obtain ⟨⟨o1, _, _, _⟩, _, ⟨o2, _⟩, ⟨o3, _⟩, o4, _⟩ := ho
  refine ⟨kp6 ν k, e1, fun a ha => ?_, hl, ?_⟩
  · unfold kp6
    rw [gI_sI_ne ha, gI_sI_ne ha, gI_sI_ne ha, gI_sI_ne ha, gI_sI_ne ha, gI_sI_ne ha, hf a ha]
  · have h20 := hf 2000 (by omega)
    have hv : ∀ x, x < 120 → gI (kp6 ν k) k x = gI ν k x := fun x hx => by unfold kp6; simp (disch := omega) only [gI_atE, gI_ne1, gI_ne2, gL_atE, gL_ne1, gL_ne2, gL_s, gI_s, up_atE, up_n1, up_n2]
    refine ⟨⟨?_, ?_, ?_, ?_⟩, fun e he => ⟨fun c hc => ?_, fun q hq => ?_⟩, ⟨?_, fun i hi => ?_⟩, ⟨?_, fun i hi => ?_⟩, fun i hi => ?_⟩
    · unfold kp6; simp (disch := omega) only [gI_atE, gI_ne1, gI_ne2, gL_atE, gL_ne1, gL_ne2, gL_s, gI_s, up_atE, up_n1, up_n2, h20]; exact a1
    · unfold kp6; simp (disch := omega) only [gI_atE, gI_ne1, gI_ne2, gL_atE, gL_ne1, gL_ne2, gL_s, gI_s, up_atE, up_n1, up_n2, h20]; exact a2
    · unfold kp6; simp (disch := omega) only [gI_atE, gI_ne1, gI_ne2, gL_atE, gL_ne1, gL_ne2, gL_s, gI_s, up_atE, up_n1, up_n2, h20]; exact a3
    · unfold kp6; simp (disch := omega) only [gI_atE, gI_ne1, gI_ne2, gL_atE, gL_ne1, gL_ne2, gL_s, gI_s, up_atE, up_n1, up_n2, h20]; exact a4
    · rw [hv _ (by omega)]
      have q := h1 e (by omega)
      have r := (b e he).1 c hc
      obtain ⟨q0, q1, q2, q3, q4, q5, q6, _⟩ := q
      rcases (show c = 0 ∨ c = 1 ∨ c = 2 ∨ c = 3 ∨ c = 4 ∨ c = 5 ∨ c = 6 by omega) with rfl | rfl | rfl | rfl | rfl | rfl | rfl
      · rw [show 6 * 0 + e = e by omega, q0]; exact r
      · rw [show 6 * 1 + e = 6 + e by omega, q1]; exact r
      · rw [show 6 * 2 + e = 12 + e by omega, q2]; exact r
      · rw [show 6 * 3 + e = 18 + e by omega, q3]; exact r
      · rw [show 6 * 4 + e = 24 + e by omega, q4]; exact r
      · rw [show 6 * 5 + e = 30 + e by omega, q5]; exact r
      · rw [show 6 * 6 + e = 36 + e by omega, q6]; exact r
    · rw [hv _ (by omega), h2 _ (by omega)]; exact (b e he).2 q hq
    · unfold kp6; simp (disch := omega) only [gI_atE, gI_ne1, gI_ne2, gL_atE, gL_ne1, gL_ne2, gL_s, gI_s, up_atE, up_n1, up_n2, h20]; exact c1
    · have q := h1 i (by omega)
      rw [hv _ (by omega), hv _ (by omega), hv _ (by omega), q.2.2.2.2.2.2.2.1, q.2.2.2.2.2.2.2.2.1, q.2.2.2.2.2.2.2.2.2]; exact c2 i hi
    · unfold kp6; simp (disch := omega) only [gI_atE, gI_ne1, gI_ne2, gL_atE, gL_ne1, gL_ne2, gL_s, gI_s, up_atE, up_n1, up_n2, h20]
      rw [d1, g1, nI_mul, nI_add]
    · have q := h3 i (by omega)
      rw [hv _ (by omega), hv _ (by omega), q.1, q.2]; exact d2 i hi
    · have q := h4 i (by omega)
      rw [hv _ (by omega), hv _ (by omega), q.1, q.2]; exact g2 i hi
def ag10 (ν : Mem) (k i : Nat) : Mem := sI (sI (sI (sI (sI (sI (sI (sI (sI (sI ν 2001 i (gI ν k i)) 2002 i (gI ν k (6 + i))) 2003 i (gI ν k (12 + i))) 2004 i (gI ν k (18 + i))) 2005 i (gI ν k (24 + i))) 2006 i (gI ν k (30 + i))) 2007 i (gI ν k (36 + i))) 2028 i (gI ν k (42 + i))) 2029 i (gI ν k (48 + i))) 2030 i (gI ν k (54 + i))
def ag7 (ν : Mem) (k a b : Nat) : Mem := sI (sI (sI (sI (sI (sI (sI ν 2000 0 (gI ν k 120)) 2000 9 (gI ν k 121)) 2000 10 (gI ν k 122)) 2000 27 (gI ν k 123)) 2000 31 (nI a)) 2000 34 (nI b)) 2000 18 (gI ν k 125)
def AG (μ ν : Mem) (k n1 n2 n3 n4 : Nat) : Prop := MO μ ν ∧ gI ν k = gI μ k ∧
  (∀ x, x < n1 → gI ν 2001 x = gI μ k x ∧ gI ν 2002 x = gI μ k (6 + x) ∧ gI ν 2003 x = gI μ k (12 + x) ∧ gI ν 2004 x = gI μ k (18 + x) ∧ gI ν 2005 x = gI μ k (24 + x) ∧ gI ν 2006 x = gI μ k (30 + x) ∧ gI ν 2007 x = gI μ k (36 + x) ∧ gI ν 2028 x = gI μ k (42 + x) ∧ gI ν 2029 x = gI μ k (48 + x) ∧ gI ν 2030 x = gI μ k (54 + x)) ∧
  (∀ x, x < n2 → gI ν 2008 x = gI μ k (60 + x)) ∧ (∀ x, x < n3 → gI ν 2032 x = gI μ k (84 + x) ∧ gI ν 2033 x = gI μ k (94 + x)) ∧ (∀ x, x < n4 → gI ν 2035 x = gI μ k (104 + x) ∧ gI ν 2036 x = gI μ k (112 + x))
theorem ag4 {μ : Mem} {k a b : Nat} (hk : k = 2040 ∨ k = 2041) (ha : a ≤ 10) (hb : b ≤ 8) (hab : gI μ k 124 = nI (a + 100 * b)) : ∀ m i n ν, i + m = 8 → m < n → AG μ ν k 6 24 10 i → ∃ ν', f_X7_again_197 k n ν (nI i) = some (ag7 ν' k a b) ∧ AG μ ν' k 6 24 10 8 := by
  intro m
  induction m with
  | zero =>
    intro i n ν hi hn h
    obtain ⟨n, rfl⟩ := suc_of hn
    obtain rfl : i = 8 := by omega
    refine ⟨ν, ?_, h⟩
    have hab' : gI ν k 124 = nI (a + 100 * b) := by rw [h.2.1]; exact hab
    have e1 : (a + 100 * b) % 100 = a := by omega
    have e2 : (a + 100 * b) / 100 = b := by omega
    rw [f_X7_again_197]
    simp (disch := omega) only [ofN, lC_lt, lC_ge, lC_eq, lC_gt, lC_le, T_ltL, F_ltL, T_leL, F_leL, T_eqL, F_eqL, m1_0, lN_add, nI_lE, lN_i, ↓reduceIte, bind_s, T_lt, F_lt, T_le, F_le, T_eq, F_eq, F_neg, T_ltm, F_lem, F_ltm, nI_add, nI_mul, nI_sub, ldI_n, stI_n, aix_n, ldL_n, stL_n, ldF_n, gI_atE, gI_ne1, gI_ne2, gL_atE, gL_ne1, gL_ne2, gL_s, gI_s, w7T, w7F1, w7F2, and31, K0, K1, K2, K3, K4, K5, K6, K7, K8, K9, K10, K11, K12, K14, K16, K18, K20, K24, K29, K30, K31, K32, K33, K36, K38, K40, K41, K42, K48, K50, K51, K54, K57, K59, K60, K63, K70, K71, K84, K94, K97, K100, K101, K104, K108, K112, K120, K121, K122, K123, K124, K125, K127, K255, K300, K1000, K9999, K99999, K2147483647, ag7, hab', rmI_n, dvI_n, e1, e2]
  | succ m ih =>
    intro i n ν hi hn h
    obtain ⟨n, rfl⟩ := suc_of hn
    obtain ⟨hf, hl, h1, h2, h3, h4⟩ := h
    obtain ⟨ν', e1, e2⟩ := ih (i + 1) n (sI (sI ν 2035 i (gI ν k (104 + i))) 2036 i (gI ν k (112 + i))) (by omega) (by omega) ⟨MO.trans hf (MO.trans (MO_s (by unfold mrow; omega)) (MO_s (by unfold mrow; omega))), by rw [gI_sI_ne (by omega), gI_sI_ne (by omega), hl], fun x hx => by have := h1 x hx; simp (disch := omega) only [gI_atE, gI_ne1, gI_ne2, gL_atE, gL_ne1, gL_ne2, gL_s, gI_s, up_atE, up_n1, up_n2]; exact this, fun x hx => by have := h2 x hx; simp (disch := omega) only [gI_atE, gI_ne1, gI_ne2, gL_atE, gL_ne1, gL_ne2, gL_s, gI_s, up_atE, up_n1, up_n2]; exact this, fun x hx => by have := h3 x hx; simp (disch := omega) only [gI_atE, gI_ne1, gI_ne2, gL_atE, gL_ne1, gL_ne2, gL_s, gI_s, up_atE, up_n1, up_n2]; exact this, fun x hx => by
      by_cases q : x = i
      · subst q; simp (disch := omega) only [gI_atE, gI_ne1, gI_ne2, gL_atE, gL_ne1, gL_ne2, gL_s, gI_s, up_atE, up_n1, up_n2, hl]; exact ⟨trivial, trivial⟩
      · have := h4 x (by omega); simp (disch := omega) only [gI_atE, gI_ne1, gI_ne2, gL_atE, gL_ne1, gL_ne2, gL_s, gI_s, up_atE, up_n1, up_n2]; exact this⟩
    refine ⟨ν', ?_, e2⟩
    rw [f_X7_again_197]
    simp (disch := omega) only [ofN, lC_lt, lC_ge, lC_eq, lC_gt, lC_le, T_ltL, F_ltL, T_leL, F_leL, T_eqL, F_eqL, m1_0, lN_add, nI_lE, lN_i, ↓reduceIte, bind_s, T_lt, F_lt, T_le, F_le, T_eq, F_eq, F_neg, T_ltm, F_lem, F_ltm, nI_add, nI_mul, nI_sub, ldI_n, stI_n, aix_n, ldL_n, stL_n, ldF_n, gI_atE, gI_ne1, gI_ne2, gL_atE, gL_ne1, gL_ne2, gL_s, gI_s, w7T, w7F1, w7F2, and31, K0, K1, K2, K3, K4, K5, K6, K7, K8, K9, K10, K11, K12, K14, K16, K18, K20, K24, K29, K30, K31, K32, K33, K36, K38, K40, K41, K42, K48, K50, K51, K54, K57, K59, K60, K63, K70, K71, K84, K94, K97, K100, K101, K104, K108, K112, K120, K121, K122, K123, K124, K125, K127, K255, K300, K1000, K9999, K99999, K2147483647]
    exact e1
theorem ag3 {μ : Mem} {k a b : Nat} (hk : k = 2040 ∨ k = 2041) (ha : a ≤ 10) (hb : b ≤ 8) (hab : gI μ k 124 = nI (a + 100 * b)) : ∀ m i n ν, i + m = 10 → m < n → AG μ ν k 6 24 i 0 → ∃ ν', f_X7_again_159 k n ν (nI i) = some (ag7 ν' k a b) ∧ AG μ ν' k 6 24 10 8 := by
  intro m
  induction m with
  | zero =>
    intro i n ν hi hn h
    obtain ⟨n, rfl⟩ := suc_of hn
    obtain rfl : i = 10 := by omega
    obtain ⟨ν', e1, e2⟩ := ag4 hk ha hb hab 8 0 FU ν (by omega) (FU_p _ (by omega)) h
    refine ⟨ν', ?_, e2⟩
    rw [f_X7_again_159]
    simp (disch := omega) only [ofN, lC_lt, lC_ge, lC_eq, lC_gt, lC_le, T_ltL, F_ltL, T_leL, F_leL, T_eqL, F_eqL, m1_0, lN_add, nI_lE, lN_i, ↓reduceIte, bind_s, T_lt, F_lt, T_le, F_le, T_eq, F_eq, F_neg, T_ltm, F_lem, F_ltm, nI_add, nI_mul, nI_sub, ldI_n, stI_n, aix_n, ldL_n, stL_n, ldF_n, gI_atE, gI_ne1, gI_ne2, gL_atE, gL_ne1, gL_ne2, gL_s, gI_s, w7T, w7F1, w7F2, and31, K0, K1, K2, K3, K4, K5, K6, K7, K8, K9, K10, K11, K12, K14, K16, K18, K20, K24, K29, K30, K31, K32, K33, K36, K38, K40, K41, K42, K48, K50, K51, K54, K57, K59, K60, K63, K70, K71, K84, K94, K97, K100, K101, K104, K108, K112, K120, K121, K122, K123, K124, K125, K127, K255, K300, K1000, K9999, K99999, K2147483647]
    exact e1
  | succ m ih =>
    intro i n ν hi hn h
    obtain ⟨n, rfl⟩ := suc_of hn
    obtain ⟨hf, hl, h1, h2, h3, h4⟩ := h
    obtain ⟨ν', e1, e2⟩ := ih (i + 1) n (sI (sI ν 2032 i (gI ν k (84 + i))) 2033 i (gI ν k (94 + i))) (by omega) (by omega) ⟨MO.trans hf (MO.trans (MO_s (by unfold mrow; omega)) (MO_s (by unfold mrow; omega))), by rw [gI_sI_ne (by omega), gI_sI_ne (by omega), hl], fun x hx => by have := h1 x hx; simp (disch := omega) only [gI_atE, gI_ne1, gI_ne2, gL_atE, gL_ne1, gL_ne2, gL_s, gI_s, up_atE, up_n1, up_n2]; exact this, fun x hx => by have := h2 x hx; simp (disch := omega) only [gI_atE, gI_ne1, gI_ne2, gL_atE, gL_ne1, gL_ne2, gL_s, gI_s, up_atE, up_n1, up_n2]; exact this, fun x hx => by
      by_cases q : x = i
      · subst q; simp (disch := omega) only [gI_atE, gI_ne1, gI_ne2, gL_atE, gL_ne1, gL_ne2, gL_s, gI_s, up_atE, up_n1, up_n2, hl]; exact ⟨trivial, trivial⟩
      · have := h3 x (by omega); simp (disch := omega) only [gI_atE, gI_ne1, gI_ne2, gL_atE, gL_ne1, gL_ne2, gL_s, gI_s, up_atE, up_n1, up_n2]; exact this, fun x hx => by omega⟩
    refine ⟨ν', ?_, e2⟩
    rw [f_X7_again_159]
    simp (disch := omega) only [ofN, lC_lt, lC_ge, lC_eq, lC_gt, lC_le, T_ltL, F_ltL, T_leL, F_leL, T_eqL, F_eqL, m1_0, lN_add, nI_lE, lN_i, ↓reduceIte, bind_s, T_lt, F_lt, T_le, F_le, T_eq, F_eq, F_neg, T_ltm, F_lem, F_ltm, nI_add, nI_mul, nI_sub, ldI_n, stI_n, aix_n, ldL_n, stL_n, ldF_n, gI_atE, gI_ne1, gI_ne2, gL_atE, gL_ne1, gL_ne2, gL_s, gI_s, w7T, w7F1, w7F2, and31, K0, K1, K2, K3, K4, K5, K6, K7, K8, K9, K10, K11, K12, K14, K16, K18, K20, K24, K29, K30, K31, K32, K33, K36, K38, K40, K41, K42, K48, K50, K51, K54, K57, K59, K60, K63, K70, K71, K84, K94, K97, K100, K101, K104, K108, K112, K120, K121, K122, K123, K124, K125, K127, K255, K300, K1000, K9999, K99999, K2147483647]
    exact e1
theorem ag2 {μ : Mem} {k a b : Nat} (hk : k = 2040 ∨ k = 2041) (ha : a ≤ 10) (hb : b ≤ 8) (hab : gI μ k 124 = nI (a + 100 * b)) : ∀ m i n ν, i + m = 24 → m < n → AG μ ν k 6 i 0 0 → ∃ ν', f_X7_again_133 k n ν (nI i) = some (ag7 ν' k a b) ∧ AG μ ν' k 6 24 10 8 := by
  intro m
  induction m with
  | zero =>
    intro i n ν hi hn h
    obtain ⟨n, rfl⟩ := suc_of hn
    obtain rfl : i = 24 := by omega
    obtain ⟨ν', e1, e2⟩ := ag3 hk ha hb hab 10 0 FU ν (by omega) (FU_p _ (by omega)) h
    refine ⟨ν', ?_, e2⟩
    rw [f_X7_again_133]
    simp (disch := omega) only [ofN, lC_lt, lC_ge, lC_eq, lC_gt, lC_le, T_ltL, F_ltL, T_leL, F_leL, T_eqL, F_eqL, m1_0, lN_add, nI_lE, lN_i, ↓reduceIte, bind_s, T_lt, F_lt, T_le, F_le, T_eq, F_eq, F_neg, T_ltm, F_lem, F_ltm, nI_add, nI_mul, nI_sub, ldI_n, stI_n, aix_n, ldL_n, stL_n, ldF_n, gI_atE, gI_ne1, gI_ne2, gL_atE, gL_ne1, gL_ne2, gL_s, gI_s, w7T, w7F1, w7F2, and31, K0, K1, K2, K3, K4, K5, K6, K7, K8, K9, K10, K11, K12, K14, K16, K18, K20, K24, K29, K30, K31, K32, K33, K36, K38, K40, K41, K42, K48, K50, K51, K54, K57, K59, K60, K63, K70, K71, K84, K94, K97, K100, K101, K104, K108, K112, K120, K121, K122, K123, K124, K125, K127, K255, K300, K1000, K9999, K99999, K2147483647]
    exact e1
  | succ m ih =>
    intro i n ν hi hn h
    obtain ⟨n, rfl⟩ := suc_of hn
    obtain ⟨hf, hl, h1, h2, h3, h4⟩ := h
    obtain ⟨ν', e1, e2⟩ := ih (i + 1) n (sI ν 2008 i (gI ν k (60 + i))) (by omega) (by omega) ⟨MO.trans hf (MO_s (by unfold mrow; omega)), by rw [gI_sI_ne (by omega), hl], fun x hx => by have := h1 x hx; simp (disch := omega) only [gI_atE, gI_ne1, gI_ne2, gL_atE, gL_ne1, gL_ne2, gL_s, gI_s, up_atE, up_n1, up_n2]; exact this, fun x hx => by
      by_cases q : x = i
      · subst q; simp (disch := omega) only [gI_atE, gI_ne1, gI_ne2, gL_atE, gL_ne1, gL_ne2, gL_s, gI_s, up_atE, up_n1, up_n2, hl]
      · have := h2 x (by omega); simp (disch := omega) only [gI_atE, gI_ne1, gI_ne2, gL_atE, gL_ne1, gL_ne2, gL_s, gI_s, up_atE, up_n1, up_n2]; exact this, fun x hx => by omega, fun x hx => by omega⟩
    refine ⟨ν', ?_, e2⟩
    rw [f_X7_again_133]
    simp (disch := omega) only [ofN, lC_lt, lC_ge, lC_eq, lC_gt, lC_le, T_ltL, F_ltL, T_leL, F_leL, T_eqL, F_eqL, m1_0, lN_add, nI_lE, lN_i, ↓reduceIte, bind_s, T_lt, F_lt, T_le, F_le, T_eq, F_eq, F_neg, T_ltm, F_lem, F_ltm, nI_add, nI_mul, nI_sub, ldI_n, stI_n, aix_n, ldL_n, stL_n, ldF_n, gI_atE, gI_ne1, gI_ne2, gL_atE, gL_ne1, gL_ne2, gL_s, gI_s, w7T, w7F1, w7F2, and31, K0, K1, K2, K3, K4, K5, K6, K7, K8, K9, K10, K11, K12, K14, K16, K18, K20, K24, K29, K30, K31, K32, K33, K36, K38, K40, K41, K42, K48, K50, K51, K54, K57, K59, K60, K63, K70, K71, K84, K94, K97, K100, K101, K104, K108, K112, K120, K121, K122, K123, K124, K125, K127, K255, K300, K1000, K9999, K99999, K2147483647]
    exact e1
theorem MO_10 {ν : Mem} {k i : Nat} : MO ν (ag10 ν k i) := by
  unfold ag10
  exact MO.trans (MO.trans (MO.trans (MO.trans (MO.trans (MO.trans (MO.trans (MO.trans (MO.trans (MO_s (by unfold mrow; omega)) (MO_s (by unfold mrow; omega))) (MO_s (by unfold mrow; omega))) (MO_s (by unfold mrow; omega))) (MO_s (by unfold mrow; omega))) (MO_s (by unfold mrow; omega))) (MO_s (by unfold mrow; omega))) (MO_s (by unfold mrow; omega))) (MO_s (by unfold mrow; omega))) (MO_s (by unfold mrow; omega))
theorem ag1 {μ : Mem} {k a b : Nat} (hk : k = 2040 ∨ k = 2041) (ha : a ≤ 10) (hb : b ≤ 8) (hab : gI μ k 124 = nI (a + 100 * b)) : ∀ m i n ν, i + m = 6 → m < n → AG μ ν k i 0 0 0 → ∃ ν', f_X7_again_2 k n ν (nI i) = some (ag7 ν' k a b) ∧ AG μ ν' k 6 24 10 8 := by
  intro m
  induction m with
  | zero =>
    intro i n ν hi hn h
    obtain ⟨n, rfl⟩ := suc_of hn
    obtain rfl : i = 6 := by omega
    obtain ⟨ν', e1, e2⟩ := ag2 hk ha hb hab 24 0 FU ν (by omega) (FU_p _ (by omega)) h
    refine ⟨ν', ?_, e2⟩
    rw [f_X7_again_2]
    simp (disch := omega) only [ofN, lC_lt, lC_ge, lC_eq, lC_gt, lC_le, T_ltL, F_ltL, T_leL, F_leL, T_eqL, F_eqL, m1_0, lN_add, nI_lE, lN_i, ↓reduceIte, bind_s, T_lt, F_lt, T_le, F_le, T_eq, F_eq, F_neg, T_ltm, F_lem, F_ltm, nI_add, nI_mul, nI_sub, ldI_n, stI_n, aix_n, ldL_n, stL_n, ldF_n, gI_atE, gI_ne1, gI_ne2, gL_atE, gL_ne1, gL_ne2, gL_s, gI_s, w7T, w7F1, w7F2, and31, K0, K1, K2, K3, K4, K5, K6, K7, K8, K9, K10, K11, K12, K14, K16, K18, K20, K24, K29, K30, K31, K32, K33, K36, K38, K40, K41, K42, K48, K50, K51, K54, K57, K59, K60, K63, K70, K71, K84, K94, K97, K100, K101, K104, K108, K112, K120, K121, K122, K123, K124, K125, K127, K255, K300, K1000, K9999, K99999, K2147483647]
    exact e1
  | succ m ih =>
    intro i n ν hi hn h
    obtain ⟨n, rfl⟩ := suc_of hn
    obtain ⟨hf, hl, h1, h2, h3, h4⟩ := h
    obtain ⟨ν', e1, e2⟩ := ih (i + 1) n (ag10 ν k i) (by omega) (by omega) ⟨MO.trans hf MO_10, by unfold ag10; rw [gI_sI_ne (by omega), gI_sI_ne (by omega), gI_sI_ne (by omega), gI_sI_ne (by omega), gI_sI_ne (by omega), gI_sI_ne (by omega), gI_sI_ne (by omega), gI_sI_ne (by omega), gI_sI_ne (by omega), gI_sI_ne (by omega), hl], fun x hx => by
      unfold ag10
      by_cases q : x = i
      · subst q; simp (disch := omega) only [gI_atE, gI_ne1, gI_ne2, gL_atE, gL_ne1, gL_ne2, gL_s, gI_s, up_atE, up_n1, up_n2, hl]; exact ⟨trivial, trivial, trivial, trivial, trivial, trivial, trivial, trivial, trivial, trivial⟩
      · have := h1 x (by omega); simp (disch := omega) only [gI_atE, gI_ne1, gI_ne2, gL_atE, gL_ne1, gL_ne2, gL_s, gI_s, up_atE, up_n1, up_n2]; exact this, fun x hx => by omega, fun x hx => by omega, fun x hx => by omega⟩
    refine ⟨ν', ?_, e2⟩
    rw [f_X7_again_2]
    simp (disch := omega) only [ofN, lC_lt, lC_ge, lC_eq, lC_gt, lC_le, T_ltL, F_ltL, T_leL, F_leL, T_eqL, F_eqL, m1_0, lN_add, nI_lE, lN_i, ↓reduceIte, bind_s, T_lt, F_lt, T_le, F_le, T_eq, F_eq, F_neg, T_ltm, F_lem, F_ltm, nI_add, nI_mul, nI_sub, ldI_n, stI_n, aix_n, ldL_n, stL_n, ldF_n, gI_atE, gI_ne1, gI_ne2, gL_atE, gL_ne1, gL_ne2, gL_s, gI_s, w7T, w7F1, w7F2, and31, K0, K1, K2, K3, K4, K5, K6, K7, K8, K9, K10, K11, K12, K14, K16, K18, K20, K24, K29, K30, K31, K32, K33, K36, K38, K40, K41, K42, K48, K50, K51, K54, K57, K59, K60, K63, K70, K71, K84, K94, K97, K100, K101, K104, K108, K112, K120, K121, K122, K123, K124, K125, K127, K255, K300, K1000, K9999, K99999, K2147483647]
    exact e1
theorem again_ok {μ : Mem} {k W st : Nat} {σ : SG} (hk : k = 2040 ∨ k = 2041) (hI : IM μ k σ) (ho : okS W st σ) : ∃ ν, f_X7_again μ k = some ν ∧ MO μ ν ∧ MS ν σ := by
  obtain ⟨⟨a1, a2, a3, a4⟩, b, ⟨c1, c2⟩, ⟨d1, d2⟩, g2⟩ := hI
  obtain ⟨⟨o1, _, _, _⟩, _, ⟨o2, _⟩, ⟨o3, _⟩, o4, _⟩ := ho
  obtain ⟨ν, e1, hf, hl, h1, h2, h3, h4⟩ := ag1 (a := σ 31 0) (b := σ 34 0) hk o3 o4 d1 6 0 FU μ (by omega) (FU_p _ (by omega)) ⟨MO.rfl' _, rfl, fun x hx => by omega, fun x hx => by omega, fun x hx => by omega, fun x hx => by omega⟩
  refine ⟨ag7 ν k (σ 31 0) (σ 34 0), e1, ?_, ?_⟩
  · unfold ag7
    exact MO.trans hf (MO.trans (MO.trans (MO.trans (MO.trans (MO.trans (MO.trans (MO_f (by unfold mfld; omega)) (MO_f (by unfold mfld; omega))) (MO_f (by unfold mfld; omega))) (MO_f (by unfold mfld; omega))) (MO_f (by unfold mfld; omega))) (MO_f (by unfold mfld; omega))) (MO_f (by unfold mfld; omega)))
  · have hv : ∀ a, a ≠ 2000 → gI (ag7 ν k (σ 31 0) (σ 34 0)) a = gI ν a := fun a ha => by unfold ag7; rw [gI_sI_ne ha, gI_sI_ne ha, gI_sI_ne ha, gI_sI_ne ha, gI_sI_ne ha, gI_sI_ne ha, gI_sI_ne ha]
    refine ⟨⟨?_, ?_, ?_, ?_⟩, fun e he => ⟨fun c hc => ?_, fun q hq => ?_⟩, ⟨?_, fun i hi => ?_⟩, ⟨?_, fun i hi => ?_⟩, ?_, fun i hi => ?_⟩
    · unfold ag7; simp (disch := omega) only [gI_atE, gI_ne1, gI_ne2, gL_atE, gL_ne1, gL_ne2, gL_s, gI_s, up_atE, up_n1, up_n2, hl]; exact a1
    · unfold ag7; simp (disch := omega) only [gI_atE, gI_ne1, gI_ne2, gL_atE, gL_ne1, gL_ne2, gL_s, gI_s, up_atE, up_n1, up_n2, hl]; exact a2
    · unfold ag7; simp (disch := omega) only [gI_atE, gI_ne1, gI_ne2, gL_atE, gL_ne1, gL_ne2, gL_s, gI_s, up_atE, up_n1, up_n2, hl]; exact a3
    · unfold ag7; simp (disch := omega) only [gI_atE, gI_ne1, gI_ne2, gL_atE, gL_ne1, gL_ne2, gL_s, gI_s, up_atE, up_n1, up_n2, hl]; exact a4
    · rw [hv _ (by omega)]
      have q := h1 e (by omega)
      have r := (b e he).1 c hc
      obtain ⟨q0, q1, q2, q3, q4, q5, q6, _⟩ := q
      rcases (show c = 0 ∨ c = 1 ∨ c = 2 ∨ c = 3 ∨ c = 4 ∨ c = 5 ∨ c = 6 by omega) with rfl | rfl | rfl | rfl | rfl | rfl | rfl
      · rw [show 6 * 0 + e = e by omega] at r; rw [q0]; exact r
      · rw [show 6 * 1 + e = 6 + e by omega] at r; rw [q1]; exact r
      · rw [show 6 * 2 + e = 12 + e by omega] at r; rw [q2]; exact r
      · rw [show 6 * 3 + e = 18 + e by omega] at r; rw [q3]; exact r
      · rw [show 6 * 4 + e = 24 + e by omega] at r; rw [q4]; exact r
      · rw [show 6 * 5 + e = 30 + e by omega] at r; rw [q5]; exact r
      · rw [show 6 * 6 + e = 36 + e by omega] at r; rw [q6]; exact r
    · rw [hv _ (by omega), h2 _ (by omega)]; exact (b e he).2 q hq
    · unfold ag7; simp (disch := omega) only [gI_atE, gI_ne1, gI_ne2, gL_atE, gL_ne1, gL_ne2, gL_s, gI_s, up_atE, up_n1, up_n2, hl]; exact c1
    · have q := h1 i (by omega)
      rw [hv _ (by omega), hv _ (by omega), hv _ (by omega), q.2.2.2.2.2.2.2.1, q.2.2.2.2.2.2.2.2.1, q.2.2.2.2.2.2.2.2.2]; exact c2 i hi
    · unfold ag7; simp (disch := omega) only [gI_atE, gI_ne1, gI_ne2, gL_atE, gL_ne1, gL_ne2, gL_s, gI_s, up_atE, up_n1, up_n2]
    · have q := h3 i (by omega)
      rw [hv _ (by omega), hv _ (by omega), q.1, q.2]; exact d2 i hi
    · unfold ag7; simp (disch := omega) only [gI_atE, gI_ne1, gI_ne2, gL_atE, gL_ne1, gL_ne2, gL_s, gI_s, up_atE, up_n1, up_n2]
    · have q := h4 i (by omega)
      rw [hv _ (by omega), hv _ (by omega), q.1, q.2]; exact g2 i hi
