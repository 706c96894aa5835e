/-! an egg comes -/
def eggσ (σ : SG) (E k v p s : Nat) : SG := up (up (up (up (up (up (up (up (up (up (up (up σ 1 E k) 2 E v) 3 E p) 4 E s) 5 E 0) 6 E 0) 7 E 0) 8 (4 * E) 0) 8 (4 * E + 1) 0) 8 (4 * E + 2) 0) 8 (4 * E + 3) 0) 0 0 (E + 1)
def eggX (μ : Mem) (E k v p s : Nat) : Mem := sI (sI (sI (sI (sI (zM μ (100 + 1 + 1 + E) 0 14) (100 + 1 + 1 + E) 0 (nI k)) (100 + 1 + 1 + E) 1 (nI v)) (100 + 1 + 1 + E) 2 (nI p)) (100 + 1 + 1 + E) 3 (nI s)) 100 0 (nI (E + 1))
def eggM (μ : Mem) (E k v p s : Nat) : Mem := sI (zM (sI (sI (sI (sI (sI (sI (sI μ 2001 E (nI k)) 2002 E (nI v)) 2003 E (nI p)) 2004 E (nI s)) 2005 E (nI 0)) 2006 E (nI 0)) 2007 E (nI 0)) 2008 (4 * E) 4) 2000 0 (nI (E + 1))
theorem fill14 {μ : Mem} {k : Nat} : ∀ m i n, i + m = 14 → m < n → f_J7_fill_53178_5 k n (zM μ k 0 i) (nI 0) (nI i) (nI 14) = some (zM μ k 0 14) := by
  intro m
  induction m with
  | zero =>
    intro i n hi hn
    obtain ⟨n, rfl⟩ := suc_of hn
    obtain rfl : i = 14 := by omega
    rw [f_J7_fill_53178_5, if_pos (nI_le (by omega) (by omega))]
  | succ m ih =>
    intro i n hi hn
    obtain ⟨n, rfl⟩ := suc_of hn
    rw [f_J7_fill_53178_5]
    simp (disch := omega) only [ofN, lC_lt, lC_ge, lC_eq, lC_gt, lC_le, T_ltL, F_ltL, T_leL, F_leL, T_eqL, F_eqL, m1_0, lN_add, nI_lE, lN_i, ↓reduceIte, bind_s, T_lt, F_lt, T_le, F_le, T_eq, F_eq, F_neg, T_ltm, F_lem, F_ltm, nI_add, nI_mul, nI_sub, ldI_n, stI_n, aix_n, ldL_n, stL_n, ldF_n, gI_atE, gI_ne1, gI_ne2, gL_atE, gL_ne1, gL_ne2, gL_s, gI_s, w7T, w7F1, w7F2, and31, K0, K1, K2, K3, K4, K5, K6, K7, K8, K9, K10, K11, K12, K14, K16, K18, K20, K24, K29, K30, K31, K32, K33, K36, K38, K40, K41, K42, K48, K50, K51, K54, K57, K59, K60, K63, K70, K71, K84, K94, K97, K100, K101, K104, K108, K112, K120, K121, K122, K123, K124, K125, K127, K255, K300, K1000, K9999, K99999, K2147483647]
    have := ih (i + 1) n (by omega) (by omega)
    rw [zM_s _ _ _ i, Nat.zero_add] at this
    exact this
theorem egg7_l {μ : Mem} {E b : Nat} (hE : gI μ 2000 0 = nI E) (hb : b = 4 * E) (hE6 : E < 6) : ∀ m i n, i + m = 4 → m < n → f_X7_egg_132 n (zM μ 2008 b i) (nI i) = some (nI E, sI (zM μ 2008 b 4) 2000 0 (nI (E + 1))) := by
  intro m
  induction m with
  | zero =>
    intro i n hi hn
    obtain ⟨n, rfl⟩ := suc_of hn
    obtain rfl : i = 4 := by omega
    rw [f_X7_egg_132]
    simp (disch := omega) only [ofN, lC_lt, lC_ge, lC_eq, lC_gt, lC_le, T_ltL, F_ltL, T_leL, F_leL, T_eqL, F_eqL, m1_0, lN_add, nI_lE, lN_i, ↓reduceIte, bind_s, T_lt, F_lt, T_le, F_le, T_eq, F_eq, F_neg, T_ltm, F_lem, F_ltm, nI_add, nI_mul, nI_sub, ldI_n, stI_n, aix_n, ldL_n, stL_n, ldF_n, gI_atE, gI_ne1, gI_ne2, gL_atE, gL_ne1, gL_ne2, gL_s, gI_s, w7T, w7F1, w7F2, and31, K0, K1, K2, K3, K4, K5, K6, K7, K8, K9, K10, K11, K12, K14, K16, K18, K20, K24, K29, K30, K31, K32, K33, K36, K38, K40, K41, K42, K48, K50, K51, K54, K57, K59, K60, K63, K70, K71, K84, K94, K97, K100, K101, K104, K108, K112, K120, K121, K122, K123, K124, K125, K127, K255, K300, K1000, K9999, K99999, K2147483647, zM_1, hE]
  | succ m ih =>
    intro i n hi hn
    obtain ⟨n, rfl⟩ := suc_of hn
    rw [f_X7_egg_132]
    simp (disch := omega) only [ofN, lC_lt, lC_ge, lC_eq, lC_gt, lC_le, T_ltL, F_ltL, T_leL, F_leL, T_eqL, F_eqL, m1_0, lN_add, nI_lE, lN_i, ↓reduceIte, bind_s, T_lt, F_lt, T_le, F_le, T_eq, F_eq, F_neg, T_ltm, F_lem, F_ltm, nI_add, nI_mul, nI_sub, ldI_n, stI_n, aix_n, ldL_n, stL_n, ldF_n, gI_atE, gI_ne1, gI_ne2, gL_atE, gL_ne1, gL_ne2, gL_s, gI_s, w7T, w7F1, w7F2, and31, K0, K1, K2, K3, K4, K5, K6, K7, K8, K9, K10, K11, K12, K14, K16, K18, K20, K24, K29, K30, K31, K32, K33, K36, K38, K40, K41, K42, K48, K50, K51, K54, K57, K59, K60, K63, K70, K71, K84, K94, K97, K100, K101, K104, K108, K112, K120, K121, K122, K123, K124, K125, K127, K255, K300, K1000, K9999, K99999, K2147483647, zM_1, hE]
    have := ih (i + 1) n (by omega) (by omega)
    rw [zM_s _ _ _ i, hb] at this
    rw [hb]
    exact this
theorem XS_egg {μ : Mem} {E k v p s : Nat} {σ : SG} (hX : XS μ 100 σ) (hb : σ 0 0 ≤ 6 ∧ σ 27 0 ≤ 6 ∧ σ 31 0 ≤ 10 ∧ σ 34 0 ≤ 8) (hE : E = σ 0 0) (h6 : E < 6) : XS (eggX μ E k v p s) 100 (eggσ σ E k v p s) := by
  obtain ⟨⟨a1, a2, a3, a4⟩, b, ⟨c1, c2⟩, ⟨d1, d2⟩, e1, e2⟩ := hX
  rw [← hE] at b
  unfold eggX eggσ
  refine ⟨⟨?_, ?_, ?_, ?_⟩, fun x hx => ⟨fun c hc => ?_, fun q hq => ?_⟩, ⟨?_, fun x hx => ?_⟩, ⟨?_, fun x hx => ?_⟩, ?_, fun x hx => ?_⟩
  · simp (disch := omega) only [gI_atE, gI_ne1, gI_ne2, gL_atE, gL_ne1, gL_ne2, gL_s, gI_s, up_atE, up_n1, up_n2]
  · simp (disch := omega) only [gI_atE, gI_ne1, gI_ne2, gL_atE, gL_ne1, gL_ne2, gL_s, gI_s, up_atE, up_n1, up_n2, zM_1]; exact a2
  · simp (disch := omega) only [gI_atE, gI_ne1, gI_ne2, gL_atE, gL_ne1, gL_ne2, gL_s, gI_s, up_atE, up_n1, up_n2, zM_1]; exact a3
  · simp (disch := omega) only [gI_atE, gI_ne1, gI_ne2, gL_atE, gL_ne1, gL_ne2, gL_s, gI_s, up_atE, up_n1, up_n2, zM_1]; exact a4
  · simp (disch := omega) only [gI_atE, gI_ne1, gI_ne2, gL_atE, gL_ne1, gL_ne2, gL_s, gI_s, up_atE, up_n1, up_n2] at hx
    by_cases h : x = E
    · subst h
      rcases (show c = 0 ∨ c = 1 ∨ c = 2 ∨ c = 3 ∨ c = 4 ∨ c = 5 ∨ c = 6 by omega) with rfl | rfl | rfl | rfl | rfl | rfl | rfl <;> simp (disch := omega) only [gI_atE, gI_ne1, gI_ne2, gL_atE, gL_ne1, gL_ne2, gL_s, gI_s, up_atE, up_n1, up_n2, zM_3]
    · have := (b x (by omega)).1 c hc
      simp (disch := omega) only [gI_atE, gI_ne1, gI_ne2, gL_atE, gL_ne1, gL_ne2, gL_s, gI_s, up_atE, up_n1, up_n2, zM_1]; exact this
  · simp (disch := omega) only [gI_atE, gI_ne1, gI_ne2, gL_atE, gL_ne1, gL_ne2, gL_s, gI_s, up_atE, up_n1, up_n2] at hx
    by_cases h : x = E
    · subst h
      rcases (show q = 0 ∨ q = 1 ∨ q = 2 ∨ q = 3 by omega) with rfl | rfl | rfl | rfl <;> simp (disch := omega) only [gI_atE, gI_ne1, gI_ne2, gL_atE, gL_ne1, gL_ne2, gL_s, gI_s, up_atE, up_n1, up_n2, zM_3]
    · have := (b x (by omega)).2 q hq
      simp (disch := omega) only [gI_atE, gI_ne1, gI_ne2, gL_atE, gL_ne1, gL_ne2, gL_s, gI_s, up_atE, up_n1, up_n2, zM_1]; exact this
  · simp (disch := omega) only [gI_atE, gI_ne1, gI_ne2, gL_atE, gL_ne1, gL_ne2, gL_s, gI_s, up_atE, up_n1, up_n2, zM_1]; exact c1
  · simp (disch := omega) only [gI_atE, gI_ne1, gI_ne2, gL_atE, gL_ne1, gL_ne2, gL_s, gI_s, up_atE, up_n1, up_n2] at hx
    simp (disch := omega) only [gI_atE, gI_ne1, gI_ne2, gL_atE, gL_ne1, gL_ne2, gL_s, gI_s, up_atE, up_n1, up_n2, zM_1]; exact c2 x hx
  · simp (disch := omega) only [gI_atE, gI_ne1, gI_ne2, gL_atE, gL_ne1, gL_ne2, gL_s, gI_s, up_atE, up_n1, up_n2, zM_1]; exact d1
  · simp (disch := omega) only [gI_atE, gI_ne1, gI_ne2, gL_atE, gL_ne1, gL_ne2, gL_s, gI_s, up_atE, up_n1, up_n2] at hx
    simp (disch := omega) only [gI_atE, gI_ne1, gI_ne2, gL_atE, gL_ne1, gL_ne2, gL_s, gI_s, up_atE, up_n1, up_n2, zM_1]; exact d2 x hx
  · simp (disch := omega) only [gI_atE, gI_ne1, gI_ne2, gL_atE, gL_ne1, gL_ne2, gL_s, gI_s, up_atE, up_n1, up_n2, zM_1]; exact e1
  · simp (disch := omega) only [gI_atE, gI_ne1, gI_ne2, gL_atE, gL_ne1, gL_ne2, gL_s, gI_s, up_atE, up_n1, up_n2] at hx
    simp (disch := omega) only [gI_atE, gI_ne1, gI_ne2, gL_atE, gL_ne1, gL_ne2, gL_s, gI_s, up_atE, up_n1, up_n2, zM_1]; exact e2 x hx
theorem MS_egg {μ : Mem} {E k v p s : Nat} {σ : SG} (hX : MS μ σ) (hE : E = σ 0 0) (h6 : E < 6) : MS (eggM μ E k v p s) (eggσ σ E k v p s) := by
  obtain ⟨⟨a1, a2, a3, a4⟩, b, ⟨c1, c2⟩, ⟨d1, d2⟩, e1, e2⟩ := hX
  rw [← hE] at b
  unfold eggM eggσ
  refine ⟨⟨?_, ?_, ?_, ?_⟩, fun x hx => ⟨fun c hc => ?_, fun q hq => ?_⟩, ⟨?_, fun x hx => ?_⟩, ⟨?_, fun x hx => ?_⟩, ?_, fun x hx => ?_⟩
  · simp (disch := omega) only [gI_atE, gI_ne1, gI_ne2, gL_atE, gL_ne1, gL_ne2, gL_s, gI_s, up_atE, up_n1, up_n2]
  · simp (disch := omega) only [gI_atE, gI_ne1, gI_ne2, gL_atE, gL_ne1, gL_ne2, gL_s, gI_s, up_atE, up_n1, up_n2, zM_1]; exact a2
  · simp (disch := omega) only [gI_atE, gI_ne1, gI_ne2, gL_atE, gL_ne1, gL_ne2, gL_s, gI_s, up_atE, up_n1, up_n2, zM_1]; exact a3
  · simp (disch := omega) only [gI_atE, gI_ne1, gI_ne2, gL_atE, gL_ne1, gL_ne2, gL_s, gI_s, up_atE, up_n1, up_n2, zM_1]; exact a4
  · simp (disch := omega) only [gI_atE, gI_ne1, gI_ne2, gL_atE, gL_ne1, gL_ne2, gL_s, gI_s, up_atE, up_n1, up_n2] at hx
    by_cases h : x = E
    · subst h
      rcases (show c = 0 ∨ c = 1 ∨ c = 2 ∨ c = 3 ∨ c = 4 ∨ c = 5 ∨ c = 6 by omega) with rfl | rfl | rfl | rfl | rfl | rfl | rfl <;> simp (disch := omega) only [gI_atE, gI_ne1, gI_ne2, gL_atE, gL_ne1, gL_ne2, gL_s, gI_s, up_atE, up_n1, up_n2, zM_1]
    · have := (b x (by omega)).1 c hc
      simp (disch := omega) only [gI_atE, gI_ne1, gI_ne2, gL_atE, gL_ne1, gL_ne2, gL_s, gI_s, up_atE, up_n1, up_n2, zM_1]; exact this
  · simp (disch := omega) only [gI_atE, gI_ne1, gI_ne2, gL_atE, gL_ne1, gL_ne2, gL_s, gI_s, up_atE, up_n1, up_n2] at hx
    by_cases h : x = E
    · subst h
      rcases (show q = 0 ∨ q = 1 ∨ q = 2 ∨ q = 3 by omega) with rfl | rfl | rfl | rfl <;> simp (disch := omega) only [gI_atE, gI_ne1, gI_ne2, gL_atE, gL_ne1, gL_ne2, gL_s, gI_s, up_atE, up_n1, up_n2, zM_3]
    · have := (b x (by omega)).2 q hq
      simp (disch := omega) only [gI_atE, gI_ne1, gI_ne2, gL_atE, gL_ne1, gL_ne2, gL_s, gI_s, up_atE, up_n1, up_n2, zM_2]; exact this
  · simp (disch := omega) only [gI_atE, gI_ne1, gI_ne2, gL_atE, gL_ne1, gL_ne2, gL_s, gI_s, up_atE, up_n1, up_n2, zM_1]; exact c1
  · simp (disch := omega) only [gI_atE, gI_ne1, gI_ne2, gL_atE, gL_ne1, gL_ne2, gL_s, gI_s, up_atE, up_n1, up_n2] at hx
    simp (disch := omega) only [gI_atE, gI_ne1, gI_ne2, gL_atE, gL_ne1, gL_ne2, gL_s, gI_s, up_atE, up_n1, up_n2, zM_1]; exact c2 x hx
  · simp (disch := omega) only [gI_atE, gI_ne1, gI_ne2, gL_atE, gL_ne1, gL_ne2, gL_s, gI_s, up_atE, up_n1, up_n2, zM_1]; exact d1
  · simp (disch := omega) only [gI_atE, gI_ne1, gI_ne2, gL_atE, gL_ne1, gL_ne2, gL_s, gI_s, up_atE, up_n1, up_n2] at hx
    simp (disch := omega) only [gI_atE, gI_ne1, gI_ne2, gL_atE, gL_ne1, gL_ne2, gL_s, gI_s, up_atE, up_n1, up_n2, zM_1]; exact d2 x hx
  · simp (disch := omega) only [gI_atE, gI_ne1, gI_ne2, gL_atE, gL_ne1, gL_ne2, gL_s, gI_s, up_atE, up_n1, up_n2, zM_1]; exact e1
  · simp (disch := omega) only [gI_atE, gI_ne1, gI_ne2, gL_atE, gL_ne1, gL_ne2, gL_s, gI_s, up_atE, up_n1, up_n2] at hx
    simp (disch := omega) only [gI_atE, gI_ne1, gI_ne2, gL_atE, gL_ne1, gL_ne2, gL_s, gI_s, up_atE, up_n1, up_n2, zM_1]; exact e2 x hx
theorem okS_egg {W st E k v p s : Nat} {σ : SG} (h : okS W st σ) (hE : E = σ 0 0) (h6 : E < 6) (hk : k ≤ 6) (hv : v ≤ 9) (hp : 1 ≤ p) (hp' : p ≤ 30) (hs : s ≤ 29) : okS W st (eggσ σ E k v p s) := by
  obtain ⟨⟨a1, a2, a3, a4⟩, b, ⟨c1, c2⟩, ⟨d1, d2⟩, e1, e2⟩ := h
  unfold eggσ
  refine ⟨⟨?_, ?_, ?_, ?_⟩, fun x hx => ⟨?_, fun q hq => ?_⟩, ⟨?_, fun x hx => ?_⟩, ⟨?_, fun x hx => ?_⟩, ?_, fun x hx => ?_⟩
  · simp (disch := omega) only [gI_atE, gI_ne1, gI_ne2, gL_atE, gL_ne1, gL_ne2, gL_s, gI_s, up_atE, up_n1, up_n2]; omega
  · simp (disch := omega) only [gI_atE, gI_ne1, gI_ne2, gL_atE, gL_ne1, gL_ne2, gL_s, gI_s, up_atE, up_n1, up_n2]; exact a2
  · simp (disch := omega) only [gI_atE, gI_ne1, gI_ne2, gL_atE, gL_ne1, gL_ne2, gL_s, gI_s, up_atE, up_n1, up_n2]; exact a3
  · simp (disch := omega) only [gI_atE, gI_ne1, gI_ne2, gL_atE, gL_ne1, gL_ne2, gL_s, gI_s, up_atE, up_n1, up_n2]; exact a4
  · simp (disch := omega) only [gI_atE, gI_ne1, gI_ne2, gL_atE, gL_ne1, gL_ne2, gL_s, gI_s, up_atE, up_n1, up_n2] at hx
    by_cases h : x = E
    · subst h
      simp (disch := omega) only [gI_atE, gI_ne1, gI_ne2, gL_atE, gL_ne1, gL_ne2, gL_s, gI_s, up_atE, up_n1, up_n2]; omega
    · have := (b x (by omega)).1
      simp (disch := omega) only [gI_atE, gI_ne1, gI_ne2, gL_atE, gL_ne1, gL_ne2, gL_s, gI_s, up_atE, up_n1, up_n2]; exact this
  · simp (disch := omega) only [gI_atE, gI_ne1, gI_ne2, gL_atE, gL_ne1, gL_ne2, gL_s, gI_s, up_atE, up_n1, up_n2] at hx
    by_cases h : x = E
    · subst h
      rcases (show q = 0 ∨ q = 1 ∨ q = 2 ∨ q = 3 by omega) with rfl | rfl | rfl | rfl <;> simp (disch := omega) only [gI_atE, gI_ne1, gI_ne2, gL_atE, gL_ne1, gL_ne2, gL_s, gI_s, up_atE, up_n1, up_n2] <;> omega
    · have := (b x (by omega)).2 q hq
      simp (disch := omega) only [gI_atE, gI_ne1, gI_ne2, gL_atE, gL_ne1, gL_ne2, gL_s, gI_s, up_atE, up_n1, up_n2]; exact this
  · simp (disch := omega) only [gI_atE, gI_ne1, gI_ne2, gL_atE, gL_ne1, gL_ne2, gL_s, gI_s, up_atE, up_n1, up_n2]; exact c1
  · simp (disch := omega) only [gI_atE, gI_ne1, gI_ne2, gL_atE, gL_ne1, gL_ne2, gL_s, gI_s, up_atE, up_n1, up_n2] at hx
    have := c2 x hx
    refine ⟨?_, ?_, ?_⟩ <;> ((try simp (disch := omega) only [gI_atE, gI_ne1, gI_ne2, up_atE, up_n1, up_n2]) <;> omega)
  · simp (disch := omega) only [gI_atE, gI_ne1, gI_ne2, gL_atE, gL_ne1, gL_ne2, gL_s, gI_s, up_atE, up_n1, up_n2]; exact d1
  · simp (disch := omega) only [gI_atE, gI_ne1, gI_ne2, gL_atE, gL_ne1, gL_ne2, gL_s, gI_s, up_atE, up_n1, up_n2] at hx
    have := d2 x hx
    refine ⟨?_, ?_, ?_⟩ <;> ((try simp (disch := omega) only [gI_atE, gI_ne1, gI_ne2, up_atE, up_n1, up_n2]) <;> omega)
  · simp (disch := omega) only [gI_atE, gI_ne1, gI_ne2, gL_atE, gL_ne1, gL_ne2, gL_s, gI_s, up_atE, up_n1, up_n2]; exact e1
  · simp (disch := omega) only [gI_atE, gI_ne1, gI_ne2, gL_atE, gL_ne1, gL_ne2, gL_s, gI_s, up_atE, up_n1, up_n2] at hx
    have := e2 x hx
    refine ⟨?_, ?_⟩ <;> ((try simp (disch := omega) only [gI_atE, gI_ne1, gI_ne2, up_atE, up_n1, up_n2]) <;> omega)
theorem egg6_a {μ : Mem} {E k v p s : Nat} (hxE : gI μ 100 0 = nI E) (h6 : E < 6) : f_J7_fill_53178 μ (100 + 1 + 1 + E) 0 = some (zM μ (100 + 1 + 1 + E) 0 14) := by
  have hf := fill14 (μ := μ) (k := 100 + 1 + 1 + E) 14 0 FU (by omega) (FU_p _ (by omega))
  rw [zM_0] at hf
  unfold f_J7_fill_53178
  exact hf
theorem egg7_a {ν : Mem} {E k v p s N : Nat} (hmE : gI ν 2000 0 = nI E) (h6 : E < 6) (hN : 4000 < N) : f_X7_egg_132 N (sI (sI (sI (sI (sI (sI (sI ν 2001 E (nI k)) 2002 E (nI v)) 2003 E (nI p)) 2004 E (nI s)) 2005 E (nI 0)) 2006 E (nI 0)) 2007 E (nI 0)) (nI 0) = some (nI E, eggM ν E k v p s) := by
  have hf := egg7_l (μ := sI (sI (sI (sI (sI (sI (sI ν 2001 E (nI k)) 2002 E (nI v)) 2003 E (nI p)) 2004 E (nI s)) 2005 E (nI 0)) 2006 E (nI 0)) 2007 E (nI 0)) (E := E) (b := 4 * E) (by simp (disch := omega) only [gI_atE, gI_ne1, gI_ne2, gL_atE, gL_ne1, gL_ne2, gL_s, gI_s, up_atE, up_n1, up_n2]; exact hmE) rfl (by omega) 4 0 N (by omega) (by omega)
  rw [zM_0] at hf
  unfold eggM
  exact hf
theorem XO_egg {μ : Mem} {E k v p s : Nat} (h6 : E < 6) : XO μ (eggX μ E k v p s) := by
  intro q h1 h2
  refine ⟨?_, ?_⟩
  · funext x
    unfold eggX
    simp (disch := omega) only [gI_atE, gI_ne1, gI_ne2, gL_atE, gL_ne1, gL_ne2, gL_s, gI_s, up_atE, up_n1, up_n2, zM_1]
  · funext x
    unfold eggX
    simp (disch := omega) only [gI_atE, gI_ne1, gI_ne2, gL_atE, gL_ne1, gL_ne2, gL_s, gI_s, up_atE, up_n1, up_n2, zM_L]
theorem eggX_0 {μ : Mem} {E k v p s : Nat} (h6 : E < 6) : ∀ k', 2000 ≤ k' → gI (eggX μ E k v p s) k' = gI μ k' := fun k' hk' => by
  funext x
  unfold eggX
  simp (disch := omega) only [gI_atE, gI_ne1, gI_ne2, gL_atE, gL_ne1, gL_ne2, gL_s, gI_s, up_atE, up_n1, up_n2, zM_1]
theorem MO_egg {ν : Mem} {E k v p s : Nat} (h6 : E < 6) : MO ν (eggM ν E k v p s) := by
  refine ⟨fun q h1 h2 => ?_, fun i hi => ?_, fun q => ?_⟩
  · funext x
    unfold mrow at h1
    unfold eggM
    simp (disch := omega) only [gI_atE, gI_ne1, gI_ne2, gL_atE, gL_ne1, gL_ne2, gL_s, gI_s, up_atE, up_n1, up_n2, zM_1]
  · unfold mfld at hi
    unfold eggM
    simp (disch := omega) only [gI_atE, gI_ne1, gI_ne2, gL_atE, gL_ne1, gL_ne2, gL_s, gI_s, up_atE, up_n1, up_n2, zM_1]
  · funext x
    unfold eggM
    simp (disch := omega) only [gI_atE, gI_ne1, gI_ne2, gL_atE, gL_ne1, gL_ne2, gL_s, gI_s, up_atE, up_n1, up_n2, zM_L]
theorem egg6_b {μ : Mem} {E k v p s : Nat} (hxE : gI μ 100 0 = nI E) (h6 : E < 6) (hax : ∀ μ, f_X6_within μ (nI k).toInt64 0 6 = some 1) (hbx : ∀ μ, f_X6_within μ (nI v).toInt64 0 9 = some 1) (hcx : ∀ μ, f_X6_within μ (nI p).toInt64 1 30 = some 1) (hdx : ∀ μ, f_X6_within μ (nI s).toInt64 0 29 = some 1) : f_X6_egg μ (nI k) (nI v) (nI p) (nI s) = some (nI E, eggX μ E k v p s) := by
  unfold f_X6_egg
  rw [hax, hbx, hcx, hdx]
  have hf := egg6_a (k := k) (v := v) (p := p) (s := s) hxE (by omega)
  rw [K0] at hf
  simp (disch := omega) only [ofN, lC_lt, lC_ge, lC_eq, lC_gt, lC_le, T_ltL, F_ltL, T_leL, F_leL, T_eqL, F_eqL, m1_0, lN_add, nI_lE, lN_i, ↓reduceIte, bind_s, T_lt, F_lt, T_le, F_le, T_eq, F_eq, F_neg, T_ltm, F_lem, F_ltm, nI_add, nI_mul, nI_sub, ldI_n, stI_n, aix_n, ldL_n, stL_n, ldF_n, gI_atE, gI_ne1, gI_ne2, gL_atE, gL_ne1, gL_ne2, gL_s, gI_s, w7T, w7F1, w7F2, and31, K0, K1, K2, K3, K4, K5, K6, K7, K8, K9, K10, K11, K12, K14, K16, K18, K20, K24, K29, K30, K31, K32, K33, K36, K38, K40, K41, K42, K48, K50, K51, K54, K57, K59, K60, K63, K70, K71, K84, K94, K97, K100, K101, K104, K108, K112, K120, K121, K122, K123, K124, K125, K127, K255, K300, K1000, K9999, K99999, K2147483647, hxE, hf, zM_1, eggX]
theorem egg7_b {ν : Mem} {E k v p s : Nat} (hmE' : gI ν 2000 0 = nI E) (h6 : E < 6) (ham : ∀ μ, f_X7_within μ (nI k) 0 6 = some 1) (hbm : ∀ μ, f_X7_within μ (nI v) 0 9 = some 1) (hcm : ∀ μ, f_X7_within μ (nI p) 1 30 = some 1) (hdm : ∀ μ, f_X7_within μ (nI s) 0 29 = some 1) : f_X7_egg ν (nI k) (nI v) (nI p) (nI s) = some (nI E, eggM ν E k v p s) := by
  unfold f_X7_egg
  rw [ham, hbm, hcm, hdm]
  obtain ⟨N, hFU, hN⟩ : ∃ N, FU = N ∧ 4000 < N := ⟨FU, rfl, FU_p _ (by omega)⟩; rw [hFU]; clear hFU
  have hf := egg7_a (k := k) (v := v) (p := p) (s := s) hmE' (by omega) hN
  simp (disch := omega) only [ofN, lC_lt, lC_ge, lC_eq, lC_gt, lC_le, T_ltL, F_ltL, T_leL, F_leL, T_eqL, F_eqL, m1_0, lN_add, nI_lE, lN_i, ↓reduceIte, bind_s, T_lt, F_lt, T_le, F_le, T_eq, F_eq, F_neg, T_ltm, F_lem, F_ltm, nI_add, nI_mul, nI_sub, ldI_n, stI_n, aix_n, ldL_n, stL_n, ldF_n, gI_atE, gI_ne1, gI_ne2, gL_atE, gL_ne1, gL_ne2, gL_s, gI_s, w7T, w7F1, w7F2, and31, K0, K1, K2, K3, K4, K5, K6, K7, K8, K9, K10, K11, K12, K14, K16, K18, K20, K24, K29, K30, K31, K32, K33, K36, K38, K40, K41, K42, K48, K50, K51, K54, K57, K59, K60, K63, K70, K71, K84, K94, K97, K100, K101, K104, K108, K112, K120, K121, K122, K123, K124, K125, K127, K255, K300, K1000, K9999, K99999, K2147483647, hmE', hf]
theorem s_egg {T : PT} {μ : Mem} (hR : RR T μ) (a b c d : Int32) : Same T μ (fun μ => f_X6_egg μ a b c d) (fun μ => f_X7_egg μ a b c d) := by
  obtain ⟨⟨x1, _⟩, ⟨m1, _⟩, o1, _⟩ := id hR
  have hE := o1.1.1
  have hxE : gI μ 100 0 = nI (T.1 0 0 0) := x1.1.1
  have hmE : gI μ 2000 0 = nI (T.1 0 0 0) := m1.1.1
  rcases arg a (lo := 0) (hi := 6) (A := 0) (B := 6) (C := 0) (D := 6) rfl rfl rfl rfl with ⟨k, _, hk, _, rfl, hax, ham⟩ | ⟨_, hax, ham⟩
  · rcases arg b (lo := 0) (hi := 9) (A := 0) (B := 9) (C := 0) (D := 9) rfl rfl rfl rfl with ⟨v, _, hv, _, rfl, hbx, hbm⟩ | ⟨_, hbx, hbm⟩
    · rcases arg c (lo := 1) (hi := 30) (A := 1) (B := 30) (C := 1) (D := 30) rfl rfl rfl rfl with ⟨p, hp, hp', _, rfl, hcx, hcm⟩ | ⟨_, hcx, hcm⟩
      · rcases arg d (lo := 0) (hi := 29) (A := 0) (B := 29) (C := 0) (D := 29) rfl rfl rfl rfl with ⟨s, _, hs, _, rfl, hdx, hdm⟩ | ⟨_, hdx, hdm⟩
        · obtain ⟨E, hEd⟩ : ∃ E, E = T.1 0 0 0 := ⟨_, rfl⟩
          rw [← hEd] at hE hxE hmE
          by_cases h6 : E = 6
          · refine same_q (r := -4) hR ?_ ?_
            · show f_X6_egg μ _ _ _ _ = _
              unfold f_X6_egg
              rw [hax, hbx, hcx, hdx]
              simp (disch := omega) only [ofN, lC_lt, lC_ge, lC_eq, lC_gt, lC_le, T_ltL, F_ltL, T_leL, F_leL, T_eqL, F_eqL, m1_0, lN_add, nI_lE, lN_i, ↓reduceIte, bind_s, T_lt, F_lt, T_le, F_le, T_eq, F_eq, F_neg, T_ltm, F_lem, F_ltm, nI_add, nI_mul, nI_sub, ldI_n, stI_n, aix_n, ldL_n, stL_n, ldF_n, gI_atE, gI_ne1, gI_ne2, gL_atE, gL_ne1, gL_ne2, gL_s, gI_s, w7T, w7F1, w7F2, and31, K0, K1, K2, K3, K4, K5, K6, K7, K8, K9, K10, K11, K12, K14, K16, K18, K20, K24, K29, K30, K31, K32, K33, K36, K38, K40, K41, K42, K48, K50, K51, K54, K57, K59, K60, K63, K70, K71, K84, K94, K97, K100, K101, K104, K108, K112, K120, K121, K122, K123, K124, K125, K127, K255, K300, K1000, K9999, K99999, K2147483647, hxE, h6]
            · show f_X7_egg μ _ _ _ _ = _
              unfold f_X7_egg
              rw [ham, hbm, hcm, hdm]
              simp (disch := omega) only [ofN, lC_lt, lC_ge, lC_eq, lC_gt, lC_le, T_ltL, F_ltL, T_leL, F_leL, T_eqL, F_eqL, m1_0, lN_add, nI_lE, lN_i, ↓reduceIte, bind_s, T_lt, F_lt, T_le, F_le, T_eq, F_eq, F_neg, T_ltm, F_lem, F_ltm, nI_add, nI_mul, nI_sub, ldI_n, stI_n, aix_n, ldL_n, stL_n, ldF_n, gI_atE, gI_ne1, gI_ne2, gL_atE, gL_ne1, gL_ne2, gL_s, gI_s, w7T, w7F1, w7F2, and31, K0, K1, K2, K3, K4, K5, K6, K7, K8, K9, K10, K11, K12, K14, K16, K18, K20, K24, K29, K30, K31, K32, K33, K36, K38, K40, K41, K42, K48, K50, K51, K54, K57, K59, K60, K63, K70, K71, K84, K94, K97, K100, K101, K104, K108, K112, K120, K121, K122, K123, K124, K125, K127, K255, K300, K1000, K9999, K99999, K2147483647, hmE, h6]
          · exact same_n (r := nI E) (σ := eggσ (T.1 0) E k v p s) (μ1 := eggX μ E k v p s) (μ2 := eggM (eggX μ E k v p s) E k v p s) hR (egg6_b hxE (by omega) hax hbx hcx hdx) (egg7_b (by rw [eggX_0 (by omega) _ (by omega)]; exact hmE) (by omega) ham hbm hcm hdm) (XO_egg (by omega)) (XS_egg x1 o1.n hEd (by omega)) (MO_egg (by omega)) (MS_egg (MS_X (eggX_0 (by omega)) m1) hEd (by omega)) (okS_egg o1 hEd (by omega) hk hv hp hp' hs)
        · refine same_q (r := -2) hR ?_ ?_
          · show f_X6_egg μ _ _ _ d = _
            unfold f_X6_egg; rw [hax, hbx, hcx, hdx]; rfl
          · show f_X7_egg μ _ _ _ d = _
            unfold f_X7_egg; rw [ham, hbm, hcm, hdm]; rfl
      · refine same_q (r := -2) hR ?_ ?_
        · show f_X6_egg μ _ _ c d = _
          unfold f_X6_egg; rw [hax, hbx, hcx]; rfl
        · show f_X7_egg μ _ _ c d = _
          unfold f_X7_egg; rw [ham, hbm, hcm]; rfl
    · refine same_q (r := -2) hR ?_ ?_
      · show f_X6_egg μ _ b c d = _
        unfold f_X6_egg; rw [hax, hbx]; rfl
      · show f_X7_egg μ _ b c d = _
        unfold f_X7_egg; rw [ham, hbm]; rfl
  · refine same_q (r := -1) hR ?_ ?_
    · show f_X6_egg μ a b c d = _
      unfold f_X6_egg; rw [hax]; rfl
    · show f_X7_egg μ a b c d = _
      unfold f_X7_egg; rw [ham]; rfl
