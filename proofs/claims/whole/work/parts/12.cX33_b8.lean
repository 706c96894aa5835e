def zL (μ : Mem) (k b : Nat) : Nat → Mem
  | 0 => μ
  | i + 1 => sL (zL μ k b i) k (b + i) (lN 0)
theorem zL_0 (μ : Mem) (k b : Nat) : zL μ k b 0 = μ := rfl
theorem zL_s (μ : Mem) (k b i : Nat) : zL μ k b (i + 1) = sL (zL μ k b i) k (b + i) (lN 0) := rfl
theorem zL_I {μ : Mem} {k b a : Nat} : ∀ i, gI (zL μ k b i) a = gI μ a
  | 0 => rfl
  | i + 1 => zL_I i
theorem zL_1 {μ : Mem} {k b a x : Nat} (h : a ≠ k) : ∀ i, gL (zL μ k b i) a x = gL μ a x
  | 0 => rfl
  | i + 1 => by rw [zL_s, gL_ne1 h, zL_1 h i]
theorem zL_2 {μ : Mem} {k b x : Nat} : ∀ i, (x < b ∨ b + i ≤ x) → gL (zL μ k b i) k x = gL μ k x
  | 0, _ => rfl
  | i + 1, h => by rw [zL_s, gL_ne2 (by omega), zL_2 i (by omega)]
theorem zL_3 {μ : Mem} {k b x : Nat} : ∀ i, (b ≤ x ∧ x < b + i) → gL (zL μ k b i) k x = lN 0
  | 0, h => by omega
  | i + 1, h => by
    rw [zL_s]
    by_cases q : x = b + i
    · rw [gL_atE rfl q]
    · rw [gL_ne2 q, zL_3 i (by omega)]
theorem fill60 {μ : Mem} {k : Nat} : ∀ m i n, i + m = 60 → m < n → f_J7_fill_d0a16_6 k n (zL μ k 0 i) (lN 0) (nI i) (nI 60) = some (zL μ k 0 60) := by
  intro m
  induction m with
  | zero =>
    intro i n hi hn
    obtain ⟨n, rfl⟩ := suc_of hn
    obtain rfl : i = 60 := by omega
    rw [f_J7_fill_d0a16_6, if_pos (nI_le (by omega) (by omega))]
  | succ m ih =>
    intro i n hi hn
    obtain ⟨n, rfl⟩ := suc_of hn
    rw [f_J7_fill_d0a16_6]
    simp (disch := omega) only [ofN, lC_lt, lC_ge, lC_eq, lC_gt, lC_le, T_ltL, F_ltL, T_leL, F_leL, T_eqL, F_eqL, m1_0, lN_add, nI_lE, lN_i, ↓reduceIte, bind_p, T_lt, F_lt, T_le, F_le, T_eq, F_eq, F_neg, T_ltm, F_lem, F_ltm, nI_add, nI_mul, nI_sub, ldI_n, stI_n, aix_n, ldL_n, stL_n, ldF_n, gI_atE, gI_ne1, gI_ne2, gL_atE, gL_ne1, gL_ne2, gL_s, gI_s, w7T, w7F1, w7F2, and31, K0, K1, K2, K3, K4, K5, K6, K7, K8, K9, K10, K11, K12, K14, K16, K18, K20, K24, K29, K30, K31, K32, K33, K36, K38, K40, K41, K42, K48, K50, K51, K54, K57, K59, K60, K63, K70, K71, K84, K94, K97, K100, K101, K104, K108, K112, K120, K121, K122, K123, K124, K125, K127, K255, K300, K1000, K9999, K99999, K2147483647]
    have := ih (i + 1) n (by omega) (by omega)
    rw [zL_s _ _ _ i, Nat.zero_add] at this
    exact this
theorem tape7_l {μ : Mem} {t b : Nat} (hb : b = 60 * t) (ht : t < 6) : ∀ m i n, i + m = 60 → m < n → f_X7_tape_67 n (zL μ 2044 b i) (nI t) (nI i) = some (nI 1, zL μ 2044 b 60) := by
  intro m
  induction m with
  | zero =>
    intro i n hi hn
    obtain ⟨n, rfl⟩ := suc_of hn
    obtain rfl : i = 60 := by omega
    rw [f_X7_tape_67]
    simp (disch := omega) only [ofN, lC_lt, lC_ge, lC_eq, lC_gt, lC_le, T_ltL, F_ltL, T_leL, F_leL, T_eqL, F_eqL, m1_0, lN_add, nI_lE, lN_i, ↓reduceIte, bind_p, T_lt, F_lt, T_le, F_le, T_eq, F_eq, F_neg, T_ltm, F_lem, F_ltm, nI_add, nI_mul, nI_sub, ldI_n, stI_n, aix_n, ldL_n, stL_n, ldF_n, gI_atE, gI_ne1, gI_ne2, gL_atE, gL_ne1, gL_ne2, gL_s, gI_s, w7T, w7F1, w7F2, and31, K0, K1, K2, K3, K4, K5, K6, K7, K8, K9, K10, K11, K12, K14, K16, K18, K20, K24, K29, K30, K31, K32, K33, K36, K38, K40, K41, K42, K48, K50, K51, K54, K57, K59, K60, K63, K70, K71, K84, K94, K97, K100, K101, K104, K108, K112, K120, K121, K122, K123, K124, K125, K127, K255, K300, K1000, K9999, K99999, K2147483647]
  | succ m ih =>
    intro i n hi hn
    obtain ⟨n, rfl⟩ := suc_of hn
    rw [f_X7_tape_67]
    simp (disch := omega) only [ofN, lC_lt, lC_ge, lC_eq, lC_gt, lC_le, T_ltL, F_ltL, T_leL, F_leL, T_eqL, F_eqL, m1_0, lN_add, nI_lE, lN_i, ↓reduceIte, bind_p, T_lt, F_lt, T_le, F_le, T_eq, F_eq, F_neg, T_ltm, F_lem, F_ltm, nI_add, nI_mul, nI_sub, ldI_n, stI_n, aix_n, ldL_n, stL_n, ldF_n, gI_atE, gI_ne1, gI_ne2, gL_atE, gL_ne1, gL_ne2, gL_s, gI_s, w7T, w7F1, w7F2, and31, K0, K1, K2, K3, K4, K5, K6, K7, K8, K9, K10, K11, K12, K14, K16, K18, K20, K24, K29, K30, K31, K32, K33, K36, K38, K40, K41, K42, K48, K50, K51, K54, K57, K59, K60, K63, K70, K71, K84, K94, K97, K100, K101, K104, K108, K112, K120, K121, K122, K123, K124, K125, K127, K255, K300, K1000, K9999, K99999, K2147483647, L0, L1, L2, L3, L4, L5, L6, L9, L29, L30, L60, L127, L9999, L1000000000]
    have := ih (i + 1) n (by omega) (by omega)
    rw [zL_s _ _ _ i, hb] at this
    rw [hb]
    exact this
def tapX (μ : Mem) (t n : Nat) (s : Int32) : Mem := zL (sI (sI μ (1100 + 2 * t) 0 s) (1100 + 2 * t) 1 (nI n)) (1100 + 2 * t + 1) 0 60
def tapM (μ : Mem) (t n : Nat) (s : Int32) : Mem := zL (sI (sI μ 2042 t s) 2043 t (nI n)) 2044 (60 * t) 60
theorem becomes6 {μ : Mem} {t n : Nat} {s : Int32} (hn : n ≤ 60) : f_X4_becomes μ (1100 + 2 * t) s (nI n) = some (tapX μ t n s) := by
  unfold f_X4_becomes f_J7_fill_d0a16 tapX
  have hf := fill60 (μ := sI (sI μ (1100 + 2 * t) 0 s) (1100 + 2 * t) 1 (nI n)) (k := 1100 + 2 * t + 1) 60 0 FU (by omega) (FU_p _ (by omega))
  rw [zL_0] at hf
  simp (disch := omega) only [ofN, lC_lt, lC_ge, lC_eq, lC_gt, lC_le, T_ltL, F_ltL, T_leL, F_leL, T_eqL, F_eqL, m1_0, lN_add, nI_lE, lN_i, ↓reduceIte, bind_p, T_lt, F_lt, T_le, F_le, T_eq, F_eq, F_neg, T_ltm, F_lem, F_ltm, nI_add, nI_mul, nI_sub, ldI_n, stI_n, aix_n, ldL_n, stL_n, ldF_n, gI_atE, gI_ne1, gI_ne2, gL_atE, gL_ne1, gL_ne2, gL_s, gI_s, w7T, w7F1, w7F2, and31, K0, K1, K2, K3, K4, K5, K6, K7, K8, K9, K10, K11, K12, K14, K16, K18, K20, K24, K29, K30, K31, K32, K33, K36, K38, K40, K41, K42, K48, K50, K51, K54, K57, K59, K60, K63, K70, K71, K84, K94, K97, K100, K101, K104, K108, K112, K120, K121, K122, K123, K124, K125, K127, K255, K300, K1000, K9999, K99999, K2147483647, L0, L1, L2, L3, L4, L5, L6, L9, L29, L30, L60, L127, L9999, L1000000000, hf]
theorem tape42 {μ : Mem} {t n : Nat} {s m : Int32} (ht : t < 6) (hs : (0 ≤ s ∧ m = nI n) ∨ (¬ 0 ≤ s ∧ n = 0)) : f_X7_tape_42 μ (nI t) s m = some (nI 1, tapM μ t n s) := by
  unfold f_X7_tape_42 f_X7_tape_63 tapM
  have hf := tape7_l (μ := sI (sI μ 2042 t s) 2043 t (nI n)) (t := t) (b := 60 * t) rfl ht 60 0 FU (by omega) (FU_p _ (by omega))
  rw [zL_0] at hf
  rcases hs with ⟨h1, rfl⟩ | ⟨h1, rfl⟩
  · have h1' : (nI 0 ≤ s) = True := eq_true h1
    simp (disch := omega) only [ofN, lC_lt, lC_ge, lC_eq, lC_gt, lC_le, T_ltL, F_ltL, T_leL, F_leL, T_eqL, F_eqL, m1_0, lN_add, nI_lE, lN_i, ↓reduceIte, bind_p, T_lt, F_lt, T_le, F_le, T_eq, F_eq, F_neg, T_ltm, F_lem, F_ltm, nI_add, nI_mul, nI_sub, ldI_n, stI_n, aix_n, ldL_n, stL_n, ldF_n, gI_atE, gI_ne1, gI_ne2, gL_atE, gL_ne1, gL_ne2, gL_s, gI_s, w7T, w7F1, w7F2, and31, K0, K1, K2, K3, K4, K5, K6, K7, K8, K9, K10, K11, K12, K14, K16, K18, K20, K24, K29, K30, K31, K32, K33, K36, K38, K40, K41, K42, K48, K50, K51, K54, K57, K59, K60, K63, K70, K71, K84, K94, K97, K100, K101, K104, K108, K112, K120, K121, K122, K123, K124, K125, K127, K255, K300, K1000, K9999, K99999, K2147483647, h1', hf]
  · have h1' : (nI 0 ≤ s) = False := eq_false h1
    simp (disch := omega) only [ofN, lC_lt, lC_ge, lC_eq, lC_gt, lC_le, T_ltL, F_ltL, T_leL, F_leL, T_eqL, F_eqL, m1_0, lN_add, nI_lE, lN_i, ↓reduceIte, bind_p, T_lt, F_lt, T_le, F_le, T_eq, F_eq, F_neg, T_ltm, F_lem, F_ltm, nI_add, nI_mul, nI_sub, ldI_n, stI_n, aix_n, ldL_n, stL_n, ldF_n, gI_atE, gI_ne1, gI_ne2, gL_atE, gL_ne1, gL_ne2, gL_s, gI_s, w7T, w7F1, w7F2, and31, K0, K1, K2, K3, K4, K5, K6, K7, K8, K9, K10, K11, K12, K14, K16, K18, K20, K24, K29, K30, K31, K32, K33, K36, K38, K40, K41, K42, K48, K50, K51, K54, K57, K59, K60, K63, K70, K71, K84, K94, K97, K100, K101, K104, K108, K112, K120, K121, K122, K123, K124, K125, K127, K255, K300, K1000, K9999, K99999, K2147483647, h1', hf]
theorem tape_fin {T : PT} {μ : Mem} (hR : RR T μ) {t n s1 : Nat} {s : Int32} {fx fm : Mem → Option (Int32 × Mem)} (ht : t < 6) (hn : n ≤ 60) (hs1 : s1 ≤ 5) (h0 : s1 = 0 → n = 0) (hs : s = nI s1 - 1) (h1 : fx μ = some (nI 1, tapX μ t n s)) (h2 : fm (tapX μ t n s) = some (nI 1, tapM (tapX μ t n s) t n s)) : Step μ fx fm := by
  obtain ⟨⟨_, _, _, _, _, x6⟩, ⟨_, _, _, _, _, m6⟩, _, _, _, _, _, o6⟩ := id hR
  refine ⟨nI 1, tapX μ t n s, tapM (tapX μ t n s) t n s, (fun a => if a = 2 then up (up (T.1 2) 42 t s1) 43 t n else T.1 a, (fun x y => if x = t then lN 0 else T.2.1 x y), T.2.2), h1, h2, ?_⟩
  refine R_tape hR rfl rfl rfl (fun f i q1 q2 => ?_) (fun k q1 q2 q3 => ?_) (fun t' ht' => ?_) (fun t' ht' => ?_) (fun t' ht' => ?_)
  · show up (up (T.1 2) 42 t s1) 43 t n f i = _
    simp (disch := omega) only [gI_atE, gI_ne1, gI_ne2, gL_atE, gL_ne1, gL_ne2, gL_s, gI_s, up_atE, up_n1, up_n2]
  · funext x
    unfold tapM tapX
    simp (disch := omega) only [gI_atE, gI_ne1, gI_ne2, gL_atE, gL_ne1, gL_ne2, gL_s, gI_s, up_atE, up_n1, up_n2, zL_I]
  · show gI (tapM (tapX μ t n s) t n s) (1100 + 2 * t') 0 = nI (up (up (T.1 2) 42 t s1) 43 t n 42 t') - 1 ∧ gI (tapM (tapX μ t n s) t n s) (1100 + 2 * t') 1 = nI (up (up (T.1 2) 42 t s1) 43 t n 43 t') ∧ ∀ i, i < 60 → gL (tapM (tapX μ t n s) t n s) (1100 + 2 * t' + 1) i = if t' = t then lN 0 else T.2.1 t' i
    unfold tapM tapX
    by_cases h : t' = t
    · refine ⟨?_, ?_, fun i hi => ?_⟩
      · simp (disch := omega) only [gI_atE, gI_ne1, gI_ne2, gL_atE, gL_ne1, gL_ne2, gL_s, gI_s, up_atE, up_n1, up_n2, zL_I]; exact hs
      · simp (disch := omega) only [gI_atE, gI_ne1, gI_ne2, gL_atE, gL_ne1, gL_ne2, gL_s, gI_s, up_atE, up_n1, up_n2, zL_I]
      · rw [if_pos h]; subst h; simp (disch := omega) only [gI_atE, gI_ne1, gI_ne2, gL_atE, gL_ne1, gL_ne2, gL_s, gI_s, up_atE, up_n1, up_n2, zL_1, zL_3]
    · have q := x6 t' ht'
      refine ⟨?_, ?_, fun i hi => ?_⟩
      · simp (disch := omega) only [gI_atE, gI_ne1, gI_ne2, gL_atE, gL_ne1, gL_ne2, gL_s, gI_s, up_atE, up_n1, up_n2, zL_I]; exact q.1
      · simp (disch := omega) only [gI_atE, gI_ne1, gI_ne2, gL_atE, gL_ne1, gL_ne2, gL_s, gI_s, up_atE, up_n1, up_n2, zL_I]; exact q.2.1
      · rw [if_neg h]; simp (disch := omega) only [gI_atE, gI_ne1, gI_ne2, gL_atE, gL_ne1, gL_ne2, gL_s, gI_s, up_atE, up_n1, up_n2, zL_1]; exact q.2.2 i hi
  · show gI (tapM (tapX μ t n s) t n s) 2042 t' = nI (up (up (T.1 2) 42 t s1) 43 t n 42 t') - 1 ∧ gI (tapM (tapX μ t n s) t n s) 2043 t' = nI (up (up (T.1 2) 42 t s1) 43 t n 43 t') ∧ ∀ i, i < 60 → gL (tapM (tapX μ t n s) t n s) 2044 (60 * t' + i) = if t' = t then lN 0 else T.2.1 t' i
    unfold tapM tapX
    by_cases h : t' = t
    · refine ⟨?_, ?_, fun i hi => ?_⟩
      · simp (disch := omega) only [gI_atE, gI_ne1, gI_ne2, gL_atE, gL_ne1, gL_ne2, gL_s, gI_s, up_atE, up_n1, up_n2, zL_I]; exact hs
      · simp (disch := omega) only [gI_atE, gI_ne1, gI_ne2, gL_atE, gL_ne1, gL_ne2, gL_s, gI_s, up_atE, up_n1, up_n2, zL_I]
      · rw [if_pos h]; subst h; simp (disch := omega) only [gI_atE, gI_ne1, gI_ne2, gL_atE, gL_ne1, gL_ne2, gL_s, gI_s, up_atE, up_n1, up_n2, zL_3]
    · have q := m6 t' ht'
      refine ⟨?_, ?_, fun i hi => ?_⟩
      · simp (disch := omega) only [gI_atE, gI_ne1, gI_ne2, gL_atE, gL_ne1, gL_ne2, gL_s, gI_s, up_atE, up_n1, up_n2, zL_I]; exact q.1
      · simp (disch := omega) only [gI_atE, gI_ne1, gI_ne2, gL_atE, gL_ne1, gL_ne2, gL_s, gI_s, up_atE, up_n1, up_n2, zL_I]; exact q.2.1
      · rw [if_neg h]; simp (disch := omega) only [gI_atE, gI_ne1, gI_ne2, gL_atE, gL_ne1, gL_ne2, gL_s, gI_s, up_atE, up_n1, up_n2, zL_1, zL_2]; exact q.2.2 i hi
  · show up (up (T.1 2) 42 t s1) 43 t n 42 t' ≤ 5 ∧ up (up (T.1 2) 42 t s1) 43 t n 43 t' ≤ 60 ∧ (up (up (T.1 2) 42 t s1) 43 t n 42 t' = 0 → up (up (T.1 2) 42 t s1) 43 t n 43 t' = 0)
    by_cases h : t' = t
    · refine ⟨?_, ?_, ?_⟩ <;> ((try simp (disch := omega) only [gI_atE, gI_ne1, gI_ne2, up_atE, up_n1, up_n2]) <;> omega)
    · have q := o6 t' ht'
      refine ⟨?_, ?_, ?_⟩ <;> ((try simp (disch := omega) only [gI_atE, gI_ne1, gI_ne2, up_atE, up_n1, up_n2]) <;> omega)
theorem s_tape {T : PT} {μ : Mem} (hR : RR T μ) (a b c : Int32) : Step μ (fun μ => f_X6_tape μ a b c) (fun μ => f_X7_tape μ a b c) := by
  rcases arg a (lo := 0) (hi := 5) (A := 0) (B := 5) (C := 0) (D := 5) rfl rfl rfl rfl with ⟨t, _, ht, _, rfl, hax, ham⟩ | ⟨_, hax, ham⟩
  · by_cases hb : b = -1
    · subst hb
      refine tape_fin (t := t) (n := 0) (s1 := 0) (s := -1) hR (by omega) (by omega) (by omega) (fun _ => rfl) rfl ?_ ?_
      · show f_X6_tape μ _ _ _ = _
        unfold f_X6_tape; rw [hax]
        simp only [bind_p]
        rw [if_neg (by decide), if_pos (by decide), aix_n (by omega) (by omega)]
        simp only [bind_p]
        rw [show (0 : Int32) = nI 0 from rfl, becomes6 (by omega)]; rfl
      · show f_X7_tape _ _ _ _ = _
        unfold f_X7_tape f_X7_isTape; rw [ham]
        simp only [bind_p]
        rw [if_neg (by decide), w7_yes (by decide) (by decide)]
        simp only [bind_p]
        rw [if_neg (by decide), if_pos (by decide)]
        unfold f_X7_tape_31
        rw [if_pos (by decide), tape42 (n := 0) (by omega) (.inr ⟨by decide, rfl⟩)]
    · rcases arg b (lo := 0) (hi := 4) (A := 0) (B := 4) (C := 0) (D := 4) rfl rfl rfl rfl with ⟨s, _, hs, _, rfl, hbx, hbm⟩ | ⟨hn, hbx, hbm⟩
      · have hw : ∀ μ, f_X7_within μ (nI s) (-1) 4 = some 1 := fun μ => w7_yes ((by decide +kernel : ∀ s, s < 5 → (-1 : Int32) ≤ nI s) s (by omega)) (nI_le (b := 4) (by omega) (by omega))
        rcases ne_of c with ⟨n, hn, rfl⟩ | hc
        · by_cases h60 : n ≤ 60
          · refine tape_fin (t := t) (n := n) (s1 := s + 1) (s := nI s) hR (by omega) h60 (by omega) (by omega) (by rw [show (1 : Int32) = nI 1 from rfl, nI_sub (by omega)]; rfl) ?_ ?_
            · show f_X6_tape μ _ _ _ = _
              unfold f_X6_tape; rw [hax, if_neg hb, hbx]
              have := becomes6 (μ := μ) (t := t) (n := n) (s := nI s) h60
              simp (disch := omega) only [ofN, lC_lt, lC_ge, lC_eq, lC_gt, lC_le, T_ltL, F_ltL, T_leL, F_leL, T_eqL, F_eqL, m1_0, lN_add, nI_lE, lN_i, ↓reduceIte, bind_p, T_lt, F_lt, T_le, F_le, T_eq, F_eq, F_neg, T_ltm, F_lem, F_ltm, nI_add, nI_mul, nI_sub, ldI_n, stI_n, aix_n, ldL_n, stL_n, ldF_n, gI_atE, gI_ne1, gI_ne2, gL_atE, gL_ne1, gL_ne2, gL_s, gI_s, w7T, w7F1, w7F2, and31, K0, K1, K2, K3, K4, K5, K6, K7, K8, K9, K10, K11, K12, K14, K16, K18, K20, K24, K29, K30, K31, K32, K33, K36, K38, K40, K41, K42, K48, K50, K51, K54, K57, K59, K60, K63, K70, K71, K84, K94, K97, K100, K101, K104, K108, K112, K120, K121, K122, K123, K124, K125, K127, K255, K300, K1000, K9999, K99999, K2147483647, this]
            · show f_X7_tape _ _ _ _ = _
              unfold f_X7_tape f_X7_isTape f_X7_tape_31; rw [ham, hw]
              have := fun ν => tape42 (μ := ν) (t := t) (n := n) (s := nI s) (m := nI n) (by omega) (.inl ⟨nI_pos' (by omega), rfl⟩)
              simp (disch := omega) only [ofN, lC_lt, lC_ge, lC_eq, lC_gt, lC_le, T_ltL, F_ltL, T_leL, F_leL, T_eqL, F_eqL, m1_0, lN_add, nI_lE, lN_i, ↓reduceIte, bind_p, T_lt, F_lt, T_le, F_le, T_eq, F_eq, F_neg, T_ltm, F_lem, F_ltm, nI_add, nI_mul, nI_sub, ldI_n, stI_n, aix_n, ldL_n, stL_n, ldF_n, gI_atE, gI_ne1, gI_ne2, gL_atE, gL_ne1, gL_ne2, gL_s, gI_s, w7T, w7F1, w7F2, and31, K0, K1, K2, K3, K4, K5, K6, K7, K8, K9, K10, K11, K12, K14, K16, K18, K20, K24, K29, K30, K31, K32, K33, K36, K38, K40, K41, K42, K48, K50, K51, K54, K57, K59, K60, K63, K70, K71, K84, K94, K97, K100, K101, K104, K108, K112, K120, K121, K122, K123, K124, K125, K127, K255, K300, K1000, K9999, K99999, K2147483647, this]
          · refine step_q (r := -2) hR ?_ ?_
            · show f_X6_tape μ _ _ _ = _
              unfold f_X6_tape; rw [hax, if_neg hb, hbx]
              simp (disch := omega) only [ofN, lC_lt, lC_ge, lC_eq, lC_gt, lC_le, T_ltL, F_ltL, T_leL, F_leL, T_eqL, F_eqL, m1_0, lN_add, nI_lE, lN_i, ↓reduceIte, bind_p, T_lt, F_lt, T_le, F_le, T_eq, F_eq, F_neg, T_ltm, F_lem, F_ltm, nI_add, nI_mul, nI_sub, ldI_n, stI_n, aix_n, ldL_n, stL_n, ldF_n, gI_atE, gI_ne1, gI_ne2, gL_atE, gL_ne1, gL_ne2, gL_s, gI_s, w7T, w7F1, w7F2, and31, K0, K1, K2, K3, K4, K5, K6, K7, K8, K9, K10, K11, K12, K14, K16, K18, K20, K24, K29, K30, K31, K32, K33, K36, K38, K40, K41, K42, K48, K50, K51, K54, K57, K59, K60, K63, K70, K71, K84, K94, K97, K100, K101, K104, K108, K112, K120, K121, K122, K123, K124, K125, K127, K255, K300, K1000, K9999, K99999, K2147483647]
            · show f_X7_tape _ _ _ _ = _
              unfold f_X7_tape f_X7_isTape f_X7_tape_31; rw [ham, hw]
              simp (disch := omega) only [ofN, lC_lt, lC_ge, lC_eq, lC_gt, lC_le, T_ltL, F_ltL, T_leL, F_leL, T_eqL, F_eqL, m1_0, lN_add, nI_lE, lN_i, ↓reduceIte, bind_p, T_lt, F_lt, T_le, F_le, T_eq, F_eq, F_neg, T_ltm, F_lem, F_ltm, nI_add, nI_mul, nI_sub, ldI_n, stI_n, aix_n, ldL_n, stL_n, ldF_n, gI_atE, gI_ne1, gI_ne2, gL_atE, gL_ne1, gL_ne2, gL_s, gI_s, w7T, w7F1, w7F2, and31, K0, K1, K2, K3, K4, K5, K6, K7, K8, K9, K10, K11, K12, K14, K16, K18, K20, K24, K29, K30, K31, K32, K33, K36, K38, K40, K41, K42, K48, K50, K51, K54, K57, K59, K60, K63, K70, K71, K84, K94, K97, K100, K101, K104, K108, K112, K120, K121, K122, K123, K124, K125, K127, K255, K300, K1000, K9999, K99999, K2147483647]
        · have h1 : (c ≤ nI 60) = True := eq_true (by
            rw [Int32.le_iff_toInt_le, nI_toInt (by omega)]
            rw [Int32.lt_iff_toInt_lt, show (0 : Int32).toInt = 0 by decide] at hc
            omega)
          have h2 : (nI 0 ≤ c) = False := eq_false (Int32.not_le.mpr hc)
          refine step_q (r := -14) hR ?_ ?_
          · show f_X6_tape μ _ _ _ = _
            unfold f_X6_tape; rw [hax, if_neg hb, hbx]
            simp (disch := omega) only [ofN, lC_lt, lC_ge, lC_eq, lC_gt, lC_le, T_ltL, F_ltL, T_leL, F_leL, T_eqL, F_eqL, m1_0, lN_add, nI_lE, lN_i, ↓reduceIte, bind_p, T_lt, F_lt, T_le, F_le, T_eq, F_eq, F_neg, T_ltm, F_lem, F_ltm, nI_add, nI_mul, nI_sub, ldI_n, stI_n, aix_n, ldL_n, stL_n, ldF_n, gI_atE, gI_ne1, gI_ne2, gL_atE, gL_ne1, gL_ne2, gL_s, gI_s, w7T, w7F1, w7F2, and31, K0, K1, K2, K3, K4, K5, K6, K7, K8, K9, K10, K11, K12, K14, K16, K18, K20, K24, K29, K30, K31, K32, K33, K36, K38, K40, K41, K42, K48, K50, K51, K54, K57, K59, K60, K63, K70, K71, K84, K94, K97, K100, K101, K104, K108, K112, K120, K121, K122, K123, K124, K125, K127, K255, K300, K1000, K9999, K99999, K2147483647, h1, h2]
          · show f_X7_tape _ _ _ _ = _
            unfold f_X7_tape f_X7_isTape f_X7_tape_31; rw [ham, hw]
            simp (disch := omega) only [ofN, lC_lt, lC_ge, lC_eq, lC_gt, lC_le, T_ltL, F_ltL, T_leL, F_leL, T_eqL, F_eqL, m1_0, lN_add, nI_lE, lN_i, ↓reduceIte, bind_p, T_lt, F_lt, T_le, F_le, T_eq, F_eq, F_neg, T_ltm, F_lem, F_ltm, nI_add, nI_mul, nI_sub, ldI_n, stI_n, aix_n, ldL_n, stL_n, ldF_n, gI_atE, gI_ne1, gI_ne2, gL_atE, gL_ne1, gL_ne2, gL_s, gI_s, w7T, w7F1, w7F2, and31, K0, K1, K2, K3, K4, K5, K6, K7, K8, K9, K10, K11, K12, K14, K16, K18, K20, K24, K29, K30, K31, K32, K33, K36, K38, K40, K41, K42, K48, K50, K51, K54, K57, K59, K60, K63, K70, K71, K84, K94, K97, K100, K101, K104, K108, K112, K120, K121, K122, K123, K124, K125, K127, K255, K300, K1000, K9999, K99999, K2147483647, h1, h2]
      · refine step_q (r := -2) hR ?_ ?_
        · show f_X6_tape μ _ _ _ = _
          unfold f_X6_tape; rw [hax, if_neg hb, hbx]; rfl
        · show f_X7_tape _ _ _ _ = _
          unfold f_X7_tape f_X7_isTape; rw [ham, w7_no (fun q => hn ⟨?_, q.2⟩)]
          · rfl
          · have q1 := q.1
            rw [Int32.le_iff_toInt_le] at q1 ⊢
            have hb1 : b.toInt ≠ -1 := fun z => hb (Int32.toInt_inj.mp z)
            rw [show (-1 : Int32).toInt = -1 by decide] at q1
            rw [show (0 : Int32).toInt = 0 by decide]
            omega
  · refine step_q (r := -1) hR ?_ ?_
    · show f_X6_tape μ a b c = _
      unfold f_X6_tape; rw [hax]; rfl
    · show f_X7_tape μ a b c = _
      unfold f_X7_tape f_X7_isTape; rw [ham]; rfl
/-! shift -/
theorem cpL_n {μ : Mem} {k n i k' n' j w : Nat} (h : i + w ≤ n) (h' : j + w ≤ n') (hn : n < 2147483648) (hn' : n' < 2147483648) : cpL μ k n (nI i) k' n' (nI j) (nI w) = some (sRL μ k' (va_cpy (gL μ k) (gL μ k') i j w)) := by
  unfold cpL
  rw [nI_clamp (by omega), nI_clamp (by omega), nI_clamp (by omega), if_neg]
  rintro (q | q | q | q | q)
  · exact nI_pos (by omega) q
  · exact nI_pos (by omega) q
  · exact nI_pos (by omega) q
  · omega
  · omega
theorem mem_ext {a b : Mem} (h1 : ∀ k x, gI a k x = gI b k x) (h2 : ∀ k x, gL a k x = gL b k x) : a = b := Prod.ext (funext fun k => funext fun x => h1 k x) (funext fun k => funext fun x => h2 k x)
theorem cpy_ge {g : Nat → Int64} {A B w x : Nat} (h : x < B ∨ B + w ≤ x) : va_cpy g g A B w x = g x := if_neg (by omega)
theorem cpy_in {g : Nat → Int64} {A B w x : Nat} (h : B ≤ x ∧ x < B + w) : va_cpy g g A B w x = g (A + (x - B)) := if_pos h
theorem shift_up {μ : Mem} {t u i j w : Nat} (ht : t < 6) (hu : u < 6) (hi : i + w ≤ 60) (hj : j + w ≤ 60) (hd : 60 * u + j ≤ 60 * t + i ∨ 60 * t + i + w ≤ 60 * u + j) :
    ∀ m q n, q + m = w → m < n → f_X7_shift_170 n (sRL μ 2044 (va_cpy (gL μ 2044) (gL μ 2044) (60 * t + i) (60 * u + j) q)) (nI t) (nI i) (nI u) (nI j) (nI w) (nI q) = some (nI w, sRL μ 2044 (va_cpy (gL μ 2044) (gL μ 2044) (60 * t + i) (60 * u + j) w)) := by
  intro m
  induction m with
  | zero =>
    intro q n hi hn
    obtain ⟨n, rfl⟩ := suc_of hn
    obtain rfl : q = w := by omega
    rw [f_X7_shift_170]
    simp (disch := omega) only [ofN, lC_lt, lC_ge, lC_eq, lC_gt, lC_le, T_ltL, F_ltL, T_leL, F_leL, T_eqL, F_eqL, m1_0, lN_add, nI_lE, lN_i, ↓reduceIte, bind_p, T_lt, F_lt, T_le, F_le, T_eq, F_eq, F_neg, T_ltm, F_lem, F_ltm, nI_add, nI_mul, nI_sub, ldI_n, stI_n, aix_n, ldL_n, stL_n, ldF_n, gI_atE, gI_ne1, gI_ne2, gL_atE, gL_ne1, gL_ne2, gL_s, gI_s, w7T, w7F1, w7F2, and31, K0, K1, K2, K3, K4, K5, K6, K7, K8, K9, K10, K11, K12, K14, K16, K18, K20, K24, K29, K30, K31, K32, K33, K36, K38, K40, K41, K42, K48, K50, K51, K54, K57, K59, K60, K63, K70, K71, K84, K94, K97, K100, K101, K104, K108, K112, K120, K121, K122, K123, K124, K125, K127, K255, K300, K1000, K9999, K99999, K2147483647]
  | succ m ih =>
    intro q n hi hn
    obtain ⟨n, rfl⟩ := suc_of hn
    rw [f_X7_shift_170]
    simp (disch := omega) only [ofN, lC_lt, lC_ge, lC_eq, lC_gt, lC_le, T_ltL, F_ltL, T_leL, F_leL, T_eqL, F_eqL, m1_0, lN_add, nI_lE, lN_i, ↓reduceIte, bind_p, T_lt, F_lt, T_le, F_le, T_eq, F_eq, F_neg, T_ltm, F_lem, F_ltm, nI_add, nI_mul, nI_sub, ldI_n, stI_n, aix_n, ldL_n, stL_n, ldF_n, gI_atE, gI_ne1, gI_ne2, gL_atE, gL_ne1, gL_ne2, gL_s, gI_s, w7T, w7F1, w7F2, and31, K0, K1, K2, K3, K4, K5, K6, K7, K8, K9, K10, K11, K12, K14, K16, K18, K20, K24, K29, K30, K31, K32, K33, K36, K38, K40, K41, K42, K48, K50, K51, K54, K57, K59, K60, K63, K70, K71, K84, K94, K97, K100, K101, K104, K108, K112, K120, K121, K122, K123, K124, K125, K127, K255, K300, K1000, K9999, K99999, K2147483647]
    rw [show sL (sRL μ 2044 (va_cpy (gL μ 2044) (gL μ 2044) (60 * t + i) (60 * u + j) q)) 2044 (60 * u + j + q) (gL (sRL μ 2044 (va_cpy (gL μ 2044) (gL μ 2044) (60 * t + i) (60 * u + j) q)) 2044 (60 * t + i + q)) = sRL μ 2044 (va_cpy (gL μ 2044) (gL μ 2044) (60 * t + i) (60 * u + j) (q + 1)) from ?_]
    · exact ih (q + 1) n (by omega) (by omega)
    · refine mem_ext (fun k x => rfl) (fun k x => ?_)
      rw [gL_sL, gL_sRL, gL_sRL, gL_sRL, if_pos rfl]
      by_cases hk : k = 2044
      · subst hk
        rw [if_pos rfl, if_pos rfl]
        by_cases hx : x = 60 * u + j + q
        · rw [if_pos ⟨rfl, hx⟩, cpy_ge (by omega), cpy_in (by omega)]
          congr 1; omega
        · rw [if_neg (fun z => hx z.2)]
          by_cases h2 : 60 * u + j ≤ x ∧ x < 60 * u + j + q
          · rw [cpy_in h2, cpy_in (by omega)]
          · rw [cpy_ge (by omega), cpy_ge (by omega)]
      · rw [if_neg (fun z => hk z.1), if_neg hk, if_neg hk]
theorem addneg1 (p : Nat) : nI p + -nI 1 = nI p - nI 1 := (Int32.sub_eq_add_neg _ _).symm
theorem shift_dn {μ : Mem} {t u i j w : Nat} (ht : t < 6) (hu : u < 6) (hi : i + w ≤ 60) (hj : j + w ≤ 60) (hd : 60 * t + i < 60 * u + j) :
    ∀ p n, p ≤ w → p < n → f_X7_shift_124 n (sRL μ 2044 (va_cpy (gL μ 2044) (gL μ 2044) (60 * t + i + p) (60 * u + j + p) (w - p))) (nI t) (nI i) (nI u) (nI j) (nI w) (nI p - nI 1) = some (nI w, sRL μ 2044 (va_cpy (gL μ 2044) (gL μ 2044) (60 * t + i) (60 * u + j) w)) := by
  intro p
  induction p with
  | zero =>
    intro n hi hn
    obtain ⟨n, rfl⟩ := suc_of hn
    rw [f_X7_shift_124]
    simp (disch := omega) only [ofN, lC_lt, lC_ge, lC_eq, lC_gt, lC_le, T_ltL, F_ltL, T_leL, F_leL, T_eqL, F_eqL, m1_0, lN_add, nI_lE, lN_i, ↓reduceIte, bind_p, T_lt, F_lt, T_le, F_le, T_eq, F_eq, F_neg, T_ltm, F_lem, F_ltm, nI_add, nI_mul, nI_sub, ldI_n, stI_n, aix_n, ldL_n, stL_n, ldF_n, gI_atE, gI_ne1, gI_ne2, gL_atE, gL_ne1, gL_ne2, gL_s, gI_s, w7T, w7F1, w7F2, and31, K0, K1, K2, K3, K4, K5, K6, K7, K8, K9, K10, K11, K12, K14, K16, K18, K20, K24, K29, K30, K31, K32, K33, K36, K38, K40, K41, K42, K48, K50, K51, K54, K57, K59, K60, K63, K70, K71, K84, K94, K97, K100, K101, K104, K108, K112, K120, K121, K122, K123, K124, K125, K127, K255, K300, K1000, K9999, K99999, K2147483647]
    rfl
  | succ p ih =>
    intro n hi hn
    obtain ⟨n, rfl⟩ := suc_of hn
    rw [f_X7_shift_124, nI_sub (by omega), Nat.add_sub_cancel]
    simp (disch := omega) only [ofN, lC_lt, lC_ge, lC_eq, lC_gt, lC_le, T_ltL, F_ltL, T_leL, F_leL, T_eqL, F_eqL, m1_0, lN_add, nI_lE, lN_i, ↓reduceIte, bind_p, T_lt, F_lt, T_le, F_le, T_eq, F_eq, F_neg, T_ltm, F_lem, F_ltm, nI_add, nI_mul, nI_sub, ldI_n, stI_n, aix_n, ldL_n, stL_n, ldF_n, gI_atE, gI_ne1, gI_ne2, gL_atE, gL_ne1, gL_ne2, gL_s, gI_s, w7T, w7F1, w7F2, and31, K0, K1, K2, K3, K4, K5, K6, K7, K8, K9, K10, K11, K12, K14, K16, K18, K20, K24, K29, K30, K31, K32, K33, K36, K38, K40, K41, K42, K48, K50, K51, K54, K57, K59, K60, K63, K70, K71, K84, K94, K97, K100, K101, K104, K108, K112, K120, K121, K122, K123, K124, K125, K127, K255, K300, K1000, K9999, K99999, K2147483647, addneg1]
    rw [show sL (sRL μ 2044 (va_cpy (gL μ 2044) (gL μ 2044) (60 * t + i + (p + 1)) (60 * u + j + (p + 1)) (w - (p + 1)))) 2044 (60 * u + j + p) (gL (sRL μ 2044 (va_cpy (gL μ 2044) (gL μ 2044) (60 * t + i + (p + 1)) (60 * u + j + (p + 1)) (w - (p + 1)))) 2044 (60 * t + i + p)) = sRL μ 2044 (va_cpy (gL μ 2044) (gL μ 2044) (60 * t + i + p) (60 * u + j + p) (w - p)) from ?_]
    · exact ih n (by omega) (by omega)
    · refine mem_ext (fun k x => rfl) (fun k x => ?_)
      rw [gL_sL, gL_sRL, gL_sRL, gL_sRL, if_pos rfl]
      by_cases hk : k = 2044
      · subst hk
        rw [if_pos rfl, if_pos rfl]
        by_cases hx : x = 60 * u + j + p
        · rw [if_pos ⟨rfl, hx⟩, cpy_ge (by omega), cpy_in (by omega)]
          congr 1; omega
        · rw [if_neg (fun z => hx z.2)]
          by_cases h2 : 60 * u + j + p + 1 ≤ x ∧ x < 60 * u + j + w
          · rw [cpy_in (by omega), cpy_in (by omega)]
            congr 1; omega
          · rw [cpy_ge (by omega), cpy_ge (by omega)]
      · rw [if_neg (fun z => hk z.1), if_neg hk, if_neg hk]
theorem room6 {μ : Mem} {k L i n : Nat} (hL : gI μ k 1 = nI L) (h60 : L ≤ 60) (hi : i < 2147483648) (hn : n < 2147483648) : f_X4_hasRoom μ k (nI i) (nI n) = some (nI (if L < i + n then 0 else 1)) := by
  unfold f_X4_hasRoom
  rw [if_neg (nI_pos (by omega)), if_neg (nI_pos (by omega)), hL]
  have hq : (nI L - nI n < nI i) ↔ L < i + n := by
    rw [nI_iI L, nI_iI n, nI_iI i, iI_sub, iI_ltI (by omega) (by omega) (by omega) (by omega)]
    omega
  by_cases h : L < i + n
  · rw [if_pos (hq.mpr h), if_pos h]; rfl
  · rw [if_neg (fun z => h (hq.mp z)), if_neg h]; rfl
theorem roomN {μ : Mem} {k : Nat} {i n : Int32} (h : i < 0 ∨ n < 0) : f_X4_hasRoom μ k i n = some (nI 0) := by
  unfold f_X4_hasRoom
  by_cases h1 : i < 0
  · rw [if_pos h1]; rfl
  · rw [if_neg h1, if_pos (h.resolve_left h1)]; rfl
theorem lg_gt {a b : Nat} (ha : a < 9223372036854775808) (hb : b < 9223372036854775808) : (0 < lg_cmp (lN a) (lN b)) ↔ b < a := by
  rw [cmp_gt, lN_jL, lN_jL, jL_ltI (by omega) (by omega) (by omega) (by omega)]; omega
theorem lg_le {a b : Nat} (ha : a < 9223372036854775808) (hb : b < 9223372036854775808) : (lg_cmp (lN a) (lN b) ≤ 0) ↔ a ≤ b := by
  rw [cmp_le, lN_jL, lN_jL, jL_leI (by omega) (by omega) (by omega) (by omega)]; omega
theorem s_shift {T : PT} {μ : Mem} (hR : RR T μ) (a b c d e : Int32) : Step μ (fun μ => f_X6_shift μ a b c d e) (fun μ => f_X7_shift μ a b c d e) := by
  obtain ⟨⟨_, _, _, _, _, x6⟩, ⟨_, _, _, _, _, m6⟩, _, _, _, _, _, o6⟩ := id hR
  rcases arg a (lo := 0) (hi := 5) (A := 0) (B := 5) (C := 0) (D := 5) rfl rfl rfl rfl with ⟨t, _, ht, _, rfl, hax, ham⟩ | ⟨_, hax, ham⟩
  · rcases arg c (lo := 0) (hi := 5) (A := 0) (B := 5) (C := 0) (D := 5) rfl rfl rfl rfl with ⟨u, _, hu, _, rfl, hcx, hcm⟩ | ⟨_, hcx, hcm⟩
    · obtain ⟨L, hL, _, hLx, hLm, hs⟩ := tapeF hR (t := t) (by omega)
      obtain ⟨L', hL', _, hLx', hLm', hs'⟩ := tapeF hR (t := u) (by omega)
      rcases hs with ⟨_, h0, hsx, hsm⟩ | ⟨s, hs4, _, hsx, hsm⟩
      · refine step_q (r := -11) hR ?_ ?_
        · show f_X6_shift μ _ _ _ _ _ = _
          unfold f_X6_shift; rw [hax, hcx]
          simp (maxSteps := 2000000) (disch := omega) only [ofN, lC_lt, lC_ge, lC_eq, lC_gt, lC_le, T_ltL, F_ltL, T_leL, F_leL, T_eqL, F_eqL, m1_0, lN_add, nI_lE, lN_i, ↓reduceIte, bind_p, T_lt, F_lt, T_le, F_le, T_eq, F_eq, F_neg, T_ltm, F_lem, F_ltm, nI_add, nI_mul, nI_sub, ldI_n, stI_n, aix_n, ldL_n, stL_n, ldF_n, gI_atE, gI_ne1, gI_ne2, gL_atE, gL_ne1, gL_ne2, gL_s, gI_s, w7T, w7F1, w7F2, and31, K0, K1, K2, K3, K4, K5, K6, K7, K8, K9, K10, K11, K12, K14, K16, K18, K20, K24, K29, K30, K31, K32, K33, K36, K38, K40, K41, K42, K48, K50, K51, K54, K57, K59, K60, K63, K70, K71, K84, K94, K97, K100, K101, K104, K108, K112, K120, K121, K122, K123, K124, K125, K127, K255, K300, K1000, K9999, K99999, K2147483647, hsx]
        · show f_X7_shift μ _ _ _ _ _ = _
          unfold f_X7_shift f_X7_isTape; rw [ham, hcm]
          simp (maxSteps := 2000000) (disch := omega) only [ofN, lC_lt, lC_ge, lC_eq, lC_gt, lC_le, T_ltL, F_ltL, T_leL, F_leL, T_eqL, F_eqL, m1_0, lN_add, nI_lE, lN_i, ↓reduceIte, bind_p, T_lt, F_lt, T_le, F_le, T_eq, F_eq, F_neg, T_ltm, F_lem, F_ltm, nI_add, nI_mul, nI_sub, ldI_n, stI_n, aix_n, ldL_n, stL_n, ldF_n, gI_atE, gI_ne1, gI_ne2, gL_atE, gL_ne1, gL_ne2, gL_s, gI_s, w7T, w7F1, w7F2, and31, K0, K1, K2, K3, K4, K5, K6, K7, K8, K9, K10, K11, K12, K14, K16, K18, K20, K24, K29, K30, K31, K32, K33, K36, K38, K40, K41, K42, K48, K50, K51, K54, K57, K59, K60, K63, K70, K71, K84, K94, K97, K100, K101, K104, K108, K112, K120, K121, K122, K123, K124, K125, K127, K255, K300, K1000, K9999, K99999, K2147483647, hsm]
      rcases hs' with ⟨_, h0, hsx', hsm'⟩ | ⟨s', hs4', _, hsx', hsm'⟩
      · refine step_q (r := -11) hR ?_ ?_
        · show f_X6_shift μ _ _ _ _ _ = _
          unfold f_X6_shift; rw [hax, hcx]
          simp (maxSteps := 2000000) (disch := omega) only [ofN, lC_lt, lC_ge, lC_eq, lC_gt, lC_le, T_ltL, F_ltL, T_leL, F_leL, T_eqL, F_eqL, m1_0, lN_add, nI_lE, lN_i, ↓reduceIte, bind_p, T_lt, F_lt, T_le, F_le, T_eq, F_eq, F_neg, T_ltm, F_lem, F_ltm, nI_add, nI_mul, nI_sub, ldI_n, stI_n, aix_n, ldL_n, stL_n, ldF_n, gI_atE, gI_ne1, gI_ne2, gL_atE, gL_ne1, gL_ne2, gL_s, gI_s, w7T, w7F1, w7F2, and31, K0, K1, K2, K3, K4, K5, K6, K7, K8, K9, K10, K11, K12, K14, K16, K18, K20, K24, K29, K30, K31, K32, K33, K36, K38, K40, K41, K42, K48, K50, K51, K54, K57, K59, K60, K63, K70, K71, K84, K94, K97, K100, K101, K104, K108, K112, K120, K121, K122, K123, K124, K125, K127, K255, K300, K1000, K9999, K99999, K2147483647, hsx, hsx']
        · show f_X7_shift μ _ _ _ _ _ = _
          unfold f_X7_shift f_X7_isTape; rw [ham, hcm]
          simp (maxSteps := 2000000) (disch := omega) only [ofN, lC_lt, lC_ge, lC_eq, lC_gt, lC_le, T_ltL, F_ltL, T_leL, F_leL, T_eqL, F_eqL, m1_0, lN_add, nI_lE, lN_i, ↓reduceIte, bind_p, T_lt, F_lt, T_le, F_le, T_eq, F_eq, F_neg, T_ltm, F_lem, F_ltm, nI_add, nI_mul, nI_sub, ldI_n, stI_n, aix_n, ldL_n, stL_n, ldF_n, gI_atE, gI_ne1, gI_ne2, gL_atE, gL_ne1, gL_ne2, gL_s, gI_s, w7T, w7F1, w7F2, and31, K0, K1, K2, K3, K4, K5, K6, K7, K8, K9, K10, K11, K12, K14, K16, K18, K20, K24, K29, K30, K31, K32, K33, K36, K38, K40, K41, K42, K48, K50, K51, K54, K57, K59, K60, K63, K70, K71, K84, K94, K97, K100, K101, K104, K108, K112, K120, K121, K122, K123, K124, K125, K127, K255, K300, K1000, K9999, K99999, K2147483647, hsm, hsm']
      by_cases hss : s = s'
      · subst hss
        by_cases hbad : b < 0 ∨ e < 0 ∨ d < 0 ∨ (∃ i n j, b = nI i ∧ e = nI n ∧ d = nI j ∧ i < 2147483648 ∧ n < 2147483648 ∧ j < 2147483648 ∧ (L < i + n ∨ L' < j + n))
        · refine step_q (r := -13) hR ?_ ?_
          · show f_X6_shift μ _ _ _ _ _ = _
            unfold f_X6_shift; rw [hax, hcx]
            have key : f_X4_hasRoom μ (1100 + 2 * t) b e = some (nI 0) ∨ (f_X4_hasRoom μ (1100 + 2 * t) b e = some (nI 1) ∧ f_X4_hasRoom μ (1100 + 2 * u) d e = some (nI 0)) := by
              rcases ne_of b with ⟨i, hi, rfl⟩ | hb
              · rcases ne_of e with ⟨n, hn, rfl⟩ | he
                · by_cases h1 : L < i + n
                  · left; rw [room6 hLx hL hi hn, if_pos h1]
                  · right
                    refine ⟨by rw [room6 hLx hL hi hn, if_neg h1], ?_⟩
                    rcases ne_of d with ⟨j, hj, rfl⟩ | hd
                    · rw [room6 hLx' hL' hj hn, if_pos]
                      rcases hbad with h | h | h | ⟨i', n', j', q1, q2, q3, q4, q5, q6, q7⟩
                      · exact absurd h (nI_pos (by omega))
                      · exact absurd h (nI_pos (by omega))
                      · exact absurd h (nI_pos (by omega))
                      · rw [nI_eq (by omega) (by omega)] at q1 q2 q3
                        omega
                    · exact roomN (.inl hd)
                · exact .inl (roomN (.inr he))
              · exact .inl (roomN (.inl hb))
            rcases key with h | ⟨h, h'⟩
            · simp (maxSteps := 2000000) (disch := omega) only [ofN, lC_lt, lC_ge, lC_eq, lC_gt, lC_le, T_ltL, F_ltL, T_leL, F_leL, T_eqL, F_eqL, m1_0, lN_add, nI_lE, lN_i, ↓reduceIte, bind_p, T_lt, F_lt, T_le, F_le, T_eq, F_eq, F_neg, T_ltm, F_lem, F_ltm, nI_add, nI_mul, nI_sub, ldI_n, stI_n, aix_n, ldL_n, stL_n, ldF_n, gI_atE, gI_ne1, gI_ne2, gL_atE, gL_ne1, gL_ne2, gL_s, gI_s, w7T, w7F1, w7F2, and31, K0, K1, K2, K3, K4, K5, K6, K7, K8, K9, K10, K11, K12, K14, K16, K18, K20, K24, K29, K30, K31, K32, K33, K36, K38, K40, K41, K42, K48, K50, K51, K54, K57, K59, K60, K63, K70, K71, K84, K94, K97, K100, K101, K104, K108, K112, K120, K121, K122, K123, K124, K125, K127, K255, K300, K1000, K9999, K99999, K2147483647, hsx, hsx', h]
            · simp (maxSteps := 2000000) (disch := omega) only [ofN, lC_lt, lC_ge, lC_eq, lC_gt, lC_le, T_ltL, F_ltL, T_leL, F_leL, T_eqL, F_eqL, m1_0, lN_add, nI_lE, lN_i, ↓reduceIte, bind_p, T_lt, F_lt, T_le, F_le, T_eq, F_eq, F_neg, T_ltm, F_lem, F_ltm, nI_add, nI_mul, nI_sub, ldI_n, stI_n, aix_n, ldL_n, stL_n, ldF_n, gI_atE, gI_ne1, gI_ne2, gL_atE, gL_ne1, gL_ne2, gL_s, gI_s, w7T, w7F1, w7F2, and31, K0, K1, K2, K3, K4, K5, K6, K7, K8, K9, K10, K11, K12, K14, K16, K18, K20, K24, K29, K30, K31, K32, K33, K36, K38, K40, K41, K42, K48, K50, K51, K54, K57, K59, K60, K63, K70, K71, K84, K94, K97, K100, K101, K104, K108, K112, K120, K121, K122, K123, K124, K125, K127, K255, K300, K1000, K9999, K99999, K2147483647, hsx, hsx', h, h']
          · show f_X7_shift μ _ _ _ _ _ = _
            unfold f_X7_shift f_X7_isTape; rw [ham, hcm]
            simp (maxSteps := 2000000) (disch := omega) only [ofN, lC_lt, lC_ge, lC_eq, lC_gt, lC_le, T_ltL, F_ltL, T_leL, F_leL, T_eqL, F_eqL, m1_0, lN_add, nI_lE, lN_i, ↓reduceIte, bind_p, T_lt, F_lt, T_le, F_le, T_eq, F_eq, F_neg, T_ltm, F_lem, F_ltm, nI_add, nI_mul, nI_sub, ldI_n, stI_n, aix_n, ldL_n, stL_n, ldF_n, gI_atE, gI_ne1, gI_ne2, gL_atE, gL_ne1, gL_ne2, gL_s, gI_s, w7T, w7F1, w7F2, and31, K0, K1, K2, K3, K4, K5, K6, K7, K8, K9, K10, K11, K12, K14, K16, K18, K20, K24, K29, K30, K31, K32, K33, K36, K38, K40, K41, K42, K48, K50, K51, K54, K57, K59, K60, K63, K70, K71, K84, K94, K97, K100, K101, K104, K108, K112, K120, K121, K122, K123, K124, K125, K127, K255, K300, K1000, K9999, K99999, K2147483647, hsm, hsm', hLm, hLm']
            rcases ne_of e with ⟨n, hn, rfl⟩ | he
            · rcases ne_of b with ⟨i, hi, rfl⟩ | hb
              · rcases ne_of d with ⟨j, hj, rfl⟩ | hd
                · have q7 : L < i + n ∨ L' < j + n := by
                    rcases hbad with h | h | h | ⟨i', n', j', q1, q2, q3, q4, q5, q6, q7⟩
                    · exact absurd h (nI_pos (by omega))
                    · exact absurd h (nI_pos (by omega))
                    · exact absurd h (nI_pos (by omega))
                    · rw [nI_eq (by omega) (by omega)] at q1 q2 q3
                      omega
                  by_cases h1 : L < i + n
                  · simp (maxSteps := 2000000) (disch := omega) only [ofN, lC_lt, lC_ge, lC_eq, lC_gt, lC_le, T_ltL, F_ltL, T_leL, F_leL, T_eqL, F_eqL, m1_0, lN_add, nI_lE, lN_i, ↓reduceIte, bind_p, T_lt, F_lt, T_le, F_le, T_eq, F_eq, F_neg, T_ltm, F_lem, F_ltm, nI_add, nI_mul, nI_sub, ldI_n, stI_n, aix_n, ldL_n, stL_n, ldF_n, gI_atE, gI_ne1, gI_ne2, gL_atE, gL_ne1, gL_ne2, gL_s, gI_s, w7T, w7F1, w7F2, and31, K0, K1, K2, K3, K4, K5, K6, K7, K8, K9, K10, K11, K12, K14, K16, K18, K20, K24, K29, K30, K31, K32, K33, K36, K38, K40, K41, K42, K48, K50, K51, K54, K57, K59, K60, K63, K70, K71, K84, K94, K97, K100, K101, K104, K108, K112, K120, K121, K122, K123, K124, K125, K127, K255, K300, K1000, K9999, K99999, K2147483647]
                  · have h2 : L' < j + n := by omega
                    simp (maxSteps := 2000000) (disch := omega) only [ofN, lC_lt, lC_ge, lC_eq, lC_gt, lC_le, T_ltL, F_ltL, T_leL, F_leL, T_eqL, F_eqL, m1_0, lN_add, nI_lE, lN_i, ↓reduceIte, bind_p, T_lt, F_lt, T_le, F_le, T_eq, F_eq, F_neg, T_ltm, F_lem, F_ltm, nI_add, nI_mul, nI_sub, ldI_n, stI_n, aix_n, ldL_n, stL_n, ldF_n, gI_atE, gI_ne1, gI_ne2, gL_atE, gL_ne1, gL_ne2, gL_s, gI_s, w7T, w7F1, w7F2, and31, K0, K1, K2, K3, K4, K5, K6, K7, K8, K9, K10, K11, K12, K14, K16, K18, K20, K24, K29, K30, K31, K32, K33, K36, K38, K40, K41, K42, K48, K50, K51, K54, K57, K59, K60, K63, K70, K71, K84, K94, K97, K100, K101, K104, K108, K112, K120, K121, K122, K123, K124, K125, K127, K255, K300, K1000, K9999, K99999, K2147483647]
                · have hd' : (d < nI 0) = True := eq_true hd
                  simp (maxSteps := 2000000) (disch := omega) only [ofN, lC_lt, lC_ge, lC_eq, lC_gt, lC_le, T_ltL, F_ltL, T_leL, F_leL, T_eqL, F_eqL, m1_0, lN_add, nI_lE, lN_i, ↓reduceIte, bind_p, T_lt, F_lt, T_le, F_le, T_eq, F_eq, F_neg, T_ltm, F_lem, F_ltm, nI_add, nI_mul, nI_sub, ldI_n, stI_n, aix_n, ldL_n, stL_n, ldF_n, gI_atE, gI_ne1, gI_ne2, gL_atE, gL_ne1, gL_ne2, gL_s, gI_s, w7T, w7F1, w7F2, and31, K0, K1, K2, K3, K4, K5, K6, K7, K8, K9, K10, K11, K12, K14, K16, K18, K20, K24, K29, K30, K31, K32, K33, K36, K38, K40, K41, K42, K48, K50, K51, K54, K57, K59, K60, K63, K70, K71, K84, K94, K97, K100, K101, K104, K108, K112, K120, K121, K122, K123, K124, K125, K127, K255, K300, K1000, K9999, K99999, K2147483647, hd']
              · have hb' : (b < nI 0) = True := eq_true hb
                simp (maxSteps := 2000000) (disch := omega) only [ofN, lC_lt, lC_ge, lC_eq, lC_gt, lC_le, T_ltL, F_ltL, T_leL, F_leL, T_eqL, F_eqL, m1_0, lN_add, nI_lE, lN_i, ↓reduceIte, bind_p, T_lt, F_lt, T_le, F_le, T_eq, F_eq, F_neg, T_ltm, F_lem, F_ltm, nI_add, nI_mul, nI_sub, ldI_n, stI_n, aix_n, ldL_n, stL_n, ldF_n, gI_atE, gI_ne1, gI_ne2, gL_atE, gL_ne1, gL_ne2, gL_s, gI_s, w7T, w7F1, w7F2, and31, K0, K1, K2, K3, K4, K5, K6, K7, K8, K9, K10, K11, K12, K14, K16, K18, K20, K24, K29, K30, K31, K32, K33, K36, K38, K40, K41, K42, K48, K50, K51, K54, K57, K59, K60, K63, K70, K71, K84, K94, K97, K100, K101, K104, K108, K112, K120, K121, K122, K123, K124, K125, K127, K255, K300, K1000, K9999, K99999, K2147483647, hb']
            · have he' : (e < nI 0) = True := eq_true he
              simp (maxSteps := 2000000) (disch := omega) only [ofN, lC_lt, lC_ge, lC_eq, lC_gt, lC_le, T_ltL, F_ltL, T_leL, F_leL, T_eqL, F_eqL, m1_0, lN_add, nI_lE, lN_i, ↓reduceIte, bind_p, T_lt, F_lt, T_le, F_le, T_eq, F_eq, F_neg, T_ltm, F_lem, F_ltm, nI_add, nI_mul, nI_sub, ldI_n, stI_n, aix_n, ldL_n, stL_n, ldF_n, gI_atE, gI_ne1, gI_ne2, gL_atE, gL_ne1, gL_ne2, gL_s, gI_s, w7T, w7F1, w7F2, and31, K0, K1, K2, K3, K4, K5, K6, K7, K8, K9, K10, K11, K12, K14, K16, K18, K20, K24, K29, K30, K31, K32, K33, K36, K38, K40, K41, K42, K48, K50, K51, K54, K57, K59, K60, K63, K70, K71, K84, K94, K97, K100, K101, K104, K108, K112, K120, K121, K122, K123, K124, K125, K127, K255, K300, K1000, K9999, K99999, K2147483647, he']
        · obtain ⟨i, hi, rfl⟩ := (ne_of b).resolve_right (fun h => hbad (.inl h))
          obtain ⟨n, hn, rfl⟩ := (ne_of e).resolve_right (fun h => hbad (.inr (.inl h)))
          obtain ⟨j, hj, rfl⟩ := (ne_of d).resolve_right (fun h => hbad (.inr (.inr (.inl h))))
          have h1 : i + n ≤ L := Nat.le_of_not_lt (fun h => hbad (.inr (.inr (.inr ⟨i, n, j, rfl, rfl, rfl, hi, hn, hj, .inl h⟩))))
          have h2 : j + n ≤ L' := Nat.le_of_not_lt (fun h => hbad (.inr (.inr (.inr ⟨i, n, j, rfl, rfl, rfl, hi, hn, hj, .inr h⟩))))
          obtain ⟨μ1, hμ1⟩ : ∃ μ1, μ1 = sRL μ (1100 + 2 * u + 1) (va_cpy (gL μ (1100 + 2 * t + 1)) (gL μ (1100 + 2 * u + 1)) i j n) := ⟨_, rfl⟩
          have hI1 : ∀ k, gI μ1 k = gI μ k := fun k => by rw [hμ1]; rfl
          have hL1 : gL μ1 2044 = gL μ 2044 := by rw [hμ1, gL_sRL, if_neg (by omega)]
          refine ⟨nI n, μ1, sRL μ1 2044 (va_cpy (gL μ1 2044) (gL μ1 2044) (60 * t + i) (60 * u + j) n), tapT T (fun x y => if x = u ∧ j ≤ y ∧ y < j + n then T.2.1 t (i + (y - j)) else T.2.1 x y), ?_, ?_, ?_⟩
          · show f_X6_shift μ _ _ _ _ _ = _
            unfold f_X6_shift; rw [hax, hcx, hμ1]
            have k1 := room6 hLx hL hi hn
            have k2 := room6 hLx' hL' hj hn
            rw [if_neg (by omega)] at k1 k2
            have k3 := cpL_n (μ := μ) (k := 1100 + 2 * t + 1) (n := 60) (i := i) (k' := 1100 + 2 * u + 1) (n' := 60) (j := j) (w := n) (by omega) (by omega) (by omega) (by omega)
            simp (maxSteps := 2000000) (disch := omega) only [ofN, lC_lt, lC_ge, lC_eq, lC_gt, lC_le, T_ltL, F_ltL, T_leL, F_leL, T_eqL, F_eqL, m1_0, lN_add, nI_lE, lN_i, ↓reduceIte, bind_p, T_lt, F_lt, T_le, F_le, T_eq, F_eq, F_neg, T_ltm, F_lem, F_ltm, nI_add, nI_mul, nI_sub, ldI_n, stI_n, aix_n, ldL_n, stL_n, ldF_n, gI_atE, gI_ne1, gI_ne2, gL_atE, gL_ne1, gL_ne2, gL_s, gI_s, w7T, w7F1, w7F2, and31, K0, K1, K2, K3, K4, K5, K6, K7, K8, K9, K10, K11, K12, K14, K16, K18, K20, K24, K29, K30, K31, K32, K33, K36, K38, K40, K41, K42, K48, K50, K51, K54, K57, K59, K60, K63, K70, K71, K84, K94, K97, K100, K101, K104, K108, K112, K120, K121, K122, K123, K124, K125, K127, K255, K300, K1000, K9999, K99999, K2147483647, hsx, hsx', k1, k2, k3]
          · show f_X7_shift μ1 _ _ _ _ _ = _
            unfold f_X7_shift f_X7_isTape f_X7_shift_167; rw [ham, hcm]
            have e0 : sRL μ1 2044 (va_cpy (gL μ1 2044) (gL μ1 2044) (60 * t + i) (60 * u + j) 0) = μ1 := by
              refine mem_ext (fun k x => rfl) (fun k x => ?_)
              rw [gL_sRL]
              by_cases hk : k = 2044
              · rw [if_pos hk, cpy_ge (by omega), hk]
              · rw [if_neg hk]
            have e1 : sRL μ1 2044 (va_cpy (gL μ1 2044) (gL μ1 2044) (60 * t + i + n) (60 * u + j + n) (n - n)) = μ1 := by
              refine mem_ext (fun k x => rfl) (fun k x => ?_)
              rw [gL_sRL]
              by_cases hk : k = 2044
              · rw [if_pos hk, cpy_ge (by omega), hk]
              · rw [if_neg hk]
            by_cases htu : t = u
            · subst htu
              by_cases hji : j ≤ i
              · have k4 := shift_up (μ := μ1) (t := t) (u := t) (i := i) (j := j) (w := n) (by omega) (by omega) (by omega) (by omega) (by omega) n 0 FU (by omega) (FU_p _ (by omega))
                rw [e0] at k4
                simp (maxSteps := 2000000) (disch := omega) only [ofN, lC_lt, lC_ge, lC_eq, lC_gt, lC_le, T_ltL, F_ltL, T_leL, F_leL, T_eqL, F_eqL, m1_0, lN_add, nI_lE, lN_i, ↓reduceIte, bind_p, T_lt, F_lt, T_le, F_le, T_eq, F_eq, F_neg, T_ltm, F_lem, F_ltm, nI_add, nI_mul, nI_sub, ldI_n, stI_n, aix_n, ldL_n, stL_n, ldF_n, gI_atE, gI_ne1, gI_ne2, gL_atE, gL_ne1, gL_ne2, gL_s, gI_s, w7T, w7F1, w7F2, and31, K0, K1, K2, K3, K4, K5, K6, K7, K8, K9, K10, K11, K12, K14, K16, K18, K20, K24, K29, K30, K31, K32, K33, K36, K38, K40, K41, K42, K48, K50, K51, K54, K57, K59, K60, K63, K70, K71, K84, K94, K97, K100, K101, K104, K108, K112, K120, K121, K122, K123, K124, K125, K127, K255, K300, K1000, K9999, K99999, K2147483647, hI1, hsm, hLm, k4]
              · have k4 := shift_dn (μ := μ1) (t := t) (u := t) (i := i) (j := j) (w := n) (by omega) (by omega) (by omega) (by omega) (by omega) n FU (by omega) (FU_p _ (by omega))
                rw [e1] at k4
                by_cases h0 : n = 0
                · subst h0
                  rw [show nI 0 - nI 1 = -nI 1 from rfl] at k4
                  simp (maxSteps := 2000000) (disch := omega) only [ofN, lC_lt, lC_ge, lC_eq, lC_gt, lC_le, T_ltL, F_ltL, T_leL, F_leL, T_eqL, F_eqL, m1_0, lN_add, nI_lE, lN_i, ↓reduceIte, bind_p, T_lt, F_lt, T_le, F_le, T_eq, F_eq, F_neg, T_ltm, F_lem, F_ltm, nI_add, nI_mul, nI_sub, ldI_n, stI_n, aix_n, ldL_n, stL_n, ldF_n, gI_atE, gI_ne1, gI_ne2, gL_atE, gL_ne1, gL_ne2, gL_s, gI_s, w7T, w7F1, w7F2, and31, K0, K1, K2, K3, K4, K5, K6, K7, K8, K9, K10, K11, K12, K14, K16, K18, K20, K24, K29, K30, K31, K32, K33, K36, K38, K40, K41, K42, K48, K50, K51, K54, K57, K59, K60, K63, K70, K71, K84, K94, K97, K100, K101, K104, K108, K112, K120, K121, K122, K123, K124, K125, K127, K255, K300, K1000, K9999, K99999, K2147483647, hI1, hsm, hLm, k4]
                · rw [nI_sub (by omega)] at k4
                  simp (maxSteps := 2000000) (disch := omega) only [ofN, lC_lt, lC_ge, lC_eq, lC_gt, lC_le, T_ltL, F_ltL, T_leL, F_leL, T_eqL, F_eqL, m1_0, lN_add, nI_lE, lN_i, ↓reduceIte, bind_p, T_lt, F_lt, T_le, F_le, T_eq, F_eq, F_neg, T_ltm, F_lem, F_ltm, nI_add, nI_mul, nI_sub, ldI_n, stI_n, aix_n, ldL_n, stL_n, ldF_n, gI_atE, gI_ne1, gI_ne2, gL_atE, gL_ne1, gL_ne2, gL_s, gI_s, w7T, w7F1, w7F2, and31, K0, K1, K2, K3, K4, K5, K6, K7, K8, K9, K10, K11, K12, K14, K16, K18, K20, K24, K29, K30, K31, K32, K33, K36, K38, K40, K41, K42, K48, K50, K51, K54, K57, K59, K60, K63, K70, K71, K84, K94, K97, K100, K101, K104, K108, K112, K120, K121, K122, K123, K124, K125, K127, K255, K300, K1000, K9999, K99999, K2147483647, hI1, hsm, hLm, k4]
            · have k4 := shift_up (μ := μ1) (t := t) (u := u) (i := i) (j := j) (w := n) (by omega) (by omega) (by omega) (by omega) (by omega) n 0 FU (by omega) (FU_p _ (by omega))
              rw [e0] at k4
              simp (maxSteps := 2000000) (disch := omega) only [ofN, lC_lt, lC_ge, lC_eq, lC_gt, lC_le, T_ltL, F_ltL, T_leL, F_leL, T_eqL, F_eqL, m1_0, lN_add, nI_lE, lN_i, ↓reduceIte, bind_p, T_lt, F_lt, T_le, F_le, T_eq, F_eq, F_neg, T_ltm, F_lem, F_ltm, nI_add, nI_mul, nI_sub, ldI_n, stI_n, aix_n, ldL_n, stL_n, ldF_n, gI_atE, gI_ne1, gI_ne2, gL_atE, gL_ne1, gL_ne2, gL_s, gI_s, w7T, w7F1, w7F2, and31, K0, K1, K2, K3, K4, K5, K6, K7, K8, K9, K10, K11, K12, K14, K16, K18, K20, K24, K29, K30, K31, K32, K33, K36, K38, K40, K41, K42, K48, K50, K51, K54, K57, K59, K60, K63, K70, K71, K84, K94, K97, K100, K101, K104, K108, K112, K120, K121, K122, K123, K124, K125, K127, K255, K300, K1000, K9999, K99999, K2147483647, hI1, hsm, hsm', hLm, hLm', k4]
          · refine R_tape hR rfl rfl rfl (fun f i _ _ => rfl) (fun k _ _ _ => hI1 k) (fun t' ht' => ⟨?_, ?_, fun y hy => ?_⟩) (fun t' ht' => ⟨?_, ?_, fun y hy => ?_⟩) o6
            · exact (congrFun (hI1 _) _).trans (x6 t' ht').1
            · exact (congrFun (hI1 _) _).trans (x6 t' ht').2.1
            · show gL (sRL μ1 2044 (va_cpy (gL μ1 2044) (gL μ1 2044) (60 * t + i) (60 * u + j) n)) (1100 + 2 * t' + 1) y = if t' = u ∧ j ≤ y ∧ y < j + n then T.2.1 t (i + (y - j)) else T.2.1 t' y
              rw [gL_sRL, if_neg (by omega), hμ1, gL_sRL]
              by_cases h : t' = u
              · subst h
                rw [if_pos rfl]
                by_cases hq : j ≤ y ∧ y < j + n
                · rw [if_pos ⟨rfl, hq⟩]
                  show va_cpy (gL μ (1100 + 2 * t + 1)) (gL μ (1100 + 2 * t' + 1)) i j n y = _
                  rw [show va_cpy (gL μ (1100 + 2 * t + 1)) (gL μ (1100 + 2 * t' + 1)) i j n y = gL μ (1100 + 2 * t + 1) (i + (y - j)) from if_pos hq]
                  exact (x6 t (by omega)).2.2 _ (by omega)
                · rw [if_neg (fun z => hq z.2), show va_cpy (gL μ (1100 + 2 * t + 1)) (gL μ (1100 + 2 * t' + 1)) i j n y = gL μ (1100 + 2 * t' + 1) y from if_neg hq]
                  exact (x6 t' ht').2.2 y hy
              · rw [if_neg (by omega), if_neg (fun z => h z.1)]
                exact (x6 t' ht').2.2 y hy
            · exact (congrFun (hI1 _) _).trans (m6 t' ht').1
            · exact (congrFun (hI1 _) _).trans (m6 t' ht').2.1
            · show gL (sRL μ1 2044 (va_cpy (gL μ1 2044) (gL μ1 2044) (60 * t + i) (60 * u + j) n)) 2044 (60 * t' + y) = if t' = u ∧ j ≤ y ∧ y < j + n then T.2.1 t (i + (y - j)) else T.2.1 t' y
              rw [gL_sRL, if_pos rfl, hL1]
              by_cases h : t' = u ∧ j ≤ y ∧ y < j + n
              · rw [if_pos h, cpy_in (by omega), show 60 * t + i + (60 * t' + y - (60 * u + j)) = 60 * t + (i + (y - j)) by omega]
                exact (m6 t (by omega)).2.2 _ (by omega)
              · rw [if_neg h, cpy_ge (by omega)]
                exact (m6 t' ht').2.2 y hy
      · refine step_q (r := -12) hR ?_ ?_
        · show f_X6_shift μ _ _ _ _ _ = _
          unfold f_X6_shift; rw [hax, hcx]
          simp (maxSteps := 2000000) (disch := omega) only [ofN, lC_lt, lC_ge, lC_eq, lC_gt, lC_le, T_ltL, F_ltL, T_leL, F_leL, T_eqL, F_eqL, m1_0, lN_add, nI_lE, lN_i, ↓reduceIte, bind_p, T_lt, F_lt, T_le, F_le, T_eq, F_eq, F_neg, T_ltm, F_lem, F_ltm, nI_add, nI_mul, nI_sub, ldI_n, stI_n, aix_n, ldL_n, stL_n, ldF_n, gI_atE, gI_ne1, gI_ne2, gL_atE, gL_ne1, gL_ne2, gL_s, gI_s, w7T, w7F1, w7F2, and31, K0, K1, K2, K3, K4, K5, K6, K7, K8, K9, K10, K11, K12, K14, K16, K18, K20, K24, K29, K30, K31, K32, K33, K36, K38, K40, K41, K42, K48, K50, K51, K54, K57, K59, K60, K63, K70, K71, K84, K94, K97, K100, K101, K104, K108, K112, K120, K121, K122, K123, K124, K125, K127, K255, K300, K1000, K9999, K99999, K2147483647, hsx, hsx']
        · show f_X7_shift μ _ _ _ _ _ = _
          unfold f_X7_shift f_X7_isTape; rw [ham, hcm]
          simp (maxSteps := 2000000) (disch := omega) only [ofN, lC_lt, lC_ge, lC_eq, lC_gt, lC_le, T_ltL, F_ltL, T_leL, F_leL, T_eqL, F_eqL, m1_0, lN_add, nI_lE, lN_i, ↓reduceIte, bind_p, T_lt, F_lt, T_le, F_le, T_eq, F_eq, F_neg, T_ltm, F_lem, F_ltm, nI_add, nI_mul, nI_sub, ldI_n, stI_n, aix_n, ldL_n, stL_n, ldF_n, gI_atE, gI_ne1, gI_ne2, gL_atE, gL_ne1, gL_ne2, gL_s, gI_s, w7T, w7F1, w7F2, and31, K0, K1, K2, K3, K4, K5, K6, K7, K8, K9, K10, K11, K12, K14, K16, K18, K20, K24, K29, K30, K31, K32, K33, K36, K38, K40, K41, K42, K48, K50, K51, K54, K57, K59, K60, K63, K70, K71, K84, K94, K97, K100, K101, K104, K108, K112, K120, K121, K122, K123, K124, K125, K127, K255, K300, K1000, K9999, K99999, K2147483647, hsm, hsm']
    · refine step_q (r := -1) hR ?_ ?_
      · show f_X6_shift μ _ b c d e = _
        unfold f_X6_shift; rw [hax, hcx]; rfl
      · show f_X7_shift μ _ b c d e = _
        unfold f_X7_shift f_X7_isTape; rw [ham, hcm]; rfl
  · refine step_q (r := -1) hR ?_ ?_
    · show f_X6_shift μ a b c d e = _
      unfold f_X6_shift; rw [hax]; rfl
    · show f_X7_shift μ a b c d e = _
      unfold f_X7_shift f_X7_isTape; rw [ham]; rfl
