/-! turn and rest, in the reference .. -/
theorem fmN {μ : Mem} {a : Int} {t : Nat} (ha : -1000000000 ≤ a ∧ a ≤ 1000000000) (ht : 0 < t) (ht' : t ≤ 1000000000) : f_J9_floorMod_7cf53 μ (iI a) (nI t) = some (nI (a % (t : Int)).toNat) := by
  have h1 := Int.emod_nonneg a (show (t : Int) ≠ 0 by omega)
  rw [nI_iI t, fm7 ha (by omega) (by omega), iI_nat h1]
theorem mdN {μ : Mem} {a : Int} {t : Nat} (ha : -1000000000 ≤ a ∧ a ≤ 1000000000) (ht : 0 < t) (ht' : t ≤ 1000000000) : ∃ v, f_X6_modulo μ (iI a).toInt64 (nI t).toInt64 = some v ∧ v.toInt32 = nI (a % (t : Int)).toNat := by
  have h1 := Int.emod_nonneg a (show (t : Int) ≠ 0 by omega)
  refine ⟨jL (a % (t : Int)), ?_, ?_⟩
  · rw [iI_L (by omega) (by omega), nI_jL (by omega), mod6 (by omega) (by omega) (by omega)]
  · rw [jL_I, iI_nat h1]
theorem and3 {p : Nat} (h : p ≤ 30) : nI p &&& (3 : Int32) = nI (p % 4) := (by decide +kernel : ∀ p, p < 31 → nI p &&& (3 : Int32) = nI (p % 4)) p (by omega)
theorem tuE_k {σ : SG} {e : Nat} : (σ 1 e = 0 → tuE σ e = σ 3 e) ∧ (σ 1 e = 1 → tuE σ e = σ 3 e) ∧ (σ 1 e = 2 → tuE σ e = 2 * σ 3 e) ∧ (σ 1 e = 3 → tuE σ e = σ 3 e + σ 2 e) ∧ (σ 1 e = 4 → tuE σ e = σ 3 e) ∧ (σ 1 e = 5 → tuE σ e = 2 * σ 3 e + 1) ∧ (σ 1 e = 6 → tuE σ e = σ 3 e + σ 2 e) := by
  unfold tuE
  refine ⟨fun h => ?_, fun h => ?_, fun h => ?_, fun h => ?_, fun h => ?_, fun h => ?_, fun h => ?_⟩ <;> rw [h] <;> rfl
theorem turn7 {μ : Mem} {e : Nat} {σ : SG} (he : e < 6) (hr : RowM μ σ e) (hk : okE σ e) : f_X7_turn μ (nI e) = some (nI (tuE σ e)) := by
  have h0 : gI μ 2001 e = nI (σ 1 e) := hr.1 0 (by omega)
  have h1 : gI μ 2002 e = nI (σ 2 e) := hr.1 1 (by omega)
  have h2 : gI μ 2003 e = nI (σ 3 e) := hr.1 2 (by omega)
  have hk1 := hk.1.1
  obtain ⟨t0, t1, t2, t3, t4, t5, t6⟩ := tuE_k (σ := σ) (e := e)
  rcases (show σ 1 e = 0 ∨ σ 1 e = 1 ∨ σ 1 e = 2 ∨ σ 1 e = 3 ∨ σ 1 e = 4 ∨ σ 1 e = 5 ∨ σ 1 e = 6 by omega) with h | h | h | h | h | h | h
  · rw [h] at h0; rw [t0 h]; simp (disch := omega) only [ofN, lC_lt, lC_ge, lC_eq, lC_gt, lC_le, T_ltL, F_ltL, T_leL, F_leL, T_eqL, F_eqL, m1_0, lN_add, nI_lE, lN_i, ↓reduceIte, bind_s, T_lt, F_lt, T_le, F_le, T_eq, F_eq, F_neg, T_ltm, F_lem, F_ltm, nI_add, nI_mul, nI_sub, ldI_n, stI_n, aix_n, ldL_n, stL_n, ldF_n, gI_atE, gI_ne1, gI_ne2, gL_atE, gL_ne1, gL_ne2, gL_s, gI_s, w7T, w7F1, w7F2, and31, K0, K1, K2, K3, K4, K5, K6, K7, K8, K9, K10, K11, K12, K14, K16, K18, K20, K24, K29, K30, K31, K32, K33, K36, K38, K40, K41, K42, K48, K50, K51, K54, K57, K59, K60, K63, K70, K71, K84, K94, K97, K100, K101, K104, K108, K112, K120, K121, K122, K123, K124, K125, K127, K255, K300, K1000, K9999, K99999, K2147483647, f_X7_turn, f_X7_turn_49, f_X7_turn_74, h0, h1, h2]
  · rw [h] at h0; rw [t1 h]; simp (disch := omega) only [ofN, lC_lt, lC_ge, lC_eq, lC_gt, lC_le, T_ltL, F_ltL, T_leL, F_leL, T_eqL, F_eqL, m1_0, lN_add, nI_lE, lN_i, ↓reduceIte, bind_s, T_lt, F_lt, T_le, F_le, T_eq, F_eq, F_neg, T_ltm, F_lem, F_ltm, nI_add, nI_mul, nI_sub, ldI_n, stI_n, aix_n, ldL_n, stL_n, ldF_n, gI_atE, gI_ne1, gI_ne2, gL_atE, gL_ne1, gL_ne2, gL_s, gI_s, w7T, w7F1, w7F2, and31, K0, K1, K2, K3, K4, K5, K6, K7, K8, K9, K10, K11, K12, K14, K16, K18, K20, K24, K29, K30, K31, K32, K33, K36, K38, K40, K41, K42, K48, K50, K51, K54, K57, K59, K60, K63, K70, K71, K84, K94, K97, K100, K101, K104, K108, K112, K120, K121, K122, K123, K124, K125, K127, K255, K300, K1000, K9999, K99999, K2147483647, f_X7_turn, f_X7_turn_49, f_X7_turn_74, h0, h1, h2]
  · rw [h] at h0; rw [t2 h]; simp (disch := omega) only [ofN, lC_lt, lC_ge, lC_eq, lC_gt, lC_le, T_ltL, F_ltL, T_leL, F_leL, T_eqL, F_eqL, m1_0, lN_add, nI_lE, lN_i, ↓reduceIte, bind_s, T_lt, F_lt, T_le, F_le, T_eq, F_eq, F_neg, T_ltm, F_lem, F_ltm, nI_add, nI_mul, nI_sub, ldI_n, stI_n, aix_n, ldL_n, stL_n, ldF_n, gI_atE, gI_ne1, gI_ne2, gL_atE, gL_ne1, gL_ne2, gL_s, gI_s, w7T, w7F1, w7F2, and31, K0, K1, K2, K3, K4, K5, K6, K7, K8, K9, K10, K11, K12, K14, K16, K18, K20, K24, K29, K30, K31, K32, K33, K36, K38, K40, K41, K42, K48, K50, K51, K54, K57, K59, K60, K63, K70, K71, K84, K94, K97, K100, K101, K104, K108, K112, K120, K121, K122, K123, K124, K125, K127, K255, K300, K1000, K9999, K99999, K2147483647, f_X7_turn, f_X7_turn_49, f_X7_turn_74, h0, h1, h2]
  · rw [h] at h0; rw [t3 h]; simp (disch := omega) only [ofN, lC_lt, lC_ge, lC_eq, lC_gt, lC_le, T_ltL, F_ltL, T_leL, F_leL, T_eqL, F_eqL, m1_0, lN_add, nI_lE, lN_i, ↓reduceIte, bind_s, T_lt, F_lt, T_le, F_le, T_eq, F_eq, F_neg, T_ltm, F_lem, F_ltm, nI_add, nI_mul, nI_sub, ldI_n, stI_n, aix_n, ldL_n, stL_n, ldF_n, gI_atE, gI_ne1, gI_ne2, gL_atE, gL_ne1, gL_ne2, gL_s, gI_s, w7T, w7F1, w7F2, and31, K0, K1, K2, K3, K4, K5, K6, K7, K8, K9, K10, K11, K12, K14, K16, K18, K20, K24, K29, K30, K31, K32, K33, K36, K38, K40, K41, K42, K48, K50, K51, K54, K57, K59, K60, K63, K70, K71, K84, K94, K97, K100, K101, K104, K108, K112, K120, K121, K122, K123, K124, K125, K127, K255, K300, K1000, K9999, K99999, K2147483647, f_X7_turn, f_X7_turn_49, f_X7_turn_74, h0, h1, h2]
  · rw [h] at h0; rw [t4 h]; simp (disch := omega) only [ofN, lC_lt, lC_ge, lC_eq, lC_gt, lC_le, T_ltL, F_ltL, T_leL, F_leL, T_eqL, F_eqL, m1_0, lN_add, nI_lE, lN_i, ↓reduceIte, bind_s, T_lt, F_lt, T_le, F_le, T_eq, F_eq, F_neg, T_ltm, F_lem, F_ltm, nI_add, nI_mul, nI_sub, ldI_n, stI_n, aix_n, ldL_n, stL_n, ldF_n, gI_atE, gI_ne1, gI_ne2, gL_atE, gL_ne1, gL_ne2, gL_s, gI_s, w7T, w7F1, w7F2, and31, K0, K1, K2, K3, K4, K5, K6, K7, K8, K9, K10, K11, K12, K14, K16, K18, K20, K24, K29, K30, K31, K32, K33, K36, K38, K40, K41, K42, K48, K50, K51, K54, K57, K59, K60, K63, K70, K71, K84, K94, K97, K100, K101, K104, K108, K112, K120, K121, K122, K123, K124, K125, K127, K255, K300, K1000, K9999, K99999, K2147483647, f_X7_turn, f_X7_turn_49, f_X7_turn_74, h0, h1, h2]
  · rw [h] at h0; rw [t5 h]; simp (disch := omega) only [ofN, lC_lt, lC_ge, lC_eq, lC_gt, lC_le, T_ltL, F_ltL, T_leL, F_leL, T_eqL, F_eqL, m1_0, lN_add, nI_lE, lN_i, ↓reduceIte, bind_s, T_lt, F_lt, T_le, F_le, T_eq, F_eq, F_neg, T_ltm, F_lem, F_ltm, nI_add, nI_mul, nI_sub, ldI_n, stI_n, aix_n, ldL_n, stL_n, ldF_n, gI_atE, gI_ne1, gI_ne2, gL_atE, gL_ne1, gL_ne2, gL_s, gI_s, w7T, w7F1, w7F2, and31, K0, K1, K2, K3, K4, K5, K6, K7, K8, K9, K10, K11, K12, K14, K16, K18, K20, K24, K29, K30, K31, K32, K33, K36, K38, K40, K41, K42, K48, K50, K51, K54, K57, K59, K60, K63, K70, K71, K84, K94, K97, K100, K101, K104, K108, K112, K120, K121, K122, K123, K124, K125, K127, K255, K300, K1000, K9999, K99999, K2147483647, f_X7_turn, f_X7_turn_49, f_X7_turn_74, h0, h1, h2]
  · rw [h] at h0; rw [t6 h]; simp (disch := omega) only [ofN, lC_lt, lC_ge, lC_eq, lC_gt, lC_le, T_ltL, F_ltL, T_leL, F_leL, T_eqL, F_eqL, m1_0, lN_add, nI_lE, lN_i, ↓reduceIte, bind_s, T_lt, F_lt, T_le, F_le, T_eq, F_eq, F_neg, T_ltm, F_lem, F_ltm, nI_add, nI_mul, nI_sub, ldI_n, stI_n, aix_n, ldL_n, stL_n, ldF_n, gI_atE, gI_ne1, gI_ne2, gL_atE, gL_ne1, gL_ne2, gL_s, gI_s, w7T, w7F1, w7F2, and31, K0, K1, K2, K3, K4, K5, K6, K7, K8, K9, K10, K11, K12, K14, K16, K18, K20, K24, K29, K30, K31, K32, K33, K36, K38, K40, K41, K42, K48, K50, K51, K54, K57, K59, K60, K63, K70, K71, K84, K94, K97, K100, K101, K104, K108, K112, K120, K121, K122, K123, K124, K125, K127, K255, K300, K1000, K9999, K99999, K2147483647, f_X7_turn, f_X7_turn_49, f_X7_turn_74, h0, h1, h2]
theorem reE_k {σ : SG} {l : List CL} {e : Nat} : (σ 1 e = 1 → reE σ l e = ((sumZ σ l e + (σ 2 e : Int)) % (tuE σ e : Int)).toNat) ∧ (σ 1 e = 4 → reE σ l e = tuE σ e - 1 - ((sumZ σ l e + (σ 2 e : Int)) % (tuE σ e : Int)).toNat) ∧ (σ 1 e = 6 → reE σ l e = ((sumZ σ l e + (σ 8 (4 * e + σ 3 e % 4) : Int)) % (tuE σ e : Int)).toNat) ∧ (σ 1 e ≠ 1 ∧ σ 1 e ≠ 4 ∧ σ 1 e ≠ 6 → reE σ l e = (sumZ σ l e % (tuE σ e : Int)).toNat) := by
  unfold reE shE
  refine ⟨fun h => ?_, fun h => ?_, fun h => ?_, fun h => ?_⟩
  · rw [if_neg (by omega), if_pos h]
  · rw [if_pos h, if_neg (by omega), if_pos h]
  · rw [if_neg (by omega), if_neg (by omega), if_neg (by omega), if_pos h]
  · rw [if_neg h.2.1, if_neg h.1, if_neg h.2.1, if_neg h.2.2]
    congr 2
    omega
theorem rest7 {μ : Mem} {e : Nat} {l : List CL} {σ : SG} (he : e < 6) (hH : HM μ l) (hl : okL l) (hr : RowM μ σ e) (hk : okE σ e) : ∃ ν, f_X7_rest μ (nI e) = some (nI (reE σ l e), ν) ∧ Sk μ ν := by
  obtain ⟨ν, e1, s1⟩ := sum7 he hH hl hr hk
  have hr' := hr.sk s1
  have h0 : gI ν 2001 e = nI (σ 1 e) := hr'.1 0 (by omega)
  have h1 : gI ν 2002 e = nI (σ 2 e) := hr'.1 1 (by omega)
  have h2 : gI ν 2003 e = nI (σ 3 e) := hr'.1 2 (by omega)
  have h8 : gI ν 2008 (4 * e + σ 3 e % 4) = nI (σ 8 (4 * e + σ 3 e % 4)) := hr'.2 _ (by omega)
  have htb := tuE_b hk
  have hsb := sumZ_b (e := e) (σ := σ) hk.1.2.2.2.2.1 hl
  have hk1 := hk.1.1
  have hk2 := hk.1.2.1
  have hk3 := hk.1.2.2.2.1
  have hk8 := hk.2 (σ 3 e % 4) (by omega)
  obtain ⟨r1, r4, r6, r0⟩ := reE_k (σ := σ) (l := l) (e := e)
  refine ⟨ν, ?_, s1⟩
  unfold f_X7_rest
  rw [turn7 he hr hk, e1]
  simp only [bind_p]
  rw [ldI_n he (by omega), h0]
  simp only [bind_p]
  by_cases q1 : σ 1 e = 1
  · rw [r1 q1, if_pos (by rw [q1]; rfl), ldI_n he (by omega), h1]
    simp only [bind_p]
    rw [nI_iI (σ 2 e), iI_add, fmN (by omega) (by omega) (by omega)]
    rfl
  · rw [if_neg (by rw [K1, nI_eq (by omega) (by omega)]; exact q1)]
    by_cases q4 : σ 1 e = 4
    · have hm := Int.emod_lt_of_pos (sumZ σ l e + (σ 2 e : Int)) (show 0 < (tuE σ e : Int) by omega)
      have hm' := Int.emod_nonneg (sumZ σ l e + (σ 2 e : Int)) (show (tuE σ e : Int) ≠ 0 by omega)
      rw [r4 q4, if_pos (by rw [q4]; rfl), ldI_n he (by omega), h1]
      simp only [bind_p]
      rw [nI_iI (σ 2 e), iI_add, fmN (by omega) (by omega) (by omega)]
      simp only [bind_p]
      rw [K1, nI_sub (by omega), nI_sub (by omega)]
    · rw [if_neg (by rw [K4, nI_eq (by omega) (by omega)]; exact q4)]
      by_cases q6 : σ 1 e = 6
      · rw [r6 q6, if_pos (by rw [q6]; rfl), ldI_n he (by omega), h2]
        simp only [bind_p]
        rw [K4, rmI_n (by omega) (by omega) (by omega)]
        simp only [bind_p]
        rw [nI_mul, nI_add, ldI_n (by omega) (by omega), h8]
        simp only [bind_p]
        rw [nI_iI (σ 8 _), iI_add, fmN (by omega) (by omega) (by omega)]
        rfl
      · rw [if_neg (by rw [K6, nI_eq (by omega) (by omega)]; exact q6), r0 ⟨q1, q4, q6⟩, fmN (by omega) (by omega) (by omega)]
        rfl
theorem inD7 {μ : Mem} {e d : Nat} {l : List CL} {σ : SG} (he : e < 6) (hH : HM μ l) (hl : okL l) (hr : RowM μ σ e) (hk : okE σ e) (h10 : gI μ 2000 10 = nI d) (hd : d ≤ 1000000) : ∃ ν, f_X7_inDays μ (nI e) = some (nI (neE σ l e d), ν) ∧ Sk μ ν := by
  obtain ⟨ν, e1, s1⟩ := rest7 he hH hl hr hk
  have htb := tuE_b hk
  have hrb := reE_b (l := l) hk
  refine ⟨ν, ?_, s1⟩
  unfold f_X7_inDays
  rw [e1]
  simp only [bind_p]
  rw [turn7 he (hr.sk s1) hk, s1.1 2000 (by omega), h10]
  simp only [bind_p]
  rw [nI_iI (reE σ l e), nI_iI d, iI_sub, fmN (by omega) (by omega) (by omega)]
  rfl
theorem bI_d {p : Prop} [Decidable p] : (if p then some ((1 : Int32)) else some (0 : Int32)) = some (bI (decide p)) := by
  by_cases h : p
  · rw [if_pos h, decide_eq_true h]; rfl
  · rw [if_neg h, decide_eq_false h]; rfl
theorem isDay7 {μ : Mem} {e on : Nat} {l : List CL} {σ : SG} (he : e < 6) (hH : HM μ l) (hl : okL l) (hr : RowM μ σ e) (hk : okE σ e) (hd : on ≤ 1000000) : ∃ ν, f_X7_isDay μ (nI e) (nI on) = some (bI (decide (on % tuE σ e = reE σ l e)), ν) ∧ Sk μ ν := by
  obtain ⟨ν, e1, s1⟩ := rest7 he hH hl hr hk
  have htb := tuE_b hk
  have hrb := reE_b (l := l) hk
  refine ⟨ν, ?_, s1⟩
  unfold f_X7_isDay
  rw [turn7 he hr hk]
  simp only [bind_p]
  rw [rmI_n (by omega) (by omega) (by omega), e1]
  simp only [bind_p]
  have hm := Nat.mod_lt on (show 0 < tuE σ e by omega)
  by_cases h : on % tuE σ e = reE σ l e
  · rw [h, if_pos rfl, decide_eq_true rfl]; rfl
  · rw [if_neg (by rw [nI_eq (by omega) (by omega)]; exact h), decide_eq_false h]; rfl
def offB (σ : SG) (l : List CL) (e on : Nat) : Bool := decide (σ 5 e = 0) && decide (on % tuE σ e = reE σ l e)
theorem goes7 {μ : Mem} {e on : Nat} {l : List CL} {σ : SG} (he : e < 6) (hH : HM μ l) (hl : okL l) (hr : RowM μ σ e) (hk : okE σ e) (hd : on ≤ 1000000) : ∃ ν, f_X7_goesOff μ (nI e) (nI on) = some (bI (offB σ l e on), ν) ∧ Sk μ ν := by
  have h5 : gI μ 2005 e = nI (σ 5 e) := hr.1 4 (by omega)
  have hk5 := hk.1.2.2.2.2.2
  unfold f_X7_goesOff offB
  rw [ldI_n he (by omega), h5]
  simp only [bind_p]
  by_cases h : σ 5 e = 0
  · obtain ⟨ν, e1, s1⟩ := isDay7 he hH hl hr hk hd
    refine ⟨ν, ?_, s1⟩
    rw [if_pos (by rw [h]; rfl), e1, decide_eq_true h, Bool.true_and]
    simp only [bind_p]
    cases decide (on % tuE σ e = reE σ l e)
    · rw [if_pos (show bI false = 0 from rfl)]; rfl
    · rw [if_neg (show ¬ bI true = 0 by decide)]; rfl
  · refine ⟨μ, ?_, Sk.rfl' _⟩
    rw [if_neg (nI_ne0 (by omega) (by omega)), decide_eq_false h, Bool.false_and]
    rfl
/-- which go off (bits), of the first some -/
def offN (σ : SG) (l : List CL) (on : Nat) : Nat → Nat
  | 0 => 0
  | e + 1 => offN σ l on e + (if offB σ l e on then 2 ^ e else 0)
theorem offN_b (σ : SG) (l : List CL) (on : Nat) : ∀ e, offN σ l on e < 2 ^ e
  | 0 => by unfold offN; omega
  | e + 1 => by
    have h := offN_b σ l on e
    rw [offN, Nat.pow_succ]
    split <;> omega
theorem pow6 {e : Nat} (h : e ≤ 6) : 2 ^ e ≤ 64 := Nat.pow_le_pow_right (n := 2) (by omega) h
theorem bitOr {e b : Nat} (h : e < 6) (hb : b < 2 ^ e) : nI b ||| ((1 : Int32) <<< (nI e &&& 31)) = nI (b + 2 ^ e) := by
  have h6 := pow6 (e := e) (by omega)
  have := orN e h b (by omega) hb
  rw [K31, and31 (by omega), K1]
  exact this
theorem goOff_l {μ0 : Mem} {on : Nat} {l : List CL} {σ : SG} (h6 : σ 0 0 ≤ 6) (h0 : gI μ0 2000 0 = nI (σ 0 0)) (hH : HM μ0 l) (hl : okL l) (hr : ∀ e, e < σ 0 0 → RowM μ0 σ e ∧ okE σ e) (hd : on ≤ 1000000) :
    ∀ m i n μ, Sk μ0 μ → i + m = σ 0 0 → m < n → ∃ ν, f_X7_goOff_4 n μ (nI on) (nI (offN σ l on i)) (nI i) = some (nI (offN σ l on (σ 0 0)), ν) ∧ Sk μ0 ν := by
  intro m
  induction m with
  | zero =>
    intro i n μ hs hi hn
    obtain ⟨n, rfl⟩ := suc_of hn
    obtain rfl : i = σ 0 0 := by omega
    refine ⟨μ, ?_, hs⟩
    rw [f_X7_goOff_4, hs.1 2000 (by omega), h0, if_pos (nI_le (by omega) (by omega))]
  | succ m ih =>
    intro i n μ hs hi hn
    obtain ⟨n, rfl⟩ := suc_of hn
    have hnx : nI i + (1 : Int32) = nI (i + 1) := by rw [K1, nI_add]
    obtain ⟨hri, hki⟩ := hr i (by omega)
    obtain ⟨ν, e1, s1⟩ := goes7 (e := i) (by omega) (hH.sk hs) hl (hri.sk hs) hki hd
    obtain ⟨ξ, e2, s2⟩ := ih (i + 1) n ν (hs.trans s1) (by omega) (by omega)
    refine ⟨ξ, ?_, s2⟩
    rw [f_X7_goOff_4, hs.1 2000 (by omega), h0, if_neg (nI_ge (by omega) (by omega)), e1]
    simp only [bind_p]
    rw [offN] at e2
    cases hv : offB σ l i on
    · rw [hv, if_neg (by decide)] at e2
      rw [if_pos (show bI false = 0 from rfl), f_X7_goOff_27]
      simp only [bind_p]
      rw [hnx]
      exact e2
    · rw [hv, if_pos rfl] at e2
      rw [if_neg (show ¬ bI true = 0 by decide), bitOr (by omega) (offN_b σ l on i), f_X7_goOff_27]
      simp only [bind_p]
      rw [hnx]
      exact e2
theorem goOff7 {μ : Mem} {on : Nat} {l : List CL} {σ : SG} (h6 : σ 0 0 ≤ 6) (h0 : gI μ 2000 0 = nI (σ 0 0)) (hH : HM μ l) (hl : okL l) (hr : ∀ e, e < σ 0 0 → RowM μ σ e ∧ okE σ e) (hd : on ≤ 1000000) : ∃ ν, f_X7_goOff μ (nI on) = some (nI (offN σ l on (σ 0 0)), ν) ∧ Sk μ ν :=
  goOff_l h6 h0 hH hl hr hd (σ 0 0) 0 FU μ (Sk.rfl' _) (by omega) (FU_p _ (by omega))
