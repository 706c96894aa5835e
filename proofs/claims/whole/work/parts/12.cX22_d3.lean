/-! turn and rest, in the class -/
theorem turn6 {μ : Mem} {r e : Nat} {σ : SG} (hr : RowX μ r σ e) (hk : okE σ e) : f_X2_turnOf μ r = some (nI (tuE σ e)) := by
  have h0 : gI μ r 0 = nI (σ 1 e) := hr.1 0 (by omega)
  have h1 : gI μ r 1 = nI (σ 2 e) := hr.1 1 (by omega)
  have h2 : gI μ r 2 = nI (σ 3 e) := hr.1 2 (by omega)
  have hk1 := hk.1.1
  obtain ⟨t0, t1, t2, t3, t4, t5, t6⟩ := tuE_k (σ := σ) (e := e)
  rcases (show σ 1 e = 0 ∨ σ 1 e = 1 ∨ σ 1 e = 2 ∨ σ 1 e = 3 ∨ σ 1 e = 4 ∨ σ 1 e = 5 ∨ σ 1 e = 6 by omega) with h | h | h | h | h | h | h
  · rw [h] at h0; rw [t0 h]; simp (disch := omega) only [ofN, lC_lt, lC_ge, lC_eq, lC_gt, lC_le, T_ltL, F_ltL, T_leL, F_leL, T_eqL, F_eqL, m1_0, lN_add, nI_lE, lN_i, ↓reduceIte, bind_s, T_lt, F_lt, T_le, F_le, T_eq, F_eq, F_neg, T_ltm, F_lem, F_ltm, nI_add, nI_mul, nI_sub, ldI_n, stI_n, aix_n, ldL_n, stL_n, ldF_n, gI_atE, gI_ne1, gI_ne2, gL_atE, gL_ne1, gL_ne2, gL_s, gI_s, w7T, w7F1, w7F2, and31, K0, K1, K2, K3, K4, K5, K6, K7, K8, K9, K10, K11, K12, K14, K16, K18, K20, K24, K29, K30, K31, K32, K33, K36, K38, K40, K41, K42, K48, K50, K51, K54, K57, K59, K60, K63, K70, K71, K84, K94, K97, K100, K101, K104, K108, K112, K120, K121, K122, K123, K124, K125, K127, K255, K300, K1000, K9999, K99999, K2147483647, f_X2_turnOf, f_X2_turnOf_50, f_X2_turnOf_58, h0, h1, h2]
  · rw [h] at h0; rw [t1 h]; simp (disch := omega) only [ofN, lC_lt, lC_ge, lC_eq, lC_gt, lC_le, T_ltL, F_ltL, T_leL, F_leL, T_eqL, F_eqL, m1_0, lN_add, nI_lE, lN_i, ↓reduceIte, bind_s, T_lt, F_lt, T_le, F_le, T_eq, F_eq, F_neg, T_ltm, F_lem, F_ltm, nI_add, nI_mul, nI_sub, ldI_n, stI_n, aix_n, ldL_n, stL_n, ldF_n, gI_atE, gI_ne1, gI_ne2, gL_atE, gL_ne1, gL_ne2, gL_s, gI_s, w7T, w7F1, w7F2, and31, K0, K1, K2, K3, K4, K5, K6, K7, K8, K9, K10, K11, K12, K14, K16, K18, K20, K24, K29, K30, K31, K32, K33, K36, K38, K40, K41, K42, K48, K50, K51, K54, K57, K59, K60, K63, K70, K71, K84, K94, K97, K100, K101, K104, K108, K112, K120, K121, K122, K123, K124, K125, K127, K255, K300, K1000, K9999, K99999, K2147483647, f_X2_turnOf, f_X2_turnOf_50, f_X2_turnOf_58, h0, h1, h2]
  · rw [h] at h0; rw [t2 h]; simp (disch := omega) only [ofN, lC_lt, lC_ge, lC_eq, lC_gt, lC_le, T_ltL, F_ltL, T_leL, F_leL, T_eqL, F_eqL, m1_0, lN_add, nI_lE, lN_i, ↓reduceIte, bind_s, T_lt, F_lt, T_le, F_le, T_eq, F_eq, F_neg, T_ltm, F_lem, F_ltm, nI_add, nI_mul, nI_sub, ldI_n, stI_n, aix_n, ldL_n, stL_n, ldF_n, gI_atE, gI_ne1, gI_ne2, gL_atE, gL_ne1, gL_ne2, gL_s, gI_s, w7T, w7F1, w7F2, and31, K0, K1, K2, K3, K4, K5, K6, K7, K8, K9, K10, K11, K12, K14, K16, K18, K20, K24, K29, K30, K31, K32, K33, K36, K38, K40, K41, K42, K48, K50, K51, K54, K57, K59, K60, K63, K70, K71, K84, K94, K97, K100, K101, K104, K108, K112, K120, K121, K122, K123, K124, K125, K127, K255, K300, K1000, K9999, K99999, K2147483647, f_X2_turnOf, f_X2_turnOf_50, f_X2_turnOf_58, h0, h1, h2]
  · rw [h] at h0; rw [t3 h]; simp (disch := omega) only [ofN, lC_lt, lC_ge, lC_eq, lC_gt, lC_le, T_ltL, F_ltL, T_leL, F_leL, T_eqL, F_eqL, m1_0, lN_add, nI_lE, lN_i, ↓reduceIte, bind_s, T_lt, F_lt, T_le, F_le, T_eq, F_eq, F_neg, T_ltm, F_lem, F_ltm, nI_add, nI_mul, nI_sub, ldI_n, stI_n, aix_n, ldL_n, stL_n, ldF_n, gI_atE, gI_ne1, gI_ne2, gL_atE, gL_ne1, gL_ne2, gL_s, gI_s, w7T, w7F1, w7F2, and31, K0, K1, K2, K3, K4, K5, K6, K7, K8, K9, K10, K11, K12, K14, K16, K18, K20, K24, K29, K30, K31, K32, K33, K36, K38, K40, K41, K42, K48, K50, K51, K54, K57, K59, K60, K63, K70, K71, K84, K94, K97, K100, K101, K104, K108, K112, K120, K121, K122, K123, K124, K125, K127, K255, K300, K1000, K9999, K99999, K2147483647, f_X2_turnOf, f_X2_turnOf_50, f_X2_turnOf_58, h0, h1, h2]
  · rw [h] at h0; rw [t4 h]; simp (disch := omega) only [ofN, lC_lt, lC_ge, lC_eq, lC_gt, lC_le, T_ltL, F_ltL, T_leL, F_leL, T_eqL, F_eqL, m1_0, lN_add, nI_lE, lN_i, ↓reduceIte, bind_s, T_lt, F_lt, T_le, F_le, T_eq, F_eq, F_neg, T_ltm, F_lem, F_ltm, nI_add, nI_mul, nI_sub, ldI_n, stI_n, aix_n, ldL_n, stL_n, ldF_n, gI_atE, gI_ne1, gI_ne2, gL_atE, gL_ne1, gL_ne2, gL_s, gI_s, w7T, w7F1, w7F2, and31, K0, K1, K2, K3, K4, K5, K6, K7, K8, K9, K10, K11, K12, K14, K16, K18, K20, K24, K29, K30, K31, K32, K33, K36, K38, K40, K41, K42, K48, K50, K51, K54, K57, K59, K60, K63, K70, K71, K84, K94, K97, K100, K101, K104, K108, K112, K120, K121, K122, K123, K124, K125, K127, K255, K300, K1000, K9999, K99999, K2147483647, f_X2_turnOf, f_X2_turnOf_50, f_X2_turnOf_58, h0, h1, h2]
  · rw [h] at h0; rw [t5 h]; simp (disch := omega) only [ofN, lC_lt, lC_ge, lC_eq, lC_gt, lC_le, T_ltL, F_ltL, T_leL, F_leL, T_eqL, F_eqL, m1_0, lN_add, nI_lE, lN_i, ↓reduceIte, bind_s, T_lt, F_lt, T_le, F_le, T_eq, F_eq, F_neg, T_ltm, F_lem, F_ltm, nI_add, nI_mul, nI_sub, ldI_n, stI_n, aix_n, ldL_n, stL_n, ldF_n, gI_atE, gI_ne1, gI_ne2, gL_atE, gL_ne1, gL_ne2, gL_s, gI_s, w7T, w7F1, w7F2, and31, K0, K1, K2, K3, K4, K5, K6, K7, K8, K9, K10, K11, K12, K14, K16, K18, K20, K24, K29, K30, K31, K32, K33, K36, K38, K40, K41, K42, K48, K50, K51, K54, K57, K59, K60, K63, K70, K71, K84, K94, K97, K100, K101, K104, K108, K112, K120, K121, K122, K123, K124, K125, K127, K255, K300, K1000, K9999, K99999, K2147483647, f_X2_turnOf, f_X2_turnOf_50, f_X2_turnOf_58, h0, h1, h2]
  · rw [h] at h0; rw [t6 h]; simp (disch := omega) only [ofN, lC_lt, lC_ge, lC_eq, lC_gt, lC_le, T_ltL, F_ltL, T_leL, F_leL, T_eqL, F_eqL, m1_0, lN_add, nI_lE, lN_i, ↓reduceIte, bind_s, T_lt, F_lt, T_le, F_le, T_eq, F_eq, F_neg, T_ltm, F_lem, F_ltm, nI_add, nI_mul, nI_sub, ldI_n, stI_n, aix_n, ldL_n, stL_n, ldF_n, gI_atE, gI_ne1, gI_ne2, gL_atE, gL_ne1, gL_ne2, gL_s, gI_s, w7T, w7F1, w7F2, and31, K0, K1, K2, K3, K4, K5, K6, K7, K8, K9, K10, K11, K12, K14, K16, K18, K20, K24, K29, K30, K31, K32, K33, K36, K38, K40, K41, K42, K48, K50, K51, K54, K57, K59, K60, K63, K70, K71, K84, K94, K97, K100, K101, K104, K108, K112, K120, K121, K122, K123, K124, K125, K127, K255, K300, K1000, K9999, K99999, K2147483647, f_X2_turnOf, f_X2_turnOf_50, f_X2_turnOf_58, h0, h1, h2]
theorem rest6 {μ : Mem} {r e : Nat} {l : List CL} {σ : SG} (hl : okL l) (hr : RowX μ r σ e) (hk : okE σ e) (h7 : gI μ r 7 = nI (tuE σ e)) : f_X2_restOf μ r (iI (sumZ σ l e)) = some (nI (reE σ l e)) := by
  have h0 : gI μ r 0 = nI (σ 1 e) := hr.1 0 (by omega)
  have h1 : gI μ r 1 = nI (σ 2 e) := hr.1 1 (by omega)
  have h2 : gI μ r 2 = nI (σ 3 e) := hr.1 2 (by omega)
  have h8 : gI μ r (10 + σ 3 e % 4) = nI (σ 8 (4 * e + σ 3 e % 4)) := hr.2 _ (by omega)
  have htb := tuE_b hk
  have hsb := sumZ_b (e := e) (σ := σ) hk.1.2.2.2.2.1 hl
  have hk1 := hk.1.1
  have hk2 := hk.1.2.1
  have hk3 := hk.1.2.2.2.1
  have hk8 := hk.2 (σ 3 e % 4) (by omega)
  obtain ⟨r1, r4, r6, r0⟩ := reE_k (σ := σ) (l := l) (e := e)
  unfold f_X2_restOf
  rw [K7, ldI_n (by omega) (by omega), h7]
  simp only [bind_p]
  rw [K0, ldI_n (by omega) (by omega), h0]
  simp only [bind_p]
  by_cases q1 : σ 1 e = 1
  · obtain ⟨v, v1, v2⟩ := mdN (μ := μ) (a := sumZ σ l e + (σ 2 e : Int)) (t := tuE σ e) (by omega) (by omega) (by omega)
    rw [r1 q1, if_pos (by rw [q1]; rfl), K1, ldI_n (by omega) (by omega), h1]
    simp only [bind_p]
    rw [nI_iI (σ 2 e), iI_add, v1]
    simp only [bind_p]
    rw [v2]
  · rw [if_neg (by rw [K1, nI_eq (by omega) (by omega)]; exact q1)]
    by_cases q4 : σ 1 e = 4
    · have hm := Int.emod_lt_of_pos (sumZ σ l e + (σ 2 e : Int)) (show 0 < (tuE σ e : Int) by omega)
      have hm' := Int.emod_nonneg (sumZ σ l e + (σ 2 e : Int)) (show (tuE σ e : Int) ≠ 0 by omega)
      obtain ⟨v, v1, v2⟩ := mdN (μ := μ) (a := sumZ σ l e + (σ 2 e : Int)) (t := tuE σ e) (by omega) (by omega) (by omega)
      rw [r4 q4, if_pos (by rw [q4]; rfl), K1, ldI_n (by omega) (by omega), h1]
      simp only [bind_p]
      rw [nI_iI (σ 2 e), iI_add, v1]
      simp only [bind_p]
      rw [v2, nI_sub (by omega), nI_sub (by omega)]
    · rw [if_neg (by rw [K4, nI_eq (by omega) (by omega)]; exact q4)]
      by_cases q6 : σ 1 e = 6
      · obtain ⟨v, v1, v2⟩ := mdN (μ := μ) (a := sumZ σ l e + (σ 8 (4 * e + σ 3 e % 4) : Int)) (t := tuE σ e) (by omega) (by omega) (by omega)
        rw [r6 q6, if_pos (by rw [q6]; rfl), K2, ldI_n (by omega) (by omega), h2]
        simp only [bind_p]
        rw [and3 hk3, K10, nI_add, ldI_n (by omega) (by omega), h8]
        simp only [bind_p]
        rw [nI_iI (σ 8 _), iI_add, v1]
        simp only [bind_p]
        rw [v2]
      · obtain ⟨v, v1, v2⟩ := mdN (μ := μ) (a := sumZ σ l e) (t := tuE σ e) (by omega) (by omega) (by omega)
        rw [if_neg (by rw [K6, nI_eq (by omega) (by omega)]; exact q6), r0 ⟨q1, q4, q6⟩, v1]
        simp only [bind_p]
        rw [v2]
def nxV (σ : SG) (l : List CL) (e d : Nat) : Int32 := if σ 5 e = 1 then -nI 5 else nI (neE σ l e d)
def rkM (μ : Mem) (r : Nat) (σ : SG) (l : List CL) (e d : Nat) : Mem := sI (sI (sI μ r 7 (nI (tuE σ e))) r 8 (nI (reE σ l e))) r 9 (nxV σ l e d)
theorem RowX.s {μ : Mem} {r e c : Nat} {σ : SG} {v : Int32} (h : RowX μ r σ e) (hc : 7 ≤ c ∧ c < 10) : RowX (sI μ r c v) r σ e :=
  ⟨fun x hx => by rw [gI_ne2 (by omega)]; exact h.1 x hx, fun q hq => by rw [gI_ne2 (by omega)]; exact h.2 q hq⟩
theorem reck_l {μ : Mem} {S k2 r e d : Nat} {l : List CL} {σ : SG} (hl : okL l) (hr : RowX μ r σ e) (hk : okE σ e) (hd : gI μ S 3 = nI d) (hd' : d ≤ 1000000) (hS : S ≠ r) : f_X2_reckonOne_32 S k2 μ r (iI (sumZ σ l e)) = some (rkM μ r σ l e d) := by
  have htb := tuE_b hk
  have hrb := reE_b (l := l) hk
  have hk5 := hk.1.2.2.2.2.2
  have h4 : gI μ r 4 = nI (σ 5 e) := hr.1 4 (by omega)
  unfold f_X2_reckonOne_32
  rw [turn6 hr hk]
  simp only [bind_p]
  rw [K7, stI_n (by omega) (by omega)]
  simp only [bind_p]
  rw [rest6 hl (hr.s (by omega)) hk (gI_at _ _ _ _)]
  simp only [bind_p]
  rw [K8, stI_n (by omega) (by omega)]
  simp only [bind_p]
  rw [K4, ldI_n (by omega) (by omega), gI_ne2 (by omega), gI_ne2 (by omega), h4]
  simp only [bind_p]
  unfold rkM nxV
  by_cases h : σ 5 e = 1
  · rw [if_pos (by rw [h]; rfl), if_pos h]
    unfold f_X2_reckonOne_84
    rw [K9, stI_n (by omega) (by omega)]
    rfl
  · obtain ⟨v, v1, v2⟩ := mdN (μ := sI (sI μ r 7 (nI (tuE σ e))) r 8 (nI (reE σ l e))) (a := (reE σ l e : Int) - (d : Int)) (t := tuE σ e) (by omega) (by omega) (by omega)
    rw [if_neg (by rw [K1, nI_eq (by omega) (by omega)]; exact h), if_neg h, ldI_n (by omega) (by omega), gI_at, ldI_n (by omega) (by omega), gI_ne2 (by omega), gI_at, gI_ne1 hS, gI_ne1 hS, hd]
    simp only [bind_p]
    rw [show nI (reE σ l e) - nI d = iI ((reE σ l e : Int) - (d : Int)) by rw [nI_iI, nI_iI, iI_sub], v1]
    simp only [bind_p]
    unfold f_X2_reckonOne_84
    rw [K9, stI_n (by omega) (by omega), v2]
    rfl
theorem reck1 {μ : Mem} {S k2 e d : Nat} {l : List CL} {σ : SG} (he : e < 6) (hH : HX μ k2 l) (hl : okL l) (hr : RowX μ (S + 1 + 1 + e) σ e) (hk : okE σ e) (hd : gI μ S 3 = nI d) (hd' : d ≤ 1000000) : f_X2_reckonOne μ S (nI e) k2 = some (rkM μ (S + 1 + 1 + e) σ l e d) := by
  have h3 : gI μ (S + 1 + 1 + e) 3 = nI (σ 4 e) := hr.1 3 (by omega)
  unfold f_X2_reckonOne
  rw [aix_n he (by omega)]
  simp only [bind_p]
  rw [K3, ldI_n (by omega) (by omega), h3]
  simp only [bind_p]
  rcases hH with ⟨rfl, rfl⟩ | ⟨hk2, hX⟩
  · rw [if_pos rfl]
    have hz : nI (σ 4 e) = iI (sumZ σ [] e) := by rw [nI_iI]; unfold sumZ allN; rw [latZ, List.foldl_nil]; exact congrArg iI (by omega)
    rw [hz]
    exact reck_l hl hr hk hd hd' (by omega)
  · rw [if_neg hk2, lat6 he hX hl hr.1 hk.f, hX.1]
    simp only [bind_p]
    have hz : nI (σ 4 e) + (nI (allN l) + iI (latZ σ e l)) = iI (sumZ σ l e) := by unfold sumZ; rw [nI_iI, nI_iI, iI_add, iI_add]; exact congrArg iI (by omega)
    rw [hz]
    exact reck_l hl hr hk hd hd' (by omega)
/-- what reckoning leaves: three columns of the rows -/
def RkO (S : Nat) (μ ν : Mem) : Prop := (∀ k, ¬ (S + 1 + 1 ≤ k ∧ k < S + 8) → gI ν k = gI μ k) ∧ (∀ k c, c < 7 ∨ 10 ≤ c → gI ν k c = gI μ k c) ∧ ∀ k, gL ν k = gL μ k
theorem RkO.rfl' (S : Nat) (μ : Mem) : RkO S μ μ := ⟨fun _ _ => rfl, fun _ _ _ => rfl, fun _ => rfl⟩
theorem RkO.trans {S : Nat} {a b c : Mem} (h : RkO S a b) (h' : RkO S b c) : RkO S a c := ⟨fun k hk => (h'.1 k hk).trans (h.1 k hk), fun k c hc => (h'.2.1 k c hc).trans (h.2.1 k c hc), fun k => (h'.2.2 k).trans (h.2.2 k)⟩
theorem RkO_M {μ : Mem} {S e d : Nat} {l : List CL} {σ : SG} (he : e < 6) : RkO S μ (rkM μ (S + 1 + 1 + e) σ l e d) := by
  unfold rkM
  refine ⟨fun k hk => ?_, fun k c hc => ?_, fun k => rfl⟩
  · rw [gI_sI_ne (by omega), gI_sI_ne (by omega), gI_sI_ne (by omega)]
  · rw [gI_ne2 (by omega), gI_ne2 (by omega), gI_ne2 (by omega)]
theorem RkO.X {S r e : Nat} {μ ν : Mem} {σ : SG} (h : RkO S μ ν) (hr : RowX μ r σ e) : RowX ν r σ e :=
  ⟨fun x hx => by rw [h.2.1 _ _ (by omega)]; exact hr.1 x hx, fun q hq => by rw [h.2.1 _ _ (by omega)]; exact hr.2 q hq⟩
theorem RkO.XS {S : Nat} {μ ν : Mem} {σ : SG} (h : RkO S μ ν) (hX : XS μ S σ) (hn : σ 0 0 ≤ 6 ∧ σ 27 0 ≤ 6 ∧ σ 31 0 ≤ 10 ∧ σ 34 0 ≤ 8) : XS ν S σ := by
  obtain ⟨⟨a1, a2, a3, a4⟩, b, ⟨c1, c2⟩, ⟨d1, d2⟩, e1, e2⟩ := hX
  have hc : ∀ k c, c < 7 → gI ν k c = gI μ k c := fun k c hc => h.2.1 k c (by omega)
  refine ⟨⟨?_, ?_, ?_, ?_⟩, fun x hx => ⟨fun c hcc => ?_, fun q hq => ?_⟩, ⟨?_, fun x hx => ⟨?_, ?_, ?_⟩⟩, ⟨?_, fun x hx => ⟨?_, fun h0 => ?_⟩⟩, ?_, fun x hx => ⟨?_, ?_⟩⟩
  · rw [hc _ _ (by omega)]; exact a1
  · rw [hc _ _ (by omega)]; exact a2
  · rw [hc _ _ (by omega)]; exact a3
  · rw [hc _ _ (by omega)]; exact a4
  · rw [hc _ _ hcc]; exact (b x hx).1 c hcc
  · rw [h.2.1 _ _ (by omega)]; exact (b x hx).2 q hq
  · rw [hc _ _ (by omega)]; exact c1
  · rw [hc _ _ (by omega)]; exact (c2 x hx).1
  · rw [hc _ _ (by omega)]; exact (c2 x hx).2.1
  · rw [hc _ _ (by omega)]; exact (c2 x hx).2.2
  · rw [hc _ _ (by omega)]; exact d1
  · rw [hc _ _ (by omega)]; exact (d2 x hx).1
  · rw [hc _ _ (by omega)]; exact (d2 x hx).2 h0
  · rw [hc _ _ (by omega)]; exact e1
  · rw [hc _ _ (by omega)]; exact (e2 x hx).1
  · rw [hc _ _ (by omega)]; exact (e2 x hx).2
theorem RkO.HX {S k : Nat} {μ ν : Mem} {l : List CL} (h : RkO S μ ν) (hk : S + 8 ≤ k ∨ k = 0) (hX : HX μ k l) : HX ν k l := by
  rcases hX with ⟨a, b⟩ | ⟨a, b⟩
  · exact .inl ⟨a, b⟩
  · exact .inr ⟨a, XC_c (fun j h1 h2 => h.1 j (by omega)) b⟩
/-- turn and rest stand in the rows -/
def Rk (μ : Mem) (S : Nat) (σ : SG) (l : List CL) (E : Nat) : Prop := ∀ e, e < E → gI μ (S + 1 + 1 + e) 7 = nI (tuE σ e) ∧ gI μ (S + 1 + 1 + e) 8 = nI (reE σ l e)
theorem reckA_l {μ : Mem} {S k2 d : Nat} {l : List CL} {σ : SG} (h6 : σ 0 0 ≤ 6) (h0 : gI μ S 0 = nI (σ 0 0)) (hH : HX μ k2 l) (hk2 : S + 8 ≤ k2 ∨ k2 = 0) (hl : okL l) (hr : ∀ e, e < σ 0 0 → RowX μ (S + 1 + 1 + e) σ e ∧ okE σ e) (hd : gI μ S 3 = nI d) (hd' : d ≤ 1000000) :
    ∀ m i n ν, i + m = σ 0 0 → m < n → RkO S μ ν → Rk ν S σ l i → (∀ e, e < i → gI ν (S + 1 + 1 + e) 9 = nxV σ l e d) →
      ∃ ξ, f_X2_reckonAll_2 S k2 n ν (nI i) = some ξ ∧ RkO S μ ξ ∧ Rk ξ S σ l (σ 0 0) ∧ ∀ e, e < σ 0 0 → gI ξ (S + 1 + 1 + e) 9 = nxV σ l e d := by
  intro m
  induction m with
  | zero =>
    intro i n ν hi hn hO hR h9
    obtain ⟨n, rfl⟩ := suc_of hn
    obtain rfl : i = σ 0 0 := by omega
    refine ⟨ν, ?_, hO, hR, h9⟩
    rw [f_X2_reckonAll_2, hO.1 S (by omega), h0, if_pos (nI_le (by omega) (by omega))]
  | succ m ih =>
    intro i n ν hi hn hO hR h9
    obtain ⟨n, rfl⟩ := suc_of hn
    have hnx : nI i + (1 : Int32) = nI (i + 1) := by rw [K1, nI_add]
    obtain ⟨hri, hki⟩ := hr i (by omega)
    have h1 := reck1 (e := i) (d := d) (by omega) (hO.HX hk2 hH) hl (hO.X hri) hki (by rw [hO.1 S (by omega)]; exact hd) hd'
    obtain ⟨ξ, e1, e2, e3, e4⟩ := ih (i + 1) n (rkM ν (S + 1 + 1 + i) σ l i d) (by omega) (by omega) (hO.trans (RkO_M (by omega))) (fun e he => by
      unfold rkM
      by_cases h : e = i
      · subst h
        rw [gI_ne2 (by omega), gI_ne2 (by omega), gI_at, gI_ne2 (by omega), gI_at]
        exact ⟨rfl, rfl⟩
      · rw [gI_ne1 (by omega), gI_ne1 (by omega), gI_ne1 (by omega), gI_ne1 (by omega), gI_ne1 (by omega), gI_ne1 (by omega)]
        exact hR e (by omega)) (fun e he => by
      unfold rkM
      by_cases h : e = i
      · subst h
        rw [gI_at]
      · rw [gI_ne1 (by omega), gI_ne1 (by omega), gI_ne1 (by omega)]
        exact h9 e (by omega))
    refine ⟨ξ, ?_, e2, e3, e4⟩
    rw [f_X2_reckonAll_2, hO.1 S (by omega), h0, if_neg (nI_ge (by omega) (by omega)), h1]
    simp only [bind_p]
    rw [hnx]
    exact e1
/-- the clauses of the store that holds -/
def clF (f : Nat → List CL) (σ : SG) : List CL := if σ 18 0 = 0 then [] else f (σ 18 0 - 1)
def hdK (σ : SG) : Nat := if σ 18 0 = 0 then 0 else 1000 + 10 * (σ 18 0 - 1)
/-- the stores of the class .. -/
def CX (μ : Mem) (st : Nat) (f : Nat → List CL) : Prop := st ≤ 6 ∧ gI μ 1 6 = nI st ∧ ∀ k, k < st → XC μ (1000 + 10 * k) (f k) ∧ okL (f k)
/-- .. of the reference -/
def CM (μ : Mem) (st : Nat) (f : Nat → List CL) : Prop := st ≤ 6 ∧ ∀ k, k < st → MC μ k (f k) ∧ okL (f k)
theorem okL_0 : okL [] := ⟨by simp, fun q hq => by cases hq⟩
theorem hold6 {μ : Mem} {S st : Nat} {f : Nat → List CL} {σ : SG} (hC : CX μ st f) (h4 : gI μ S 4 = nI (σ 18 0) - 1) (h : σ 18 0 ≤ st) : f_X6_holding μ S = some (hdK σ) ∧ HX μ (hdK σ) (clF f σ) ∧ okL (clF f σ) := by
  obtain ⟨c1, c2, c3⟩ := hC
  unfold f_X6_holding hdK clF
  rw [h4, c2]
  by_cases h0 : σ 18 0 = 0
  · rw [if_pos h0, if_pos h0, h0, w6_no]
    · refine ⟨?_, .inl ⟨rfl, rfl⟩, okL_0⟩
      simp only [bind_p]
      rw [if_pos (by decide)]
    · intro q
      exact absurd q.1 (by decide)
  · obtain ⟨j, hj⟩ : ∃ j, σ 18 0 = j + 1 := ⟨σ 18 0 - 1, by omega⟩
    rw [if_neg h0, if_neg h0, hj, K1, nI_sub (by omega), nI_sub (by omega), Nat.add_sub_cancel, L0, nI_lE (by omega), nI_lE (by omega), w6T (by omega) (by omega) (by omega)]
    refine ⟨?_, .inr ⟨by omega, (c3 j (by omega)).1⟩, (c3 j (by omega)).2⟩
    simp only [bind_p]
    rw [if_neg (by decide), aix_n (by omega) (by omega)]
    rfl
theorem holdM {μ : Mem} {st : Nat} {f : Nat → List CL} {σ : SG} (hC : CM μ st f) (hM : MS μ σ) (h : σ 18 0 ≤ st) : HM μ (clF f σ) ∧ okL (clF f σ) := by
  obtain ⟨c1, c3⟩ := hC
  have h18 := hM.1.2.2.2
  unfold clF
  by_cases h0 : σ 18 0 = 0
  · rw [if_pos h0]
    rw [h0] at h18
    exact ⟨.inl ⟨h18, rfl⟩, okL_0⟩
  · obtain ⟨j, hj⟩ : ∃ j, σ 18 0 = j + 1 := ⟨σ 18 0 - 1, by omega⟩
    rw [if_neg h0, hj, Nat.add_sub_cancel]
    rw [hj, K1, nI_sub (by omega), Nat.add_sub_cancel] at h18
    exact ⟨.inr ⟨j, by omega, h18, (c3 j (by omega)).1⟩, (c3 j (by omega)).2⟩
theorem CX.O {μ ν : Mem} {st : Nat} {f : Nat → List CL} (hC : CX μ st f) (h : ∀ k, k = 1 ∨ (1000 ≤ k ∧ k < 1100) → gI ν k = gI μ k) : CX ν st f := by
  obtain ⟨c1, c2, c3⟩ := hC
  refine ⟨c1, by rw [h 1 (by omega)]; exact c2, fun k hk => ⟨XC_c (fun j h1 h2 => h j (by omega)) (c3 k hk).1, (c3 k hk).2⟩⟩
theorem CM.O {μ ν : Mem} {st : Nat} {f : Nat → List CL} (hC : CM μ st f) (h : ∀ k, 2019 ≤ k ∧ k ≤ 2024 → gI ν k = gI μ k) : CM ν st f := by
  obtain ⟨c1, c3⟩ := hC
  exact ⟨c1, fun k hk => ⟨MC_c (fun j h1 h2 => h j (by omega)) (c3 k hk).1, (c3 k hk).2⟩⟩
theorem RR.CX {T : PT} {μ : Mem} (hR : RR T μ) : CX μ (T.1 2 17 0) T.2.2 := by
  obtain ⟨⟨_, _, _, ⟨x4, x4'⟩, _⟩, _, _, _, _, ⟨o4, o4'⟩, _⟩ := hR
  exact ⟨o4, x4, fun k hk => ⟨x4' k hk, o4' k hk⟩⟩
theorem RR.CM {T : PT} {μ : Mem} (hR : RR T μ) : CM μ (T.1 2 17 0) T.2.2 := by
  obtain ⟨_, ⟨_, _, _, ⟨_, c, _, _, m4⟩, _⟩, _, _, _, ⟨o4, o4'⟩, _⟩ := hR
  exact ⟨o4, fun k hk => ⟨(m4 k hk).1, o4' k hk⟩⟩
/-- the bounds that a trial keeps -/
def okDy (w D st : Nat) (σ : SG) : Prop := (σ 0 0 ≤ 6 ∧ σ 27 0 ≤ 6 ∧ σ 31 0 ≤ 10 ∧ σ 34 0 ≤ 8) ∧ (σ 9 0 ≤ 127 ∧ σ 10 0 ≤ D ∧ σ 18 0 ≤ st) ∧ ∀ e, e < σ 0 0 → okE σ e ∧ σ 6 e ≤ w ∧ σ 7 e ≤ w
theorem okS.dy {W st : Nat} {σ : SG} (h : okS W st σ) : okDy W 99999 st σ := ⟨h.n, ⟨h.1.2.1, h.1.2.2.1, h.1.2.2.2⟩, fun e he => ⟨h.e he, (h.2.1 e he).1.2.2.2.2.2.2.1, (h.2.1 e he).1.2.2.2.2.2.2.2⟩⟩
theorem XS.rows {μ : Mem} {S w D st : Nat} {σ : SG} (hX : XS μ S σ) (ho : okDy w D st σ) : ∀ e, e < σ 0 0 → RowX μ (S + 1 + 1 + e) σ e ∧ okE σ e := fun e he => ⟨hX.2.1 e he, (ho.2.2 e he).1⟩
theorem MS.rows {μ : Mem} {w D st : Nat} {σ : SG} (hX : MS μ σ) (ho : okDy w D st σ) : ∀ e, e < σ 0 0 → RowM μ σ e ∧ okE σ e := fun e he => ⟨hX.2.1 e he, (ho.2.2 e he).1⟩
theorem reckon6 {μ : Mem} {S w D st : Nat} {f : Nat → List CL} {σ : SG} (hS : S + 8 ≤ 1000) (hC : CX μ st f) (hX : XS μ S σ) (ho : okDy w D st σ) (hD : D ≤ 1000000) : ∃ ν, f_X6_reckon μ S = some ν ∧ RkO S μ ν ∧ Rk ν S σ (clF f σ) (σ 0 0) ∧ (∀ e, e < σ 0 0 → gI ν (S + 1 + 1 + e) 9 = nxV σ (clF f σ) e (σ 10 0)) ∧ XS ν S σ := by
  obtain ⟨h1, h2, h3⟩ := hold6 hC hX.1.2.2.2 ho.2.1.2.2
  have h6 := ho.1.1
  have hd := ho.2.1.2.1
  obtain ⟨ν, e1, e2, e3, e4⟩ := reckA_l (k2 := hdK σ) (d := σ 10 0) h6 hX.1.1 h2 (by unfold hdK; split <;> omega) h3 (hX.rows ho) hX.1.2.2.1 (by omega) (σ 0 0) 0 FU μ (by omega) (FU_p _ (by omega)) (RkO.rfl' _ _) (fun e he => by omega) (fun e he => by omega)
  refine ⟨ν, ?_, e2, e3, e4, e2.XS hX ho.1⟩
  unfold f_X6_reckon f_X2_reckonAll
  rw [h1]
  simp only [bind_p]
  rw [K0, e1]
  rfl
