/-! an E is looked at: the class with bits, the reference with a stack -/
def vlOf (σ : SG) (e L : Nat) : Nat := if L = 0 then e else if L ≤ 5 then σ L e else 0
def rel (s v n : Nat) : Bool := if s = 0 then decide (v < n) else if s = 1 then decide (v = n) else decide (n < v)
def tst (σ : SG) (e c : Nat) : Bool := rel ((c - 3) / 100 % 3) (vlOf σ e ((c - 3) / 300)) ((c - 3) % 100)
def sNot : List Bool → List Bool
  | b :: r => (!b) :: r
  | [] => []
def sAnd : List Bool → List Bool
  | b :: a :: r => (a && b) :: r
  | r => r
def sOr : List Bool → List Bool
  | b :: a :: r => (a || b) :: r
  | r => r
def stp (σ : SG) (e c : Nat) (st : List Bool) : List Bool := if c = 0 then sNot st else if c = 1 then sAnd st else if c = 2 then sOr st else tst σ e c :: st
def evs (σ : SG) (e : Nat) : List Nat → List Bool → List Bool
  | [], st => st
  | c :: cs, st => evs σ e cs (stp σ e c st)
def bI (b : Bool) : Int32 := if b then nI 1 else nI 0
theorem bI_t : bI true = nI 1 := rfl
theorem bI_f : bI false = nI 0 := rfl
theorem dep_c {c d : Nat} {cs : List Nat} (h : dep (c :: cs) d = some 1) : (c = 0 ∧ 1 ≤ d ∧ dep cs d = some 1) ∨ ((c = 1 ∨ c = 2) ∧ 2 ≤ d ∧ dep cs (d - 1) = some 1) ∨ (3 ≤ c ∧ c < 1803 ∧ d < 20 ∧ dep cs (d + 1) = some 1) := by
  rw [dep] at h
  by_cases h0 : c = 0
  · rw [if_pos h0] at h
    by_cases h1 : 1 ≤ d
    · rw [if_pos h1] at h; exact .inl ⟨h0, h1, h⟩
    · rw [if_neg h1] at h; cases h
  · rw [if_neg h0] at h
    by_cases h2 : c ≤ 2
    · rw [if_pos h2] at h
      by_cases h1 : 2 ≤ d
      · rw [if_pos h1] at h; exact .inr (.inl ⟨by omega, h1, h⟩)
      · rw [if_neg h1] at h; cases h
    · rw [if_neg h2] at h
      by_cases h3 : c < 1803
      · rw [if_pos h3] at h
        by_cases h1 : d < 20
        · rw [if_pos h1] at h; exact .inr (.inr ⟨by omega, h3, h1, h⟩)
        · rw [if_neg h1] at h; cases h
      · rw [if_neg h3] at h; cases h
theorem rel_36 {μ : Mem} {k1 s v n : Nat} (hs : s ≤ 2) (hv : v ≤ 99) (hn : n ≤ 99) : f_X3_passes_36 μ k1 (nI s) (nI n) (nI v) = some (bI (rel s v n)) := by
  unfold f_X3_passes_36 rel
  rcases (show s = 0 ∨ s = 1 ∨ s = 2 by omega) with rfl | rfl | rfl
  · rw [if_pos (rfl : (0 : Nat) = 0)]
    by_cases h : v < n
    · rw [decide_eq_true h]; simp (disch := omega) only [ofN, lC_lt, lC_ge, lC_eq, lC_gt, lC_le, T_ltL, F_ltL, T_leL, F_leL, T_eqL, F_eqL, m1_0, lN_add, nI_lE, lN_i, ↓reduceIte, bind_s, T_lt, F_lt, T_le, F_le, T_eq, F_eq, F_neg, T_ltm, F_lem, F_ltm, nI_add, nI_mul, nI_sub, ldI_n, stI_n, aix_n, ldL_n, stL_n, ldF_n, gI_atE, gI_ne1, gI_ne2, gL_atE, gL_ne1, gL_ne2, gL_s, gI_s, w7T, w7F1, w7F2, and31, K0, K1, K2, K3, K4, K5, K6, K7, K8, K9, K10, K11, K12, K14, K16, K18, K20, K24, K29, K30, K31, K32, K33, K36, K38, K40, K41, K42, K48, K50, K51, K54, K57, K59, K60, K63, K70, K71, K84, K94, K97, K100, K101, K104, K108, K112, K120, K121, K122, K123, K124, K125, K127, K255, K300, K1000, K9999, K99999, K2147483647, bI_t]
    · rw [decide_eq_false h]; simp (disch := omega) only [ofN, lC_lt, lC_ge, lC_eq, lC_gt, lC_le, T_ltL, F_ltL, T_leL, F_leL, T_eqL, F_eqL, m1_0, lN_add, nI_lE, lN_i, ↓reduceIte, bind_s, T_lt, F_lt, T_le, F_le, T_eq, F_eq, F_neg, T_ltm, F_lem, F_ltm, nI_add, nI_mul, nI_sub, ldI_n, stI_n, aix_n, ldL_n, stL_n, ldF_n, gI_atE, gI_ne1, gI_ne2, gL_atE, gL_ne1, gL_ne2, gL_s, gI_s, w7T, w7F1, w7F2, and31, K0, K1, K2, K3, K4, K5, K6, K7, K8, K9, K10, K11, K12, K14, K16, K18, K20, K24, K29, K30, K31, K32, K33, K36, K38, K40, K41, K42, K48, K50, K51, K54, K57, K59, K60, K63, K70, K71, K84, K94, K97, K100, K101, K104, K108, K112, K120, K121, K122, K123, K124, K125, K127, K255, K300, K1000, K9999, K99999, K2147483647, bI_f]
  · rw [if_neg (by decide : ¬ (1 : Nat) = 0), if_pos (rfl : (1 : Nat) = 1)]
    by_cases h : v = n
    · rw [decide_eq_true h]; simp (disch := omega) only [ofN, lC_lt, lC_ge, lC_eq, lC_gt, lC_le, T_ltL, F_ltL, T_leL, F_leL, T_eqL, F_eqL, m1_0, lN_add, nI_lE, lN_i, ↓reduceIte, bind_s, T_lt, F_lt, T_le, F_le, T_eq, F_eq, F_neg, T_ltm, F_lem, F_ltm, nI_add, nI_mul, nI_sub, ldI_n, stI_n, aix_n, ldL_n, stL_n, ldF_n, gI_atE, gI_ne1, gI_ne2, gL_atE, gL_ne1, gL_ne2, gL_s, gI_s, w7T, w7F1, w7F2, and31, K0, K1, K2, K3, K4, K5, K6, K7, K8, K9, K10, K11, K12, K14, K16, K18, K20, K24, K29, K30, K31, K32, K33, K36, K38, K40, K41, K42, K48, K50, K51, K54, K57, K59, K60, K63, K70, K71, K84, K94, K97, K100, K101, K104, K108, K112, K120, K121, K122, K123, K124, K125, K127, K255, K300, K1000, K9999, K99999, K2147483647, bI_t]
    · rw [decide_eq_false h]; simp (disch := omega) only [ofN, lC_lt, lC_ge, lC_eq, lC_gt, lC_le, T_ltL, F_ltL, T_leL, F_leL, T_eqL, F_eqL, m1_0, lN_add, nI_lE, lN_i, ↓reduceIte, bind_s, T_lt, F_lt, T_le, F_le, T_eq, F_eq, F_neg, T_ltm, F_lem, F_ltm, nI_add, nI_mul, nI_sub, ldI_n, stI_n, aix_n, ldL_n, stL_n, ldF_n, gI_atE, gI_ne1, gI_ne2, gL_atE, gL_ne1, gL_ne2, gL_s, gI_s, w7T, w7F1, w7F2, and31, K0, K1, K2, K3, K4, K5, K6, K7, K8, K9, K10, K11, K12, K14, K16, K18, K20, K24, K29, K30, K31, K32, K33, K36, K38, K40, K41, K42, K48, K50, K51, K54, K57, K59, K60, K63, K70, K71, K84, K94, K97, K100, K101, K104, K108, K112, K120, K121, K122, K123, K124, K125, K127, K255, K300, K1000, K9999, K99999, K2147483647, bI_f]
  · rw [if_neg (by decide : ¬ (2 : Nat) = 0), if_neg (by decide : ¬ (2 : Nat) = 1)]
    by_cases h : n < v
    · rw [decide_eq_true h]; simp (disch := omega) only [ofN, lC_lt, lC_ge, lC_eq, lC_gt, lC_le, T_ltL, F_ltL, T_leL, F_leL, T_eqL, F_eqL, m1_0, lN_add, nI_lE, lN_i, ↓reduceIte, bind_s, T_lt, F_lt, T_le, F_le, T_eq, F_eq, F_neg, T_ltm, F_lem, F_ltm, nI_add, nI_mul, nI_sub, ldI_n, stI_n, aix_n, ldL_n, stL_n, ldF_n, gI_atE, gI_ne1, gI_ne2, gL_atE, gL_ne1, gL_ne2, gL_s, gI_s, w7T, w7F1, w7F2, and31, K0, K1, K2, K3, K4, K5, K6, K7, K8, K9, K10, K11, K12, K14, K16, K18, K20, K24, K29, K30, K31, K32, K33, K36, K38, K40, K41, K42, K48, K50, K51, K54, K57, K59, K60, K63, K70, K71, K84, K94, K97, K100, K101, K104, K108, K112, K120, K121, K122, K123, K124, K125, K127, K255, K300, K1000, K9999, K99999, K2147483647, bI_t]
    · rw [decide_eq_false h]; simp (disch := omega) only [ofN, lC_lt, lC_ge, lC_eq, lC_gt, lC_le, T_ltL, F_ltL, T_leL, F_leL, T_eqL, F_eqL, m1_0, lN_add, nI_lE, lN_i, ↓reduceIte, bind_s, T_lt, F_lt, T_le, F_le, T_eq, F_eq, F_neg, T_ltm, F_lem, F_ltm, nI_add, nI_mul, nI_sub, ldI_n, stI_n, aix_n, ldL_n, stL_n, ldF_n, gI_atE, gI_ne1, gI_ne2, gL_atE, gL_ne1, gL_ne2, gL_s, gI_s, w7T, w7F1, w7F2, and31, K0, K1, K2, K3, K4, K5, K6, K7, K8, K9, K10, K11, K12, K14, K16, K18, K20, K24, K29, K30, K31, K32, K33, K36, K38, K40, K41, K42, K48, K50, K51, K54, K57, K59, K60, K63, K70, K71, K84, K94, K97, K100, K101, K104, K108, K112, K120, K121, K122, K123, K124, K125, K127, K255, K300, K1000, K9999, K99999, K2147483647, bI_f]
theorem tok_3 {c : Nat} (h : 3 ≤ c) : tokX c = nI ((c - 3) / 300 * 1000 + (c - 3) / 100 % 3 * 100 + (c - 3) % 100) := by
  unfold tokX
  rw [if_neg (by omega), if_neg (by omega), if_neg (by omega)]
theorem passes6 {μ : Mem} {k1 e c : Nat} {σ : SG} (he : e < 6) (hrow : ∀ x, x < 7 → gI μ k1 x = nI (σ (x + 1) e)) (hb : ∀ f, 1 ≤ f → f ≤ 5 → σ f e ≤ 30) (h3 : 3 ≤ c) (hc : c < 1803) : f_X3_passes μ (tokX c) k1 (nI e) = some (bI (tst σ e c)) := by
  rw [tok_3 h3]
  unfold tst
  obtain ⟨L, hL⟩ : ∃ L, L = (c - 3) / 300 := ⟨_, rfl⟩
  obtain ⟨s, hs⟩ : ∃ s, s = (c - 3) / 100 % 3 := ⟨_, rfl⟩
  obtain ⟨n, hn⟩ : ∃ n, n = (c - 3) % 100 := ⟨_, rfl⟩
  rw [← hL, ← hs, ← hn]
  have hL5 : L ≤ 5 := by omega
  have hs2 : s ≤ 2 := by omega
  have hn9 : n ≤ 99 := by omega
  have e1 : (L * 1000 + s * 100 + n) / 1000 = L := by omega
  have e2 : (L * 1000 + s * 100 + n) / 100 = L * 10 + s := by omega
  have e3 : (L * 10 + s) % 10 = s := by omega
  have e4 : (L * 1000 + s * 100 + n) % 100 = n := by omega
  clear hL hs hn
  unfold f_X3_passes
  rw [K1000, K100, K10, dvI_n (by omega) (by omega) (by omega), dvI_n (by omega) (by omega) (by omega), rmI_n (by omega) (by omega) (by omega), e1, e2, e4]
  simp only [bind_s]
  rw [rmI_n (by omega) (by omega) (by omega), e3]
  simp only [bind_s]
  by_cases h0 : L = 0
  · subst h0
    rw [if_pos (show nI 0 = 0 from rfl), rel_36 hs2 (by omega) hn9]
    rfl
  · have hv : gI μ k1 (0 + L - 1) = nI (σ L e) := by rw [show 0 + L - 1 = L - 1 by omega, hrow (L - 1) (by omega), show L - 1 + 1 = L by omega]
    have hvb := hb L (by omega) (by omega)
    rw [K0, K1, if_neg (by rw [nI_eq (by omega) (by omega)]; exact h0), nI_add, nI_sub (by omega), ldI_n (by omega) (by omega), hv]
    simp only [bind_s]
    rw [rel_36 hs2 (by omega) hn9]
    unfold vlOf
    rw [if_neg h0, if_pos hL5]
def Enc (a : Int32) (st : List Bool) : Prop := ∀ i, i < 32 → a.toBitVec.getLsbD i = st.getD i false
theorem bit_1 : ∀ i, i < 32 → (1 : Int32).toBitVec.getLsbD i = decide (i = 0) := by decide +kernel
theorem bit_0 : ∀ i, i < 32 → (0 : Int32).toBitVec.getLsbD i = false := by decide +kernel
theorem bit_m2 : ∀ i, i < 32 → (-2 : Int32).toBitVec.getLsbD i = !decide (i = 0) := by decide +kernel
theorem sh_1 : ((1 : Int32) &&& 31).toBitVec.smod 32 = 1#32 := by decide +kernel
theorem bit_shr (a : Int32) (i : Nat) (hi : i < 32) : (a >>> ((1 : Int32) &&& 31)).toBitVec.getLsbD i = if i + 1 < 32 then a.toBitVec.getLsbD (i + 1) else a.toBitVec.getLsbD 31 := by
  rw [Int32.toBitVec_shiftRight, sh_1, BitVec.getLsbD_sshiftRight', show (1#32).toNat = 1 from rfl, decide_eq_false (by omega), Nat.add_comm 1 i]
  simp only [Bool.not_false, Bool.true_and]
  split
  · rfl
  · rw [BitVec.msb_eq_getLsbD_last]
theorem bit_shl (a : Int32) (i : Nat) (hi : i < 32) : (a <<< ((1 : Int32) &&& 31)).toBitVec.getLsbD i = if i = 0 then false else a.toBitVec.getLsbD (i - 1) := by
  rw [Int32.toBitVec_shiftLeft, sh_1, BitVec.shiftLeft_eq', show (1#32).toNat = 1 from rfl, BitVec.getLsbD_shiftLeft, decide_eq_true hi]
  by_cases h : i = 0
  · subst h; rfl
  · rw [decide_eq_false (by omega), if_neg h]; rfl
theorem gD_0 (b : Bool) (r : List Bool) : (b :: r).getD 0 false = b := rfl
theorem gD_s (b : Bool) (r : List Bool) (i : Nat) : (b :: r).getD (i + 1) false = r.getD i false := rfl
theorem gD_hi : ∀ (r : List Bool) (i : Nat), r.length ≤ i → r.getD i false = false
  | [], _, _ => rfl
  | b :: r, 0, h => by simp at h
  | b :: r, i + 1, h => by rw [gD_s]; exact gD_hi r i (by simp at h; omega)
theorem enc_0 : Enc (0 : Int32) [] := fun i hi => bit_0 i hi
theorem enc_not {a : Int32} {b : Bool} {r : List Bool} (h : Enc a (b :: r)) : Enc (a ^^^ (1 : Int32)) ((!b) :: r) := fun i hi => by
  rw [Int32.toBitVec_xor, BitVec.getLsbD_xor, h i hi, bit_1 i hi]
  cases i with
  | zero => rw [gD_0, gD_0]; cases b <;> rfl
  | succ i => rw [gD_s, gD_s, decide_eq_false (by omega), Bool.xor_false]
theorem enc_and {a : Int32} {b c : Bool} {r : List Bool} (h : Enc a (b :: c :: r)) (hr : r.length < 20) : Enc ((a >>> ((1 : Int32) &&& 31)) &&& (a ||| (-2 : Int32))) ((c && b) :: r) := fun i hi => by
  rw [Int32.toBitVec_and, BitVec.getLsbD_and, bit_shr a i hi, Int32.toBitVec_or, BitVec.getLsbD_or, bit_m2 i hi, h i hi, h 31 (by omega)]
  by_cases h1 : i + 1 < 32
  · rw [if_pos h1, h (i + 1) h1, gD_s]
    cases i with
    | zero => rw [gD_0, gD_0, gD_0, decide_eq_true rfl]; cases b <;> cases c <;> rfl
    | succ i => rw [gD_s, gD_s, decide_eq_false (by omega)]; simp
  · rw [if_neg h1, gD_hi (b :: c :: r) 31 (by simp; omega), Bool.false_and, gD_hi ((c && b) :: r) i (by simp; omega)]
theorem enc_or {a : Int32} {b c : Bool} {r : List Bool} (h : Enc a (b :: c :: r)) (hr : r.length < 20) : Enc ((a >>> ((1 : Int32) &&& 31)) ||| (a &&& (1 : Int32))) ((c || b) :: r) := fun i hi => by
  rw [Int32.toBitVec_or, BitVec.getLsbD_or, bit_shr a i hi, Int32.toBitVec_and, BitVec.getLsbD_and, bit_1 i hi, h i hi, h 31 (by omega)]
  by_cases h1 : i + 1 < 32
  · rw [if_pos h1, h (i + 1) h1, gD_s]
    cases i with
    | zero => rw [gD_0, gD_0, gD_0, decide_eq_true rfl]; cases b <;> cases c <;> rfl
    | succ i => rw [gD_s, gD_s, decide_eq_false (by omega)]; simp
  · rw [if_neg h1, gD_hi (b :: c :: r) 31 (by simp; omega), decide_eq_false (by omega), Bool.and_false, Bool.or_false, gD_hi ((c || b) :: r) i (by simp; omega)]
theorem enc_push {a : Int32} {b : Bool} {r : List Bool} (h : Enc a r) : Enc ((a <<< ((1 : Int32) &&& 31)) ||| bI b) (b :: r) := fun i hi => by
  rw [Int32.toBitVec_or, BitVec.getLsbD_or, bit_shl a i hi]
  have hb : (bI b).toBitVec.getLsbD i = (b && decide (i = 0)) := by
    cases b
    · exact bit_0 i hi
    · exact bit_1 i hi
  rw [hb]
  cases i with
  | zero => rw [if_pos rfl, gD_0, decide_eq_true rfl]; cases b <;> rfl
  | succ i => rw [if_neg (by omega), gD_s, Nat.add_sub_cancel, h i (by omega), decide_eq_false (by omega), Bool.and_false, Bool.or_false]
theorem enc_end {a : Int32} {r : List Bool} (h : Enc a r) : a &&& (1 : Int32) = bI (r.headD false) := by
  apply Int32.toBitVec_inj.mp
  apply BitVec.eq_of_getLsbD_eq
  intro i hi
  rw [Int32.toBitVec_and, BitVec.getLsbD_and, h i hi, bit_1 i hi]
  have hb : (bI (r.headD false)).toBitVec.getLsbD i = (r.headD false && decide (i = 0)) := by
    cases r.headD false
    · exact bit_0 i hi
    · exact bit_1 i hi
  rw [hb]
  cases i with
  | zero => cases r <;> rfl
  | succ i => rw [decide_eq_false (by omega), Bool.and_false, Bool.and_false]
theorem tok_ne {c b : Nat} (h3 : 3 ≤ c) (hc : c < 1803) (hb : 0 < b) (hb' : b < 2147483648) : ¬ tokX c = -nI b := fun q => by
  rw [tok_3 h3, F_neg (by omega) hb' hb] at q
  exact q
theorem hold_l {μ : Mem} {k0 k1 e E : Nat} {σ : SG} (he : e < 6) (hrow : ∀ x, x < 7 → gI μ k1 x = nI (σ (x + 1) e)) (hb : ∀ f, 1 ≤ f → f ≤ 5 → σ f e ≤ 30) (hE : E ≤ 100) :
    ∀ (cs : List Nat) n a i st, (∀ j, (hj : j < cs.length) → gI μ (k0 + 3) (i + j) = tokX cs[j]) → i + cs.length = E → cs.length < n → Enc a st → st.length ≤ 20 → dep cs st.length = some 1 →
      f_X3_holdsFor_6 μ k0 k1 n (nI e) (nI E) a (nI i) = some (bI ((evs σ e cs st).headD false)) := by
  intro cs
  induction cs with
  | nil =>
    intro n a i st ht hi hn hA hl hd
    obtain ⟨n, rfl⟩ := suc_of hn
    simp only [List.length_nil] at hi
    rw [f_X3_holdsFor_6, if_pos (nI_le (by omega) (by omega)), enc_end hA, evs]
    cases st.headD false
    · rw [bI_f]; simp (disch := omega) only [ofN, lC_lt, lC_ge, lC_eq, lC_gt, lC_le, T_ltL, F_ltL, T_leL, F_leL, T_eqL, F_eqL, m1_0, lN_add, nI_lE, lN_i, ↓reduceIte, bind_s, T_lt, F_lt, T_le, F_le, T_eq, F_eq, F_neg, T_ltm, F_lem, F_ltm, nI_add, nI_mul, nI_sub, ldI_n, stI_n, aix_n, ldL_n, stL_n, ldF_n, gI_atE, gI_ne1, gI_ne2, gL_atE, gL_ne1, gL_ne2, gL_s, gI_s, w7T, w7F1, w7F2, and31, K0, K1, K2, K3, K4, K5, K6, K7, K8, K9, K10, K11, K12, K14, K16, K18, K20, K24, K29, K30, K31, K32, K33, K36, K38, K40, K41, K42, K48, K50, K51, K54, K57, K59, K60, K63, K70, K71, K84, K94, K97, K100, K101, K104, K108, K112, K120, K121, K122, K123, K124, K125, K127, K255, K300, K1000, K9999, K99999, K2147483647]
    · rw [bI_t]; simp (disch := omega) only [ofN, lC_lt, lC_ge, lC_eq, lC_gt, lC_le, T_ltL, F_ltL, T_leL, F_leL, T_eqL, F_eqL, m1_0, lN_add, nI_lE, lN_i, ↓reduceIte, bind_s, T_lt, F_lt, T_le, F_le, T_eq, F_eq, F_neg, T_ltm, F_lem, F_ltm, nI_add, nI_mul, nI_sub, ldI_n, stI_n, aix_n, ldL_n, stL_n, ldF_n, gI_atE, gI_ne1, gI_ne2, gL_atE, gL_ne1, gL_ne2, gL_s, gI_s, w7T, w7F1, w7F2, and31, K0, K1, K2, K3, K4, K5, K6, K7, K8, K9, K10, K11, K12, K14, K16, K18, K20, K24, K29, K30, K31, K32, K33, K36, K38, K40, K41, K42, K48, K50, K51, K54, K57, K59, K60, K63, K70, K71, K84, K94, K97, K100, K101, K104, K108, K112, K120, K121, K122, K123, K124, K125, K127, K255, K300, K1000, K9999, K99999, K2147483647]
  | cons c cs ih =>
    intro n a i st ht hi hn hA hl hd
    obtain ⟨n, rfl⟩ := suc_of hn
    simp only [List.length_cons] at hi hn
    have ht0 : gI μ (k0 + 3) i = tokX c := ht 0 (by simp)
    have hts : ∀ j, (hj : j < cs.length) → gI μ (k0 + 3) (i + 1 + j) = tokX cs[j] := fun j hj => by
      have := ht (j + 1) (by simp; omega)
      rw [show i + 1 + j = i + (j + 1) by omega, this]
      rfl
    rw [f_X3_holdsFor_6, if_neg (nI_ge (by omega) (by omega)), ldI_n (by omega) (by omega), ht0, evs]
    simp only [bind_s]
    have hnx : nI i + (1 : Int32) = nI (i + 1) := by rw [K1, nI_add]
    rcases dep_c hd with ⟨rfl, h1, h2⟩ | ⟨hc, h1, h2⟩ | ⟨h3, hc, h1, h2⟩
    · cases st with
      | nil => simp at h1
      | cons b r =>
        rw [if_pos (show tokX 0 = -1 from rfl), f_X3_holdsFor_102]
        simp only [bind_s]
        rw [hnx]
        exact ih n _ (i + 1) ((!b) :: r) hts (by omega) (by omega) (enc_not hA) (by simpa using hl) (by simpa using h2)
    · match st, h1, hA, hl, h2 with
      | b :: a' :: r, _, hA, hl, h2 =>
        simp only [List.length_cons] at hl h2
        rcases hc with rfl | rfl
        · rw [if_neg (by decide), if_pos (show tokX 1 = -2 from rfl), f_X3_holdsFor_102]
          simp only [bind_s]
          rw [hnx]
          exact ih n _ (i + 1) ((a' && b) :: r) hts (by omega) (by omega) (enc_and hA (by omega)) (by simp; omega) (by simpa using h2)
        · rw [if_neg (by decide), if_neg (by decide), if_pos (show tokX 2 = -3 from rfl), f_X3_holdsFor_102]
          simp only [bind_s]
          rw [hnx]
          exact ih n _ (i + 1) ((a' || b) :: r) hts (by omega) (by omega) (enc_or hA (by omega)) (by simp; omega) (by simpa using h2)
    · rw [if_neg (show ¬ tokX c = -1 from tok_ne (b := 1) h3 hc (by omega) (by omega)), if_neg (show ¬ tokX c = -2 from tok_ne (b := 2) h3 hc (by omega) (by omega)), if_neg (show ¬ tokX c = -3 from tok_ne (b := 3) h3 hc (by omega) (by omega)), passes6 he hrow hb h3 hc]
      simp only [bind_s]
      have hst : stp σ e c st = tst σ e c :: st := by unfold stp; rw [if_neg (by omega), if_neg (by omega), if_neg (by omega)]
      rw [hst]
      have key := ih n ((a <<< ((1 : Int32) &&& 31)) ||| bI (tst σ e c)) (i + 1) (tst σ e c :: st) hts (by omega) (by omega) (enc_push hA) (by simp; omega) (by simpa using h2)
      cases hb : tst σ e c
      · rw [hb] at key
        rw [bI_f, if_pos (show nI 0 = 0 from rfl), f_X3_holdsFor_99]
        unfold f_X3_holdsFor_102
        simp only [bind_s]
        rw [hnx]
        exact key
      · rw [hb] at key
        rw [bI_t, if_neg (show ¬ nI 1 = 0 by decide), f_X3_holdsFor_99]
        unfold f_X3_holdsFor_102
        simp only [bind_s]
        rw [hnx]
        exact key
