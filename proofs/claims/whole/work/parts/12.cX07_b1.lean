theorem K0 : (0 : Int32) = nI 0 := rfl
theorem K1 : (1 : Int32) = nI 1 := rfl
theorem K2 : (2 : Int32) = nI 2 := rfl
theorem K3 : (3 : Int32) = nI 3 := rfl
theorem K4 : (4 : Int32) = nI 4 := rfl
theorem K5 : (5 : Int32) = nI 5 := rfl
theorem K6 : (6 : Int32) = nI 6 := rfl
theorem K7 : (7 : Int32) = nI 7 := rfl
theorem K8 : (8 : Int32) = nI 8 := rfl
theorem K9 : (9 : Int32) = nI 9 := rfl
theorem K10 : (10 : Int32) = nI 10 := rfl
theorem K11 : (11 : Int32) = nI 11 := rfl
theorem K12 : (12 : Int32) = nI 12 := rfl
theorem K14 : (14 : Int32) = nI 14 := rfl
theorem K16 : (16 : Int32) = nI 16 := rfl
theorem K18 : (18 : Int32) = nI 18 := rfl
theorem K20 : (20 : Int32) = nI 20 := rfl
theorem K24 : (24 : Int32) = nI 24 := rfl
theorem K29 : (29 : Int32) = nI 29 := rfl
theorem K30 : (30 : Int32) = nI 30 := rfl
theorem K31 : (31 : Int32) = nI 31 := rfl
theorem K32 : (32 : Int32) = nI 32 := rfl
theorem K33 : (33 : Int32) = nI 33 := rfl
theorem K36 : (36 : Int32) = nI 36 := rfl
theorem K38 : (38 : Int32) = nI 38 := rfl
theorem K40 : (40 : Int32) = nI 40 := rfl
theorem K41 : (41 : Int32) = nI 41 := rfl
theorem K42 : (42 : Int32) = nI 42 := rfl
theorem K48 : (48 : Int32) = nI 48 := rfl
theorem K50 : (50 : Int32) = nI 50 := rfl
theorem K51 : (51 : Int32) = nI 51 := rfl
theorem K54 : (54 : Int32) = nI 54 := rfl
theorem K57 : (57 : Int32) = nI 57 := rfl
theorem K59 : (59 : Int32) = nI 59 := rfl
theorem K60 : (60 : Int32) = nI 60 := rfl
theorem K63 : (63 : Int32) = nI 63 := rfl
theorem K70 : (70 : Int32) = nI 70 := rfl
theorem K71 : (71 : Int32) = nI 71 := rfl
theorem K84 : (84 : Int32) = nI 84 := rfl
theorem K94 : (94 : Int32) = nI 94 := rfl
theorem K97 : (97 : Int32) = nI 97 := rfl
theorem K100 : (100 : Int32) = nI 100 := rfl
theorem K101 : (101 : Int32) = nI 101 := rfl
theorem K104 : (104 : Int32) = nI 104 := rfl
theorem K108 : (108 : Int32) = nI 108 := rfl
theorem K112 : (112 : Int32) = nI 112 := rfl
theorem K120 : (120 : Int32) = nI 120 := rfl
theorem K121 : (121 : Int32) = nI 121 := rfl
theorem K122 : (122 : Int32) = nI 122 := rfl
theorem K123 : (123 : Int32) = nI 123 := rfl
theorem K124 : (124 : Int32) = nI 124 := rfl
theorem K125 : (125 : Int32) = nI 125 := rfl
theorem K127 : (127 : Int32) = nI 127 := rfl
theorem K255 : (255 : Int32) = nI 255 := rfl
theorem K300 : (300 : Int32) = nI 300 := rfl
theorem K1000 : (1000 : Int32) = nI 1000 := rfl
theorem K9999 : (9999 : Int32) = nI 9999 := rfl
theorem K99999 : (99999 : Int32) = nI 99999 := rfl
theorem K2147483647 : (2147483647 : Int32) = nI 2147483647 := rfl
theorem L0 : (0 : Int64) = lN 0 := rfl
theorem L1 : (1 : Int64) = lN 1 := rfl
theorem L2 : (2 : Int64) = lN 2 := rfl
theorem L3 : (3 : Int64) = lN 3 := rfl
theorem L4 : (4 : Int64) = lN 4 := rfl
theorem L5 : (5 : Int64) = lN 5 := rfl
theorem L6 : (6 : Int64) = lN 6 := rfl
theorem L9 : (9 : Int64) = lN 9 := rfl
theorem L29 : (29 : Int64) = lN 29 := rfl
theorem L30 : (30 : Int64) = lN 30 := rfl
theorem L60 : (60 : Int64) = lN 60 := rfl
theorem L127 : (127 : Int64) = lN 127 := rfl
theorem L9999 : (9999 : Int64) = lN 9999 := rfl
theorem L1000000000 : (1000000000 : Int64) = lN 1000000000 := rfl
theorem T_lt {a b : Nat} (h : a < b) (hb : b < 2147483648) : (nI a < nI b) = True := eq_true (nI_lt h (by omega))
theorem F_lt {a b : Nat} (h : b ≤ a) (ha : a < 2147483648) : (nI a < nI b) = False := eq_false (nI_nlt h (by omega))
theorem T_le {a b : Nat} (h : a ≤ b) (hb : b < 2147483648) : (nI a ≤ nI b) = True := eq_true (nI_le h (by omega))
theorem F_le {a b : Nat} (h : b < a) (ha : a < 2147483648) : (nI a ≤ nI b) = False := eq_false (nI_ge h (by omega))
theorem T_eq {a b : Nat} (h : a = b) : (nI a = nI b) = True := eq_true (by rw [h])
theorem F_eq {a b : Nat} (h : a ≠ b) (ha : a < 2147483648) (hb : b < 2147483648) : (nI a = nI b) = False := eq_false (fun q => h ((nI_eq (by omega) (by omega)).mp q))
theorem gI_atE {μ : Mem} {k i : Nat} {v : Int32} {a b : Nat} (h : a = k) (h' : b = i) : gI (sI μ k i v) a b = v := by rw [gI_sI, if_pos ⟨h, h'⟩]
theorem gL_atE {μ : Mem} {k i : Nat} {v : Int64} {a b : Nat} (h : a = k) (h' : b = i) : gL (sL μ k i v) a b = v := by rw [gL_sL, if_pos ⟨h, h'⟩]
theorem up_atE {σ : SG} {f i v a b : Nat} (h : a = f) (h' : b = i) : up σ f i v a b = v := if_pos ⟨h, h'⟩
theorem gL_s {μ : Mem} {k i : Nat} {v : Int32} {a b : Nat} : gL (sI μ k i v) a b = gL μ a b := rfl
theorem gI_s {μ : Mem} {k i : Nat} {v : Int64} {a b : Nat} : gI (sL μ k i v) a b = gI μ a b := rfl
theorem w7T {μ : Mem} {a b c : Nat} (h : b ≤ a) (h' : a ≤ c) (hc : c < 2147483648) : f_X7_within μ (nI a) (nI b) (nI c) = some (nI 1) := w7_yes (nI_le h (by omega)) (nI_le h' (by omega))
theorem w7F1 {μ : Mem} {a b c : Nat} (h : a < b) (hc : b < 2147483648) : f_X7_within μ (nI a) (nI b) (nI c) = some (nI 0) := w7_no (fun q => nI_ge h (by omega) q.1)
theorem w7F2 {μ : Mem} {a b c : Nat} (h : c < a) (hc : a < 2147483648) : f_X7_within μ (nI a) (nI b) (nI c) = some (nI 0) := w7_no (fun q => nI_ge h (by omega) q.2)
theorem lN_le' {a b : Nat} (ha : a < 2147483648) (hb : b < 2147483648) : lN a ≤ lN b ↔ a ≤ b := lN_le (by omega) (by omega)
theorem w6T {μ : Mem} {a b c : Nat} (h : b ≤ a) (h' : a ≤ c) (hc : c < 2147483648) : f_X6_within μ (lN a) (lN b) (lN c) = some (nI 1) := w6_yes ((lN_le' (by omega) (by omega)).mpr h) ((lN_le' (by omega) (by omega)).mpr h')
theorem w6F1 {μ : Mem} {a b c : Nat} (h : a < b) (hb : b < 2147483648) : f_X6_within μ (lN a) (lN b) (lN c) = some (nI 0) := w6_no (fun q => absurd ((lN_le' (by omega) (by omega)).mp q.1) (by omega))
theorem w6F2 {μ : Mem} {a b c : Nat} (h : c < a) (hb : a < 2147483648) : f_X6_within μ (lN a) (lN b) (lN c) = some (nI 0) := w6_no (fun q => absurd ((lN_le' (by omega) (by omega)).mp q.2) (by omega))
theorem nI_lE {n : Nat} (h : n < 2147483648) : (nI n).toInt64 = lN n := nI_l (by omega)
theorem and31 {e : Nat} (h : e < 32) : nI e &&& nI 31 = nI e := (by decide +kernel : ∀ e, e < 32 → nI e &&& nI 31 = nI e) e h
theorem bitN : ∀ e, e < 6 → ∀ b, b < 64 → (nI b >>> nI e) &&& nI 1 = nI (b / 2 ^ e % 2) := by decide +kernel
theorem bitE {e b : Nat} (h : e < 6) (hb : b < 64) : (nI b >>> nI e) &&& nI 1 = nI (b / 2 ^ e % 2) := bitN e h b hb
theorem orN : ∀ e, e < 6 → ∀ b, b < 64 → b < 2 ^ e → nI b ||| (nI 1 <<< nI e) = nI (b + 2 ^ e) := by decide +kernel
theorem ne_of (x : Int32) : (∃ n : Nat, n < 2147483648 ∧ x = nI n) ∨ x < 0 := by
  by_cases h : x < 0
  · exact .inr h
  · obtain ⟨j, hj, e⟩ := nI_of h
    exact .inl ⟨j, by omega, e⟩
theorem F_neg {a b : Nat} (ha : a < 2147483648) (hb : b < 2147483648) (h : 0 < b) : (nI a = -nI b) = False := eq_false (fun q => by
  rw [nI_iI, nI_iI, iI_neg, iI_eqI (by omega) (by omega) (by omega) (by omega)] at q; omega)
theorem T_ltm {a b : Nat} (ha : a < 2147483648) (hb : b < 2147483648) (h : 0 < a) : (-nI a < nI b) = True := eq_true (by
  rw [nI_iI, nI_iI, iI_neg, iI_ltI (by omega) (by omega) (by omega) (by omega)]; omega)
theorem F_lem {a b : Nat} (ha : a < 2147483648) (hb : b < 2147483648) (h : 0 < a) : (nI b ≤ -nI a) = False := eq_false (by
  rw [nI_iI, nI_iI, iI_neg, iI_leI (by omega) (by omega) (by omega) (by omega)]; omega)
theorem F_ltm {a b : Nat} (ha : a < 2147483648) (hb : b < 2147483648) : (nI b < -nI a) = False := eq_false (by
  rw [nI_iI, nI_iI, iI_neg, iI_ltI (by omega) (by omega) (by omega) (by omega)]; omega)
theorem lC_lt (x y : Int64) : (lg_cmp x y < nI 0) = (x < y) := propext (cmp_lt x y)
theorem lC_ge (x y : Int64) : (nI 0 ≤ lg_cmp x y) = (y ≤ x) := propext (cmp_ge x y)
theorem lC_eq (x y : Int64) : (lg_cmp x y = nI 0) = (x = y) := propext (cmp_eq x y)
theorem lC_gt (x y : Int64) : (nI 0 < lg_cmp x y) = (y < x) := propext (cmp_gt x y)
theorem lC_le (x y : Int64) : (lg_cmp x y ≤ nI 0) = (x ≤ y) := propext (cmp_le x y)
theorem T_ltL {a b : Nat} (h : a < b) (hb : b < 9223372036854775808) : (lN a < lN b) = True := eq_true (by rw [lN_jL, lN_jL, jL_ltI (by omega) (by omega) (by omega) (by omega)]; omega)
theorem F_ltL {a b : Nat} (h : b ≤ a) (ha : a < 9223372036854775808) : (lN a < lN b) = False := eq_false (by rw [lN_jL, lN_jL, jL_ltI (by omega) (by omega) (by omega) (by omega)]; omega)
theorem T_leL {a b : Nat} (h : a ≤ b) (hb : b < 9223372036854775808) : (lN a ≤ lN b) = True := eq_true (by rw [lN_jL, lN_jL, jL_leI (by omega) (by omega) (by omega) (by omega)]; omega)
theorem F_leL {a b : Nat} (h : b < a) (ha : a < 9223372036854775808) : (lN a ≤ lN b) = False := eq_false (by rw [lN_jL, lN_jL, jL_leI (by omega) (by omega) (by omega) (by omega)]; omega)
theorem T_eqL {a b : Nat} (h : a = b) : (lN a = lN b) = True := eq_true (by rw [h])
theorem F_eqL {a b : Nat} (h : a ≠ b) (ha : a < 9223372036854775808) (hb : b < 9223372036854775808) : (lN a = lN b) = False := eq_false (by rw [lN_jL, lN_jL, jL_eqI (by omega) (by omega) (by omega) (by omega)]; omega)
theorem m1_0 : nI 0 - nI 1 = -nI 1 := rfl
theorem argL (a : Int32) {L : Nat} (hL : L < 2147483648) : (∃ n, n < L ∧ a = nI n) ∨ ((∀ μ, f_X6_within μ a.toInt64 0 (nI L - 1).toInt64 = some 0) ∧ ∀ μ, f_X7_within μ a 0 (nI L - 1) = some 0) := by
  have hc1 : (nI L - 1).toInt = (L : Int) - 1 := by
    rw [show nI L - 1 = iI ((L : Int) - 1) by rw [nI_iI, show (1 : Int32) = iI 1 from rfl, iI_sub], iI_toInt (by omega) (by omega)]
  have h0 : (0 : Int32).toInt = 0 := by decide
  have h0' : (0 : Int64).toInt = 0 := by decide
  by_cases h : 0 ≤ a.toInt ∧ a.toInt < L
  · obtain ⟨i, hi, e, hi'⟩ := nat_of h.1
    exact .inl ⟨i, by omega, e⟩
  · refine .inr ⟨fun μ => w6_no (fun q => h ?_), fun μ => w7_no (fun q => h ?_)⟩
    · rw [Int64.le_iff_toInt_le, Int64.le_iff_toInt_le, Int32.toInt_toInt64, Int32.toInt_toInt64, hc1, h0'] at q
      omega
    · rw [Int32.le_iff_toInt_le, Int32.le_iff_toInt_le, hc1, h0] at q
      omega
/-! a row (or a part of it) of nothing but 0 -/
def zM (μ : Mem) (k b : Nat) : Nat → Mem
  | 0 => μ
  | i + 1 => sI (zM μ k b i) k (b + i) (nI 0)
theorem zM_0 (μ : Mem) (k b : Nat) : zM μ k b 0 = μ := rfl
theorem zM_s (μ : Mem) (k b i : Nat) : zM μ k b (i + 1) = sI (zM μ k b i) k (b + i) (nI 0) := rfl
theorem zM_1 {μ : Mem} {k b a x : Nat} (h : a ≠ k) : ∀ i, gI (zM μ k b i) a x = gI μ a x
  | 0 => rfl
  | i + 1 => by show gI (sI (zM μ k b i) k (b + i) (nI 0)) a x = _; rw [gI_ne1 h, zM_1 h i]
theorem zM_2 {μ : Mem} {k b a x : Nat} : ∀ i, (x < b ∨ b + i ≤ x) → gI (zM μ k b i) a x = gI μ a x
  | 0, _ => rfl
  | i + 1, h => by show gI (sI (zM μ k b i) k (b + i) (nI 0)) a x = _; rw [gI_ne2 (by omega), zM_2 i (by omega)]
theorem zM_3 {μ : Mem} {k b x : Nat} : ∀ i, (b ≤ x ∧ x < b + i) → gI (zM μ k b i) k x = nI 0
  | 0, h => by omega
  | i + 1, h => by
    show gI (sI (zM μ k b i) k (b + i) (nI 0)) k x = _
    by_cases q : x = b + i
    · rw [gI_atE rfl q]
    · rw [gI_ne2 q, zM_3 i (by omega)]
theorem zM_L {μ : Mem} {k b a x : Nat} : ∀ i, gL (zM μ k b i) a x = gL μ a x
  | 0 => rfl
  | i + 1 => by show gL (sI (zM μ k b i) k (b + i) (nI 0)) a x = _; rw [gL_s, zM_L i]
theorem ofN (n : Nat) : Int32.ofNat n = nI n := rfl
theorem FU_8 : ∃ N, FU = N + 1 + 1 + 1 + 1 + 1 + 1 + 1 + 1 := ⟨4992, rfl⟩
theorem fAB_0 : fAB 0 = -nI 1 := rfl
theorem fAB_1 : fAB 1 = nI 0 := rfl
theorem fAB_2 : fAB 2 = nI 0 := rfl
theorem fAB_3 : fAB 3 = nI 0 := rfl
theorem fAB_4 : fAB 4 = nI 1 := rfl
theorem fAB_5 : fAB 5 = nI 2 := rfl
theorem fAB_6 : fAB 6 = nI 3 := rfl
theorem fBO_0 : fBO 0 = nI 10 := rfl
theorem fBO_1 : fBO 1 = nI 11 := rfl
theorem fBO_2 : fBO 2 = nI 12 := rfl
theorem fBO_3 : fBO 3 = nI 0 := rfl
theorem fBO_4 : fBO 4 = nI 20 := rfl
theorem fBO_5 : fBO 5 = nI 0 := rfl
theorem fBO_6 : fBO 6 = nI 30 := rfl
theorem fBO_7 : fBO 7 = nI 0 := rfl
theorem fBO_8 : fBO 8 = nI 0 := rfl
theorem fBO_9 : fBO 9 = nI 0 := rfl
theorem fBO_10 : fBO 10 = nI 0 := rfl
theorem fBO_11 : fBO 11 = nI 40 := rfl
theorem fBO_12 : fBO 12 = nI 50 := rfl
theorem fBO_13 : fBO 13 = nI 51 := rfl
theorem fBO_14 : fBO 14 = nI 0 := rfl
theorem fBO_15 : fBO 15 = nI 0 := rfl
theorem fBO_16 : fBO 16 = nI 0 := rfl
theorem fBO_17 : fBO 17 = nI 60 := rfl
theorem fBO_18 : fBO 18 = nI 71 := rfl
theorem fBO_19 : fBO 19 = nI 70 := rfl
theorem fBO_20 : fBO 20 = nI 0 := rfl
theorem FU_p (m : Nat) (h : m < 5000) : m < FU := h
theorem suc_of {m n : Nat} (h : m < n) : ∃ q, n = q + 1 := ⟨n - 1, by omega⟩
