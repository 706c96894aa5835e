/-! numbers: nI of a Nat, iI of an Int, lN and jL of longs -/
def iI (z : Int) : Int32 := Int32.ofInt z
def jL (z : Int) : Int64 := Int64.ofInt z
theorem nI_iI (n : Nat) : nI n = iI (n : Int) := (Int32.ofInt_eq_ofNat).symm
theorem lN_jL (n : Nat) : lN n = jL (n : Int) := (Int64.ofInt_eq_ofNat).symm
theorem iI_toInt {z : Int} (h : -2147483648 ≤ z) (h' : z < 2147483648) : (iI z).toInt = z := Int32.toInt_ofInt_of_le (by omega) (by omega)
theorem jL_toInt {z : Int} (h : -9223372036854775808 ≤ z) (h' : z < 9223372036854775808) : (jL z).toInt = z := Int64.toInt_ofInt_of_le (by omega) (by omega)
theorem iI_add (a b : Int) : iI a + iI b = iI (a + b) := (Int32.ofInt_add a b).symm
theorem iI_sub (a b : Int) : iI a - iI b = iI (a - b) := (Int32.ofInt_sub a b).symm
theorem iI_mul (a b : Int) : iI a * iI b = iI (a * b) := (Int32.ofInt_mul a b).symm
theorem iI_neg (a : Int) : -iI a = iI (-a) := (Int32.ofInt_neg a).symm
theorem jL_add (a b : Int) : jL a + jL b = jL (a + b) := (Int64.ofInt_add a b).symm
theorem jL_sub (a b : Int) : jL a - jL b = jL (a - b) := (Int64.ofInt_sub a b).symm
theorem jL_mul (a b : Int) : jL a * jL b = jL (a * b) := (Int64.ofInt_mul a b).symm
theorem jL_neg (a : Int) : -jL a = jL (-a) := (Int64.ofInt_neg a).symm
theorem iI_L {z : Int} (h : -2147483648 ≤ z) (h' : z < 2147483648) : (iI z).toInt64 = jL z := Int64.toInt_inj.mp (by rw [Int32.toInt_toInt64, iI_toInt h h', jL_toInt (by omega) (by omega)])
theorem jL_I {z : Int} : (jL z).toInt32 = iI z := by simp [jL, iI]
theorem iI_ltI {a b : Int} (ha : -2147483648 ≤ a) (ha' : a < 2147483648) (hb : -2147483648 ≤ b) (hb' : b < 2147483648) : iI a < iI b ↔ a < b := by
  rw [Int32.lt_iff_toInt_lt, iI_toInt ha ha', iI_toInt hb hb']
theorem iI_leI {a b : Int} (ha : -2147483648 ≤ a) (ha' : a < 2147483648) (hb : -2147483648 ≤ b) (hb' : b < 2147483648) : iI a ≤ iI b ↔ a ≤ b := by
  rw [Int32.le_iff_toInt_le, iI_toInt ha ha', iI_toInt hb hb']
theorem iI_eqI {a b : Int} (ha : -2147483648 ≤ a) (ha' : a < 2147483648) (hb : -2147483648 ≤ b) (hb' : b < 2147483648) : iI a = iI b ↔ a = b := by
  rw [← Int32.toInt_inj, iI_toInt ha ha', iI_toInt hb hb']
theorem jL_ltI {a b : Int} (ha : -9223372036854775808 ≤ a) (ha' : a < 9223372036854775808) (hb : -9223372036854775808 ≤ b) (hb' : b < 9223372036854775808) : jL a < jL b ↔ a < b := by
  rw [Int64.lt_iff_toInt_lt, jL_toInt ha ha', jL_toInt hb hb']
theorem jL_leI {a b : Int} (ha : -9223372036854775808 ≤ a) (ha' : a < 9223372036854775808) (hb : -9223372036854775808 ≤ b) (hb' : b < 9223372036854775808) : jL a ≤ jL b ↔ a ≤ b := by
  rw [Int64.le_iff_toInt_le, jL_toInt ha ha', jL_toInt hb hb']
theorem jL_eqI {a b : Int} (ha : -9223372036854775808 ≤ a) (ha' : a < 9223372036854775808) (hb : -9223372036854775808 ≤ b) (hb' : b < 9223372036854775808) : jL a = jL b ↔ a = b := by
  rw [← Int64.toInt_inj, jL_toInt ha ha', jL_toInt hb hb']
theorem iI_of (x : Int32) : x = iI x.toInt ∧ -2147483648 ≤ x.toInt ∧ x.toInt < 2147483648 := by
  have h1 := Int32.le_toInt x
  have h2 := Int32.toInt_lt x
  exact ⟨Int32.toInt_inj.mp (by rw [iI_toInt (by omega) (by omega)]), by omega, by omega⟩
theorem jL_of (x : Int64) : x = jL x.toInt ∧ -9223372036854775808 ≤ x.toInt ∧ x.toInt < 9223372036854775808 := by
  have h1 := Int64.le_toInt x
  have h2 := Int64.toInt_lt x
  exact ⟨Int64.toInt_inj.mp (by rw [jL_toInt (by omega) (by omega)]), by omega, by omega⟩
theorem cmp_k : (1 : Int32).toInt = 1 ∧ (0 : Int32).toInt = 0 ∧ (-1 : Int32).toInt = -1 := by decide
theorem cmp_lt (a b : Int64) : (lg_cmp a b < 0) ↔ a < b := by
  obtain ⟨h1, h2, h3⟩ := cmp_k
  unfold lg_cmp
  simp only [GT.gt]
  split
  · rw [Int32.lt_iff_toInt_lt, h1, h2, Int64.lt_iff_toInt_lt]; rename_i h; rw [Int64.lt_iff_toInt_lt] at h; omega
  · split
    · rename_i h; subst h; rw [Int32.lt_iff_toInt_lt, h2, Int64.lt_iff_toInt_lt]; omega
    · rename_i h h'; rw [Int64.lt_iff_toInt_lt] at h; rw [← Int64.toInt_inj] at h'; rw [Int32.lt_iff_toInt_lt, h2, h3, Int64.lt_iff_toInt_lt]; omega
theorem cmp_gt (a b : Int64) : (0 < lg_cmp a b) ↔ b < a := by
  obtain ⟨h1, h2, h3⟩ := cmp_k
  unfold lg_cmp
  simp only [GT.gt]
  split
  · rw [Int32.lt_iff_toInt_lt, h1, h2, Int64.lt_iff_toInt_lt]; rename_i h; rw [Int64.lt_iff_toInt_lt] at h; omega
  · split
    · rename_i h; subst h; rw [Int32.lt_iff_toInt_lt, h2, Int64.lt_iff_toInt_lt]; omega
    · rename_i h h'; rw [Int64.lt_iff_toInt_lt] at h; rw [← Int64.toInt_inj] at h'; rw [Int32.lt_iff_toInt_lt, h2, h3, Int64.lt_iff_toInt_lt]; omega
theorem cmp_eq (a b : Int64) : (lg_cmp a b = 0) ↔ a = b := by
  obtain ⟨h1, h2, h3⟩ := cmp_k
  unfold lg_cmp
  simp only [GT.gt]
  split
  · rw [← Int32.toInt_inj, h1, h2, ← Int64.toInt_inj]; rename_i h; rw [Int64.lt_iff_toInt_lt] at h; omega
  · split
    · rename_i h; subst h; exact ⟨fun _ => rfl, fun _ => rfl⟩
    · rename_i h h'; rw [← Int32.toInt_inj, h2, h3]; exact ⟨fun q => by omega, fun q => absurd q h'⟩
theorem cmp_ge (a b : Int64) : (0 ≤ lg_cmp a b) ↔ b ≤ a := by
  rw [← Int32.not_lt, cmp_lt, Int64.not_lt]
theorem cmp_le (a b : Int64) : (lg_cmp a b ≤ 0) ↔ a ≤ b := by
  rw [← Int32.not_lt, cmp_gt, Int64.not_lt]
/-! memory -/
theorem aix_n {n j : Nat} (h : j < n) (hn : n < 2147483648) : aix (nI j) n = some j := by
  unfold aix; rw [if_neg (nI_in h (by omega)), nI_clamp (by omega)]
theorem ldI_n {μ : Mem} {k n j : Nat} (h : j < n) (hn : n < 2147483648) : ldI μ k n (nI j) = some (gI μ k j) := by
  unfold ldI; rw [if_neg (nI_in h (by omega)), nI_clamp (by omega)]
theorem ldF_n {f : Nat → Int32} {n j : Nat} (h : j < n) (hn : n < 2147483648) : ldF f n (nI j) = some (f j) := by
  unfold ldF; rw [if_neg (nI_in h (by omega)), nI_clamp (by omega)]
theorem ldL_n {μ : Mem} {k n j : Nat} (h : j < n) (hn : n < 2147483648) : ldL μ k n (nI j) = some (gL μ k j) := by
  unfold ldL; rw [if_neg (nI_in h (by omega)), nI_clamp (by omega)]
theorem stI_n {μ : Mem} {k n j : Nat} {v : Int32} (h : j < n) (hn : n < 2147483648) : stI μ k n (nI j) v = some (sI μ k j v) := by
  unfold stI; rw [if_neg (nI_in h (by omega)), nI_clamp (by omega)]
theorem stL_n {μ : Mem} {k n j : Nat} {v : Int64} (h : j < n) (hn : n < 2147483648) : stL μ k n (nI j) v = some (sL μ k j v) := by
  unfold stL; rw [if_neg (nI_in h (by omega)), nI_clamp (by omega)]
theorem ldS_n {i j : Nat} (h : j < lenS.getD i 0) (hn : lenS.getD i 0 < 2147483648) : ldS i (nI j) = some ((bytS.getD i []).getD j 0) := by
  unfold ldS; rw [if_neg (nI_in h (by omega)), nI_clamp (by omega)]
theorem bind_s {α β : Type} (a : α) (f : α → Option β) : (some a).bind f = f a := rfl
theorem gI_at (μ : Mem) (k i : Nat) (v : Int32) : gI (sI μ k i v) k i = v := by rw [gI_sI, if_pos ⟨rfl, rfl⟩]
theorem gI_ne1 {μ : Mem} {k i : Nat} {v : Int32} {a b : Nat} (h : a ≠ k) : gI (sI μ k i v) a b = gI μ a b := by rw [gI_sI_ne h]
theorem gI_ne2 {μ : Mem} {k i : Nat} {v : Int32} {a b : Nat} (h : b ≠ i) : gI (sI μ k i v) a b = gI μ a b := by rw [gI_sI, if_neg (fun q => h q.2)]
theorem gL_at (μ : Mem) (k i : Nat) (v : Int64) : gL (sL μ k i v) k i = v := by rw [gL_sL, if_pos ⟨rfl, rfl⟩]
theorem gL_ne1 {μ : Mem} {k i : Nat} {v : Int64} {a b : Nat} (h : a ≠ k) : gL (sL μ k i v) a b = gL μ a b := by rw [gL_sL_ne h]
theorem gL_ne2 {μ : Mem} {k i : Nat} {v : Int64} {a b : Nat} (h : b ≠ i) : gL (sL μ k i v) a b = gL μ a b := by rw [gL_sL, if_neg (fun q => h q.2)]
theorem nI_sub {a b : Nat} (h : b ≤ a) : nI a - nI b = nI (a - b) := by
  rw [nI_iI, nI_iI, nI_iI, iI_sub]; congr 1; omega
theorem nI_mul (a b : Nat) : nI a * nI b = nI (a * b) := (Int32.ofNat_mul a b).symm
theorem nI_dv {a b : Nat} (ha : a < 2147483648) (hb : b < 2147483648) (h0 : 0 < b) : nI a / nI b = nI (a / b) := by
  apply Int32.toInt_inj.mp
  rw [Int32.toInt_div, nI_toInt (by omega), nI_toInt (by omega), nI_toInt (Nat.lt_of_le_of_lt (Nat.div_le_self a b) (by omega))]
  have h1 : (a : Int).tdiv b = ((a / b : Nat) : Int) := (Int.ofNat_tdiv a b).symm
  have h2 : a / b ≤ a := Nat.div_le_self a b
  rw [h1]
  generalize a / b = q at h2
  rw [Int.bmod_eq_of_le (by omega) (by omega)]
theorem dvI_n {a b : Nat} (ha : a < 2147483648) (hb : b < 2147483648) (h0 : 0 < b) : dvI (nI a) (nI b) = some (nI (a / b)) := by
  unfold dvI; rw [if_neg (nI_ne0 h0 (by omega)), nI_dv ha hb h0]
theorem rmI_n {a b : Nat} (ha : a < 2147483648) (hb : b < 2147483648) (h0 : 0 < b) : rmI (nI a) (nI b) = some (nI (a % b)) := by
  unfold rmI; rw [if_neg (nI_ne0 h0 (by omega)), nI_dv ha hb h0, nI_mul, nI_sub (Nat.div_mul_le_self a b)]
  congr 2
  have := Nat.div_add_mod a b
  rw [Nat.mul_comm] at this
  omega
theorem rdI {x y : Int32} {a b : Int} : True := trivial
/-! within, the eggs -/
theorem w6_yes {μ : Mem} {a b c : Int64} (h1 : b ≤ a) (h2 : a ≤ c) : f_X6_within μ a b c = some 1 := by
  unfold f_X6_within
  rw [if_neg (by rw [cmp_lt, Int64.not_lt]; exact h1), if_neg (by rw [cmp_gt, Int64.not_lt]; exact h2)]
theorem w6_no {μ : Mem} {a b c : Int64} (h1 : ¬ (b ≤ a ∧ a ≤ c)) : f_X6_within μ a b c = some 0 := by
  unfold f_X6_within
  by_cases h : a < b
  · rw [if_pos (by rw [cmp_lt]; exact h)]
  · rw [if_neg (by rw [cmp_lt]; exact h), if_pos (by rw [cmp_gt]; rw [Int64.not_lt] at h; exact Int64.not_le.mp (fun q => h1 ⟨h, q⟩))]
theorem w7_yes {μ : Mem} {a b c : Int32} (h1 : b ≤ a) (h2 : a ≤ c) : f_X7_within μ a b c = some 1 := by
  unfold f_X7_within
  rw [if_neg (Int32.not_lt.mpr h1), if_neg (Int32.not_lt.mpr h2)]
theorem w7_no {μ : Mem} {a b c : Int32} (h1 : ¬ (b ≤ a ∧ a ≤ c)) : f_X7_within μ a b c = some 0 := by
  unfold f_X7_within
  by_cases h : a < b
  · rw [if_pos h]
  · rw [if_neg h, if_pos (Int32.not_le.mp (fun q => h1 ⟨Int32.not_lt.mp h, q⟩))]
/-- an argument that both programs hold against two numbers -/
theorem arg (a : Int32) {lo hi : Nat} {A B : Int64} {C D : Int32} (hA : A.toInt = lo) (hB : B.toInt = hi) (hC : C.toInt = lo) (hD : D.toInt = hi) :
    (∃ n : Nat, lo ≤ n ∧ n ≤ hi ∧ n < 2147483648 ∧ a = nI n ∧ (∀ μ, f_X6_within μ a.toInt64 A B = some 1) ∧ ∀ μ, f_X7_within μ a C D = some 1) ∨
    (¬ (C ≤ a ∧ a ≤ D) ∧ (∀ μ, f_X6_within μ a.toInt64 A B = some 0) ∧ ∀ μ, f_X7_within μ a C D = some 0) := by
  by_cases h : (lo : Int) ≤ a.toInt ∧ a.toInt ≤ hi
  · left
    have h2 := Int32.toInt_lt a
    refine ⟨a.toInt.toNat, by omega, by omega, by omega, Int32.toInt_inj.mp (by rw [nI_toInt (by omega)]; omega), fun μ => w6_yes ?_ ?_, fun μ => w7_yes ?_ ?_⟩
    · rw [Int64.le_iff_toInt_le, Int32.toInt_toInt64, hA]; exact h.1
    · rw [Int64.le_iff_toInt_le, Int32.toInt_toInt64, hB]; exact h.2
    · rw [Int32.le_iff_toInt_le, hC]; exact h.1
    · rw [Int32.le_iff_toInt_le, hD]; exact h.2
  · right
    refine ⟨fun q => h ?_, fun μ => w6_no (fun q => h ?_), fun μ => w7_no (fun q => h ?_)⟩
    · rw [Int32.le_iff_toInt_le, Int32.le_iff_toInt_le, hC, hD] at q; exact q
    · rw [Int64.le_iff_toInt_le, Int64.le_iff_toInt_le, Int32.toInt_toInt64, hA, hB] at q; exact q
    · rw [Int32.le_iff_toInt_le, Int32.le_iff_toInt_le, hC, hD] at q; exact q
theorem one6_yes {μ : Mem} {k E e : Nat} (hE : gI μ k 0 = nI E) (h : e < E) (hb : E < 2147483648) : f_X2_has μ k (nI e) = some 1 := by
  unfold f_X2_has
  rw [if_neg (nI_pos (by omega)), hE, if_neg (nI_ge h (by omega))]
theorem one6_no {μ : Mem} {k E : Nat} {a : Int32} (hE : gI μ k 0 = nI E) (hb : E < 2147483648) (h : ¬ (0 ≤ a.toInt ∧ a.toInt < E)) : f_X2_has μ k a = some 0 := by
  unfold f_X2_has
  by_cases h0 : a < 0
  · rw [if_pos h0]
  · rw [if_neg h0, hE, if_pos]
    rw [Int32.lt_iff_toInt_lt] at h0
    rw [Int32.le_iff_toInt_le, nI_toInt (by omega)]
    have : (0 : Int32).toInt = 0 := by decide
    omega
theorem one7_yes {μ : Mem} {E e : Nat} (hE : gI μ 2000 0 = nI E) (h : e < E) (hb : E < 2147483648) : f_X7_isOne μ (nI e) = some 1 := by
  unfold f_X7_isOne
  rw [hE, show (1 : Int32) = nI 1 from rfl, nI_sub (by omega)]
  rw [w7_yes (nI_pos' (by omega)) (nI_le (by omega) (by omega))]
  rfl
theorem one7_no {μ : Mem} {E : Nat} {a : Int32} (hE : gI μ 2000 0 = nI E) (hb : E < 2147483648) (h : ¬ (0 ≤ a.toInt ∧ a.toInt < E)) : f_X7_isOne μ a = some 0 := by
  unfold f_X7_isOne
  rw [hE, w7_no (fun q => h ?_)]
  · rfl
  · have e : nI E - 1 = iI ((E : Int) - 1) := by rw [nI_iI, show (1 : Int32) = iI 1 from rfl, iI_sub]
    rw [e, Int32.le_iff_toInt_le, Int32.le_iff_toInt_le, iI_toInt (by omega) (by omega)] at q
    have : (0 : Int32).toInt = 0 := by decide
    omega
theorem nat_of {a : Int32} (h : 0 ≤ a.toInt) : ∃ n : Nat, n < 2147483648 ∧ a = nI n ∧ a.toInt = n := by
  have h2 := Int32.toInt_lt a
  refine ⟨a.toInt.toNat, by omega, Int32.toInt_inj.mp (by rw [nI_toInt (by omega)]; omega), by omega⟩
/-- an egg's number, for both -/
theorem oneS {S E : Nat} (hb : E < 2147483648) (a : Int32) :
    (∃ e : Nat, e < E ∧ a = nI e ∧ (∀ μ, gI μ S 0 = nI E → f_X2_has μ S a = some 1) ∧ ∀ μ, gI μ 2000 0 = nI E → f_X7_isOne μ a = some 1) ∨
    ((∀ e : Nat, e < E → a ≠ nI e) ∧ (∀ μ, gI μ S 0 = nI E → f_X2_has μ S a = some 0) ∧ ∀ μ, gI μ 2000 0 = nI E → f_X7_isOne μ a = some 0) := by
  by_cases h : 0 ≤ a.toInt ∧ a.toInt < E
  · left
    obtain ⟨e, h1, h2, h3⟩ := nat_of h.1
    refine ⟨e, by omega, h2, fun μ hE => ?_, fun μ hE => ?_⟩
    · rw [h2]; exact one6_yes hE (by omega) hb
    · rw [h2]; exact one7_yes hE (by omega) hb
  · right
    refine ⟨fun e he q => h ?_, fun μ hE => one6_no hE hb h, fun μ hE => one7_no hE hb h⟩
    rw [q, nI_toInt (by omega)]
    omega
