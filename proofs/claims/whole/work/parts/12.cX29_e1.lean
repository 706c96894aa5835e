/-! common divisors and multiples -/
theorem c00 : lg_cmp (lN 0) 0 = 0 := (cmp_eq (lN 0) 0).mpr rfl
def mulG (s t : Nat) : Nat := s / Nat.gcd s t * t
theorem mulG_lcm (s t : Nat) : mulG s t = Nat.lcm s t := by
  unfold mulG
  rw [Nat.div_mul_right_comm (Nat.gcd_dvd_left s t)]
  rfl
theorem mulG_le (s t : Nat) : mulG s t ≤ s * t := Nat.mul_le_mul_right t (Nat.div_le_self s _)
theorem mulG_pos {s t : Nat} (hs : 0 < s) (ht : 0 < t) : 0 < mulG s t := by rw [mulG_lcm]; exact Nat.lcm_pos hs ht
theorem mulG_l (s t : Nat) : s ∣ mulG s t := by rw [mulG_lcm]; exact Nat.dvd_lcm_left s t
theorem mulG_r (s t : Nat) : t ∣ mulG s t := by rw [mulG_lcm]; exact Nat.dvd_lcm_right s t
theorem mulG_d {s t x : Nat} (h : s ∣ x) (h' : t ∣ x) : mulG s t ∣ x := by rw [mulG_lcm]; exact Nat.lcm_dvd h h'
theorem gstep (a b : Nat) : Nat.gcd a b = Nat.gcd b (a % b) := by rw [Nat.gcd_comm a b, Nat.gcd_rec b a, Nat.gcd_comm]
theorem mhalf {b r k : Nat} (hr : 0 < r) (hrb : r < b) (hb : b < 2 ^ (k + 1)) : b % r < 2 ^ k := by
  have h1 := Nat.mod_lt b hr
  have h2 := Nat.div_add_mod b r
  have h3 : 1 ≤ b / r := Nat.div_pos (by omega) hr
  have h4 : r * 1 ≤ r * (b / r) := Nat.mul_le_mul_left r h3
  rw [Nat.pow_succ] at hb
  omega
theorem gcd6_l {μ : Mem} : ∀ k a b s n, b < 2 ^ k → s + 2 * k + 1 ≤ 100 → 2 * k + 1 < n → a ≤ 4000000000000000000 → b ≤ 4000000000000000000 → f_X6_commonDivisor_9 μ n (lN a) (lN b) (nI s) = some (lN (Nat.gcd a b)) := by
  intro k
  induction k with
  | zero =>
    intro a b s n hb hs hn ha hb'
    obtain ⟨n, rfl⟩ := suc_of (show 0 < n by omega)
    obtain rfl : b = 0 := by omega
    rw [f_X6_commonDivisor_9, K100, if_neg (nI_ge (by omega) (by omega)), if_pos (c00), Nat.gcd_zero_right]
  | succ k ih =>
    intro a b s n hb hs hn ha hb'
    obtain ⟨n, rfl⟩ := suc_of (show 0 < n by omega)
    rw [f_X6_commonDivisor_9, K100, if_neg (nI_ge (by omega) (by omega))]
    by_cases h0 : b = 0
    · subst h0
      rw [if_pos (c00), Nat.gcd_zero_right]
    · have hm := Nat.mod_lt a (show 0 < b by omega)
      rw [if_neg (fun q => by rw [cmp_eq, L0, F_eqL h0 (by omega) (by omega)] at q; exact q), rmL_n ha (by omega) (by omega), gstep]
      simp only [bind_p]
      obtain ⟨n, rfl⟩ := suc_of (show 0 < n by omega)
      rw [K1, nI_add, f_X6_commonDivisor_9, K100, if_neg (nI_ge (by omega) (by omega))]
      by_cases h1 : a % b = 0
      · rw [h1, if_pos (c00), Nat.gcd_zero_right]
      · have hm' := Nat.mod_lt b (show 0 < a % b by omega)
        rw [if_neg (fun q => by rw [cmp_eq, L0, F_eqL h1 (by omega) (by omega)] at q; exact q), rmL_n hb' (by omega) (by omega), gstep]
        simp only [bind_p]
        rw [K1, nI_add]
        exact ih _ _ _ _ (mhalf (by omega) hm hb) (by omega) (by omega) (by omega) (by omega)
theorem gcd7_l {μ : Mem} : ∀ k a b n, b < 2 ^ k → 2 * k + 1 < n → a ≤ 4000000000000000000 → b ≤ 4000000000000000000 → f_X7_gcd_6 μ n (lN a) (lN b) = some (lN (Nat.gcd a b)) := by
  intro k
  induction k with
  | zero =>
    intro a b n hb hn ha hb'
    obtain ⟨n, rfl⟩ := suc_of (show 0 < n by omega)
    obtain rfl : b = 0 := by omega
    rw [f_X7_gcd_6, if_pos (c00), Nat.gcd_zero_right]
  | succ k ih =>
    intro a b n hb hn ha hb'
    obtain ⟨n, rfl⟩ := suc_of (show 0 < n by omega)
    rw [f_X7_gcd_6]
    by_cases h0 : b = 0
    · subst h0
      rw [if_pos (c00), Nat.gcd_zero_right]
    · have hm := Nat.mod_lt a (show 0 < b by omega)
      rw [if_neg (fun q => by rw [cmp_eq, L0, F_eqL h0 (by omega) (by omega)] at q; exact q), rmL_n ha (by omega) (by omega), gstep]
      simp only [bind_p]
      obtain ⟨n, rfl⟩ := suc_of (show 0 < n by omega)
      rw [f_X7_gcd_6]
      by_cases h1 : a % b = 0
      · rw [h1, if_pos (c00), Nat.gcd_zero_right]
      · have hm' := Nat.mod_lt b (show 0 < a % b by omega)
        rw [if_neg (fun q => by rw [cmp_eq, L0, F_eqL h1 (by omega) (by omega)] at q; exact q), rmL_n hb' (by omega) (by omega), gstep]
        simp only [bind_p]
        exact ih _ _ _ (mhalf (by omega) hm hb) (by omega) (by omega) (by omega)
def ptF (A B : Nat) (p : Int32) (g : Nat) : Option Int64 := if p = 0 then some (lN (A / g)) else some (lN (B / g))
theorem part7_l {μ : Mem} {A B : Nat} {p : Int32} (hA : A ≤ 4000000000000000000) (hB : B ≤ 4000000000000000000) : ∀ k a b n, b < 2 ^ k → 2 * k + 1 < n → a ≤ 4000000000000000000 → b ≤ 4000000000000000000 → 0 < Nat.gcd a b → f_X7_part_6 μ n (lN A) (lN B) p (lN a) (lN b) = ptF A B p (Nat.gcd a b) := by
  have fin : ∀ a, a ≤ 4000000000000000000 → 0 < a → (if p = (0 : Int32) then (dvL (lN A) (lN a)).bind fun v9 => some v9 else (dvL (lN B) (lN a)).bind fun v8 => some v8) = ptF A B p a := fun a h1 h2 => by
    unfold ptF
    rw [dvL_n hA h2 (by omega), dvL_n hB h2 (by omega)]
    rfl
  intro k
  induction k with
  | zero =>
    intro a b n hb hn ha hb' hg
    obtain ⟨n, rfl⟩ := suc_of (show 0 < n by omega)
    obtain rfl : b = 0 := by omega
    rw [Nat.gcd_zero_right] at hg ⊢
    rw [f_X7_part_6, if_pos (c00)]
    exact fin a ha hg
  | succ k ih =>
    intro a b n hb hn ha hb' hg
    obtain ⟨n, rfl⟩ := suc_of (show 0 < n by omega)
    rw [f_X7_part_6]
    by_cases h0 : b = 0
    · subst h0
      rw [Nat.gcd_zero_right] at hg ⊢
      rw [if_pos (c00)]
      exact fin a ha hg
    · have hm := Nat.mod_lt a (show 0 < b by omega)
      rw [if_neg (fun q => by rw [cmp_eq, L0, F_eqL h0 (by omega) (by omega)] at q; exact q), rmL_n ha (by omega) (by omega)]
      rw [gstep] at hg ⊢
      simp only [bind_p]
      obtain ⟨n, rfl⟩ := suc_of (show 0 < n by omega)
      rw [f_X7_part_6]
      by_cases h1 : a % b = 0
      · rw [h1, Nat.gcd_zero_right] at hg ⊢
        rw [if_pos (c00)]
        exact fin b hb' hg
      · have hm' := Nat.mod_lt b (show 0 < a % b by omega)
        rw [if_neg (fun q => by rw [cmp_eq, L0, F_eqL h1 (by omega) (by omega)] at q; exact q), rmL_n hb' (by omega) (by omega)]
        rw [gstep] at hg ⊢
        simp only [bind_p]
        exact ih _ _ _ (mhalf (by omega) hm hb) (by omega) (by omega) (by omega) hg
theorem p40 : (1000000000000 : Nat) < 2 ^ 40 := by decide
theorem cd6 {μ : Mem} {a b : Nat} (ha : a ≤ 4000000000000000000) (hb : b ≤ 1000000000000) : f_X6_commonDivisor μ (lN a) (lN b) = some (lN (Nat.gcd a b)) :=
  gcd6_l 40 a b 0 FU (Nat.lt_of_le_of_lt hb p40) (by omega) (FU_p _ (by omega)) ha (by omega)
theorem gcd7 {μ : Mem} {a b : Nat} (ha : a ≤ 4000000000000000000) (hb : b ≤ 1000000000000) : f_X7_gcd μ (lN a) (lN b) = some (lN (Nat.gcd a b)) :=
  gcd7_l 40 a b FU (Nat.lt_of_le_of_lt hb p40) (FU_p _ (by omega)) ha (by omega)
theorem part7 {μ : Mem} {a b : Nat} {p : Int32} (ha : a ≤ 4000000000000000000) (hb : b ≤ 1000000000000) (h0 : 0 < b) : f_X7_part μ (lN a) (lN b) p = ptF a b p (Nat.gcd a b) :=
  part7_l ha (by omega) 40 a b FU (Nat.lt_of_le_of_lt hb p40) (FU_p _ (by omega)) ha (by omega) (Nat.gcd_pos_of_pos_right a h0)
theorem part6 {μ : Mem} {a b : Nat} {p : Int32} (ha : a ≤ 4000000000000000000) (hb : b ≤ 1000000000000) (h0 : 0 < b) : f_X6_inLowestTerms μ (lN a) (lN b) p = ptF a b p (Nat.gcd a b) := by
  have hg := Nat.gcd_pos_of_pos_right a h0
  have hgl : Nat.gcd a b ≤ b := Nat.le_of_dvd h0 (Nat.gcd_dvd_right a b)
  unfold f_X6_inLowestTerms ptF
  rw [cd6 ha hb]
  simp only [bind_p]
  rw [if_pos (by rw [cmp_ge, L1, T_leL hg (by omega)]; trivial), dvL_n ha hg (by omega), dvL_n (by omega) hg (by omega)]
  rfl
theorem cm6 {μ : Mem} {a b : Nat} (ha : a ≤ 4000000000000000000) (h0 : 0 < a) (hb : b ≤ 1000000000000) : f_X6_commonMultiple μ (lN a) (lN b) = some (lN (mulG a b)) := by
  have hg := Nat.gcd_pos_of_pos_left b h0
  have hgl : Nat.gcd a b ≤ a := Nat.le_of_dvd h0 (Nat.gcd_dvd_left a b)
  unfold f_X6_commonMultiple mulG
  rw [cd6 ha hb]
  simp only [bind_p]
  rw [if_pos (by rw [cmp_ge, L1, T_leL hg (by omega)]; trivial), dvL_n ha hg (by omega)]
  simp only [bind_p]
  rw [lN_mul]
/-! searches -/
def srch (p : Nat → Bool) : Nat → Nat → Option Nat
  | 0, _ => none
  | m + 1, k => if p k = true then some k else srch p m (k + 1)
theorem srch_s {p : Nat → Bool} {j : Nat} : ∀ m k, srch p m k = some j → p j = true ∧ k ≤ j ∧ j < k + m ∧ ∀ i, k ≤ i → i < j → p i = false
  | 0, k, h => by cases h
  | m + 1, k, h => by
    rw [srch] at h
    by_cases hp : p k = true
    · rw [if_pos hp] at h
      obtain rfl := Option.some.inj h
      exact ⟨hp, Nat.le_refl _, by omega, fun i h1 h2 => by omega⟩
    · rw [if_neg hp] at h
      obtain ⟨h1, h2, h3, h4⟩ := srch_s m (k + 1) h
      refine ⟨h1, by omega, by omega, fun i q1 q2 => ?_⟩
      by_cases hi : i = k
      · subst hi; cases hpi : p i
        · rfl
        · exact absurd hpi hp
      · exact h4 i (by omega) q2
theorem srch_n {p : Nat → Bool} : ∀ m k, srch p m k = none → ∀ i, k ≤ i → i < k + m → p i = false
  | 0, k, h, i, h1, h2 => by omega
  | m + 1, k, h, i, h1, h2 => by
    rw [srch] at h
    by_cases hp : p k = true
    · rw [if_pos hp] at h; cases h
    · rw [if_neg hp] at h
      by_cases hi : i = k
      · subst hi; cases hpi : p i
        · rfl
        · exact absurd hpi hp
      · exact srch_n m (k + 1) h i (by omega) (by omega)
def cR (R s re t : Nat) : Option Nat := srch (fun k => decide ((R + k * s) % t = re)) t 0
theorem modU {s t x y : Nat} (h1 : x % s = y % s) (h2 : x % t = y % t) : x % mulG s t = y % mulG s t := by
  have key : ∀ x y : Nat, x ≤ y → x % s = y % s → x % t = y % t → x % mulG s t = y % mulG s t := fun x y hl g1 g2 => by
    have d1 := Nat.dvd_of_mod_eq_zero (Nat.sub_mod_eq_zero_of_mod_eq g1.symm)
    have d2 := Nat.dvd_of_mod_eq_zero (Nat.sub_mod_eq_zero_of_mod_eq g2.symm)
    obtain ⟨c, hc⟩ := mulG_d d1 d2
    have : y = x + mulG s t * c := by omega
    rw [this, Nat.add_mul_mod_self_left]
  rcases Nat.le_total x y with h | h
  · exact key x y h h1 h2
  · exact (key y x h h1.symm h2.symm).symm
theorem modD {L s x y : Nat} (hd : s ∣ L) (h : x % L = y % L) : x % s = y % s := by
  rw [← Nat.mod_mod_of_dvd x hd, h, Nat.mod_mod_of_dvd y hd]
theorem mul_modP {c s t x : Nat} : (x + (c % t) * s) % t = (x + c * s) % t := by
  have h := Nat.div_add_mod c t
  have : x + c * s = x + (c % t) * s + t * (c / t * s) := by
    rw [← Nat.mul_assoc, Nat.add_assoc, ← Nat.add_mul, Nat.add_comm (c % t), h]
  rw [this, Nat.add_mul_mod_self_left]
/-- of all that is R modulo s and re modulo t, some stands at R and some s's behind -/
theorem reach {R s re t x : Nat} (hs : 0 < s) (ht : 0 < t) (h1 : x % s = R % s) (h2 : x % t = re) : ∃ k, k < t ∧ (R + k * s) % t = re := by
  have hy1 : (x + s * t * R) % s = R % s := by rw [Nat.mul_assoc, Nat.add_mul_mod_self_left]; exact h1
  have hy2 : (x + s * t * R) % t = re := by rw [Nat.mul_comm s t, Nat.mul_assoc, Nat.add_mul_mod_self_left]; exact h2
  have hst : 1 ≤ s * t := Nat.mul_pos hs ht
  have hle : 1 * R ≤ s * t * R := Nat.mul_le_mul_right R hst
  obtain ⟨c, hc⟩ := Nat.dvd_of_mod_eq_zero (Nat.sub_mod_eq_zero_of_mod_eq hy1)
  refine ⟨c % t, Nat.mod_lt _ ht, ?_⟩
  rw [mul_modP, ← hy2]
  congr 1
  rw [Nat.mul_comm c s]
  omega
theorem cR_n {R s re t : Nat} (hs : 0 < s) (ht : 0 < t) (h : cR R s re t = none) : ∀ x, ¬ (x % s = R % s ∧ x % t = re) := fun x hx => by
  obtain ⟨k, h1, h2⟩ := reach hs ht hx.1 hx.2
  have := srch_n t 0 h k (by omega) (by omega)
  rw [decide_eq_true h2] at this
  cases this
theorem cR_s {R s re t k : Nat} (h : cR R s re t = some k) : k < t ∧ (R + k * s) % t = re ∧ (R + k * s) % s = R % s ∧ ∀ x, (x % s = R % s ∧ x % t = re) ↔ x % mulG s t = (R + k * s) % mulG s t := by
  obtain ⟨h1, h2, h3, h4⟩ := srch_s t 0 h
  have h1' := of_decide_eq_true h1
  have h5 : (R + k * s) % s = R % s := Nat.add_mul_mod_self_right R k s
  refine ⟨by omega, h1', h5, fun x => ⟨fun q => modU (q.1.trans h5.symm) (q.2.trans h1'.symm), fun q => ⟨(modD (mulG_l s t) q).trans h5, (modD (mulG_r s t) q).trans h1'⟩⟩⟩
/-- the reference's search -/
def cA (A s ne t : Nat) : Option Nat := srch (fun j => decide ((A + j * s) % t = ne)) (t + 1) 0
theorem ne_iff {ne re t d x : Nat} (ht : 0 < t) (hn : ne < t) (h : (ne + d) % t = re) : x % t = ne ↔ (x + d) % t = re := by
  constructor
  · intro q
    rw [← h, Nat.add_mod x d, q, Nat.add_mod_mod]
  · intro q
    have e : ((x + d : Nat) : Int) % (t : Int) = ((ne + d : Nat) : Int) % (t : Int) := by
      rw [← Int.natCast_emod, ← Int.natCast_emod, q, h]
    rw [Int.natCast_add, Int.natCast_add, Int.emod_add_cancel_right, ← Int.natCast_emod, ← Int.natCast_emod, Nat.mod_eq_of_lt hn] at e
    omega
/-- what both keep, egg by egg -/
def RA (R A s d : Nat) : Prop := A < s ∧ (A + d) % s = R % s
theorem RA_n {R A s d re ne t : Nat} (hs : 0 < s) (ht : 0 < t) (hI : RA R A s d) (hn : ne < t) (h : (ne + d) % t = re) (hc : cR R s re t = none) : cA A s ne t = none := by
  cases hA : cA A s ne t with
  | none => rfl
  | some j =>
    obtain ⟨h1, _⟩ := srch_s (t + 1) 0 hA
    have h1' := (ne_iff ht hn h).mp (of_decide_eq_true h1)
    refine absurd ⟨?_, h1'⟩ (cR_n hs ht hc (A + j * s + d))
    rw [← hI.2, Nat.add_right_comm, Nat.add_mul_mod_self_right]
theorem RA_s {R A s d re ne t k : Nat} (hs : 0 < s) (ht : 0 < t) (hI : RA R A s d) (hn : ne < t) (h : (ne + d) % t = re) (hc : cR R s re t = some k) : ∃ j, cA A s ne t = some j ∧ j ≤ t ∧ RA (R + k * s) (A + j * s) (mulG s t) d := by
  obtain ⟨c1, c2, c3, c4⟩ := cR_s hc
  cases hA : cA A s ne t with
  | none =>
    exfalso
    have hx : (R + k * s) % s = (A + d) % s := c3.trans hI.2.symm
    obtain ⟨j, j1, j2⟩ := reach hs ht hx c2
    have h2 := srch_n (t + 1) 0 hA j (by omega) (by omega)
    have h3 : (A + j * s) % t = ne := (ne_iff ht hn h).mpr (by rw [Nat.add_right_comm]; exact j2)
    rw [decide_eq_true h3] at h2
    cases h2
  | some j =>
    obtain ⟨h1, _, h3, h4⟩ := srch_s (t + 1) 0 hA
    have h1' := of_decide_eq_true h1
    have h1'' := (ne_iff ht hn h).mp h1'
    refine ⟨j, rfl, by omega, ?_, ?_⟩
    · obtain ⟨q, hq⟩ := mulG_l s t
      have hL := mulG_pos hs ht
      have hAs := hI.1
      refine Nat.lt_of_not_le (fun hge => ?_)
      have hq0 : 0 < q := Nat.pos_of_ne_zero (fun z => by rw [z, Nat.mul_zero] at hq; omega)
      have hjq : q ≤ j := by
        refine Nat.le_of_not_lt (fun hlt => ?_)
        have h5 : (j + 1) * s ≤ q * s := Nat.mul_le_mul_right s hlt
        rw [Nat.add_mul, Nat.one_mul, Nat.mul_comm q s, ← hq] at h5
        omega
      have h6 := h4 (j - q) (by omega) (by omega)
      have h7 : A + j * s = A + (j - q) * s + mulG s t := by
        rw [hq, Nat.mul_comm s q, Nat.add_assoc, ← Nat.add_mul, Nat.sub_add_cancel hjq]
      have h8 : (A + (j - q) * s) % t = ne := by
        obtain ⟨w, hw⟩ := mulG_r s t
        rw [h7, hw, Nat.add_mul_mod_self_left] at h1'
        exact h1'
      rw [decide_eq_true h8] at h6
      cases h6
    · refine modU ?_ ?_
      · rw [c3, ← hI.2, Nat.add_right_comm, Nat.add_mul_mod_self_right]
      · rw [h1'', c2]
theorem RA_z {R A s d : Nat} (h : RA R A s d) : ((R : Int) - (d : Int)) % (s : Int) = (A : Int) := by
  have hs : 0 < s := Nat.lt_of_le_of_lt (Nat.zero_le _) h.1
  have e : ((R : Int)) % (s : Int) = ((A : Int) + (d : Int)) % (s : Int) := by
    have := h.2
    rw [← Int.natCast_emod, ← Int.natCast_add, ← Int.natCast_emod, this]
  have e2 : ((R : Int) - (d : Int)) % (s : Int) = ((A : Int) + (d : Int) - (d : Int)) % (s : Int) := Int.emod_sub_cancel_right (d : Int) |>.mpr e
  rw [e2, Int.add_sub_cancel, Int.emod_eq_of_lt (by omega) (by have := h.1; omega)]
theorem ne_def {re d t : Nat} (hr : re < t) : ((((re : Int) - (d : Int)) % (t : Int)).toNat + d) % t = re := by
  have h1 := Int.emod_nonneg ((re : Int) - (d : Int)) (show (t : Int) ≠ 0 by omega)
  have e : (((((re : Int) - (d : Int)) % (t : Int)).toNat + d : Nat) : Int) % (t : Int) = ((re : Nat) : Int) % (t : Int) := by
    rw [Int.natCast_add, Int.toNat_of_nonneg h1, Int.emod_add_emod, Int.sub_add_cancel]
  rw [← Int.natCast_emod, ← Int.natCast_emod, Nat.mod_eq_of_lt hr] at e
  omega
