/-! the rest of a division, as both reckon it -/
theorem tm_eq {a t : Int} (ht : 0 < t) : (if 0 ≤ a then a.tmod t else if a.tmod t = 0 then a.tmod t else a.tmod t + t) = a % t := by
  have h1 := Int.emod_nonneg a (show t ≠ 0 by omega)
  have h2 := Int.emod_lt_of_pos a ht
  by_cases h : 0 ≤ a
  · rw [if_pos h, Int.tmod_eq_emod_of_nonneg h]
  · have hn : (t.natAbs : Int) = t := Int.natAbs_of_nonneg (by omega)
    have ht := Int.tmod_eq_emod (a := a) (b := t)
    by_cases hd : t ∣ a
    · have h3 : a % t = 0 := Int.emod_eq_zero_of_dvd hd
      rw [if_pos (show 0 ≤ a ∨ t ∣ a from .inr hd)] at ht
      rw [if_neg h, ht, if_pos (by omega)]
      omega
    · have h3 : a % t ≠ 0 := fun q => hd (Int.dvd_of_emod_eq_zero q)
      rw [if_neg (show ¬ (0 ≤ a ∨ t ∣ a) from fun q => q.elim h hd), hn] at ht
      rw [if_neg h, ht, if_neg (by omega)]
      omega
theorem td_le {a t : Int} {M : Int} (h : -M ≤ a ∧ a ≤ M) : -M ≤ a.tdiv t ∧ a.tdiv t ≤ M := by
  have := Int.natAbs_tdiv_le_natAbs a t
  omega
theorem iI_div {a t : Int} (ha : -1000000000 ≤ a ∧ a ≤ 1000000000) (ht : -2147483648 ≤ t) (ht' : t < 2147483648) : iI a / iI t = iI (a.tdiv t) := by
  have h := td_le (t := t) (M := 1000000000) ha
  apply Int32.toInt_inj.mp
  rw [Int32.toInt_div, iI_toInt (by omega) (by omega), iI_toInt ht ht', iI_toInt (by omega) (by omega)]
  generalize a.tdiv t = q at h
  rw [Int.bmod_eq_of_le (by omega) (by omega)]
theorem jL_div {a t : Int} (ha : -4000000000000000000 ≤ a ∧ a ≤ 4000000000000000000) (ht : -9223372036854775808 ≤ t) (ht' : t < 9223372036854775808) : jL a / jL t = jL (a.tdiv t) := by
  have h := td_le (t := t) (M := 4000000000000000000) ha
  apply Int64.toInt_inj.mp
  rw [Int64.toInt_div, jL_toInt (by omega) (by omega), jL_toInt ht ht', jL_toInt (by omega) (by omega)]
  generalize a.tdiv t = q at h
  rw [Int.bmod_eq_of_le (by omega) (by omega)]
theorem rmI_i {a t : Int} (ha : -1000000000 ≤ a ∧ a ≤ 1000000000) (ht : 0 < t) (ht' : t < 2147483648) : rmI (iI a) (iI t) = some (iI (a.tmod t)) := by
  unfold rmI
  rw [if_neg (fun q => by rw [show (0 : Int32) = iI 0 from rfl, iI_eqI (by omega) (by omega) (by omega) (by omega)] at q; omega), iI_div ha (by omega) ht', iI_mul, iI_sub, Int.tmod_def, Int.mul_comm]
theorem rmL_i {a t : Int} (ha : -4000000000000000000 ≤ a ∧ a ≤ 4000000000000000000) (ht : 0 < t) (ht' : t < 9223372036854775808) : rmL (jL a) (jL t) = some (jL (a.tmod t)) := by
  unfold rmL
  rw [if_neg (fun q => by rw [show (0 : Int64) = jL 0 from rfl, jL_eqI (by omega) (by omega) (by omega) (by omega)] at q; omega), jL_div ha (by omega) ht', jL_mul, jL_sub, Int.tmod_def, Int.mul_comm]
theorem dvL_i {a t : Int} (ha : -4000000000000000000 ≤ a ∧ a ≤ 4000000000000000000) (ht : 0 < t) (ht' : t < 9223372036854775808) : dvL (jL a) (jL t) = some (jL (a.tdiv t)) := by
  unfold dvL
  rw [if_neg (fun q => by rw [show (0 : Int64) = jL 0 from rfl, jL_eqI (by omega) (by omega) (by omega) (by omega)] at q; omega), jL_div ha (by omega) ht']
theorem tm_le {a t M : Int} (ha : -M ≤ a ∧ a ≤ M) (ht : 0 < t) (ht' : t ≤ M) : -M ≤ a.tmod t ∧ a.tmod t ≤ M := by
  have h1 := Int.emod_nonneg a (show t ≠ 0 by omega)
  have h2 := Int.emod_lt_of_pos a ht
  have h3 := tm_eq (a := a) ht
  split at h3
  · omega
  · split at h3
    · omega
    · omega
theorem xI_sg (x y : Int32) (hy : 0 ≤ y.toInt) : (0 ≤ x ^^^ y) ↔ 0 ≤ x.toInt := by
  have hm : (x ^^^ y).toBitVec.msb = (x.toBitVec.msb ^^ y.toBitVec.msb) := by rw [Int32.toBitVec_xor, BitVec.msb_xor]
  rw [BitVec.msb_eq_toInt, BitVec.msb_eq_toInt, BitVec.msb_eq_toInt, Int32.toInt_toBitVec, Int32.toInt_toBitVec, Int32.toInt_toBitVec, decide_eq_false (p := y.toInt < 0) (by omega), Bool.xor_false] at hm
  have hm2 := decide_eq_decide.mp hm
  rw [Int32.le_iff_toInt_le, show (0 : Int32).toInt = 0 by decide]
  omega
theorem xL_sg (x y : Int64) (hy : 0 ≤ y.toInt) : (0 ≤ x ^^^ y) ↔ 0 ≤ x.toInt := by
  have hm : (x ^^^ y).toBitVec.msb = (x.toBitVec.msb ^^ y.toBitVec.msb) := by rw [Int64.toBitVec_xor, BitVec.msb_xor]
  rw [BitVec.msb_eq_toInt, BitVec.msb_eq_toInt, BitVec.msb_eq_toInt, Int64.toInt_toBitVec, Int64.toInt_toBitVec, Int64.toInt_toBitVec, decide_eq_false (p := y.toInt < 0) (by omega), Bool.xor_false] at hm
  have hm2 := decide_eq_decide.mp hm
  rw [Int64.le_iff_toInt_le, show (0 : Int64).toInt = 0 by decide]
  omega
theorem fm7 {μ : Mem} {a t : Int} (ha : -1000000000 ≤ a ∧ a ≤ 1000000000) (ht : 0 < t) (ht' : t ≤ 1000000000) : f_J9_floorMod_7cf53 μ (iI a) (iI t) = some (iI (a % t)) := by
  unfold f_J9_floorMod_7cf53
  have hb := tm_le ha ht ht'
  rw [rmI_i ha ht (by omega)]
  simp only [bind_p]
  have hs := xI_sg (iI a) (iI t) (by rw [iI_toInt (by omega) (by omega)]; omega)
  rw [iI_toInt (by omega) (by omega)] at hs
  rw [← tm_eq ht]
  by_cases h : 0 ≤ a
  · rw [if_pos (hs.mpr h), if_pos h]
  · rw [if_neg (fun q => h (hs.mp q)), if_neg h]
    by_cases h2 : a.tmod t = 0
    · rw [if_pos h2, h2, if_pos (show iI 0 = 0 from rfl)]
    · rw [if_neg h2, if_neg (by rw [show (0 : Int32) = iI 0 from rfl, iI_eqI (by omega) (by omega) (by omega) (by omega)]; exact h2), iI_add]
theorem fm6 {μ : Mem} {a t : Int} (ha : -4000000000000000000 ≤ a ∧ a ≤ 4000000000000000000) (ht : 0 < t) (ht' : t ≤ 4000000000000000000) : f_J9_floorMod_f86c9 μ (jL a) (jL t) = some (jL (a % t)) := by
  unfold f_J9_floorMod_f86c9
  have hb := tm_le ha ht ht'
  rw [rmL_i ha ht (by omega)]
  simp only [bind_p]
  have hs := xL_sg (jL a) (jL t) (by rw [jL_toInt (by omega) (by omega)]; omega)
  rw [jL_toInt (by omega) (by omega)] at hs
  rw [← tm_eq ht]
  by_cases h : 0 ≤ a
  · rw [if_pos ((cmp_ge _ _).mpr (hs.mpr h)), if_pos h]
  · rw [if_neg (fun q => h (hs.mp ((cmp_ge _ _).mp q))), if_neg h]
    by_cases h2 : a.tmod t = 0
    · rw [if_pos h2, h2, if_pos ((cmp_eq _ _).mpr (show jL 0 = 0 from rfl))]
    · rw [if_neg h2, if_neg (by rw [cmp_eq, show (0 : Int64) = jL 0 from rfl, jL_eqI (by omega) (by omega) (by omega) (by omega)]; exact h2), jL_add]
theorem mod6 {μ : Mem} {a t : Int} (ha : -4000000000000000000 ≤ a ∧ a ≤ 4000000000000000000) (ht : 0 < t) (ht' : t ≤ 4000000000000000000) : f_X6_modulo μ (jL a) (jL t) = some (jL (a % t)) := by
  unfold f_X6_modulo
  rw [if_pos ((cmp_ge _ _).mpr (by rw [show (1 : Int64) = jL 1 from rfl, jL_leI (by omega) (by omega) (by omega) (by omega)]; omega)), fm6 ha ht ht']
  rfl
theorem iI_nat {z : Int} (h : 0 ≤ z) : iI z = nI z.toNat := by rw [nI_iI]; congr 1; omega
theorem nI_jL {n : Nat} (h : n < 2147483648) : (nI n).toInt64 = jL n := by rw [nI_iI, iI_L (by omega) (by omega)]
/-! by how much all is late, an egg's turn and rest -/
def latZ (σ : SG) (e : Nat) : List CL → Int
  | [] => 0
  | q :: r => (if q.1 < 2 ∧ (evs σ e q.2.2 []).headD false = true then (if q.1 = 0 then (q.2.1 : Int) else -(q.2.1 : Int)) else 0) + latZ σ e r
theorem latZ_ces (σ : SG) (e : Nat) : ∀ l : List CL, latZ σ e (ces l) = latZ σ e l
  | [] => rfl
  | q :: r => by
    unfold ces
    rw [List.filter_cons]
    by_cases h : q.1 < 2
    · rw [if_pos (by rw [decide_eq_true h])]
      rw [latZ, latZ]
      have := latZ_ces σ e r
      unfold ces at this
      rw [this]
    · rw [if_neg (by rw [decide_eq_false h]; decide)]
      rw [latZ, if_neg (fun z => h z.1), Int.zero_add]
      exact latZ_ces σ e r
theorem latZ_b (σ : SG) (e : Nat) : ∀ l : List CL, (∀ q ∈ l, q.2.1 ≤ 99) → -(99 * (l.length : Int)) ≤ latZ σ e l ∧ latZ σ e l ≤ 99 * (l.length : Int)
  | [], _ => by unfold latZ; simp
  | q :: r, h => by
    have h1 := latZ_b σ e r (fun q hq => h q (List.mem_cons_of_mem _ hq))
    have h2 := h q List.mem_cons_self
    rw [latZ, List.length_cons]
    split
    · split <;> omega
    · omega
theorem allN_b : ∀ (l : List CL) (a : Nat), a ≤ 99 → (∀ q ∈ l, q.2.1 ≤ 99) → l.foldl (fun n q => if q.1 = 2 then q.2.1 else n) a ≤ 99
  | [], a, h, _ => h
  | q :: r, a, h, hq => by
    rw [List.foldl_cons]
    refine allN_b r _ ?_ (fun q h => hq q (List.mem_cons_of_mem _ h))
    have := hq q List.mem_cons_self
    split <;> omega
def sumZ (σ : SG) (l : List CL) (e : Nat) : Int := (σ 4 e : Int) + (allN l : Int) + latZ σ e l
def tuE (σ : SG) (e : Nat) : Nat := if σ 1 e = 2 then 2 * σ 3 e else if σ 1 e = 3 then σ 3 e + σ 2 e else if σ 1 e = 5 then 2 * σ 3 e + 1 else if σ 1 e = 6 then σ 3 e + σ 2 e else σ 3 e
def shE (σ : SG) (e : Nat) : Nat := if σ 1 e = 1 then σ 2 e else if σ 1 e = 4 then σ 2 e else if σ 1 e = 6 then σ 8 (4 * e + σ 3 e % 4) else 0
def reE (σ : SG) (l : List CL) (e : Nat) : Nat := if σ 1 e = 4 then tuE σ e - 1 - ((sumZ σ l e + (shE σ e : Int)) % (tuE σ e : Int)).toNat else ((sumZ σ l e + (shE σ e : Int)) % (tuE σ e : Int)).toNat
def neE (σ : SG) (l : List CL) (e d : Nat) : Nat := (((reE σ l e : Int) - (d : Int)) % (tuE σ e : Int)).toNat
def okL (l : List CL) : Prop := l.length ≤ 10 ∧ ∀ q ∈ l, okC q
theorem okL.n {l : List CL} (h : okL l) : ∀ q ∈ l, q.2.1 ≤ 99 := fun q hq => (h.2 q hq).2.1
theorem sumZ_b {σ : SG} {l : List CL} {e : Nat} (h4 : σ 4 e ≤ 29) (hl : okL l) : -2000 ≤ sumZ σ l e ∧ sumZ σ l e ≤ 2000 := by
  have h1 := latZ_b σ e l hl.n
  have h2 := allN_b l 0 (by omega) hl.n
  have h3 := hl.1
  unfold sumZ allN
  omega
def okE (σ : SG) (e : Nat) : Prop := (σ 1 e ≤ 6 ∧ σ 2 e ≤ 9 ∧ 1 ≤ σ 3 e ∧ σ 3 e ≤ 30 ∧ σ 4 e ≤ 29 ∧ σ 5 e ≤ 1) ∧ ∀ q, q < 4 → σ 8 (4 * e + q) ≤ 9
theorem okS.e {W st : Nat} {σ : SG} (h : okS W st σ) {e : Nat} (he : e < σ 0 0) : okE σ e := by
  obtain ⟨⟨b1, b2, b3, b4, b5, b6, b7, b8⟩, b9⟩ := h.2.1 e he
  exact ⟨⟨b1, b2, b3, b4, b5, b6⟩, b9⟩
theorem okE.f {σ : SG} {e : Nat} (h : okE σ e) : ∀ f, 1 ≤ f → f ≤ 5 → σ f e ≤ 30 := fun f h1 h2 => by
  obtain ⟨⟨b1, b2, b3, b4, b5, b6⟩, _⟩ := h
  rcases (show f = 1 ∨ f = 2 ∨ f = 3 ∨ f = 4 ∨ f = 5 by omega) with rfl | rfl | rfl | rfl | rfl <;> omega
theorem tuE_b {σ : SG} {e : Nat} (h : okE σ e) : 1 ≤ tuE σ e ∧ tuE σ e ≤ 61 := by
  obtain ⟨⟨b1, b2, b3, b4, b5, b6⟩, _⟩ := h
  unfold tuE
  split
  · omega
  · split
    · omega
    · split
      · omega
      · split <;> omega
theorem shE_b {σ : SG} {e : Nat} (h : okE σ e) : shE σ e ≤ 9 := by
  obtain ⟨⟨b1, b2, b3, b4, b5, b6⟩, b9⟩ := h
  have := b9 (σ 3 e % 4) (by omega)
  unfold shE
  split
  · omega
  · split
    · omega
    · split <;> omega
theorem reE_b {σ : SG} {l : List CL} {e : Nat} (h : okE σ e) : reE σ l e < tuE σ e := by
  have h1 := tuE_b h
  have h2 := Int.emod_nonneg (sumZ σ l e + (shE σ e : Int)) (show (tuE σ e : Int) ≠ 0 by omega)
  have h3 := Int.emod_lt_of_pos (sumZ σ l e + (shE σ e : Int)) (show 0 < (tuE σ e : Int) by omega)
  unfold reE
  split <;> omega
theorem neE_b {σ : SG} {l : List CL} {e d : Nat} (h : okE σ e) : neE σ l e d < tuE σ e := by
  have h1 := tuE_b h
  have h2 := Int.emod_nonneg ((reE σ l e : Int) - (d : Int)) (show (tuE σ e : Int) ≠ 0 by omega)
  have h3 := Int.emod_lt_of_pos ((reE σ l e : Int) - (d : Int)) (show 0 < (tuE σ e : Int) by omega)
  unfold neE
  omega
