/-! the searches in both programs -/
theorem dueL {x re t : Nat} (ht : 0 < t) (hr : re < t) : ((x : Int) - (re : Int)).tmod (t : Int) = 0 ↔ x % t = re := due_iff ht hr
theorem comR_l {μ : Mem} {R s re t : Nat} (hR : R ≤ 1000000000000) (hs : s ≤ 1000000000000) (ht : 0 < t) (ht' : t ≤ 61) (hr : re < t) :
    ∀ m k n, k + m = t → m < n → f_X6_commonRest_3 μ n (lN R) (lN s) (lN re) (lN t) (lN k) = some (match srch (fun k => decide ((R + k * s) % t = re)) m k with | none => -lN 1 | some k => lN (R + k * s)) := by
  intro m
  induction m with
  | zero =>
    intro k n hk hn
    obtain ⟨n, rfl⟩ := suc_of hn
    rw [f_X6_commonRest_3, if_pos (by rw [cmp_ge, T_leL (by omega) (by omega)]; trivial)]
    rfl
  | succ m ih =>
    intro k n hk hn
    obtain ⟨n, rfl⟩ := suc_of hn
    have hks : k * s ≤ 61 * s := Nat.mul_le_mul_right s (by omega)
    have hb := tm_le (a := ((R + k * s : Nat) : Int) - (re : Int)) (t := (t : Int)) (M := 4000000000000000000) (by omega) (by omega) (by omega)
    have hdi := dueL (x := R + k * s) ht hr
    rw [f_X6_commonRest_3, if_neg (fun q => by rw [cmp_ge, F_leL (by omega) (by omega)] at q; exact q), lN_mul, lN_add, srch]
    simp only [bind_p]
    rw [lN_jL (R + k * s), lN_jL re, jL_sub, lN_jL t, rmL_i (by omega) (by omega) (by omega), ← lN_jL, ← lN_jL, ← lN_jL]
    simp only [bind_p]
    by_cases h : (R + k * s) % t = re
    · rw [if_pos (by rw [hdi.mpr h]; exact (cmp_eq _ _).mpr rfl), if_pos (decide_eq_true h)]
    · rw [if_neg, if_neg (by rw [decide_eq_false h]; decide), L1, lN_add]
      · exact ih (k + 1) n (by omega) (by omega)
      · intro q
        rw [cmp_eq, show (0 : Int64) = jL 0 from rfl, jL_eqI (by omega) (by omega) (by omega) (by omega)] at q
        exact h (hdi.mp q)
theorem comR {μ : Mem} {R s re t : Nat} (hR : R ≤ 1000000000000) (hs : s ≤ 1000000000000) (ht : 0 < t) (ht' : t ≤ 61) (hr : re < t) : f_X6_commonRest μ (lN R) (lN s) (lN re) (lN t) = some (match cR R s re t with | none => -lN 1 | some k => lN (R + k * s)) :=
  comR_l hR hs ht ht' hr t 0 FU (by omega) (FU_p _ (by omega))
/-- the reference's: what comes behind the search -/
theorem f90_y {κ : Mem → Int32 → Int64 → Int64 → Int32 → Option (Int64 × Mem)} {ξ : Mem} {st : Int32} {A s e t j : Nat} (hs : s ≤ 1000000000000) (hs0 : 0 < s) (ht : 0 < t) (ht' : t ≤ 61) (hj : j ≤ t) : f_X7_first_90 κ ξ st (lN A) (lN s) (nI e) (nI t) (nI j) = κ ξ st (lN A) (lN (mulG s t)) (nI (e + 1)) := by
  have hg := Nat.gcd_pos_of_pos_left t hs0
  have hgl : Nat.gcd s t ≤ s := Nat.le_of_dvd hs0 (Nat.gcd_dvd_left s t)
  unfold f_X7_first_90 f_X7_first_118
  rw [if_pos (nI_le hj (by omega)), nI_lE (by omega), gcd7 (by omega) (by omega)]
  simp only [bind_p]
  rw [dvL_n (by omega) hg (by omega)]
  simp only [bind_p]
  rw [lN_mul, K1, nI_add]
  rfl
theorem fmL {μ : Mem} {a : Int} {t : Nat} (ha : -4000000000000000000 ≤ a ∧ a ≤ 4000000000000000000) (ht : 0 < t) (ht' : t ≤ 61) : f_J9_floorMod_1978a μ (jL a) (nI t) = some (nI (a % (t : Int)).toNat) := by
  have h1 := Int.emod_nonneg a (show (t : Int) ≠ 0 by omega)
  unfold f_J9_floorMod_1978a
  rw [nI_jL (by omega), fm6 ha (by omega) (by omega)]
  simp only [bind_p]
  rw [jL_I, iI_nat h1]
theorem f55_l {κ : Mem → Int32 → Int64 → Int64 → Int32 → Option (Int64 × Mem)} {μ : Mem} {st : Int32} {e d A s : Nat} {l : List CL} {σ : SG} (he : e < 6) (hH : HM μ l) (hl : okL l) (hr : RowM μ σ e) (hk : okE σ e) (h10 : gI μ 2000 10 = nI d) (hd : d ≤ 1000000) (hA : A ≤ 1000000000000) (hs : s ≤ 1000000000000) (hs0 : 0 < s) :
    ∀ m j n ξ, Sk μ ξ → j + m = tuE σ e + 1 → m < n → ∃ ζ, f_X7_first_55 κ n ξ st (lN (A + j * s)) (lN s) (nI e) (nI (tuE σ e)) (nI j) = (match srch (fun j => decide ((A + j * s) % tuE σ e = neE σ l e d)) m j with | none => some (-lN 5, ζ) | some j => κ ζ st (lN (A + j * s)) (lN (mulG s (tuE σ e))) (nI (e + 1))) ∧ Sk μ ζ := by
  have htb := tuE_b hk
  have hnb := neE_b (l := l) (d := d) hk
  intro m
  induction m with
  | zero =>
    intro j n ξ hs' hj hn
    obtain ⟨n, rfl⟩ := suc_of hn
    refine ⟨ξ, ?_, hs'⟩
    rw [f_X7_first_55, if_pos (nI_lt (by omega) (by omega))]
    unfold f_X7_first_90
    rw [if_neg (nI_ge (by omega) (by omega))]
    rfl
  | succ m ih =>
    intro j n ξ hs' hj hn
    obtain ⟨n, rfl⟩ := suc_of hn
    have hjs : j * s ≤ 61 * s := Nat.mul_le_mul_right s (by omega)
    obtain ⟨ζ, i1, i2⟩ := inD7 (e := e) (d := d) he (hH.sk hs') hl (hr.sk hs') hk (by rw [hs'.1 2000 (by omega)]; exact h10) hd
    have hm1 := Int.emod_nonneg (((A + j * s : Nat) : Int) - (neE σ l e d : Int)) (show (tuE σ e : Int) ≠ 0 by omega)
    have hm2 := Int.emod_lt_of_pos (((A + j * s : Nat) : Int) - (neE σ l e d : Int)) (show 0 < (tuE σ e : Int) by omega)
    have hdi : (((A + j * s : Nat) : Int) - (neE σ l e d : Int)) % (tuE σ e : Int) = 0 ↔ (A + j * s) % tuE σ e = neE σ l e d := by
      rw [← tm0 (by omega)]; exact dueL (by omega) hnb
    rw [f_X7_first_55, if_neg (nI_nlt (by omega) (by omega)), i1, srch]
    simp only [bind_p]
    rw [nI_lE (by omega), lN_jL (A + j * s), lN_jL (neE σ l e d), jL_sub, fmL (by omega) (by omega) (by omega), ← lN_jL]
    simp only [bind_p]
    by_cases h : (A + j * s) % tuE σ e = neE σ l e d
    · refine ⟨ζ, ?_, hs'.trans i2⟩
      rw [if_pos (by rw [hdi.mpr h]; rfl), if_pos (decide_eq_true h), f90_y hs hs0 (by omega) (by omega) (by omega)]
    · obtain ⟨η, e1, e2⟩ := ih (j + 1) n ζ (hs'.trans i2) (by omega) (by omega)
      refine ⟨η, ?_, e2⟩
      rw [if_neg (nI_ne0 (by omega) (by omega)), if_neg (by rw [decide_eq_false h]; decide), lN_add, K1, nI_add, show A + j * s + s = A + (j + 1) * s by rw [Nat.add_mul, Nat.one_mul, Nat.add_assoc]]
      exact e1
/-! the chain of a set -/
def chG (σ : SG) (l : List CL) : Nat → Nat → Nat → Nat → Nat → Option (Nat × Nat)
  | 0, _, R, s, _ => some (R, s)
  | m + 1, e, R, s, x => if x % 2 = 1 then (if σ 5 e = 1 then none else (match cR R s (reE σ l e) (tuE σ e) with | none => none | some k => chG σ l m (e + 1) (R + k * s) (mulG s (tuE σ e)) (x / 2))) else chG σ l m (e + 1) R s (x / 2)
theorem p61 (i : Nat) (h : i ≤ 6) : 61 ^ i ≤ 51520374361 := Nat.le_trans (Nat.pow_le_pow_right (by omega) h) (by decide)
theorem nx61 {i s t R k : Nat} (hs : s ≤ 61 ^ i) (hR : R < 61 ^ i) (ht : t ≤ 61) (hk : k < t) : mulG s t ≤ 61 ^ (i + 1) ∧ R + k * s < 61 ^ (i + 1) := by
  have h1 := mulG_le s t
  have h2 : s * t ≤ 61 ^ i * 61 := Nat.mul_le_mul hs ht
  have h3 : k * s ≤ 60 * 61 ^ i := Nat.mul_le_mul (by omega) hs
  rw [Nat.pow_succ]
  omega
theorem half2 (x e : Nat) : x / 2 ^ e / 2 = x / 2 ^ (e + 1) := by rw [Nat.div_div_eq_div_mul, Nat.pow_succ]
theorem meet_l {ν : Mem} {S set w D st : Nat} {b : Int32} {l : List CL} {σ : SG} (hX : XS ν S σ) (hR : Rk ν S σ l (σ 0 0)) (ho : okDy w D st σ) (hset : set < 64) :
    ∀ m e n R s, e + m = σ 0 0 → m < n → s ≤ 61 ^ e → 0 < s → R < 61 ^ e → f_X2_meeting_8 ν S n (nI set) b (lN R) (lN s) (nI e) = (match chG σ l m e R s (set / 2 ^ e) with | none => some (-lN 5) | some q => f_X2_meeting_8 ν S 1 (nI set) b (lN q.1) (lN q.2) (nI (σ 0 0))) := by
  have h6 := ho.1.1
  intro m
  induction m with
  | zero =>
    intro e n R s he hn hs hs0 hRb
    obtain ⟨n, rfl⟩ := suc_of hn
    obtain rfl : e = σ 0 0 := by omega
    rw [chG, f_X2_meeting_8, hX.1.1, if_pos (nI_le (by omega) (by omega))]
    show _ = f_X2_meeting_8 ν S (0 + 1) (nI set) b (lN R) (lN s) (nI (σ 0 0))
    rw [f_X2_meeting_8, hX.1.1, if_pos (nI_le (by omega) (by omega))]
  | succ m ih =>
    intro e n R s he hn hs hs0 hRb
    obtain ⟨n, rfl⟩ := suc_of hn
    have h61 := p61 e (by omega)
    have hbit := bit7 (e := e) (b := set) (by omega) (by omega)
    have hk := (ho.2.2 e (by omega)).1
    have htb := tuE_b hk
    have hrb := reE_b (l := l) hk
    have hk5 := hk.1.2.2.2.2.2
    have h4 : gI ν (S + 1 + 1 + e) 4 = nI (σ 5 e) := (hX.2.1 e (by omega)).1 4 (by omega)
    obtain ⟨r7, r8⟩ := hR e (by omega)
    have hnx : nI e + (1 : Int32) = nI (e + 1) := by rw [K1, nI_add]
    rw [f_X2_meeting_8, hX.1.1, if_neg (nI_ge (by omega) (by omega)), hbit, chG, half2]
    rcases b01 (set / 2 ^ e) with hv | hv
    · rw [hv, if_neg (by decide), if_neg (by decide), f_X2_meeting_92]
      simp only [bind_p]
      rw [hnx]
      exact ih (e + 1) n R s (by omega) (by omega) (by rw [Nat.pow_succ]; omega) hs0 (by rw [Nat.pow_succ]; omega)
    · rw [hv, if_pos (show nI 1 = 1 from rfl), if_pos rfl, aix_n (by omega) (by omega)]
      simp only [bind_p]
      rw [K4, ldI_n (by omega) (by omega), h4]
      simp only [bind_p]
      by_cases hb : σ 5 e = 1
      · rw [if_pos (by rw [hb]; rfl), if_pos hb]
        unfold f_X2_meeting_68
        rw [if_neg (by decide)]
        rfl
      · rw [if_neg (by rw [K1, nI_eq (by omega) (by omega)]; exact hb), if_neg hb, K8, ldI_n (by omega) (by omega), r8]
        simp only [bind_p]
        rw [K7, ldI_n (by omega) (by omega), r7]
        simp only [bind_p]
        rw [nI_lE (by omega), nI_lE (by omega), comR (by omega) (by omega) (by omega) (by omega) hrb]
        simp only [bind_p]
        cases hc : cR R s (reE σ l e) (tuE σ e) with
        | none =>
          unfold f_X2_meeting_68
          rw [if_neg (show ¬ (0 : Int32) ≤ lg_cmp (-lN 1) 0 by decide)]
          rfl
        | some k =>
          obtain ⟨c1, _⟩ := cR_s hc
          obtain ⟨n1, n2⟩ := nx61 hs hRb htb.2 c1
          have h61' := p61 (e + 1) (by omega)
          unfold f_X2_meeting_68
          show (if (0 : Int32) ≤ lg_cmp (lN (R + k * s)) 0 then _ else _) = _
          rw [if_pos (by rw [cmp_ge, L0, T_leL (by omega) (by omega)]; trivial), K7, ldI_n (by omega) (by omega), r7]
          simp only [bind_p]
          rw [nI_lE (by omega), cm6 (by omega) hs0 (by omega)]
          simp only [bind_p]
          rw [f_X2_meeting_92]
          simp only [bind_p]
          rw [hnx]
          exact ih (e + 1) n _ _ (by omega) (by omega) n1 (mulG_pos hs0 (by omega)) n2
theorem first_l {μ : Mem} {set w D st d : Nat} {l : List CL} {σ : SG} (hM : MS μ σ) (hH : HM μ l) (hl : okL l) (ho : okDy w D st σ) (hset : set < 64) (hd : d = σ 10 0) (hD : d ≤ 1000000) :
    ∀ m e n ξ R A s, Sk μ ξ → e + m = σ 0 0 → m < n → s ≤ 61 ^ e → 0 < s → R < 61 ^ e → RA R A s d → ∃ ζ, Sk μ ζ ∧ (match chG σ l m e R s (set / 2 ^ e) with | none => f_X7_first_8 n ξ (nI set) (lN A) (lN s) (nI e) = some (-lN 5, ζ) | some q => ∃ A', f_X7_first_8 n ξ (nI set) (lN A) (lN s) (nI e) = some (lN A', ζ) ∧ RA q.1 A' q.2 d ∧ q.2 ≤ 61 ^ (e + m) ∧ 0 < q.2 ∧ q.1 < 61 ^ (e + m)) := by
  have h6 := ho.1.1
  intro m
  induction m with
  | zero =>
    intro e n ξ R A s hs he hn hs1 hs0 hRb hI
    obtain ⟨n, rfl⟩ := suc_of hn
    obtain rfl : e = σ 0 0 := by omega
    refine ⟨ξ, hs, ?_⟩
    rw [chG]
    refine ⟨A, ?_, hI, by rw [Nat.add_zero]; exact hs1, hs0, by rw [Nat.add_zero]; exact hRb⟩
    rw [f_X7_first_8, (hs.MS hM).1.1, if_pos (nI_le (by omega) (by omega))]
  | succ m ih =>
    intro e n ξ R A s hs he hn hs1 hs0 hRb hI
    obtain ⟨n, rfl⟩ := suc_of hn
    have h61 := p61 e (by omega)
    have hbit := bit7 (e := e) (b := set) (by omega) (by omega)
    have hk := (ho.2.2 e (by omega)).1
    have htb := tuE_b hk
    have hrb := reE_b (l := l) hk
    have hk5 := hk.1.2.2.2.2.2
    have hrm : RowM ξ σ e := (hs.MS hM).2.1 e (by omega)
    have h4 : gI ξ 2005 e = nI (σ 5 e) := hrm.1 4 (by omega)
    have hnx : nI e + (1 : Int32) = nI (e + 1) := by rw [K1, nI_add]
    have hA1 := hI.1
    rw [f_X7_first_8, (hs.MS hM).1.1, if_neg (nI_ge (by omega) (by omega)), hbit, chG, half2]
    rcases b01 (set / 2 ^ e) with hv | hv
    · rw [hv, if_pos (show nI 0 = 0 from rfl), if_neg (by decide), f_X7_first_118]
      simp only [bind_p]
      rw [hnx, show e + (m + 1) = e + 1 + m by omega]
      exact ih (e + 1) n ξ R A s hs (by omega) (by omega) (by rw [Nat.pow_succ]; omega) hs0 (by rw [Nat.pow_succ]; omega) hI
    · rw [hv, if_neg (show ¬ nI 1 = (0 : Int32) by decide), if_pos (rfl : (1 : Nat) = 1), ldI_n (by omega) (by omega), h4]
      simp only [bind_p]
      by_cases hb : σ 5 e = 1
      · rw [if_pos (show nI (σ 5 e) = (1 : Int32) by rw [hb]; rfl), if_pos hb]
        exact ⟨ξ, hs, rfl⟩
      · rw [if_neg (show ¬ nI (σ 5 e) = (1 : Int32) by rw [K1, nI_eq (by omega) (by omega)]; exact hb), if_neg hb, turn7 (by omega) hrm hk]
        simp only [bind_p]
        have hne : (neE σ l e d + d) % tuE σ e = reE σ l e := ne_def hrb
        have hnb := neE_b (l := l) (d := d) hk
        obtain ⟨ζ, f1, f2⟩ := f55_l (κ := fun μ z0 z1 z2 z3 => f_X7_first_8 n μ z0 z1 z2 z3) (st := nI set) (e := e) (d := d) (A := A) (s := s) (by omega) hH hl (hM.2.1 e (by omega)) hk (by rw [hd]; exact hM.1.2.2.1) hD (by omega) (by omega) hs0 (tuE σ e + 1) 0 FU ξ hs (by omega) (FU_p _ (by omega))
        rw [Nat.zero_mul, Nat.add_zero] at f1
        cases hc : cR R s (reE σ l e) (tuE σ e) with
        | none =>
          have hcA : srch (fun j => decide ((A + j * s) % tuE σ e = neE σ l e d)) (tuE σ e + 1) 0 = none := RA_n hs0 (by omega) hI hnb hne hc
          rw [hcA] at f1
          exact ⟨ζ, f2, f1⟩
        | some k =>
          obtain ⟨c1, _⟩ := cR_s hc
          obtain ⟨n1, n2⟩ := nx61 hs1 hRb htb.2 c1
          obtain ⟨j, hj, hj2, hI2⟩ := RA_s hs0 (by omega) hI hnb hne hc
          have hcA : srch (fun j => decide ((A + j * s) % tuE σ e = neE σ l e d)) (tuE σ e + 1) 0 = some j := hj
          rw [hcA] at f1
          obtain ⟨η, g1, g2⟩ := ih (e + 1) n ζ (R + k * s) (A + j * s) (mulG s (tuE σ e)) f2 (by omega) (by omega) n1 (mulG_pos hs0 (by omega)) n2 hI2
          refine ⟨η, g1, ?_⟩
          have f1' : f_X7_first_55 (fun μ z0 z1 z2 z3 => f_X7_first_8 n μ z0 z1 z2 z3) FU ξ (nI set) (lN A) (lN s) (nI e) (nI (tuE σ e)) 0 = f_X7_first_8 n ζ (nI set) (lN (A + j * s)) (lN (mulG s (tuE σ e))) (nI (e + 1)) := f1
          show (match chG σ l m (e + 1) (R + k * s) (mulG s (tuE σ e)) (set / 2 ^ (e + 1)) with | none => f_X7_first_55 (fun μ z0 z1 z2 z3 => f_X7_first_8 n μ z0 z1 z2 z3) FU ξ (nI set) (lN A) (lN s) (nI e) (nI (tuE σ e)) 0 = some (-lN 5, η) | some q => ∃ A', f_X7_first_55 (fun μ z0 z1 z2 z3 => f_X7_first_8 n μ z0 z1 z2 z3) FU ξ (nI set) (lN A) (lN s) (nI e) (nI (tuE σ e)) 0 = some (lN A', η) ∧ RA q.1 A' q.2 d ∧ q.2 ≤ 61 ^ (e + (m + 1)) ∧ 0 < q.2 ∧ q.1 < 61 ^ (e + (m + 1)))
          rw [f1', show e + (m + 1) = e + 1 + m by omega]
          exact g2
/-- the common multiple of a set's turns -/
def cmG (σ : SG) : Nat → Nat → Nat → Nat → Nat
  | 0, _, s, _ => s
  | m + 1, e, s, x => if x % 2 = 1 then cmG σ m (e + 1) (mulG s (tuE σ e)) (x / 2) else cmG σ m (e + 1) s (x / 2)
theorem ch_cm {σ : SG} {l : List CL} : ∀ m e R s x q, chG σ l m e R s x = some q → cmG σ m e s x = q.2
  | 0, e, R, s, x, q, h => by
    rw [chG] at h
    obtain rfl := Option.some.inj h
    rfl
  | m + 1, e, R, s, x, q, h => by
    rw [chG] at h
    rw [cmG]
    by_cases hv : x % 2 = 1
    · rw [if_pos hv] at h ⊢
      by_cases hb : σ 5 e = 1
      · rw [if_pos hb] at h; cases h
      · rw [if_neg hb] at h
        cases hc : cR R s (reE σ l e) (tuE σ e) with
        | none => rw [hc] at h; cases h
        | some k => rw [hc] at h; exact ch_cm m _ _ _ _ q h
    · rw [if_neg hv] at h ⊢
      exact ch_cm m _ _ _ _ q h
theorem com_l {μ : Mem} {set w D st : Nat} {σ : SG} (hM : MS μ σ) (ho : okDy w D st σ) (hset : set < 64) :
    ∀ m e n s, e + m = σ 0 0 → m < n → s ≤ 61 ^ e → 0 < s → f_X7_common_5 μ n (nI set) (lN s) (nI e) = some (lN (cmG σ m e s (set / 2 ^ e))) ∧ cmG σ m e s (set / 2 ^ e) ≤ 61 ^ (e + m) ∧ 0 < cmG σ m e s (set / 2 ^ e) := by
  have h6 := ho.1.1
  intro m
  induction m with
  | zero =>
    intro e n s he hn hs hs0
    obtain ⟨n, rfl⟩ := suc_of hn
    refine ⟨?_, hs, hs0⟩
    rw [f_X7_common_5, hM.1.1, if_pos (nI_le (by omega) (by omega))]
    rfl
  | succ m ih =>
    intro e n s he hn hs hs0
    obtain ⟨n, rfl⟩ := suc_of hn
    have h61 := p61 e (by omega)
    have hbit := bit7 (e := e) (b := set) (by omega) (by omega)
    have hk := (ho.2.2 e (by omega)).1
    have htb := tuE_b hk
    have hrm : RowM μ σ e := hM.2.1 e (by omega)
    have hnx : nI e + (1 : Int32) = nI (e + 1) := by rw [K1, nI_add]
    rw [f_X7_common_5, hM.1.1, if_neg (nI_ge (by omega) (by omega)), hbit, cmG, half2, show e + (m + 1) = e + 1 + m by omega]
    rcases b01 (set / 2 ^ e) with hv | hv
    · rw [hv, if_neg (by decide), if_neg (by decide), f_X7_common_46]
      simp only [bind_p]
      rw [hnx]
      exact ih (e + 1) n s (by omega) (by omega) (by rw [Nat.pow_succ]; omega) hs0
    · have hg := Nat.gcd_pos_of_pos_left (tuE σ e) hs0
      have hgl : Nat.gcd s (tuE σ e) ≤ s := Nat.le_of_dvd hs0 (Nat.gcd_dvd_left _ _)
      have n1 : mulG s (tuE σ e) ≤ 61 ^ (e + 1) := Nat.le_trans (mulG_le _ _) (by rw [Nat.pow_succ]; exact Nat.mul_le_mul hs htb.2)
      rw [hv, if_pos (show nI 1 = 1 from rfl), if_pos rfl, turn7 (by omega) hrm hk]
      simp only [bind_p]
      rw [nI_lE (by omega), gcd7 (by omega) (by omega)]
      simp only [bind_p]
      rw [dvL_n (by omega) hg (by omega)]
      simp only [bind_p]
      rw [lN_mul, f_X7_common_46]
      simp only [bind_p]
      rw [hnx]
      exact ih (e + 1) n _ (by omega) (by omega) n1 (mulG_pos hs0 (by omega))
theorem com7 {μ : Mem} {set w D st : Nat} {σ : SG} (hM : MS μ σ) (ho : okDy w D st σ) (hset : set < 64) : f_X7_common μ (nI set) = some (lN (cmG σ (σ 0 0) 0 1 set)) ∧ cmG σ (σ 0 0) 0 1 set ≤ 51520374361 ∧ 0 < cmG σ (σ 0 0) 0 1 set := by
  have h6 := ho.1.1
  obtain ⟨h1, h2, h3⟩ := com_l hM ho hset (σ 0 0) 0 FU 1 (by omega) (FU_p _ (by omega)) (by omega) (by omega)
  rw [Nat.pow_zero, Nat.div_one] at h1 h2 h3
  exact ⟨h1, Nat.le_trans h2 (p61 _ (by omega)), h3⟩
theorem shl_1 : ∀ E, E < 7 → ((1 : Int32) <<< (nI E &&& 31)) = nI (2 ^ E) := by decide +kernel
theorem s_together {T : PT} {μ : Mem} (hR : RR T μ) (a b : Int32) : Same T μ (fun μ => f_X6_together μ a b) (fun μ => f_X7_together μ a b) := by
  obtain ⟨⟨x1, _⟩, ⟨m1, _⟩, o1, _⟩ := id hR
  have hE := o1.1.1
  have hD := o1.1.2.2.1
  have hsh := shl_1 (T.1 0 0 0) (by omega)
  have h64 := pow6 hE
  have hp := Nat.two_pow_pos (T.1 0 0 0)
  by_cases ha : 0 ≤ a.toInt ∧ a.toInt < (2 ^ (T.1 0 0 0) : Nat)
  · obtain ⟨set, hset, rfl, hset'⟩ := nat_of ha.1
    have hs2 : set < 2 ^ T.1 0 0 0 := by omega
    have cx : ∀ μ, f_X6_within μ (nI set).toInt64 0 (nI (2 ^ T.1 0 0 0) - 1).toInt64 = some 1 := fun μ => by
      rw [K1, nI_sub (by omega), nI_lE (by omega), nI_lE (by omega)]
      exact w6T (b := 0) (by omega) (by omega) (by omega)
    rcases arg b (lo := 0) (hi := 1) (A := 0) (B := 1) (C := 0) (D := 1) rfl rfl rfl rfl with ⟨q, _, hq, _, rfl, hbx, hbm⟩ | ⟨_, hbx, hbm⟩
    · obtain ⟨ν, e1, e2, e3, e4, e5, e6, e7, e8⟩ := rk100 hR
      obtain ⟨hH, hl⟩ := holdM e6 e4 o1.1.2.2.2
      have hm0 := meet_l (S := 100) (set := set) (b := if nI q = 1 then 1 else 0) e3 e7 o1.dy (by omega) (T.1 0 0 0) 0 FU 0 1 (by omega) (FU_p _ (by omega)) (by omega) (by omega) (by omega)
      obtain ⟨ζ, g1, g2⟩ := first_l (set := set) (d := T.1 0 10 0) e4 hH hl o1.dy (by omega) rfl (by omega) (T.1 0 0 0) 0 FU ν 0 0 1 (Sk.rfl' _) (by omega) (FU_p _ (by omega)) (by omega) (by omega) (by omega) ⟨by omega, by omega⟩
      rw [Nat.pow_zero, Nat.div_one] at hm0 g2
      obtain ⟨cm1, cm2, cm3⟩ := com7 (set := set) (g1.MS e4) o1.dy (by omega)
      have clsx : ∀ r, f_X2_meeting ν 100 (nI set) (if nI q = 1 then 1 else 0) = some r → f_X6_together μ (nI set) (nI q) = some (r, ν) := fun r hr => by
        unfold f_X6_together
        rw [x1.1.1, hsh, cx, hbx, e1]
        simp only [bind_p]
        rw [if_neg (by decide), if_neg (by decide)]
        by_cases h1 : nI q = 1
        · rw [if_pos h1] at hr ⊢
          unfold f_X6_together_58
          rw [hr]; rfl
        · rw [if_neg h1] at hr ⊢
          unfold f_X6_together_58
          rw [hr]; rfl
      have refr : ∀ r v, f_X7_first ν (nI set) = some (v, ζ) → (if (0 : Int32) ≤ lg_cmp v 0 then (if nI q = (0 : Int32) then some (((gI ζ 2000 10).toInt64) + v, ζ) else (f_X7_common ζ (nI set)).bind fun v25 => some (v25, ζ)) else some ((-5 : Int64), ζ)) = some (r, ζ) → f_X7_together ν (nI set) (nI q) = some (r, ζ) := fun r v hv hr => by
        unfold f_X7_together
        rw [if_neg (nI_pos (by omega)), e4.1.1, hsh, if_neg (nI_ge hs2 (by omega)), hbm, hv]
        simp only [bind_p]
        rw [if_neg (by decide)]
        exact hr
      cases hch : chG (T.1 0) (clF T.2.2 (T.1 0)) (T.1 0 0 0) 0 0 1 set with
      | none =>
        rw [hch] at hm0 g2
        exact same_rk (r := -5) hR e2 e3 e4 (clsx _ hm0) (refr _ _ g2 (by rw [if_neg (show ¬ (0 : Int32) ≤ lg_cmp (-lN 5) 0 by decide)])) g1
      | some p =>
        rw [hch] at hm0 g2
        obtain ⟨A, f1, f2, f3, f4, f5⟩ := g2
        have hcm := ch_cm _ _ _ _ _ _ hch
        have hz := RA_z f2
        have h61 := p61 (T.1 0 0 0) (by omega)
        rw [Nat.zero_add] at f3 f5
        have hA1 := f2.1
        have hpos : (0 : Int32) ≤ lg_cmp (lN A) 0 := by rw [cmp_ge, L0, T_leL (by omega) (by omega)]; trivial
        have hmt : f_X2_meeting ν 100 (nI set) (if nI q = 1 then 1 else 0) = f_X2_meeting_8 ν 100 (0 + 1) (nI set) (if nI q = 1 then 1 else 0) (lN p.1) (lN p.2) (nI (T.1 0 0 0)) := hm0
        rw [f_X2_meeting_8, e3.1.1, if_pos (nI_le (Nat.le_refl _) (by omega))] at hmt
        rcases (show q = 0 ∨ q = 1 by omega) with rfl | rfl
        · rw [if_pos (show (if nI 0 = (1 : Int32) then (1 : Int32) else 0) = 0 by decide), e3.1.2.2.1, nI_jL (by omega), lN_jL, lN_jL, jL_sub, mod6 (by omega) (by omega) (by omega), hz] at hmt
          refine same_rk (r := lN (T.1 0 10 0 + A)) hR e2 e3 e4 (clsx _ ?_) (refr _ _ f1 ?_) g1
          · rw [hmt]
            simp only [bind_p]
            rw [jL_add, lN_jL, Int.natCast_add]
          · rw [if_pos hpos, if_pos (show nI 0 = (0 : Int32) from rfl), (g1.MS e4).1.2.2.1, nI_lE (by omega), lN_add]
        · rw [if_neg (show ¬ (if nI 1 = (1 : Int32) then (1 : Int32) else 0) = 0 by decide)] at hmt
          refine same_rk (r := lN p.2) hR e2 e3 e4 (clsx _ hmt) (refr _ _ f1 ?_) g1
          rw [if_pos hpos, if_neg (show ¬ nI 1 = (0 : Int32) by decide), cm1, hcm]
          rfl
    · refine same_q (r := -9223372036854775808) hR ?_ ?_
      · show f_X6_together μ _ b = _
        unfold f_X6_together; rw [x1.1.1, hsh, cx, hbx]; rfl
      · show f_X7_together μ _ b = _
        unfold f_X7_together; rw [if_neg (nI_pos (by omega)), m1.1.1, hsh, if_neg (nI_ge hs2 (by omega)), hbm]; rfl
  · refine same_q (r := -9223372036854775808) hR ?_ ?_
    · show f_X6_together μ a b = _
      unfold f_X6_together
      rw [x1.1.1, hsh, w6_no]
      · rfl
      · intro q
        rw [K1, nI_sub (by omega), nI_lE (by omega), Int64.le_iff_toInt_le, Int64.le_iff_toInt_le, Int32.toInt_toInt64, show (0 : Int64).toInt = 0 by decide, lN_toInt (by omega)] at q
        omega
    · show f_X7_together μ a b = _
      unfold f_X7_together
      by_cases h0 : a < 0
      · rw [if_pos h0]
      · rw [if_neg h0, m1.1.1, hsh, if_pos]
        rw [Int32.lt_iff_toInt_lt, show (0 : Int32).toInt = 0 by decide] at h0
        rw [Int32.le_iff_toInt_le, nI_toInt (by omega)]
        omega
