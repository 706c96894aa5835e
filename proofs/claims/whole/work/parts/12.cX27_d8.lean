/-! often, busy, can -/
theorem dvL_n {a b : Nat} (ha : a ≤ 4000000000000000000) (h0 : 0 < b) (hb : b < 9223372036854775808) : dvL (lN a) (lN b) = some (lN (a / b)) := by
  have h1 : (a : Int).tdiv b = ((a / b : Nat) : Int) := (Int.ofNat_tdiv a b).symm
  rw [lN_jL, lN_jL, dvL_i (by omega) (by omega) (by omega), h1, ← lN_jL]
theorem rmL_n {a b : Nat} (ha : a ≤ 4000000000000000000) (h0 : 0 < b) (hb : b < 9223372036854775808) : rmL (lN a) (lN b) = some (lN (a % b)) := by
  rw [lN_jL, lN_jL, rmL_i (by omega) (by omega) (by omega), Int.tmod_eq_emod_of_nonneg (by omega), ← Int.natCast_emod, ← lN_jL]
theorem argJ (v : Int64) : (∃ n : Nat, n ≤ 1000000000 ∧ v = lN n) ∨ ((∀ μ, f_X6_within μ v 0 1000000000 = some 0) ∧ (lg_cmp v 0 < 0 ∨ ¬ lg_cmp v 1000000000 ≤ 0)) := by
  have h0 : (0 : Int64).toInt = 0 := by decide
  have h1 : (1000000000 : Int64).toInt = 1000000000 := by decide
  obtain ⟨hv, _, _⟩ := jL_of v
  by_cases h : 0 ≤ v.toInt ∧ v.toInt ≤ 1000000000
  · refine .inl ⟨v.toInt.toNat, by omega, ?_⟩
    rw [lN_jL, Int.toNat_of_nonneg h.1]
    exact hv
  · refine .inr ⟨fun μ => w6_no (fun q => h ?_), ?_⟩
    · rw [Int64.le_iff_toInt_le, Int64.le_iff_toInt_le, h0, h1] at q
      exact q
    · rw [cmp_lt, cmp_le, Int64.lt_iff_toInt_lt, Int64.le_iff_toInt_le, h0, h1]
      omega
theorem often_n {n ne t : Nat} (h : ne < n) (ht : 0 < t) : 1 + (n - 1 - ne) / t = (n - ne + t - 1) / t := by
  rw [show n - ne + t - 1 = n - 1 - ne + t by omega, Nat.add_div_right _ ht]
  omega
theorem s_often {T : PT} {μ : Mem} (hR : RR T μ) (a : Int32) (v : Int64) : Same T μ (fun μ => f_X6_often μ a v) (fun μ => f_X7_often μ a v) := by
  obtain ⟨⟨x1, _⟩, ⟨m1, _⟩, o1, _⟩ := id hR
  have hE := o1.1.1
  have hD := o1.1.2.2.1
  rcases oneS (S := 100) (E := T.1 0 0 0) (by omega) a with ⟨e, he, rfl, hx, hm⟩ | ⟨hn, hx, hm⟩
  · rcases argJ v with ⟨n, hn, rfl⟩ | ⟨hbx, hbm⟩
    · obtain ⟨ν, e1, e2, e3, e4, e5, e6, e7, e8⟩ := rk100 hR
      obtain ⟨hH, hl⟩ := holdM e6 e4 o1.1.2.2.2
      have hk := o1.e he
      have hk5 := hk.1.2.2.2.2.2
      have htb := tuE_b hk
      have hrm := e4.2.1 e he
      have d4 : gI ν 2005 e = nI (T.1 0 5 e) := hrm.1 4 (by omega)
      have hc := e8 e he
      have ht := (e7 e he).1
      obtain ⟨ξ, r1, r2⟩ := inD7 (e := e) (d := T.1 0 10 0) (by omega) hH hl hrm hk e4.1.2.2.1 (by omega)
      have d4' : gI ξ 2005 e = nI (T.1 0 5 e) := by rw [r2.1 2005 (by omega)]; exact d4
      have ht' := turn7 (μ := ξ) (e := e) (by omega) (RowM.sk r2 hrm) hk
      have hwn : ∀ μ, f_X6_within μ (lN n) 0 1000000000 = some 1 := fun μ => w6T (b := 0) (c := 1000000000) (by omega) hn (by omega)
      have g0 : ¬ lg_cmp (lN n) 0 < 0 := by rw [cmp_lt, L0, F_ltL (by omega) (by omega)]; exact id
      have g1 : lg_cmp (lN n) 1000000000 ≤ 0 := by rw [cmp_le, L1000000000, T_leL (by omega) (by omega)]; trivial
      unfold nxV at hc
      by_cases h5 : T.1 0 5 e = 1
      · rw [if_pos h5] at hc
        refine same_rk (r := 0) hR e2 e3 e4 ?_ ?_ r2
        · show f_X6_often μ _ _ = _
          unfold f_X6_often
          rw [hx μ x1.1.1, hwn, e1, aix_n (by omega) (by omega)]
          simp only [bind_p]
          rw [if_neg (by decide), if_neg (by decide), K9, ldI_n (by omega) (by omega), hc, K7, ldI_n (by omega) (by omega), ht]
          simp only [bind_p]
          rw [if_pos (show -nI 5 < 0 by decide)]
        · show f_X7_often ν _ _ = _
          unfold f_X7_often
          rw [hm ν e4.1.1]
          simp only [bind_p]
          rw [if_neg (by decide), if_neg g0, if_pos g1, r1]
          simp only [bind_p]
          rw [ldI_n (by omega) (by omega), d4', h5]
          simp only [bind_p]
          rw [if_pos (show nI 1 = 1 from rfl)]
      · rw [if_neg h5] at hc
        have h5' : ¬ nI (T.1 0 5 e) = 1 := by rw [K1, nI_eq (by omega) (by omega)]; exact h5
        obtain ⟨ne, hne⟩ : ∃ ne, ne = neE (T.1 0) (clF T.2.2 (T.1 0)) e (T.1 0 10 0) := ⟨_, rfl⟩
        have hnb := neE_b (l := clF T.2.2 (T.1 0)) (d := T.1 0 10 0) hk
        rw [← hne] at hc r1 hnb
        obtain ⟨t, htd⟩ : ∃ t, t = tuE (T.1 0) e := ⟨_, rfl⟩
        rw [← htd] at ht ht' hnb htb
        by_cases hlt : ne < n
        · refine same_rk (r := lN (1 + (n - 1 - ne) / t)) hR e2 e3 e4 ?_ ?_ r2
          · show f_X6_often μ _ _ = _
            unfold f_X6_often
            rw [hx μ x1.1.1, hwn, e1, aix_n (by omega) (by omega)]
            simp only [bind_p]
            rw [if_neg (by decide), if_neg (by decide), K9, ldI_n (by omega) (by omega), hc, K7, ldI_n (by omega) (by omega), ht]
            simp only [bind_p]
            rw [if_neg (nI_pos (by omega)), nI_lE (by omega), nI_lE (by omega), if_neg (fun q => by rw [cmp_ge, F_leL hlt (by omega)] at q; exact q), if_pos (by rw [K1]; exact nI_le (by omega) (by omega)), L1, lN_sub (by omega), lN_sub (by omega), dvL_n (by omega) (by omega) (by omega)]
            simp only [bind_p]
            rw [lN_add]
          · show f_X7_often ν _ _ = _
            unfold f_X7_often
            rw [hm ν e4.1.1]
            simp only [bind_p]
            rw [if_neg (by decide), if_neg g0, if_pos g1, r1]
            simp only [bind_p]
            rw [ldI_n (by omega) (by omega), d4', nI_lE (by omega), lN_sub (by omega), ht']
            simp only [bind_p]
            rw [if_neg h5', if_pos (by rw [cmp_gt, L0, T_ltL (by omega) (by omega)]; trivial), nI_lE (by omega), L1, lN_add, lN_sub (by omega), dvL_n (by omega) (by omega) (by omega), often_n hlt (by omega)]
            rfl
        · refine same_rk (r := 0) hR e2 e3 e4 ?_ ?_ r2
          · show f_X6_often μ _ _ = _
            unfold f_X6_often
            rw [hx μ x1.1.1, hwn, e1, aix_n (by omega) (by omega)]
            simp only [bind_p]
            rw [if_neg (by decide), if_neg (by decide), K9, ldI_n (by omega) (by omega), hc, K7, ldI_n (by omega) (by omega), ht]
            simp only [bind_p]
            rw [if_neg (nI_pos (by omega)), nI_lE (by omega), if_pos (by rw [cmp_ge, T_leL (by omega) (by omega)]; trivial)]
          · show f_X7_often ν _ _ = _
            unfold f_X7_often
            rw [hm ν e4.1.1]
            simp only [bind_p]
            rw [if_neg (by decide), if_neg g0, if_pos g1, r1]
            simp only [bind_p]
            rw [ldI_n (by omega) (by omega), d4', nI_lE (by omega)]
            simp only [bind_p]
            rw [if_neg h5', if_neg]
            intro q
            rw [cmp_gt, L0, lN_jL, lN_jL, lN_jL, jL_sub, jL_ltI (by omega) (by omega) (by omega) (by omega)] at q
            omega
    · refine same_q (r := -9223372036854775808) hR ?_ ?_
      · show f_X6_often μ _ v = _
        unfold f_X6_often; rw [hx μ x1.1.1, hbx]; rfl
      · show f_X7_often μ _ v = _
        unfold f_X7_often; rw [hm μ m1.1.1]
        simp only [bind_p]
        rw [if_neg (by decide)]
        by_cases h : lg_cmp v 0 < 0
        · rw [if_pos h]
        · rw [if_neg h, if_neg (hbm.resolve_left h)]
  · refine same_q (r := -9223372036854775808) hR ?_ ?_
    · show f_X6_often μ a v = _
      unfold f_X6_often; rw [hx μ x1.1.1]; rfl
    · show f_X7_often μ a v = _
      unfold f_X7_often; rw [hm μ m1.1.1]; rfl
/-! busy -/
def pcN (b : Nat) : Nat := b % 2 + b / 2 % 2 + b / 4 % 2 + b / 8 % 2 + b / 16 % 2 + b / 32 % 2
theorem bc_0 : ∀ b, b < 64 → f_J6_bitCount_0f7a4 mem0 (nI b) = some (nI (pcN b)) := by decide +kernel
theorem bc6 {μ : Mem} {b : Nat} (hb : b < 64) : f_J6_bitCount_0f7a4 μ (nI b) = some (nI (pcN b)) := bc_0 b hb
theorem pc_b : ∀ b, b < 64 → pcN b ≤ 6 ∧ (pcN b = 0 ↔ b = 0) := by decide +kernel
def cnD (σ : SG) (l : List CL) (d : Nat) : Nat := pcN (offN σ l d (σ 0 0))
def msD (σ : SG) (l : List CL) (d : Nat) : Nat → Nat × Nat
  | 0 => (0, 0)
  | i + 1 => if (msD σ l d i).2 < cnD σ l (d + i) then (i, cnD σ l (d + i)) else msD σ l d i
def wkD (σ : SG) (l : List CL) (d : Nat) : Nat → Int32
  | 0 => nI 0
  | i + 1 => if offN σ l (d + i) (σ 0 0) = 0 then wkD σ l d i else wkD σ l d i ||| ((1 : Int32) <<< (nI ((d + i) % 7) &&& 31))
theorem msD_b {σ : SG} {l : List CL} {d : Nat} (h6 : σ 0 0 ≤ 6) : ∀ i, (msD σ l d i).1 ≤ i ∧ (msD σ l d i).2 ≤ 6
  | 0 => ⟨Nat.le_refl _, by unfold msD; omega⟩
  | i + 1 => by
    have h := msD_b (σ := σ) (l := l) (d := d) h6 i
    have hob := offN_b σ l (d + i) (σ 0 0)
    have h64 := pow6 h6
    have hp := (pc_b _ (show offN σ l (d + i) (σ 0 0) < 64 by omega)).1
    rw [msD]
    split
    · refine ⟨by show i ≤ i + 1; omega, hp⟩
    · omega
theorem bus_l {ν : Mem} {w D st N : Nat} {hm : Int32} {l : List CL} {σ : SG} (hX : XS ν 100 σ) (ho : okDy w D st σ) (hD : D ≤ 900000) (hR : Rk ν 100 σ l (σ 0 0)) (hN : N ≤ 60) :
    ∀ m j n, j + m = N → m < n → f_X2_busiest_8 ν 100 n (nI N) hm (nI (msD σ l (σ 10 0) j).1) (nI (msD σ l (σ 10 0) j).2) (nI j) = some (if hm = 0 then nI (msD σ l (σ 10 0) N).1 else nI (msD σ l (σ 10 0) N).2) := by
  have hd := ho.2.1.2.1
  have h6 := ho.1.1
  intro m
  induction m with
  | zero =>
    intro j n hi hn
    obtain ⟨n, rfl⟩ := suc_of hn
    obtain rfl : j = N := by omega
    rw [f_X2_busiest_8, if_pos (nI_le (by omega) (by omega))]
    split <;> rfl
  | succ m ih =>
    intro j n hi hn
    obtain ⟨n, rfl⟩ := suc_of hn
    have hnx : nI j + (1 : Int32) = nI (j + 1) := by rw [K1, nI_add]
    have hob := offN_b σ l (σ 10 0 + j) (σ 0 0)
    have h64 := pow6 h6
    have hmb := msD_b (σ := σ) (l := l) (d := σ 10 0) h6 j
    have hp := (pc_b _ (show offN σ l (σ 10 0 + j) (σ 0 0) < 64 by omega)).1
    have e2 := ih (j + 1) n (by omega) (by omega)
    rw [msD] at e2
    rw [f_X2_busiest_8, if_neg (nI_ge (by omega) (by omega)), hX.1.2.2.1, nI_add, gOff6 h6 hX hR (fun e he => (ho.2.2 e he).1) (by omega)]
    simp only [bind_p]
    rw [bc6 (by omega)]
    simp only [bind_p]
    by_cases h : (msD σ l (σ 10 0) j).2 < cnD σ l (σ 10 0 + j)
    · rw [if_pos h] at e2
      unfold cnD at h
      rw [if_neg (nI_ge h (by omega)), f_X2_busiest_44]
      simp only [bind_p]
      rw [hnx]
      exact e2
    · rw [if_neg h] at e2
      unfold cnD at h
      rw [if_pos (nI_le (by omega) (by omega)), f_X2_busiest_44]
      simp only [bind_p]
      rw [hnx]
      exact e2
theorem wk_l {ν : Mem} {w D st N : Nat} {l : List CL} {σ : SG} (hX : XS ν 100 σ) (ho : okDy w D st σ) (hD : D ≤ 900000) (hR : Rk ν 100 σ l (σ 0 0)) (hN : N ≤ 60) :
    ∀ m j n, j + m = N → m < n → f_X2_weekdays_4 ν 100 n (nI N) (wkD σ l (σ 10 0) j) (nI j) = some (wkD σ l (σ 10 0) N) := by
  have hd := ho.2.1.2.1
  have h6 := ho.1.1
  intro m
  induction m with
  | zero =>
    intro j n hi hn
    obtain ⟨n, rfl⟩ := suc_of hn
    obtain rfl : j = N := by omega
    rw [f_X2_weekdays_4, if_pos (nI_le (by omega) (by omega))]
  | succ m ih =>
    intro j n hi hn
    obtain ⟨n, rfl⟩ := suc_of hn
    have hnx : nI j + (1 : Int32) = nI (j + 1) := by rw [K1, nI_add]
    have hob := offN_b σ l (σ 10 0 + j) (σ 0 0)
    have h64 := pow6 h6
    have e2 := ih (j + 1) n (by omega) (by omega)
    rw [wkD] at e2
    rw [f_X2_weekdays_4, if_neg (nI_ge (by omega) (by omega)), hX.1.2.2.1, nI_add, gOff6 h6 hX hR (fun e he => (ho.2.2 e he).1) (by omega)]
    simp only [bind_p]
    by_cases h : offN σ l (σ 10 0 + j) (σ 0 0) = 0
    · rw [if_pos h] at e2
      rw [if_pos (by rw [h]; rfl), f_X2_weekdays_36]
      simp only [bind_p]
      rw [hnx]
      exact e2
    · rw [if_neg h] at e2
      rw [if_neg (nI_ne0 (by omega) (by omega)), K7, rmI_n (by omega) (by omega) (by omega)]
      simp only [bind_p]
      rw [f_X2_weekdays_36]
      simp only [bind_p]
      rw [hnx]
      exact e2
theorem bsy_l {ν : Mem} {w D st N : Nat} {hm : Int32} {l : List CL} {σ : SG} (hM : MS ν σ) (ho : okDy w D st σ) (hD : D ≤ 900000) (hH : HM ν l) (hl : okL l) (hN : N ≤ 60) (hN1 : 1 ≤ N) :
    ∀ m j n ξ mo, Sk ν ξ → j + m = N → m < n → mo = (if j = 0 then -nI 1 else nI (msD σ l (σ 10 0) j).2) → ∃ ζ, f_X7_busy_35 n ξ (nI N) hm (nI (msD σ l (σ 10 0) j).1) mo (wkD σ l (σ 10 0) j) (nI j) = some (if hm = 0 then nI (msD σ l (σ 10 0) N).1 else if hm = 1 then nI (msD σ l (σ 10 0) N).2 else wkD σ l (σ 10 0) N, ζ) ∧ Sk ν ζ := by
  have hd := ho.2.1.2.1
  have h6 := ho.1.1
  intro m
  induction m with
  | zero =>
    intro j n ξ mo hs hi hn hmo
    obtain ⟨n, rfl⟩ := suc_of hn
    obtain rfl : j = N := by omega
    rw [if_neg (by omega)] at hmo
    refine ⟨ξ, ?_, hs⟩
    rw [f_X7_busy_35, if_pos (nI_le (by omega) (by omega)), hmo]
    by_cases q0 : hm = 0
    · rw [if_pos q0, if_pos q0]
    · rw [if_neg q0, if_neg q0]
      by_cases q1 : hm = 1
      · rw [if_pos q1, if_pos q1]
      · rw [if_neg q1, if_neg q1]
  | succ m ih =>
    intro j n ξ mo hs hi hn hmo
    obtain ⟨n, rfl⟩ := suc_of hn
    have hnx : nI j + (1 : Int32) = nI (j + 1) := by rw [K1, nI_add]
    have hob := offN_b σ l (σ 10 0 + j) (σ 0 0)
    have h64 := pow6 h6
    have hmb := msD_b (σ := σ) (l := l) (d := σ 10 0) h6 j
    have hpc := pc_b _ (show offN σ l (σ 10 0 + j) (σ 0 0) < 64 by omega)
    have hp := hpc.1
    obtain ⟨ζ, g2, g3⟩ := goOff7 (on := σ 10 0 + j) h6 (hs.MS hM).1.1 (hH.sk hs) hl ((hs.MS hM).rows ho) (by omega)
    obtain ⟨κ, e1, e2⟩ := ih (j + 1) n ζ (nI (msD σ l (σ 10 0) (j + 1)).2) (hs.trans g3) (by omega) (by omega) (by rw [if_neg (by omega)])
    refine ⟨κ, ?_, e2⟩
    have hw : (if offN σ l (σ 10 0 + j) (σ 0 0) = 0 then wkD σ l (σ 10 0) j else wkD σ l (σ 10 0) j ||| ((1 : Int32) <<< (nI ((σ 10 0 + j) % 7) &&& 31))) = wkD σ l (σ 10 0) (j + 1) := rfl
    have hmx : (if (msD σ l (σ 10 0) j).2 < cnD σ l (σ 10 0 + j) then (j, cnD σ l (σ 10 0 + j)) else msD σ l (σ 10 0) j) = msD σ l (σ 10 0) (j + 1) := rfl
    have fin : ∀ bits, bits = wkD σ l (σ 10 0) (j + 1) → f_X7_busy_79 (fun μ z0 z1 z2 z3 z4 z5 => f_X7_busy_35 n μ z0 z1 z2 z3 z4 z5) ζ (nI N) hm (nI (msD σ l (σ 10 0) j).1) mo bits (nI j) (nI (pcN (offN σ l (σ 10 0 + j) (σ 0 0)))) = f_X7_busy_35 n ζ (nI N) hm (nI (msD σ l (σ 10 0) (j + 1)).1) (nI (msD σ l (σ 10 0) (j + 1)).2) (wkD σ l (σ 10 0) (j + 1)) (nI (j + 1)) := fun bits hb => by
      unfold f_X7_busy_79 f_X7_busy_96
      simp only [bind_p]
      rw [hnx, hb, hmo, ← hmx]
      by_cases hj : j = 0
      · subst hj
        rw [if_pos rfl, if_pos (of_eq_true (T_ltm (a := 1) (by omega) (by omega) (by omega)))]
        have h00 : msD σ l (σ 10 0) 0 = (0, 0) := rfl
        rw [h00]
        unfold cnD
        by_cases h : (0 : Nat) < pcN (offN σ l (σ 10 0 + 0) (σ 0 0))
        · rw [if_pos h]
        · rw [if_neg h, show pcN (offN σ l (σ 10 0 + 0) (σ 0 0)) = 0 by omega]
      · rw [if_neg hj]
        unfold cnD
        by_cases h : (msD σ l (σ 10 0) j).2 < pcN (offN σ l (σ 10 0 + j) (σ 0 0))
        · rw [if_pos (nI_lt h (by omega)), if_pos h]
        · rw [if_neg (nI_nlt (by omega) (by omega)), if_neg h]
    rw [f_X7_busy_35, if_neg (nI_ge (by omega) (by omega)), (hs.MS hM).1.2.2.1, nI_add, g2]
    simp only [bind_p]
    rw [bc6 (by omega)]
    simp only [bind_p]
    by_cases h : offN σ l (σ 10 0 + j) (σ 0 0) = 0
    · rw [if_pos h] at hw
      rw [if_pos (by rw [hpc.2.mpr h]; decide), fin _ hw]
      exact e1
    · rw [if_neg h] at hw
      have hz : ¬ pcN (offN σ l (σ 10 0 + j) (σ 0 0)) = 0 := fun q => h (hpc.2.mp q)
      rw [if_neg (by rw [K0]; exact nI_ge (by omega) (by omega)), (g3.MS (hs.MS hM)).1.2.2.1, nI_add, K7, rmI_n (by omega) (by omega) (by omega)]
      simp only [bind_p]
      rw [fin _ hw]
      exact e1
theorem s_busy {T : PT} {μ : Mem} (hR : RR T μ) (a b : Int32) : Same T μ (fun μ => f_X6_busy μ a b) (fun μ => f_X7_busy μ a b) := by
  obtain ⟨⟨x1, _⟩, ⟨m1, _⟩, o1, _⟩ := id hR
  rcases arg b (lo := 0) (hi := 2) (A := 0) (B := 2) (C := 0) (D := 2) rfl rfl rfl rfl with ⟨q, _, hq, _, rfl, hbx, hbm⟩ | ⟨_, hbx, hbm⟩
  · rcases arg a (lo := 1) (hi := 60) (A := 1) (B := 60) (C := 1) (D := 60) rfl rfl rfl rfl with ⟨n, hn1, hn, _, rfl, hax, ham⟩ | ⟨_, hax, ham⟩
    · obtain ⟨ν, e1, e2, e3, e4, e5, e6, e7, e8⟩ := rk100 hR
      obtain ⟨hH, hl⟩ := holdM e6 e4 o1.1.2.2.2
      obtain ⟨ζ, g1, g2⟩ := bsy_l (N := n) (hm := nI q) e4 o1.dy (by omega) hH hl hn hn1 n 0 FU ν (-nI 1) (Sk.rfl' _) (by omega) (FU_p _ (by omega)) (by rw [if_pos rfl])
      have hb := fun hm => bus_l (N := n) (hm := hm) e3 o1.dy (by omega) e7 hn n 0 FU (by omega) (FU_p _ (by omega))
      have hw := wk_l (N := n) e3 o1.dy (by omega) e7 hn n 0 FU (by omega) (FU_p _ (by omega))
      obtain ⟨r, hr⟩ : ∃ r, r = (if nI q = 0 then nI (msD (T.1 0) (clF T.2.2 (T.1 0)) (T.1 0 10 0) n).1 else if nI q = 1 then nI (msD (T.1 0) (clF T.2.2 (T.1 0)) (T.1 0 10 0) n).2 else wkD (T.1 0) (clF T.2.2 (T.1 0)) (T.1 0 10 0) n) := ⟨_, rfl⟩
      rw [← hr] at g1
      refine same_rk (r := r) hR e2 e3 e4 ?_ ?_ g2
      · show f_X6_busy μ _ _ = _
        unfold f_X6_busy
        rw [hbx, hax, e1]
        simp only [bind_p]
        rw [if_neg (by decide), if_neg (by decide)]
        rcases (show q = 0 ∨ q = 1 ∨ q = 2 by omega) with rfl | rfl | rfl
        · rw [if_neg (by decide), if_neg (by decide)]
          unfold f_X6_busy_68 f_X2_busiest
          refine (congrArg (fun z : Option Int32 => z.bind fun v15 => some (v15, ν)) (hb 0)).trans ?_
          rw [hr, if_pos rfl, if_pos (show nI 0 = (0 : Int32) from rfl)]; rfl
        · rw [if_neg (by decide), if_pos (by decide)]
          unfold f_X6_busy_68 f_X2_busiest
          refine (congrArg (fun z : Option Int32 => z.bind fun v15 => some (v15, ν)) (hb 1)).trans ?_
          rw [hr, if_neg (show ¬ (1 : Int32) = 0 by decide), if_neg (show ¬ nI 1 = (0 : Int32) by decide), if_pos (show nI 1 = (1 : Int32) from rfl)]; rfl
        · rw [if_pos (by decide)]
          unfold f_X2_weekdays
          refine (congrArg (fun z : Option Int32 => z.bind fun v27 => some (v27, ν)) hw).trans ?_
          rw [hr, if_neg (show ¬ nI 2 = (0 : Int32) by decide), if_neg (show ¬ nI 2 = (1 : Int32) by decide)]; rfl
      · show f_X7_busy ν _ _ = _
        unfold f_X7_busy
        rw [hbm, ham]
        simp only [bind_p]
        rw [if_neg (by decide), if_neg (by decide)]
        exact g1
    · refine same_q (r := -2) hR ?_ ?_
      · show f_X6_busy μ a _ = _
        unfold f_X6_busy; rw [hbx, hax]; rfl
      · show f_X7_busy μ a _ = _
        unfold f_X7_busy; rw [hbm, ham]; rfl
  · refine same_q (r := -1) hR ?_ ?_
    · show f_X6_busy μ a b = _
      unfold f_X6_busy; rw [hbx]; rfl
    · show f_X7_busy μ a b = _
      unfold f_X7_busy; rw [hbm]; rfl
