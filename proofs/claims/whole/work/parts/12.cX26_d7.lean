/-! on, mean, ends: the trial's days -/
theorem clF_eq {f : Nat → List CL} {σ τ : SG} (h : τ 18 0 = σ 18 0) : clF f τ = clF f σ := by unfold clF; rw [h]
theorem try6 {T : PT} {μ : Mem} {n : Nat} (hR : RR T μ) (hn : n ≤ 60) : ∃ ν, f_X6_tryDays μ (nI n) = some ν ∧ fr 300 360 μ ν ∧ XS ν 300 (dyN 2147483647 (clF T.2.2 (T.1 0)) n (T.1 0)) ∧ Rk ν 300 (dyN 2147483647 (clF T.2.2 (T.1 0)) n (T.1 0)) (clF T.2.2 (T.1 0)) (T.1 0 0 0) := by
  obtain ⟨⟨x1, _⟩, ⟨m1, _⟩, o1, _⟩ := id hR
  have hD := o1.1.2.2.1
  obtain ⟨ν, b1, b2, b3⟩ := bec (p := 300) (q := 100) (by omega) x1 o1.n
  obtain ⟨ξ, e1, e2, e3, e4, e5⟩ := reckon6 (S := 300) (by omega) (hR.CX.O (fun k hk => b2.1 k (by omega))) b3 o1.dy (by omega)
  obtain ⟨ζ, f1, f2, f3, f4⟩ := go6 (W := 2147483647) (N := n) (by omega) e5 e3 o1.dy (by omega) (.inr ⟨rfl, by omega⟩)
  refine ⟨ζ, ?_, fr_t (fr_t b2 (fr_w e2.fr' (by omega) (by omega))) (fr_w f3 (by omega) (by omega)), f2, f4⟩
  unfold f_X6_tryDays
  rw [b1]
  simp only [bind_p]
  rw [e1]
  simp only [bind_p]
  rw [K2147483647, f1]
  rfl
theorem dyN_okB {l : List CL} {st : Nat} : ∀ (n : Nat) (σ : SG) (w D : Nat), w + n ≤ 100000 → okDy w D st σ → okDy (w + n) (D + n) st (dyN 2147483647 l n σ)
  | 0, σ, w, D, _, h => h
  | n + 1, σ, w, D, hw, h => by
    rw [dyN, show D + (n + 1) = D + 1 + n by omega, show w + (n + 1) = w + 1 + n by omega]
    exact dyN_okB n _ _ _ (by omega) (dyS_ok h (by omega) (by omega))
theorem keep_MF {μ ν : Mem} (h : ∀ a, a ≠ 2041 → gI ν a = gI μ a) (h' : ∀ a, gL ν a = gL μ a) : MO μ ν := ⟨fun k h1 h2 => h k (fun q => h1 (by unfold mrow; omega)), fun i _ => by rw [h 2000 (by omega)], h'⟩
theorem IM_k {μ ν : Mem} {k : Nat} {σ : SG} (h : gI ν k = gI μ k) (hI : IM μ k σ) : IM ν k σ := by
  unfold IM at hI ⊢
  rw [h]
  exact hI
theorem suE_b {w D st f : Nat} {σ : SG} (ho : okDy w D st σ) (hf : f = 6 ∨ f = 7) : ∀ i, i ≤ σ 0 0 → suE σ f i ≤ i * w
  | 0, _ => by unfold suE; omega
  | i + 1, h => by
    have h1 := suE_b ho hf i (by omega)
    have h2 := ho.2.2 i (by omega)
    rw [suE, Nat.succ_mul]
    rcases hf with rfl | rfl <;> omega
theorem on_l {st N : Nat} {f : Nat → List CL} {l : List CL} {b : Int32} : ∀ m j n ν σ w D, j + m = N → m < n → N < 1000 → MS ν σ → CM ν st f → okDy w D st σ → clF f σ = l → D + m ≤ 1000000 → w + m ≤ 100000 →
    ∃ k ξ, f_X7_on_45 n ν (nI N) b (nI j) = f_X7_on_45 (k + 1) ξ (nI N) b (nI N) ∧ MS ξ (dyN 2147483647 l m σ) ∧ MF ν ξ := by
  intro m
  induction m with
  | zero =>
    intro j n ν σ w D hi hn hN hM hC ho hl hD hw
    obtain ⟨n, rfl⟩ := suc_of hn
    obtain rfl : j = N := by omega
    exact ⟨n, ν, rfl, hM, MF.rfl' _⟩
  | succ m ih =>
    intro j n ν σ w D hi hn hN hM hC ho hl hD hw
    obtain ⟨n, rfl⟩ := suc_of hn
    obtain ⟨ξ, e1, e2, e3⟩ := gday7 hM hC ho (by omega) (by omega)
    rw [hl] at e2
    have h18 : dyS 2147483647 l σ 18 0 = σ 18 0 := dyS_o (by omega) (by omega) (by omega)
    obtain ⟨k, κ, g1, g2, g3⟩ := ih (j + 1) n ξ (dyS 2147483647 l σ) (w + 1) (D + 1) (by omega) (by omega) hN e2 (e3.CM' hC) (dyS_ok ho (by omega) (by omega)) (by unfold clF at hl ⊢; rw [h18]; exact hl) (by omega) (by omega)
    refine ⟨k, κ, ?_, g2, e3.trans g3⟩
    rw [f_X7_on_45, if_neg (nI_ge (by omega) (by omega)), e1]
    simp only [bind_p]
    rw [K1, nI_add]
    exact g1
theorem mean_l {st N : Nat} {f : Nat → List CL} {l : List CL} {b : Int32} : ∀ m j n ν σ w D, j + m = N → m < n → N < 1000 → MS ν σ → CM ν st f → okDy w D st σ → clF f σ = l → D + m ≤ 1000000 → w + m ≤ 100000 →
    ∃ k ξ, f_X7_mean_40 n ν (nI N) b (nI j) = f_X7_mean_40 (k + 1) ξ (nI N) b (nI N) ∧ MS ξ (dyN 2147483647 l m σ) ∧ MF ν ξ := by
  intro m
  induction m with
  | zero =>
    intro j n ν σ w D hi hn hN hM hC ho hl hD hw
    obtain ⟨n, rfl⟩ := suc_of hn
    obtain rfl : j = N := by omega
    exact ⟨n, ν, rfl, hM, MF.rfl' _⟩
  | succ m ih =>
    intro j n ν σ w D hi hn hN hM hC ho hl hD hw
    obtain ⟨n, rfl⟩ := suc_of hn
    obtain ⟨ξ, e1, e2, e3⟩ := gday7 hM hC ho (by omega) (by omega)
    rw [hl] at e2
    have h18 : dyS 2147483647 l σ 18 0 = σ 18 0 := dyS_o (by omega) (by omega) (by omega)
    obtain ⟨k, κ, g1, g2, g3⟩ := ih (j + 1) n ξ (dyS 2147483647 l σ) (w + 1) (D + 1) (by omega) (by omega) hN e2 (e3.CM' hC) (dyS_ok ho (by omega) (by omega)) (by unfold clF at hl ⊢; rw [h18]; exact hl) (by omega) (by omega)
    refine ⟨k, κ, ?_, g2, e3.trans g3⟩
    rw [f_X7_mean_40, if_neg (nI_ge (by omega) (by omega)), e1]
    simp only [bind_p]
    rw [K1, nI_add]
    exact g1
/-- the reference's image of now, and what comes back of it -/
theorem back7 {T : PT} {μ ν : Mem} (hR : RR T μ) (hf : fr 300 360 μ ν) : ∃ ξ, f_X7_keep ν 2041 = some ξ ∧ MO ν ξ ∧ MS ξ (T.1 0) ∧ CM ξ (T.1 2 17 0) T.2.2 ∧ ∀ ζ, MF ξ ζ → ∃ η, f_X7_again ζ 2041 = some η ∧ MO ν η ∧ MS η (T.1 0) := by
  obtain ⟨_, ⟨m1, _⟩, o1, _⟩ := id hR
  have hM : MS ν (T.1 0) := MS_X (fun k hk => hf.1 k (by omega)) m1
  obtain ⟨ξ, k1, k2, k3, k4⟩ := keep_ok (k := 2041) (.inr rfl) hM o1
  refine ⟨ξ, k1, keep_MF k2 k3, MS_c (fun i _ => by rw [k2 2000 (by omega)]) (fun k h1 h2 _ => k2 k (by omega)) hM, (hR.CM.O (fun k hk => hf.1 k (by omega))).O (fun k hk => k2 k (by omega)), fun ζ hz => ?_⟩
  obtain ⟨η, a1, a2, a3⟩ := again_ok (k := 2041) (.inr rfl) (IM_k (hz.1 2041 (by omega) (by omega) (by omega)) k4) o1
  exact ⟨η, a1, (keep_MF k2 k3).trans (hz.O.trans a2), a3⟩
theorem same_try {T : PT} {μ : Mem} {α : Type} {r : α} {ν ξ : Mem} {fx fm : Mem → Option (α × Mem)} (hR : RR T μ) (hf : fr 300 360 μ ν) (h1 : fx μ = some (r, ν)) (h2 : fm ν = some (r, ξ)) (hm : MO ν ξ) (hM : MS ξ (T.1 0)) : Same T μ fx fm := by
  obtain ⟨⟨x1, _⟩, _, o1, _⟩ := id hR
  exact same_n hR h1 h2 (XO_fr hf (by omega)) (XS_c (fun k q1 q2 => hf.1 k (by omega)) x1 o1.n) hm hM o1
theorem on_s {T : PT} {μ : Mem} {n : Nat} {b : Int32} (hR : RR T μ) (hn : n ≤ 60) (hb : (b = 0 ∨ b = 1 ∨ b = 2) ∨ ∃ e, e < T.1 0 0 0 ∧ b = nI (10 + e)) (fx fm : Mem → Option (Int32 × Mem)) (hx : ∀ p, f_X6_on_34 μ (nI n) b = p → fx μ = p) (hm : ∀ ν p, fr 300 360 μ ν → f_X7_on_22 ν (nI n) b = p → fm ν = p) : Same T μ fx fm := by
  obtain ⟨⟨x1, _⟩, ⟨m1, _⟩, o1, _⟩ := id hR
  have hE := o1.1.1
  have hD := o1.1.2.2.1
  obtain ⟨ν, t1, t2, t3, t4⟩ := try6 hR hn
  obtain ⟨ξ, k1, k2, k3, k4, k5⟩ := back7 hR t2
  obtain ⟨k, ζ, g1, g2, g3⟩ := on_l (b := b) (N := n) n 0 FU ξ (T.1 0) 9999 99999 (by omega) (FU_p _ (by omega)) (by omega) k3 k4 o1.dy rfl (by omega) (by omega)
  have hok := dyN_okB (l := clF T.2.2 (T.1 0)) n _ _ _ (by omega) o1.dy
  have h00 : dyN 2147483647 (clF T.2.2 (T.1 0)) n (T.1 0) 0 0 = T.1 0 0 0 := dyN_o (by omega) (by omega) (by omega) _ _
  have h18 : dyN 2147483647 (clF T.2.2 (T.1 0)) n (T.1 0) 18 0 = T.1 0 18 0 := dyN_o (by omega) (by omega) (by omega) _ _
  have hcl : clF T.2.2 (dyN 2147483647 (clF T.2.2 (T.1 0)) n (T.1 0)) = clF T.2.2 (T.1 0) := clF_eq h18
  obtain ⟨hH, hl⟩ := holdM (g3.CM' k4) g2 hok.2.1.2.2
  rw [hcl] at hH hl
  rw [← h00] at t4
  obtain ⟨τ, hτ⟩ : ∃ τ, τ = dyN 2147483647 (clF T.2.2 (T.1 0)) n (T.1 0) := ⟨_, rfl⟩
  rw [← hτ] at t3 t4 g2 hok h00
  have h6 := hok.1.1
  have hd10 := hok.2.1.2.1
  have c6 : f_X6_within μ (nI n).toInt64 0 60 = some 1 := by rw [nI_lE (by omega)]; exact w6T (b := 0) (c := 60) (by omega) hn (by omega)
  have c7 : ∀ ν, f_X7_within ν (nI n) 0 60 = some 1 := fun ν => w7T (b := 0) (c := 60) (by omega) hn (by omega)
  have fin : ∀ v η1 η2, f_X7_on_45 (k + 1) ζ (nI n) b (nI n) = f_X7_on_108 η1 v → f_X7_again η1 2041 = some η2 → f_X7_on_22 ν (nI n) b = some (v, η2) := fun v η1 η2 q1 q2 => by
    unfold f_X7_on_22
    rw [c7]
    simp only [bind_p]
    rw [if_neg (by decide), k1]
    simp only [bind_p]
    rw [show (0 : Int32) = nI 0 from rfl, g1, q1]
    unfold f_X7_on_108
    rw [q2]
    rfl
  have fix : ∀ v, (∀ p, p = some (v, ν) → (if b = (0 : Int32) then (f_X2_goingOff ν 300 (gI ν 300 3)).bind fun v30 => some (v30, ν) else if b = (1 : Int32) then (f_X2_total ν 300 (5 : Int32)).bind fun v33 => some (v33, ν) else if b = (2 : Int32) then (f_X2_total ν 300 (6 : Int32)).bind fun v36 => some (v36, ν) else (aix (b - (10 : Int32)) 6).bind fun j38 => (ldI ν (300 + 1 + 1 + j38) 14 (5 : Int32)).bind fun v39 => some (v39, ν)) = p) → f_X6_on_34 μ (nI n) b = some (v, ν) := fun v q => by
    unfold f_X6_on_34
    rw [c6]
    simp only [bind_p]
    rw [if_neg (by decide), t1]
    simp only [bind_p]
    exact q _ rfl
  rcases hb with (rfl | rfl | rfl) | ⟨e, he, rfl⟩
  · obtain ⟨κ, q1, q2⟩ := goOff7 (on := τ 10 0) h6 g2.1.1 hH hl (g2.rows hok) (by omega)
    obtain ⟨η, a1, a2, a3⟩ := k5 κ (g3.trans q2.MF')
    refine same_try (r := nI (offN τ (clF T.2.2 (T.1 0)) (τ 10 0) (τ 0 0))) hR t2 (hx _ (fix _ (fun p hp => ?_))) (hm ν _ t2 (fin _ κ η ?_ a1)) a2 a3
    · rw [hp, if_pos rfl, t3.1.2.2.1, gOff6 h6 t3 t4 (fun e he => (hok.2.2 e he).1) (by omega)]; rfl
    · rw [f_X7_on_45, if_pos (nI_le (by omega) (by omega)), if_pos rfl, g2.1.2.2.1, q1]; simp only [bind_p]
  · obtain ⟨η, a1, a2, a3⟩ := k5 ζ g3
    refine same_try (r := nI (suE τ 6 (τ 0 0))) hR t2 (hx _ (fix _ (fun p hp => ?_))) (hm ν _ t2 (fin _ ζ η ?_ a1)) a2 a3
    · rw [hp, if_neg (by decide), if_pos rfl, show (5 : Int32) = nI 5 from rfl, tot6 h6 t3 (by omega)]; rfl
    · rw [f_X7_on_45, if_pos (nI_le (by omega) (by omega)), if_neg (by decide), if_pos rfl, aw7 h6 g2]; simp only [bind_p]
  · obtain ⟨η, a1, a2, a3⟩ := k5 ζ g3
    refine same_try (r := nI (suE τ 7 (τ 0 0))) hR t2 (hx _ (fix _ (fun p hp => ?_))) (hm ν _ t2 (fin _ ζ η ?_ a1)) a2 a3
    · rw [hp, if_neg (by decide), if_neg (by decide), if_pos rfl, show (6 : Int32) = nI 6 from rfl, tot6 h6 t3 (by omega)]; rfl
    · rw [f_X7_on_45, if_pos (nI_le (by omega) (by omega)), if_neg (by decide), if_neg (by decide), if_pos rfl, am7 h6 g2]; simp only [bind_p]
  · obtain ⟨η, a1, a2, a3⟩ := k5 ζ g3
    have n0 : ¬ nI (10 + e) = 0 := nI_ne0 (by omega) (by omega)
    have n1 : ¬ nI (10 + e) = 1 := by rw [K1, nI_eq (by omega) (by omega)]; omega
    have n2 : ¬ nI (10 + e) = 2 := by rw [K2, nI_eq (by omega) (by omega)]; omega
    have hs : nI (10 + e) - (10 : Int32) = nI e := by rw [K10, nI_sub (by omega), Nat.add_sub_cancel_left]
    have hgx : gI ν (300 + 1 + 1 + e) 5 = nI (τ 6 e) := (t3.2.1 e (by omega)).1 5 (by omega)
    have hgm : gI ζ 2006 e = nI (τ 6 e) := (g2.2.1 e (by omega)).1 5 (by omega)
    refine same_try (r := nI (τ 6 e)) hR t2 (hx _ (fix _ (fun p hp => ?_))) (hm ν _ t2 (fin _ ζ η ?_ a1)) a2 a3
    · rw [hp, if_neg n0, if_neg n1, if_neg n2, hs, aix_n (by omega) (by omega)]
      simp only [bind_p]
      rw [show (5 : Int32) = nI 5 from rfl, ldI_n (by omega) (by omega), hgx]
      rfl
    · rw [f_X7_on_45, if_pos (nI_le (by omega) (by omega)), if_neg n0, if_neg n1, if_neg n2, hs, ldI_n (by omega) (by omega), hgm]
      simp only [bind_p]
theorem s_on {T : PT} {μ : Mem} (hR : RR T μ) (a b : Int32) : Same T μ (fun μ => f_X6_on μ a b) (fun μ => f_X7_on μ a b) := by
  obtain ⟨⟨x1, _⟩, ⟨m1, _⟩, o1, _⟩ := id hR
  have hE := o1.1.1
  have key : ((b = 0 ∨ b = 1 ∨ b = 2) ∨ ∃ e, e < T.1 0 0 0 ∧ b = nI (10 + e)) → (∀ p, f_X6_on_34 μ a b = p → f_X6_on μ a b = p) → (∀ ν p, gI ν 2000 0 = nI (T.1 0 0 0) → f_X7_on_22 ν a b = p → f_X7_on ν a b = p) → Same T μ (fun μ => f_X6_on μ a b) (fun μ => f_X7_on μ a b) := fun hb hx hm => by
    rcases arg a (lo := 0) (hi := 60) (A := 0) (B := 60) (C := 0) (D := 60) rfl rfl rfl rfl with ⟨n, _, hn, _, rfl, hax, ham⟩ | ⟨_, hax, ham⟩
    · exact on_s hR hn hb _ _ hx (fun ν p hf => hm ν p (by rw [hf.1 2000 (by omega)]; exact m1.1.1))
    · refine same_q (r := -2) hR (hx _ ?_) (hm μ _ m1.1.1 ?_)
      · unfold f_X6_on_34; rw [hax]; rfl
      · unfold f_X7_on_22; rw [ham]; rfl
  rcases arg b (lo := 0) (hi := 2) (A := 0) (B := 2) (C := 0) (D := 2) rfl rfl rfl rfl with ⟨q, _, hq, _, rfl, hbx, hbm⟩ | ⟨hnb, hbx, hbm⟩
  · refine key (.inl ?_) (fun p hp => ?_) (fun ν p _ hp => ?_)
    · rcases (show q = 0 ∨ q = 1 ∨ q = 2 by omega) with rfl | rfl | rfl
      · exact .inl rfl
      · exact .inr (.inl rfl)
      · exact .inr (.inr rfl)
    · unfold f_X6_on; rw [hbx]; exact hp
    · unfold f_X7_on; rw [hbm]; exact hp
  · rcases oneS (S := 100) (E := T.1 0 0 0) (by omega) (b - 10) with ⟨e, he, hbe, hx, hm⟩ | ⟨hn, hx, hm⟩
    · have hb : b = nI (10 + e) := by
        have : b = b - 10 + 10 := (Int32.sub_add_cancel b 10).symm
        rw [this, hbe, K10, nI_add, Nat.add_comm]
      refine key (.inr ⟨e, he, hb⟩) (fun p hp => ?_) (fun ν p h0 hp => ?_)
      · unfold f_X6_on; rw [hbx]
        simp only [bind_p]
        rw [if_pos (by decide), if_neg (by rw [hb, K10]; exact nI_nlt (by omega) (by omega)), hx μ x1.1.1]
        exact hp
      · unfold f_X7_on; rw [hbm]
        simp only [bind_p]
        rw [if_pos (by decide), hm ν h0]
        exact hp
    · refine same_q (r := -1) hR ?_ ?_
      · show f_X6_on μ a b = _
        unfold f_X6_on; rw [hbx]
        simp only [bind_p]
        rw [if_pos (by decide)]
        by_cases h : b < 10
        · rw [if_pos h]
        · rw [if_neg h, hx μ x1.1.1]; rfl
      · show f_X7_on μ a b = _
        unfold f_X7_on; rw [hbm]
        simp only [bind_p]
        rw [if_pos (by decide), hm μ m1.1.1]; rfl
