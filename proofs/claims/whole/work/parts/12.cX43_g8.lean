theorem s_store {T : PT} {μ : Mem} (hR : RR T μ) : Step μ f_X6_store f_X7_store := by
  obtain ⟨⟨x1, ⟨x2, x2'⟩, ⟨x3, x3'⟩, ⟨x4, x4'⟩, ⟨x5, x5'⟩, x6⟩, ⟨m1, ⟨m2, m2'⟩, ⟨m3, m3'⟩, ⟨m4, c, mc, mc', m4'⟩, ⟨m5, m5'⟩, m6⟩, o1, ⟨o2, o2'⟩, ⟨o3, o3'⟩, ⟨o4, o4'⟩, o5, o6⟩ := id hR
  obtain ⟨st, hst⟩ : ∃ st, T.1 2 17 0 = st := ⟨_, rfl⟩
  obtain ⟨H, hH⟩ : ∃ H, T.1 2 11 0 = H := ⟨_, rfl⟩
  obtain ⟨tx, htx⟩ : ∃ tx, T.1 2 12 = tx := ⟨_, rfl⟩
  have hst0 : T.1 2 17 0 ≤ st := by omega
  rw [hst] at x4 x4' m4 mc m4' o4 o4' o1
  rw [hH] at x3 x3' m3 m3' o3 o3'
  rw [htx] at x3' m3' o3'
  by_cases q : st = 6
  · refine ⟨-4, μ, μ, T, ?_, ?_, hR⟩
    · unfold f_X6_store
      rw [x4, q, if_neg (show ¬ nI 6 < (6 : Int32) by decide)]
    · unfold f_X7_store
      rw [m4, q, if_pos (show nI 6 = (6 : Int32) from rfl)]
  have hs6 : st < 6 := by omega
  have c6 : c ≤ 600 := by omega
  have hI : XI (1000 + 10 * st) H tx μ (sI (sI (sI (sI μ 2 2 0) (1000 + 10 * st) 0 0) (1000 + 10 * st) 1 0) (1000 + 10 * st) 5 0) 0 [] := by
    refine ⟨⟨⟨?_, ?_, fun i hi => ?_⟩, ⟨?_, fun j hj => absurd hj (by show ¬ j < 0; omega)⟩, fun _ _ _ _ => rfl, fun _ _ => rfl, fun _ => rfl⟩, ⟨?_, ?_, fun i q hi => ?_⟩, fun k a b => ?_, fun k => rfl⟩
    · rw [gI_ne1 (by omega), gI_ne1 (by omega), gI_ne1 (by omega), gI_ne2 (by omega)]; exact x3
    · rw [gI_ne1 (by omega), gI_ne1 (by omega), gI_ne1 (by omega), gI_at]; rfl
    · rw [gI_ne1 (by omega), gI_ne1 (by omega), gI_ne1 (by omega), gI_ne1 (by omega)]; exact x3' i hi
    · rw [gI_at]; rfl
    · rw [gI_ne2 (by omega), gI_ne2 (by omega), gI_at]; rfl
    · rw [gI_ne2 (by omega), gI_at]; rfl
    · cases hi
    · rw [gI_sI_ne (by omega), gI_sI_ne (by omega), gI_sI_ne (by omega), gI_sI_ne a]
  have m0 : ∀ ν, (∀ k, 2000 ≤ k → gI ν k = gI μ k) → MI c st H tx ν (sI ν 2000 13 (nI 0)) 0 [] := fun ν hν => by
    obtain ⟨o, ho⟩ := o_of (gI ν 2000 16)
    refine ⟨⟨o, ⟨?_, gI_at _ _ _ _, fun i hi => ?_⟩, ⟨?_, fun j hj => absurd hj (by show ¬ j < 0; omega)⟩, ?_, fun _ _ _ => rfl, fun _ _ => rfl, fun _ _ => rfl, fun _ => rfl⟩, fun i q hi => ?_, MFr_f ⟨fun _ _ _ _ => rfl, fun _ _ => rfl, fun _ _ => rfl, fun _ _ _ _ _ => rfl, fun _ => rfl⟩ (by omega)⟩
    · rw [gI_ne2 (by omega), hν 2000 (by omega)]; exact m3
    · rw [gI_ne1 (by omega), hν 2012 (by omega)]; exact m3' i hi
    · rw [gI_ne2 (by omega), hν 2000 (by omega)]; exact mc'
    · rw [gI_ne2 (by omega)]; exact ho
    · cases hi
  have hU : ∀ r ν', f_X3_understands_22 (1000 + 10 * st) FU (sI (sI (sI (sI μ 2 2 0) (1000 + 10 * st) 0 0) (1000 + 10 * st) 1 0) (1000 + 10 * st) 5 0) (nI (([] : List CL).length + 1)) = some (r, ν') → f_X3_understands μ (1000 + 10 * st) = some (r, ν') := fun r ν' h => h
  rcases und_ok o3 o3' 9 [] 0 rfl (Nat.zero_le _) (Nat.le_refl _) rfl (fun q hq => by cases hq) with ⟨p', a1, a2, a3⟩ | ⟨l', b1, b2, b3, b4, a2, a3⟩
  · obtain ⟨ν', e, f1, f2⟩ := a2 _ μ _ FU (by omega) (FU_p _ (by omega)) hI
    have e1 := hU _ _ e
    have hν : ∀ k, 2000 ≤ k → gI (sI ν' 2 1 0) k = gI μ k := fun k hk => by
      rw [gI_sI_ne (by omega)]; exact f2.1 k (by omega) (by omega)
    obtain ⟨ξ', w, e2, g1, g2⟩ := a3 c st (sI ν' 2 1 0) _ FU c6 hs6 (by rw [hν 2000 (by omega)]; exact m4) (FU_p _ (by omega)) (m0 _ hν)
    have hx : ∀ k, k < 2000 → k ≠ 2 → ¬ (1000 + 10 * st ≤ k ∧ k < 1000 + 10 * st + 4) → gI (sI (sI ξ' 2000 11 0) 2000 25 (nI c)) k = gI μ k := fun k h1 h2 h3 => by
      rw [gI_sI_ne (by omega), gI_sI_ne (by omega), g2.1 k (by omega) (by omega) (by omega), gI_sI_ne h2]
      exact f2.1 k h2 h3
    have hm : ∀ k, 2000 < k → k ≠ 2024 → ¬ (2020 ≤ k ∧ k ≤ 2023) → gI (sI (sI ξ' 2000 11 0) 2000 25 (nI c)) k = gI μ k := fun k h1 h2 h3 => by
      rw [gI_sI_ne (by omega), gI_sI_ne (by omega), g2.1 k (by omega) h2 h3]
      exact hν k (by omega)
    have hf : ∀ i, i < 11 ∨ i = 17 ∨ i = 18 ∨ 26 ≤ i → gI (sI (sI ξ' 2000 11 0) 2000 25 (nI c)) 2000 i = gI μ 2000 i := fun i hi => by
      rw [gI_ne2 (by omega), gI_ne2 (by omega), g2.2.1 i (by omega), hν 2000 (by omega)]
    have hRR := R_store (ξ := sI (sI ξ' 2000 11 0) 2000 25 (nI c)) (σ := T.1 0) (st' := st) (lf := T.2.2) hR ⟨hst0, o4⟩ (XS_c (fun k _ _ => hx k (by omega) (by omega) (by omega)) x1 o1.n)
      (MS_h m1 (fun _ _ _ => rfl) (fun k hk => hm k (by omega) (by omega) (by omega)) (fun i hi => hf i (by omega)) (by rw [hf 18 (by omega)]; exact m1.1.2.2.2)) o1
      (fun k hk => by
        by_cases z : k < 2000
        · exact hx k z (by omega) (by omega)
        · exact hm k (by omega) (by omega) (by omega))
      (fun k => (g2.2.2.2.2 k).trans (f2.2 k)) (by rw [hx 1 (by omega) (by omega) (by omega)]) (hf 39 (by omega)) (hf 37 (by omega))
      (by rw [gI_ne1 (by omega), gI_ne1 (by omega), g2.1 2 (by omega) (by omega) (by omega), gI_at]; rfl) (by rw [gI_ne2 (by omega), gI_at]; rfl)
      (by rw [hx 1 (by omega) (by omega) (by omega)]; exact x4) (by rw [hf 17 (by omega)]; exact m4)
      (fun k hk => XC_c (fun j h1 h2 => hx j (by omega) (by omega) (by omega)) (x4' k hk))
      ⟨c, mc, gI_at _ _ _ _, fun k hk => MC_k c6 hk (o4' k hk).1 (fun j h1 h2 i hi => by rw [gI_ne1 (by omega), gI_ne1 (by omega), g2.2.2.2.1 j h1 h2 i hi, hν j (by omega)]) (fun j hj => by rw [gI_ne1 (by omega), gI_ne1 (by omega), g2.2.2.1 j hj, hν 2024 (by omega)]) (by rw [hm 2019 (by omega) (by omega) (by omega)]) (m4' k hk).1 (m4' k hk).2⟩ o4'
    obtain ⟨T', hT'⟩ := hRR
    refine ⟨-10 - nI p', sI ν' 2 1 0, sI (sI ξ' 2000 11 0) 2000 25 (nI c), T', ?_, ?_, hT'⟩
    · unfold f_X6_store f_X5_empty
      rw [x4, K6, if_pos (nI_lt hs6 (by omega)), aix_n hs6 (by omega)]
      simp only [bind_p]
      rw [e1]
      simp only [bind_p]
      rw [if_pos (show nI 0 = (0 : Int32) from rfl), f1]
    · unfold f_X7_store
      rw [hν 2000 (by omega), m4, if_neg (show ¬ nI st = (6 : Int32) by rw [K6, nI_eq (by omega) (by omega)]; omega), mc']
      simp only [bind_p]
      rw [show f_X7_store_29 FU (sI (sI ν' 2 1 0) 2000 13 0) (nI c) (0 : Int32) (1 : Int32) (0 : Int32) = f_X7_store_123 ξ' (nI c) w (0 : Int32) from e2]
      unfold f_X7_store_123
      simp only [bind_p]
      rw [if_pos trivial, gI_ne2 (by omega), gI_ne2 (by omega), g1]
  · obtain ⟨ν', e, f0, fA, f2⟩ := a2 _ μ _ FU (by omega) (FU_p _ (by omega)) hI
    have e1 := hU _ _ e
    have v16 : gI ν' 1 6 = nI st := by rw [f2.1 1 (by omega) (by omega)]; exact x4
    have hν : ∀ k, 2000 ≤ k → gI (sI (sI (sI ν' 2 1 0) 100 4 (nI st)) 1 6 (nI (st + 1))) k = gI μ k := fun k hk => by
      rw [gI_sI_ne (by omega), gI_sI_ne (by omega), gI_sI_ne (by omega)]; exact f2.1 k (by omega) (by omega)
    obtain ⟨ξ', e2, ⟨o, hP⟩, gA, g2⟩ := a3 c st (sI (sI (sI ν' 2 1 0) 100 4 (nI st)) 1 6 (nI (st + 1))) _ FU c6 hs6 (by rw [hν 2000 (by omega)]; exact m4) (FU_p _ (by omega)) (m0 _ hν)
    obtain ⟨ξ2, hξ2⟩ : ∃ ξ2, ξ2 = sI (sI (sI (sI ξ' 2000 11 0) 2019 st (nI l'.length)) 2000 18 (nI st)) 2000 17 (nI (st + 1)) := ⟨_, rfl⟩
    have hy : ∀ k, k < 2000 → gI ξ2 k = gI (sI (sI (sI ν' 2 1 0) 100 4 (nI st)) 1 6 (nI (st + 1))) k := fun k h1 => by
      rw [hξ2, gI_sI_ne (by omega), gI_sI_ne (by omega), gI_sI_ne (by omega), gI_sI_ne (by omega), g2.1 k (by omega) (by omega) (by omega)]
    have hz : ∀ k, k < 2000 → k ≠ 1 → k ≠ 2 → k ≠ 100 → gI ξ2 k = gI ν' k := fun k h1 h2 h3 h4 => by
      rw [hy k h1, gI_sI_ne h2, gI_sI_ne h4, gI_sI_ne h3]
    have hx : ∀ k, k < 2000 → k ≠ 1 → k ≠ 2 → k ≠ 100 → ¬ (1000 + 10 * st ≤ k ∧ k < 1000 + 10 * st + 4) → gI ξ2 k = gI μ k := fun k h1 h2 h3 h4 h5 => by
      rw [hz k h1 h2 h3 h4]; exact f2.1 k h3 h5
    have hm : ∀ k, 2000 < k → k ≠ 2024 → ¬ (2019 ≤ k ∧ k ≤ 2023) → gI ξ2 k = gI μ k := fun k h1 h2 h3 => by
      rw [hξ2, gI_sI_ne (by omega), gI_sI_ne (by omega), gI_sI_ne (by omega), gI_sI_ne (by omega), g2.1 k (by omega) h2 (by omega)]
      exact hν k (by omega)
    have hf : ∀ i, i < 11 ∨ 26 ≤ i → gI ξ2 2000 i = gI μ 2000 i := fun i hi => by
      rw [hξ2, gI_ne2 (by omega), gI_ne2 (by omega), gI_ne1 (by omega), gI_ne2 (by omega), g2.2.1 i (by omega), hν 2000 (by omega)]
    have hw : ∀ k, 2020 ≤ k → k ≤ 2024 → gI ξ2 k = gI ξ' k := fun k h1 h2 => by
      rw [hξ2, gI_sI_ne (by omega), gI_sI_ne (by omega), gI_sI_ne (by omega), gI_sI_ne (by omega)]
    have h18 : gI ξ2 2000 18 = nI st := by rw [hξ2, gI_ne2 (by omega), gI_at]
    have h1004 : gI ξ2 100 4 = nI st := by rw [hy 100 (by omega), gI_ne1 (by omega), gI_at]
    have e18 : nI st = nI (up (T.1 0) 18 0 (st + 1) 18 0) - 1 := by
      rw [up_at, K1, nI_sub (by omega), Nat.add_sub_cancel]
    have h25 : gI ξ2 2000 25 = nI (c + (cat l').length) := by
      rw [hξ2, gI_ne2 (by omega), gI_ne2 (by omega), gI_ne1 (by omega), gI_ne2 (by omega)]; exact hP.2.1.1
    have hc100 : (cat l').length ≤ 100 := by omega
    have hnew := MC_of (ξ' := ξ2) hP gA b1 hs6 hc100 mc hw (by rw [hξ2, gI_ne1 (by omega), gI_ne1 (by omega), gI_at])
    have hRR := R_store (ξ := ξ2) (σ := up (T.1 0) 18 0 (st + 1)) (st' := st + 1) (lf := fun k => if k = st then l' else T.2.2 k) hR ⟨by omega, by omega⟩
      (XS_h x1 o1.n (fun _ _ h => up_n1 h) (fun k h1 h2 => hx k (by omega) (by omega) (by omega) (by omega) (by omega)) (fun i hi => by rw [hy 100 (by omega), gI_ne1 (by omega), gI_ne2 hi, gI_ne1 (by omega)]; rw [f2.1 100 (by omega) (by omega)]) (h1004.trans e18))
      (MS_h m1 (fun _ _ h => up_n1 h) (fun k hk => hm k (by omega) (by omega) (by omega)) (fun i hi => hf i (by omega)) (h18.trans e18)) (okS_h o1 (fun _ _ h => up_n1 h) (by rw [up_at]; exact Nat.le_refl _))
      (fun k hk => by
        by_cases z : k < 2000
        · exact hx k z (by omega) (by omega) (by omega) (by omega)
        · exact hm k (by omega) (by omega) (by omega))
      (fun k => by rw [hξ2]; exact (g2.2.2.2.2 k).trans (f2.2 k)) (by rw [hy 1 (by omega), gI_ne2 (by omega), gI_ne1 (by omega), gI_ne1 (by omega), f2.1 1 (by omega) (by omega)]) (hf 39 (by omega)) (hf 37 (by omega))
      (by rw [hy 2 (by omega), gI_ne1 (by omega), gI_ne1 (by omega), gI_at]; rfl) (by rw [hξ2, gI_ne2 (by omega), gI_ne2 (by omega), gI_ne1 (by omega), gI_at]; rfl)
      (by rw [hy 1 (by omega), gI_at]) (by rw [hξ2, gI_at])
      (fun k hk => by
        by_cases z : k = st
        · show XC ξ2 _ (if k = st then l' else T.2.2 k)
          rw [if_pos z, z]
          exact XC_c (fun j h1 h2 => hz j (by omega) (by omega) (by omega) (by omega)) (XC_of f0 fA b3 hc100)
        · show XC ξ2 _ (if k = st then l' else T.2.2 k)
          rw [if_neg z]
          exact XC_c (fun j h1 h2 => hx j (by omega) (by omega) (by omega) (by omega) (by omega)) (x4' k (by omega)))
      ⟨c + (cat l').length, by omega, h25, fun k hk => by
        by_cases z : k = st
        · show MC ξ2 k (if k = st then l' else T.2.2 k) ∧ ∀ i, (h : i < (if k = st then l' else T.2.2 k).length) → ∃ b, gI ξ2 2022 (10 * k + i) = nI b ∧ b + (if k = st then l' else T.2.2 k)[i].2.2.length ≤ c + (cat l').length
          subst z
          simp only [↓reduceIte]
          exact hnew
        · show MC ξ2 k (if k = st then l' else T.2.2 k) ∧ ∀ i, (h : i < (if k = st then l' else T.2.2 k).length) → ∃ b, gI ξ2 2022 (10 * k + i) = nI b ∧ b + (if k = st then l' else T.2.2 k)[i].2.2.length ≤ c + (cat l').length
          simp only [if_neg z]
          have hk' : k < st := by omega
          have old := MC_k (ξ := ξ2) c6 hk' (o4' k hk').1 (fun j h1 h2 i hi => by rw [hw j h1 (by omega), g2.2.2.2.1 j h1 h2 i hi, hν j (by omega)]) (fun j hj => by rw [hw 2024 (by omega) (by omega), g2.2.2.1 j hj, hν 2024 (by omega)]) (by rw [hξ2, gI_ne1 (by omega), gI_ne1 (by omega), gI_ne2 z, gI_ne1 (by omega), g2.1 2019 (by omega) (by omega) (by omega), hν 2019 (by omega)]) (m4' k hk').1 (m4' k hk').2
          refine ⟨old.1, fun i hi => ?_⟩
          obtain ⟨b, d1, d2⟩ := old.2 i hi
          exact ⟨b, d1, by omega⟩⟩
      (fun k hk => by
        by_cases z : k = st
        · show (if k = st then l' else T.2.2 k).length ≤ 10 ∧ ∀ q ∈ (if k = st then l' else T.2.2 k), okC q
          rw [if_pos z]; exact ⟨b1, b2⟩
        · show (if k = st then l' else T.2.2 k).length ≤ 10 ∧ ∀ q ∈ (if k = st then l' else T.2.2 k), okC q
          rw [if_neg z]; exact o4' k (by omega))
    obtain ⟨T', hT'⟩ := hRR
    refine ⟨nI st, sI (sI (sI ν' 2 1 0) 100 4 (nI st)) 1 6 (nI (st + 1)), ξ2, T', ?_, ?_, hT'⟩
    · unfold f_X6_store f_X5_empty
      rw [x4, K6, if_pos (nI_lt hs6 (by omega)), aix_n hs6 (by omega)]
      simp only [bind_p]
      rw [e1]
      simp only [bind_p]
      rw [if_neg (show ¬ nI 1 = (0 : Int32) by decide), gI_ne1 (show (1 : Nat) ≠ 100 by omega), gI_ne1 (show (1 : Nat) ≠ 2 by omega), v16, K1, nI_add]
    · unfold f_X7_store
      rw [hν 2000 (by omega), m4, if_neg (show ¬ nI st = (6 : Int32) by rw [K6, nI_eq (by omega) (by omega)]; omega), mc']
      simp only [bind_p]
      rw [show f_X7_store_29 FU (sI (sI (sI (sI ν' 2 1 0) 100 4 (nI st)) 1 6 (nI (st + 1))) 2000 13 0) (nI c) (0 : Int32) (1 : Int32) (0 : Int32) = f_X7_store_123 ξ' (nI c) (nI l'.length) (1 : Int32) from e2]
      have s17 : gI ξ' 2000 17 = nI st := by rw [g2.2.1 17 (by omega), hν 2000 (by omega)]; exact m4
      unfold f_X7_store_123
      simp only [bind_p]
      rw [if_neg (show ¬ (1 : Int32) = 0 by decide), gI_ne2 (show (17 : Nat) ≠ 11 by omega), s17, stI_n hs6 (by omega)]
      simp only [bind_p]
      rw [gI_ne1 (show (2000 : Nat) ≠ 2019 by omega), gI_ne2 (show (17 : Nat) ≠ 11 by omega), s17, gI_ne2 (show (17 : Nat) ≠ 18 by omega), gI_ne1 (show (2000 : Nat) ≠ 2019 by omega), gI_ne2 (show (17 : Nat) ≠ 11 by omega), s17, K1, nI_add, hξ2]
