theorem s_smash {T : PT} {μ : Mem} (hR : RR T μ) (a b : Int32) : Same T μ (fun μ => f_X6_smash μ a b) (fun μ => f_X7_smash μ a b) := by
  obtain ⟨⟨x1, _⟩, ⟨m1, _⟩, o1, _⟩ := id hR
  have hE := o1.1.1
  rcases oneS (S := 100) (E := T.1 0 0 0) (by omega) a with ⟨e, he, rfl, hx, hm⟩ | ⟨hn, hx, hm⟩
  · obtain ⟨v, hv, hvb⟩ : ∃ v : Nat, v ≤ 1 ∧ (if b = 0 then (0 : Int32) else 1) = nI v := by
      by_cases h : b = 0
      · exact ⟨0, by omega, by rw [if_pos h]; rfl⟩
      · exact ⟨1, by omega, by rw [if_neg h]; rfl⟩
    have hx4 := (x1.2.1 e he).1 4 (by omega)
    have hm4 : gI μ 2005 e = nI (T.1 0 5 e) := (m1.2.1 e he).1 4 (by omega)
    refine same_n (r := nI (T.1 0 5 e)) (σ := up (T.1 0) 5 e v) (μ1 := sI μ (100 + 1 + 1 + e) 4 (nI v)) (μ2 := sI (sI μ (100 + 1 + 1 + e) 4 (nI v)) 2005 e (nI v)) hR ?_ ?_ (XO_s (by omega)) (XS_up x1 o1.n rfl (.inr (.inr (.inl ⟨e, 4, by omega⟩)))) (MO_s (by unfold mrow; omega)) (MS_up (MS_X (fun k hk => gI_sI_ne (by omega)) m1) rfl (.inr (.inr (.inl ⟨4, by omega⟩)))) (okS_up o1 (by omega))
    · show f_X6_smash μ _ _ = _
      unfold f_X6_smash
      rw [hx μ x1.1.1, aix_n (by omega) (by omega)]
      simp only [bind_s]
      rw [if_neg (by decide)]
      have key : ∀ w : Int32, w = nI v → f_X6_smash_32 μ w 4 (100 + 1 + 1 + e) = some (nI (T.1 0 5 e), sI μ (100 + 1 + 1 + e) 4 (nI v)) := by
        intro w hw
        unfold f_X6_smash_32 f_X6_replace
        rw [show (4 : Int32) = nI 4 from rfl, ldI_n (by omega) (by omega), stI_n (by omega) (by omega)]
        simp only [bind_s]
        rw [hx4, hw]
      by_cases h : b = 0
      · rw [if_pos h] at hvb ⊢; exact key _ hvb
      · rw [if_neg h] at hvb ⊢; exact key _ hvb
    · show f_X7_smash _ _ _ = _
      unfold f_X7_smash
      rw [hm _ ((gI_ne1 (by omega)).trans m1.1.1), ldI_n (by omega) (by omega)]
      simp only [bind_s]
      rw [if_neg (by decide), gI_ne1 (by omega), hm4]
      have key : ∀ w : Int32, w = nI v → f_X7_smash_31 (sI μ (100 + 1 + 1 + e) 4 (nI v)) (nI (T.1 0 5 e)) w (nI e) = some (nI (T.1 0 5 e), sI (sI μ (100 + 1 + 1 + e) 4 (nI v)) 2005 e (nI v)) := by
        intro w hw
        unfold f_X7_smash_31
        rw [stI_n (by omega) (by omega), hw]; rfl
      by_cases h : b = 0
      · rw [if_pos h] at hvb ⊢; exact key _ hvb
      · rw [if_neg h] at hvb ⊢; exact key _ hvb
  · exact same_q (r := -1) hR (by show f_X6_smash μ a b = _; unfold f_X6_smash; rw [hx μ x1.1.1]; rfl) (by show f_X7_smash μ a b = _; unfold f_X7_smash; rw [hm μ m1.1.1]; rfl)
theorem s_row {T : PT} {μ : Mem} (hR : RR T μ) (a b c : Int32) : Same T μ (fun μ => f_X6_row μ a b c) (fun μ => f_X7_row μ a b c) := by
  obtain ⟨⟨x1, _⟩, ⟨m1, _⟩, o1, _⟩ := id hR
  have hE := o1.1.1
  rcases oneS (S := 100) (E := T.1 0 0 0) (by omega) a with ⟨e, he, rfl, hx, hm⟩ | ⟨hn, hx, hm⟩
  · rcases arg b (lo := 0) (hi := 3) (A := 0) (B := 3) (C := 0) (D := 3) rfl rfl rfl rfl with ⟨q, _, hq, _, rfl, hbx, hbm⟩ | ⟨_, hbx, hbm⟩
    · rcases arg c (lo := 0) (hi := 9) (A := 0) (B := 9) (C := 0) (D := 9) rfl rfl rfl rfl with ⟨n, _, hn, _, rfl, hcx, hcm⟩ | ⟨_, hcx, hcm⟩
      · have hx0 : gI μ (100 + 1 + 1 + e) 0 = nI (T.1 0 1 e) := (x1.2.1 e he).1 0 (by omega)
        have hm0 : gI μ 2001 e = nI (T.1 0 1 e) := (m1.2.1 e he).1 0 (by omega)
        have hx8 := (x1.2.1 e he).2 q (by omega)
        have hm8 := (m1.2.1 e he).2 q (by omega)
        have hk := ((o1.2.1 e he).1).1
        by_cases h6 : T.1 0 1 e = 6
        · refine same_n (r := nI (T.1 0 8 (4 * e + q))) (σ := up (T.1 0) 8 (4 * e + q) n) (μ1 := sI μ (100 + 1 + 1 + e) (10 + q) (nI n)) (μ2 := sI (sI μ (100 + 1 + 1 + e) (10 + q) (nI n)) 2008 (4 * e + q) (nI n)) hR ?_ ?_ (XO_s (by omega)) (XS_up x1 o1.n rfl (.inr (.inr (.inr ⟨e, q, by omega⟩)))) (MO_s (by unfold mrow; omega)) (MS_up (MS_X (fun k hk => gI_sI_ne (by omega)) m1) rfl (by omega)) (okS_up o1 (by omega))
          · show f_X6_row μ _ _ _ = _
            unfold f_X6_row f_X6_replace
            rw [hx μ x1.1.1, hbx, hcx, aix_n (by omega) (by omega)]
            simp only [bind_s]
            rw [if_neg (by decide), if_neg (by decide), if_neg (by decide), show (0 : Int32) = nI 0 from rfl, ldI_n (by omega) (by omega)]
            simp only [bind_s]
            rw [hx0, h6, if_pos (show nI 6 = 6 from rfl), show (10 : Int32) = nI 10 from rfl, nI_add, ldI_n (by omega) (by omega), stI_n (by omega) (by omega), hx8]
            rfl
          · show f_X7_row _ _ _ _ = _
            unfold f_X7_row
            rw [hm _ ((gI_ne1 (by omega)).trans m1.1.1), hbm, hcm, ldI_n (by omega) (by omega)]
            simp only [bind_s]
            rw [if_neg (by decide), if_neg (by decide), if_neg (by decide), gI_ne1 (by omega), hm0, h6, if_pos (show nI 6 = 6 from rfl), show (4 : Int32) = nI 4 from rfl, nI_mul, nI_add, ldI_n (by omega) (by omega), stI_n (by omega) (by omega), gI_ne1 (by omega), hm8]
            rfl
        · refine same_q (r := -3) hR ?_ ?_
          · show f_X6_row μ _ _ _ = _
            unfold f_X6_row
            rw [hx μ x1.1.1, hbx, hcx, aix_n (by omega) (by omega)]
            simp only [bind_s]
            rw [if_neg (by decide), if_neg (by decide), if_neg (by decide), show (0 : Int32) = nI 0 from rfl, ldI_n (by omega) (by omega)]
            simp only [bind_s]
            rw [hx0, if_neg (by rw [show (6 : Int32) = nI 6 from rfl, nI_eq (by omega) (by omega)]; exact h6)]
          · show f_X7_row _ _ _ _ = _
            unfold f_X7_row
            rw [hm _ m1.1.1, hbm, hcm, ldI_n (by omega) (by omega)]
            simp only [bind_s]
            rw [if_neg (by decide), if_neg (by decide), if_neg (by decide), hm0, if_neg (by rw [show (6 : Int32) = nI 6 from rfl, nI_eq (by omega) (by omega)]; exact h6)]
      · exact same_q (r := -2) hR (by show f_X6_row μ _ _ c = _; unfold f_X6_row; rw [hx μ x1.1.1, hbx, hcx]; rfl) (by show f_X7_row μ _ _ c = _; unfold f_X7_row; rw [hm μ m1.1.1, hbm, hcm]; rfl)
    · exact same_q (r := -1) hR (by show f_X6_row μ _ b c = _; unfold f_X6_row; rw [hx μ x1.1.1, hbx]; rfl) (by show f_X7_row μ _ b c = _; unfold f_X7_row; rw [hm μ m1.1.1, hbm]; rfl)
  · exact same_q (r := -1) hR (by show f_X6_row μ a b c = _; unfold f_X6_row; rw [hx μ x1.1.1]; rfl) (by show f_X7_row μ a b c = _; unfold f_X7_row; rw [hm μ m1.1.1]; rfl)
