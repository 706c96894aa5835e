theorem s_set {T : PT} {μ : Mem} (hR : RR T μ) (a b c : Int32) : Same T μ (fun μ => f_X6_set μ a b c) (fun μ => f_X7_set μ a b c) := by
  obtain ⟨⟨x1, _⟩, ⟨m1, _⟩, o1, _⟩ := id hR
  have hE := o1.1.1
  rcases oneS (S := 100) (E := T.1 0 0 0) (by omega) a with ⟨e, he, rfl, hx, hm⟩ | ⟨hn, hx, hm⟩
  · rcases arg b (lo := 0) (hi := 1) (A := 0) (B := 1) (C := 0) (D := 1) rfl rfl rfl rfl with ⟨q, _, hq, _, rfl, hbx, hbm⟩ | ⟨_, hbx, hbm⟩
    · have hx2 : gI μ (100 + 1 + 1 + e) 2 = nI (T.1 0 3 e) := (x1.2.1 e he).1 2 (by omega)
      have hm2 : gI μ 2003 e = nI (T.1 0 3 e) := (m1.2.1 e he).1 2 (by omega)
      have hx3 : gI μ (100 + 1 + 1 + e) 3 = nI (T.1 0 4 e) := (x1.2.1 e he).1 3 (by omega)
      have hm3 : gI μ 2004 e = nI (T.1 0 4 e) := (m1.2.1 e he).1 3 (by omega)
      rcases (show q = 0 ∨ q = 1 by omega) with rfl | rfl
      · rcases arg c (lo := 1) (hi := 30) (A := 1) (B := 30) (C := 1) (D := 30) rfl rfl rfl rfl with ⟨n, h1, hn, _, rfl, hcx, hcm⟩ | ⟨_, hcx, hcm⟩
        · refine same_n (r := nI (T.1 0 3 e)) (σ := up (T.1 0) 3 e n) (μ1 := sI μ (100 + 1 + 1 + e) 2 (nI n)) (μ2 := sI (sI μ (100 + 1 + 1 + e) 2 (nI n)) 2003 e (nI n)) hR ?_ ?_ (XO_s (by omega)) (XS_up x1 o1.n rfl (.inr (.inr (.inl ⟨e, 2, by omega⟩)))) (MO_s (by unfold mrow; omega)) (MS_up (MS_X (fun k hk => gI_sI_ne (by omega)) m1) rfl (.inr (.inr (.inl ⟨2, by omega⟩)))) (okS_up o1 (by omega))
          · show f_X6_set μ _ _ _ = _
            unfold f_X6_set
            rw [hx μ x1.1.1, hbx, hcx]
            simp only [bind_s]
            rw [if_neg (by decide), if_neg (by decide), if_pos (by decide)]
            unfold f_X6_set_48 f_X6_set_76 f_X6_replace
            rw [if_neg (by decide), aix_n (by omega) (by omega)]
            simp only [bind_s]
            rw [if_pos (by decide), show (2 : Int32) = nI 2 from rfl, ldI_n (by omega) (by omega), stI_n (by omega) (by omega), hx2]
            rfl
          · show f_X7_set _ _ _ _ = _
            unfold f_X7_set
            rw [hm _ ((gI_ne1 (by omega)).trans m1.1.1), hbm, hcm]
            simp only [bind_s]
            rw [if_neg (by decide), if_neg (by decide), if_pos (by decide), if_neg (by decide)]
            unfold f_X7_set_49 f_X7_set_68
            rw [if_pos (by decide), ldI_n (by omega) (by omega)]
            simp only [bind_s]
            rw [if_pos (by decide), stI_n (by omega) (by omega), gI_ne1 (by omega), hm2]
            rfl
        · exact same_q (r := -2) hR (by show f_X6_set μ _ _ c = _; unfold f_X6_set; rw [hx μ x1.1.1, hbx, hcx]; rfl) (by show f_X7_set μ _ _ c = _; unfold f_X7_set; rw [hm μ m1.1.1, hbm, hcm]; rfl)
      · rcases arg c (lo := 0) (hi := 29) (A := 0) (B := 29) (C := 0) (D := 29) rfl rfl rfl rfl with ⟨n, h1, hn, _, rfl, hcx, hcm⟩ | ⟨_, hcx, hcm⟩
        · refine same_n (r := nI (T.1 0 4 e)) (σ := up (T.1 0) 4 e n) (μ1 := sI μ (100 + 1 + 1 + e) 3 (nI n)) (μ2 := sI (sI μ (100 + 1 + 1 + e) 3 (nI n)) 2004 e (nI n)) hR ?_ ?_ (XO_s (by omega)) (XS_up x1 o1.n rfl (.inr (.inr (.inl ⟨e, 3, by omega⟩)))) (MO_s (by unfold mrow; omega)) (MS_up (MS_X (fun k hk => gI_sI_ne (by omega)) m1) rfl (.inr (.inr (.inl ⟨3, by omega⟩)))) (okS_up o1 (by omega))
          · show f_X6_set μ _ _ _ = _
            unfold f_X6_set
            rw [hx μ x1.1.1, hbx, hcx]
            simp only [bind_s]
            rw [if_neg (by decide), if_neg (by decide), if_neg (by decide)]
            unfold f_X6_set_48 f_X6_set_76 f_X6_replace
            rw [if_neg (by decide), aix_n (by omega) (by omega)]
            simp only [bind_s]
            rw [if_neg (by decide), show (3 : Int32) = nI 3 from rfl, ldI_n (by omega) (by omega), stI_n (by omega) (by omega), hx3]
            rfl
          · show f_X7_set _ _ _ _ = _
            unfold f_X7_set
            rw [hm _ ((gI_ne1 (by omega)).trans m1.1.1), hbm, hcm]
            simp only [bind_s]
            rw [if_neg (by decide), if_neg (by decide), if_neg (by decide), if_neg (by decide)]
            unfold f_X7_set_49 f_X7_set_68
            rw [if_neg (by decide), ldI_n (by omega) (by omega)]
            simp only [bind_s]
            rw [if_neg (by decide), stI_n (by omega) (by omega), gI_ne1 (by omega), hm3]
            rfl
        · exact same_q (r := -2) hR (by show f_X6_set μ _ _ c = _; unfold f_X6_set; rw [hx μ x1.1.1, hbx, hcx]; rfl) (by show f_X7_set μ _ _ c = _; unfold f_X7_set; rw [hm μ m1.1.1, hbm, hcm]; rfl)
    · exact same_q (r := -1) hR (by show f_X6_set μ _ b c = _; unfold f_X6_set; rw [hx μ x1.1.1, hbx]; rfl) (by show f_X7_set μ _ b c = _; unfold f_X7_set; rw [hm μ m1.1.1, hbm]; rfl)
  · exact same_q (r := -1) hR (by show f_X6_set μ a b c = _; unfold f_X6_set; rw [hx μ x1.1.1]; rfl) (by show f_X7_set μ a b c = _; unfold f_X7_set; rw [hm μ m1.1.1]; rfl)
