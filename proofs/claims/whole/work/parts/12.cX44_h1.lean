/-! the law -/
def Go (L : Nat) (xs : Nat → Int32) (n j : Nat) (z : Option (Int32 × Mem)) : Prop := ∃ T' μ', RR T' μ' ∧ z = f_L_law_18 L xs n μ' (nI (j + 6))
theorem go_if {L n j : Nat} {xs : Nat → Int32} {c : Prop} [Decidable c] {a b : Option (Int32 × Mem)} (h1 : c → Go L xs n j a) (h2 : ¬ c → Go L xs n j b) : Go L xs n j (if c then a else b) := by
  by_cases h : c
  · rw [if_pos h]; exact h1 h
  · rw [if_neg h]; exact h2 h
theorem go_t {L n j : Nat} {xs : Nat → Int32} {c : Prop} [Decidable c] {a b : Option (Int32 × Mem)} (h : c) (h1 : Go L xs n j a) : Go L xs n j (if c then a else b) := by
  rw [if_pos h]; exact h1
theorem go_f {L n j : Nat} {xs : Nat → Int32} {c : Prop} [Decidable c] {a b : Option (Int32 × Mem)} (h : ¬ c) (h1 : Go L xs n j b) : Go L xs n j (if c then a else b) := by
  rw [if_neg h]; exact h1
theorem go_b {L n j : Nat} {xs : Nat → Int32} {α : Type} {o : Option α} {v : α} {f : α → Option (Int32 × Mem)} (h : o = some v) (h1 : Go L xs n j (f v)) : Go L xs n j (o.bind f) := by
  rw [h]; exact h1
theorem go_e {L n j : Nat} {xs : Nat → Int32} {T : PT} {μ : Mem} (hR : RR T μ) : Go L xs n j (f_L_law_1326 L xs (fun μ z0 => f_L_law_18 L xs n μ z0) μ (nI j)) := by
  refine ⟨T, μ, hR, ?_⟩
  unfold f_L_law_1326
  simp only [bind_p]
  rw [K6, nI_add]

theorem turn {L n j : Nat} {xs : Nat → Int32} {T : PT} {μ : Mem} (hR : RR T μ) (hL : L ≤ 3072) (hj : j + 6 ≤ L) : Go L xs n j (f_L_law_18 L xs (n + 1) μ (nI j)) := by
  have l0 : ldF xs L (nI j) = some (xs j) := ldF_n (by omega) (by omega)
  have l1 : ldF xs L (nI j + (1 : Int32)) = some (xs (j + 1)) := by rw [K1, nI_add]; exact ldF_n (by omega) (by omega)
  have l2 : ldF xs L (nI j + (2 : Int32)) = some (xs (j + 2)) := by rw [K2, nI_add]; exact ldF_n (by omega) (by omega)
  have l3 : ldF xs L (nI j + (3 : Int32)) = some (xs (j + 3)) := by rw [K3, nI_add]; exact ldF_n (by omega) (by omega)
  have l4 : ldF xs L (nI j + (4 : Int32)) = some (xs (j + 4)) := by rw [K4, nI_add]; exact ldF_n (by omega) (by omega)
  have l5 : ldF xs L (nI j + (5 : Int32)) = some (xs (j + 5)) := by rw [K5, nI_add]; exact ldF_n (by omega) (by omega)
  have hneg : ¬ (Int32.ofNat L - (6 : Int32)) < nI j := by
    rw [show Int32.ofNat L = nI L from rfl, K6, nI_sub (by omega)]
    exact nI_nlt (by omega) (by omega)
  rw [f_L_law_18]
  refine go_f hneg (go_b l0 (go_b rfl ?_))
  refine go_if (fun _ => ?_) (fun _ => ?_)
  · obtain ⟨r, μ1, μ2, T', e1, e2, hR'⟩ := (s_egg hR (xs (j + 1)) (xs (j + 2)) (xs (j + 3)) (xs (j + 4))).step
    exact go_b l1 (go_b l2 (go_b l3 (go_b l4 (go_b e1 (go_b l1 (go_b l2 (go_b l3 (go_b l4 (go_b e2 (go_t rfl (go_e hR')))))))))))
  refine go_if (fun _ => ?_) (fun _ => ?_)
  · obtain ⟨r, μ1, μ2, T', e1, e2, hR'⟩ := (s_of hR (xs (j + 1)) (xs (j + 2))).step
    exact go_b l1 (go_b l2 (go_b e1 (go_b l1 (go_b l2 (go_b e2 (go_t rfl (go_e hR')))))))
  refine go_if (fun _ => ?_) (fun _ => ?_)
  · obtain ⟨r, μ1, μ2, T', e1, e2, hR'⟩ := (s_set hR (xs (j + 1)) (xs (j + 2)) (xs (j + 3))).step
    exact go_b l1 (go_b l2 (go_b l3 (go_b e1 (go_b l1 (go_b l2 (go_b l3 (go_b e2 (go_t rfl (go_e hR')))))))))
  refine go_if (fun _ => ?_) (fun _ => ?_)
  · refine go_b l1 (go_b l2 (go_if (fun h => ?_) (fun h => ?_)))
    · obtain ⟨r, μ1, μ2, T', e1, e2, hR'⟩ := (s_smash hR (xs (j + 1)) 0).step
      unfold f_L_law_328
      refine go_b e1 (go_b l1 (go_b l2 (go_t h ?_)))
      unfold f_L_law_350
      exact go_b e2 (go_t rfl (go_e hR'))
    · obtain ⟨r, μ1, μ2, T', e1, e2, hR'⟩ := (s_smash hR (xs (j + 1)) 1).step
      unfold f_L_law_328
      refine go_b e1 (go_b l1 (go_b l2 (go_f h ?_)))
      unfold f_L_law_350
      exact go_b e2 (go_t rfl (go_e hR'))
  refine go_if (fun _ => ?_) (fun _ => ?_)
  · obtain ⟨r, μ1, μ2, T', e1, e2, hR'⟩ := (s_listen hR (xs (j + 1))).step
    exact go_b l1 (go_b e1 (go_b l1 (go_b e2 (go_t rfl (go_e hR')))))
  refine go_if (fun _ => ?_) (fun _ => ?_)
  · obtain ⟨r, μ1, μ2, T', e1, e2, hR'⟩ := (s_row hR (xs (j + 1)) (xs (j + 2)) (xs (j + 3))).step
    exact go_b l1 (go_b l2 (go_b l3 (go_b e1 (go_b l1 (go_b l2 (go_b l3 (go_b e2 (go_t rfl (go_e hR')))))))))
  refine go_if (fun _ => ?_) (fun _ => ?_)
  · obtain ⟨r, μ1, μ2, T', e1, e2, hR'⟩ := s_feed hR (xs (j + 1))
    exact go_b l1 (go_b e1 (go_b l1 (go_b e2 (go_t rfl (go_e hR')))))
  refine go_if (fun _ => ?_) (fun _ => ?_)
  · obtain ⟨r, μ1, μ2, T', e1, e2, hR'⟩ := s_store hR
    exact go_b e1 (go_b e2 (go_t rfl (go_e hR')))
  refine go_if (fun _ => ?_) (fun _ => ?_)
  · obtain ⟨r, μ1, μ2, T', e1, e2, hR'⟩ := (s_told hR (xs (j + 1))).step
    exact go_b l1 (go_b e1 (go_b l1 (go_b e2 (go_t rfl (go_e hR')))))
  refine go_if (fun _ => ?_) (fun _ => ?_)
  · obtain ⟨r, μ1, μ2, T', e1, e2, hR'⟩ := (s_pass hR (xs (j + 1))).step
    exact go_b l1 (go_b e1 (go_b l1 (go_b e2 (go_t rfl (go_e hR')))))
  refine go_if (fun _ => ?_) (fun _ => ?_)
  · obtain ⟨r, μ1, μ2, T', e1, e2, hR'⟩ := (s_on hR (xs (j + 1)) (xs (j + 2))).step
    exact go_b l1 (go_b l2 (go_b e1 (go_b l1 (go_b l2 (go_b e2 (go_t rfl (go_e hR')))))))
  refine go_if (fun _ => ?_) (fun _ => ?_)
  · obtain ⟨r, μ1, μ2, T', e1, e2, hR'⟩ := (s_often hR (xs (j + 1)) (((xs (j + 2)).toInt64 <<< ((32 : Int32).toInt64 &&& 63)) ||| ((xs (j + 3)).toInt64 &&& (4294967295 : Int64)))).step
    exact go_b l1 (go_b l2 (go_b l3 (go_b e1 (go_b l1 (go_b l2 (go_b l3 (go_b e2 (go_t ((cmp_eq _ _).mpr rfl) (go_e hR')))))))))
  refine go_if (fun _ => ?_) (fun _ => ?_)
  · obtain ⟨r, μ1, μ2, T', e1, e2, hR'⟩ := (s_together hR (xs (j + 1)) (xs (j + 2))).step
    exact go_b l1 (go_b l2 (go_b e1 (go_b l1 (go_b l2 (go_b e2 (go_t ((cmp_eq _ _).mpr rfl) (go_e hR')))))))
  refine go_if (fun _ => ?_) (fun _ => ?_)
  · obtain ⟨r, μ1, μ2, T', e1, e2, hR'⟩ := (s_busy hR (xs (j + 1)) (xs (j + 2))).step
    exact go_b l1 (go_b l2 (go_b e1 (go_b l1 (go_b l2 (go_b e2 (go_t rfl (go_e hR')))))))
  refine go_if (fun _ => ?_) (fun _ => ?_)
  · refine go_b l1 (go_b l2 (go_b l3 (go_if (fun h => ?_) (fun h => ?_))))
    · obtain ⟨r, μ1, μ2, T', e1, e2, hR'⟩ := (s_hear hR (xs (j + 1)) (xs (j + 2)) 0).step
      unfold f_L_law_694
      refine go_b e1 (go_b l1 (go_b l2 (go_b l3 (go_t h ?_))))
      unfold f_L_law_721
      exact go_b e2 (go_t rfl (go_e hR'))
    · obtain ⟨r, μ1, μ2, T', e1, e2, hR'⟩ := (s_hear hR (xs (j + 1)) (xs (j + 2)) 1).step
      unfold f_L_law_694
      refine go_b e1 (go_b l1 (go_b l2 (go_b l3 (go_f h ?_))))
      unfold f_L_law_721
      exact go_b e2 (go_t rfl (go_e hR'))
  refine go_if (fun _ => ?_) (fun _ => ?_)
  · obtain ⟨r, μ1, μ2, T', e1, e2, hR'⟩ := (s_can hR (xs (j + 1)) (xs (j + 2)) (xs (j + 3))).step
    exact go_b l1 (go_b l2 (go_b l3 (go_b e1 (go_b l1 (go_b l2 (go_b l3 (go_b e2 (go_t rfl (go_e hR')))))))))
  refine go_if (fun _ => ?_) (fun _ => ?_)
  · obtain ⟨r, μ1, μ2, T', e1, e2, hR'⟩ := (s_odds hR (xs (j + 1))).step
    exact go_b l1 (go_b e1 (go_b l1 (go_b e2 (go_t ((cmp_eq _ _).mpr rfl) (go_e hR')))))
  refine go_if (fun _ => ?_) (fun _ => ?_)
  · obtain ⟨r, μ1, μ2, T', e1, e2, hR'⟩ := (s_mean hR (xs (j + 1)) (xs (j + 2))).step
    exact go_b l1 (go_b l2 (go_b e1 (go_b l1 (go_b l2 (go_b e2 (go_t ((cmp_eq _ _).mpr rfl) (go_e hR')))))))
  refine go_if (fun _ => ?_) (fun _ => ?_)
  · obtain ⟨r, μ1, μ2, T', e1, e2, hR'⟩ := (s_plan hR (xs (j + 1)) (xs (j + 2))).step
    exact go_b l1 (go_b l2 (go_b e1 (go_b l1 (go_b l2 (go_b e2 (go_t rfl (go_e hR')))))))
  refine go_if (fun _ => ?_) (fun _ => ?_)
  · obtain ⟨r, μ1, μ2, T', e1, e2, hR'⟩ := (s_ends hR (xs (j + 1))).step
    exact go_b l1 (go_b e1 (go_b l1 (go_b e2 (go_t rfl (go_e hR')))))
  refine go_if (fun _ => ?_) (fun _ => ?_)
  · obtain ⟨r, μ1, μ2, T', e1, e2, hR'⟩ := (s_book hR (xs (j + 1)) (xs (j + 2))).step
    exact go_b l1 (go_b l2 (go_b e1 (go_b l1 (go_b l2 (go_b e2 (go_t rfl (go_e hR')))))))
  refine go_if (fun _ => ?_) (fun _ => ?_)
  · obtain ⟨r, e1, e2⟩ := s_looked hR
    exact go_b e1 (go_b e2 (go_t rfl (go_e hR)))
  refine go_if (fun _ => ?_) (fun _ => ?_)
  · obtain ⟨r, e1, e2⟩ := s_judge hR (xs (j + 1)) (xs (j + 2))
    exact go_b l1 (go_b l2 (go_b e1 (go_b l1 (go_b l2 (go_b e2 (go_t rfl (go_e hR)))))))
  refine go_if (fun _ => ?_) (fun _ => ?_)
  · obtain ⟨r, μ1, μ2, T', e1, e2, hR'⟩ := s_image hR
    exact go_b e1 (go_b e2 (go_t rfl (go_e hR')))
  refine go_if (fun _ => ?_) (fun _ => ?_)
  · obtain ⟨r, μ1, μ2, T', e1, e2, hR'⟩ := (s_undo hR).step
    exact go_b e1 (go_b e2 (go_t rfl (go_e hR')))
  refine go_if (fun _ => ?_) (fun _ => ?_)
  · obtain ⟨r, μ1, μ2, T', e1, e2, hR'⟩ := s_act hR (xs (j + 1)) (xs (j + 2)) (xs (j + 3))
    exact go_b l1 (go_b l2 (go_b l3 (go_b e1 (go_b l1 (go_b l2 (go_b l3 (go_b e2 (go_t rfl (go_e hR')))))))))
  refine go_if (fun _ => ?_) (fun _ => ?_)
  · obtain ⟨r, e1, e2⟩ := s_trace hR (xs (j + 1))
    exact go_b l1 (go_b e1 (go_b l1 (go_b e2 (go_t rfl (go_e hR)))))
  refine go_if (fun _ => ?_) (fun _ => ?_)
  · obtain ⟨r, e1, e2⟩ := s_taken hR (xs (j + 1)) (xs (j + 2))
    exact go_b l1 (go_b l2 (go_b e1 (go_b l1 (go_b l2 (go_b e2 (go_t rfl (go_e hR)))))))
  refine go_if (fun _ => ?_) (fun _ => ?_)
  · obtain ⟨r, e1, e2⟩ := s_count hR (xs (j + 1))
    exact go_b l1 (go_b e1 (go_b l1 (go_b e2 (go_t rfl (go_e hR)))))
  refine go_if (fun _ => ?_) (fun _ => ?_)
  · obtain ⟨r, μ1, μ2, T', e1, e2, hR'⟩ := s_tape hR (xs (j + 1)) (xs (j + 2)) (xs (j + 3))
    exact go_b l1 (go_b l2 (go_b l3 (go_b e1 (go_b l1 (go_b l2 (go_b l3 (go_b e2 (go_t rfl (go_e hR')))))))))
  refine go_if (fun _ => ?_) (fun _ => ?_)
  · obtain ⟨r, μ1, μ2, T', e1, e2, hR'⟩ := s_item hR (xs (j + 1)) (xs (j + 2)) (((xs (j + 3)).toInt64 <<< ((32 : Int32).toInt64 &&& 63)) ||| ((xs (j + 4)).toInt64 &&& (4294967295 : Int64)))
    exact go_b l1 (go_b l2 (go_b l3 (go_b l4 (go_b e1 (go_b l1 (go_b l2 (go_b l3 (go_b l4 (go_b e2 (go_t rfl (go_e hR')))))))))))
  refine go_if (fun _ => ?_) (fun _ => ?_)
  · obtain ⟨r, e1, e2⟩ := s_read hR (xs (j + 1)) (xs (j + 2))
    exact go_b l1 (go_b l2 (go_b e1 (go_b l1 (go_b l2 (go_b e2 (go_t ((cmp_eq _ _).mpr rfl) (go_e hR)))))))
  refine go_if (fun _ => ?_) (fun _ => ?_)
  · obtain ⟨r, μ1, μ2, T', e1, e2, hR'⟩ := s_shift hR (xs (j + 1)) (xs (j + 2)) (xs (j + 3)) (xs (j + 4)) (xs (j + 5))
    exact go_b l1 (go_b l2 (go_b l3 (go_b l4 (go_b l5 (go_b e1 (go_b l1 (go_b l2 (go_b l3 (go_b l4 (go_b l5 (go_b e2 (go_t rfl (go_e hR')))))))))))))
  exact go_e hR
def T0 : PT := (fun a f _ => if a = 0 ∧ f = 9 then 127 else 0, fun _ _ => 0, fun _ => [])
theorem R0 : RR T0 mem0 := by
  have z : ∀ e : Nat, ¬ e < 0 := Nat.not_lt_zero
  refine ⟨⟨⟨⟨rfl, rfl, rfl, rfl⟩, fun e he => absurd he (z e), ⟨rfl, fun e he => absurd he (z e)⟩, ⟨rfl, fun e he => absurd he (z e)⟩, rfl, fun e he => absurd he (z e)⟩, ⟨rfl, fun h => absurd h (show ¬ 0 = 1 by omega)⟩, ⟨rfl, fun e he => absurd he (z e)⟩, ⟨rfl, fun e he => absurd he (z e)⟩, ⟨rfl, fun e he => absurd he (z e)⟩, fun t ht => ?_⟩,
    ⟨⟨⟨rfl, rfl, rfl, rfl⟩, fun e he => absurd he (z e), ⟨rfl, fun e he => absurd he (z e)⟩, ⟨rfl, fun e he => absurd he (z e)⟩, rfl, fun e he => absurd he (z e)⟩, ⟨rfl, fun h => absurd h (show ¬ 0 = 1 by omega)⟩, ⟨rfl, fun e he => absurd he (z e)⟩, ⟨rfl, 0, Nat.zero_le _, rfl, fun e he => absurd he (z e)⟩, ⟨rfl, fun e he => absurd he (z e)⟩, fun t ht => ?_⟩,
    ⟨⟨by decide, by decide, by decide, by decide⟩, fun e he => absurd he (z e), ⟨by decide, fun e he => absurd he (z e)⟩, ⟨by decide, fun e he => absurd he (z e)⟩, by decide, fun e he => absurd he (z e)⟩, ⟨by decide, fun h => absurd h (show ¬ 0 = 1 by omega)⟩, ⟨by decide, fun e he => absurd he (z e)⟩, ⟨by decide, fun e he => absurd he (z e)⟩, by decide, fun t ht => ⟨Nat.zero_le _, Nat.zero_le _, fun _ => rfl⟩⟩
  · have h : ∀ t, t < 6 → gI mem0 (1100 + 2 * t) 0 = nI 0 - 1 ∧ gI mem0 (1100 + 2 * t) 1 = nI 0 := by decide +kernel
    exact ⟨(h t ht).1, (h t ht).2, fun i hi => rfl⟩
  · have h : ∀ t, t < 6 → gI mem0 2042 t = nI 0 - 1 ∧ gI mem0 2043 t = nI 0 := by decide +kernel
    exact ⟨(h t ht).1, (h t ht).2, fun i hi => rfl⟩
theorem end_s : ∀ L, L < 6 → ∀ j, j ≤ L → (Int32.ofNat L - (6 : Int32)) < nI j := by decide +kernel
theorem law_go {L : Nat} {xs : Nat → Int32} (hL : L ≤ 3072) : ∀ n j T μ, RR T μ → j ≤ L → L < j + 6 * n → ∃ μ', f_L_law_18 L xs n μ (nI j) = some (1, μ') := by
  intro n
  induction n with
  | zero => exact fun j T μ hR h1 h2 => absurd h2 (by omega)
  | succ n ih =>
    intro j T μ hR h1 h2
    by_cases h : j + 6 ≤ L
    · obtain ⟨T', μ', hR', e⟩ := turn (n := n) (xs := xs) hR hL h
      obtain ⟨μ2, e2⟩ := ih (j + 6) T' μ' hR' h (by omega)
      exact ⟨μ2, e.trans e2⟩
    · refine ⟨μ, ?_⟩
      have he : (Int32.ofNat L - (6 : Int32)) < nI j := by
        by_cases q : L < 6
        · exact end_s L q j h1
        · rw [show Int32.ofNat L = nI L from rfl, K6, nI_sub (by omega)]
          exact nI_lt (by omega) (by omega)
      rw [f_L_law_18, if_pos he]
theorem pure_main {L : Nat} (xs : Nat → Int32) (hL : L ≤ 3072) : ∃ μ' : Mem, f_L_law L xs mem0 = some (1, μ') := by
  have hF := FU_p 4999 (by omega)
  exact law_go hL FU 0 T0 mem0 R0 (Nat.zero_le _) (by omega)
