/-- a row is planned, in the class -/
theorem XS_plan {μ : Mem} {S w n : Nat} {v : Int32} {σ : SG} (hX : XS μ S σ) (hb : σ 0 0 ≤ 6 ∧ σ 27 0 ≤ 6 ∧ σ 31 0 ≤ 10 ∧ σ 34 0 ≤ 8) (hi : σ 31 0 < 10) (hv : w ≠ 0 → v = nI n) :
    XS (addM μ (S + 30) (σ 31 0) (nI w) v 0) S (up (up (up σ 32 (σ 31 0) w) 33 (σ 31 0) n) 31 0 (σ 31 0 + 1)) := by
  obtain ⟨⟨a1, a2, a3, a4⟩, b, ⟨c1, c2⟩, ⟨d1, d2⟩, e1, e2⟩ := hX
  obtain ⟨i, hii⟩ : ∃ i, i = σ 31 0 := ⟨_, rfl⟩
  rw [← hii] at hi hb d1 d2 ⊢
  have hu : ∀ a b, a ≠ 31 → a ≠ 32 → a ≠ 33 → up (up (up σ 32 i w) 33 i n) 31 0 (i + 1) a b = σ a b := fun a b h1 h2 h3 => by rw [up_n1 h1, up_n1 h3, up_n1 h2]
  unfold XS
  rw [hu 0 0 (by omega) (by omega) (by omega), hu 27 0 (by omega) (by omega) (by omega), hu 34 0 (by omega) (by omega) (by omega), hu 9 0 (by omega) (by omega) (by omega), hu 10 0 (by omega) (by omega) (by omega), hu 18 0 (by omega) (by omega) (by omega), up_at]
  refine ⟨⟨?_, ?_, ?_, ?_⟩, fun x hx => ⟨fun c hc => ?_, fun q hq => ?_⟩, ⟨?_, fun x hx => ?_⟩, ⟨addM_c, fun x hx => ?_⟩, ?_, fun x hx => ?_⟩
  · rw [addM_ne (by omega) (by omega)]; exact a1
  · rw [addM_ne (by omega) (by omega)]; exact a2
  · rw [addM_ne (by omega) (by omega)]; exact a3
  · rw [addM_ne (by omega) (by omega)]; exact a4
  · rw [addM_ne (by omega) (by omega), hu (c + 1) x (by omega) (by omega) (by omega)]; exact (b x hx).1 c hc
  · rw [addM_ne (by omega) (by omega), hu 8 _ (by omega) (by omega) (by omega)]; exact (b x hx).2 q hq
  · rw [addM_ne (by omega) (by omega)]; exact c1
  · rw [addM_ne (by omega) (by omega), hu 28 _ (by omega) (by omega) (by omega), hu 29 _ (by omega) (by omega) (by omega), hu 30 _ (by omega) (by omega) (by omega)]; exact c2 x hx
  · by_cases h : x = i
    · subst h
      rw [addM_0, addM_1, up_n1 (by omega), up_n1 (by omega), up_at, up_n1 (by omega), up_at]
      exact ⟨rfl, hv⟩
    · rw [addM_ne (by omega) (by omega), up_n1 (by omega), up_n1 (by omega), up_n2 h, up_n1 (by omega), up_n2 h, up_n1 (by omega)]
      exact d2 x (by omega)
  · rw [addM_ne (by omega) (by omega)]; exact e1
  · rw [addM_ne (by omega) (by omega), hu 35 _ (by omega) (by omega) (by omega), hu 36 _ (by omega) (by omega) (by omega)]; exact e2 x hx
/-- a row is booked, in the class -/
theorem XS_book {μ : Mem} {S w n : Nat} {v : Int32} {σ : SG} (hX : XS μ S σ) (hb : σ 0 0 ≤ 6 ∧ σ 27 0 ≤ 6 ∧ σ 31 0 ≤ 10 ∧ σ 34 0 ≤ 8) (hi : σ 34 0 < 8) :
    XS (addM μ (S + 50) (σ 34 0) (nI w) (nI n) 0) S (up (up (up σ 35 (σ 34 0) w) 36 (σ 34 0) n) 34 0 (σ 34 0 + 1)) := by
  obtain ⟨⟨a1, a2, a3, a4⟩, b, ⟨c1, c2⟩, ⟨d1, d2⟩, e1, e2⟩ := hX
  obtain ⟨i, hii⟩ : ∃ i, i = σ 34 0 := ⟨_, rfl⟩
  rw [← hii] at hi hb e1 e2 ⊢
  have hu : ∀ a b, a ≠ 34 → a ≠ 35 → a ≠ 36 → up (up (up σ 35 i w) 36 i n) 34 0 (i + 1) a b = σ a b := fun a b h1 h2 h3 => by rw [up_n1 h1, up_n1 h3, up_n1 h2]
  unfold XS
  rw [hu 0 0 (by omega) (by omega) (by omega), hu 27 0 (by omega) (by omega) (by omega), hu 31 0 (by omega) (by omega) (by omega), hu 9 0 (by omega) (by omega) (by omega), hu 10 0 (by omega) (by omega) (by omega), hu 18 0 (by omega) (by omega) (by omega), up_at]
  refine ⟨⟨?_, ?_, ?_, ?_⟩, fun x hx => ⟨fun c hc => ?_, fun q hq => ?_⟩, ⟨?_, fun x hx => ?_⟩, ⟨?_, fun x hx => ?_⟩, addM_c, fun x hx => ?_⟩
  · rw [addM_ne (by omega) (by omega)]; exact a1
  · rw [addM_ne (by omega) (by omega)]; exact a2
  · rw [addM_ne (by omega) (by omega)]; exact a3
  · rw [addM_ne (by omega) (by omega)]; exact a4
  · rw [addM_ne (by omega) (by omega), hu (c + 1) x (by omega) (by omega) (by omega)]; exact (b x hx).1 c hc
  · rw [addM_ne (by omega) (by omega), hu 8 _ (by omega) (by omega) (by omega)]; exact (b x hx).2 q hq
  · rw [addM_ne (by omega) (by omega)]; exact c1
  · rw [addM_ne (by omega) (by omega), hu 28 _ (by omega) (by omega) (by omega), hu 29 _ (by omega) (by omega) (by omega), hu 30 _ (by omega) (by omega) (by omega)]; exact c2 x hx
  · rw [addM_ne (by omega) (by omega)]; exact d1
  · rw [addM_ne (by omega) (by omega), hu 32 _ (by omega) (by omega) (by omega), hu 33 _ (by omega) (by omega) (by omega)]; exact d2 x hx
  · by_cases h : x = i
    · subst h
      rw [addM_0, addM_1, up_n1 (by omega), up_n1 (by omega), up_at, up_n1 (by omega), up_at]
      exact ⟨rfl, rfl⟩
    · rw [addM_ne (by omega) (by omega), up_n1 (by omega), up_n1 (by omega), up_n2 h, up_n1 (by omega), up_n2 h, up_n1 (by omega)]
      exact e2 x (by omega)
