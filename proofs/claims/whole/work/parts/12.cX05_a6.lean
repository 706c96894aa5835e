def addM (μ : Mem) (k i : Nat) (a b c : Int32) : Mem := sI (sI (sI (sI μ (k + 1 + 1 + i) 0 a) (k + 1 + 1 + i) 1 b) (k + 1 + 1 + i) 2 c) k 1 (nI (i + 1))
theorem add6_yes {μ : Mem} {k n i : Nat} {a b c : Int32} (h : gI μ k 1 = nI i) (hi : i < n) (hn : n < 2147483648) : f_X1_add μ k n a b c = some (nI (i + 1), addM μ k i a b c) := by
  unfold f_X1_add
  rw [h, show Int32.ofNat n = nI n from rfl, if_pos (nI_lt hi (by omega)), aix_n hi hn]
  simp only [bind_s]
  rw [show (0 : Int32) = nI 0 from rfl, stI_n (by omega) (by omega)]
  simp only [bind_s]
  rw [show (1 : Int32) = nI 1 from rfl, stI_n (by omega) (by omega)]
  simp only [bind_s]
  rw [show (2 : Int32) = nI 2 from rfl, stI_n (by omega) (by omega)]
  simp only [bind_s]
  rw [gI_at, gI_ne1 (by omega), gI_ne1 (by omega), gI_ne1 (by omega), h, nI_add]
  rfl
theorem add6_no {μ : Mem} {k n : Nat} {a b c : Int32} (h : gI μ k 1 = nI n) (hn : n < 2147483648) : f_X1_add μ k n a b c = some (-4, μ) := by
  unfold f_X1_add
  rw [h, show Int32.ofNat n = nI n from rfl, if_neg (nI_nlt (Nat.le_refl _) (by omega))]
theorem addM_ne {μ : Mem} {k i q : Nat} {a b c : Int32} (h : q ≠ k) (h' : q ≠ k + 1 + 1 + i) : gI (addM μ k i a b c) q = gI μ q := by
  unfold addM
  rw [gI_sI_ne h, gI_sI_ne h', gI_sI_ne h', gI_sI_ne h']
theorem addM_0 {μ : Mem} {k i : Nat} {a b c : Int32} : gI (addM μ k i a b c) (k + 1 + 1 + i) 0 = a := by
  unfold addM
  rw [gI_ne1 (by omega), gI_ne2 (by omega), gI_ne2 (by omega), gI_at]
theorem addM_1 {μ : Mem} {k i : Nat} {a b c : Int32} : gI (addM μ k i a b c) (k + 1 + 1 + i) 1 = b := by
  unfold addM
  rw [gI_ne1 (by omega), gI_ne2 (by omega), gI_at]
theorem addM_2 {μ : Mem} {k i : Nat} {a b c : Int32} : gI (addM μ k i a b c) (k + 1 + 1 + i) 2 = c := by
  unfold addM
  rw [gI_ne1 (by omega), gI_at]
theorem addM_c {μ : Mem} {k i : Nat} {a b c : Int32} : gI (addM μ k i a b c) k 1 = nI (i + 1) := by
  unfold addM
  rw [gI_at]
/-- a row is heard, in the class -/
theorem XS_heard {μ : Mem} {S e n so : Nat} {σ : SG} (hX : XS μ S σ) (hb : σ 0 0 ≤ 6 ∧ σ 27 0 ≤ 6 ∧ σ 31 0 ≤ 10 ∧ σ 34 0 ≤ 8) (hi : σ 27 0 < 6) :
    XS (addM μ (S + 10) (σ 27 0) (nI e) (nI n) (nI so)) S (up (up (up (up σ 28 (σ 27 0) e) 29 (σ 27 0) n) 30 (σ 27 0) so) 27 0 (σ 27 0 + 1)) := by
  obtain ⟨⟨a1, a2, a3, a4⟩, b, ⟨c1, c2⟩, ⟨d1, d2⟩, e1, e2⟩ := hX
  obtain ⟨i, hii⟩ : ∃ i, i = σ 27 0 := ⟨_, rfl⟩
  rw [← hii] at hi hb c1 c2 ⊢
  have hu : ∀ a b, a ≠ 27 → a ≠ 28 → a ≠ 29 → a ≠ 30 → up (up (up (up σ 28 i e) 29 i n) 30 i so) 27 0 (i + 1) a b = σ a b := fun a b h1 h2 h3 h4 => by rw [up_n1 h1, up_n1 h4, up_n1 h3, up_n1 h2]
  unfold XS
  rw [hu 0 0 (by omega) (by omega) (by omega) (by omega), hu 31 0 (by omega) (by omega) (by omega) (by omega), hu 34 0 (by omega) (by omega) (by omega) (by omega), hu 9 0 (by omega) (by omega) (by omega) (by omega), hu 10 0 (by omega) (by omega) (by omega) (by omega), hu 18 0 (by omega) (by omega) (by omega) (by omega), up_at]
  refine ⟨⟨?_, ?_, ?_, ?_⟩, fun x hx => ⟨fun c hc => ?_, fun q hq => ?_⟩, ⟨addM_c, fun x hx => ?_⟩, ⟨?_, fun x hx => ?_⟩, ?_, fun x hx => ?_⟩
  · rw [addM_ne (by omega) (by omega)]; exact a1
  · rw [addM_ne (by omega) (by omega)]; exact a2
  · rw [addM_ne (by omega) (by omega)]; exact a3
  · rw [addM_ne (by omega) (by omega)]; exact a4
  · rw [addM_ne (by omega) (by omega)]
    by_cases h : c + 1 = 27
    · omega
    · rw [hu (c + 1) x (by omega) (by omega) (by omega) (by omega)]; exact (b x hx).1 c hc
  · rw [addM_ne (by omega) (by omega), hu 8 _ (by omega) (by omega) (by omega) (by omega)]; exact (b x hx).2 q hq
  · by_cases h : x = i
    · subst h
      rw [addM_0, addM_1, addM_2, up_n1 (by omega), up_n1 (by omega), up_n1 (by omega), up_at, up_n1 (by omega), up_n1 (by omega), up_at, up_n1 (by omega), up_at]
      exact ⟨rfl, rfl, rfl⟩
    · rw [addM_ne (by omega) (by omega), up_n1 (by omega), up_n1 (by omega), up_n1 (by omega), up_n2 h, up_n1 (by omega), up_n1 (by omega), up_n2 h, up_n1 (by omega), up_n1 (by omega), up_n2 h, up_n1 (by omega), up_n1 (by omega)]
      exact c2 x (by omega)
  · rw [addM_ne (by omega) (by omega)]; exact d1
  · rw [addM_ne (by omega) (by omega), hu 32 _ (by omega) (by omega) (by omega) (by omega), hu 33 _ (by omega) (by omega) (by omega) (by omega)]; exact d2 x hx
  · rw [addM_ne (by omega) (by omega)]; exact e1
  · rw [addM_ne (by omega) (by omega), hu 35 _ (by omega) (by omega) (by omega) (by omega), hu 36 _ (by omega) (by omega) (by omega) (by omega)]; exact e2 x hx
