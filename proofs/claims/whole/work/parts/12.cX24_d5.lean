/-! days go, in the class -/
theorem bit7N : ∀ e, e < 7 → ∀ b, b < 128 → (nI b >>> nI e) &&& nI 1 = nI (b / 2 ^ e % 2) := by decide +kernel
theorem bit7 {e b : Nat} (h : e < 7) (hb : b < 128) : (nI b >>> (nI e &&& 31)) &&& (1 : Int32) = nI (b / 2 ^ e % 2) := by
  rw [K31, and31 (by omega), K1]
  exact bit7N e h b hb
theorem up_same (σ : SG) (f i : Nat) : up σ f i (σ f i) = σ := by
  funext a b
  unfold up
  by_cases h : a = f ∧ b = i
  · rw [if_pos h, h.1, h.2]
  · rw [if_neg h]
theorem minI {a W : Nat} (ha : a < 2147483648) (hW : W < 2147483648) : (if nI W < nI a then nI W else nI a) = nI (min a W) := by
  by_cases h : W < a
  · rw [if_pos (nI_lt h (by omega)), Nat.min_eq_right (by omega)]
  · rw [if_neg (nI_nlt (by omega) (by omega)), Nat.min_eq_left (by omega)]
theorem b01 (x : Nat) : x % 2 = 0 ∨ x % 2 = 1 := by omega
theorem go44 {S W w D st b ms N j : Nat} {σ : SG} {κ : Mem → Int32 → Int32 → Int32 → Option Mem} (ho : okDy w D st σ) (hW : W < 2147483648) (hw : w ≤ 1000000) (hms : ms ≤ 1) (hb : b < 64) :
    ∀ m i n ν, i + m = σ 0 0 → m < n → XS ν S (dyE W ms b σ i) → ∃ ξ, f_X2_go_44 S κ n ν (nI N) (nI W) (nI j) (nI b) (nI ms) (nI i) = κ ξ (nI N) (nI W) (nI (j + 1)) ∧ XS ξ S (up (dyE W ms b σ (σ 0 0)) 10 0 (σ 10 0 + 1)) ∧ fr S (S + 8) ν ξ ∧ ∀ k c, 7 ≤ c → gI ξ k c = gI ν k c := by
  obtain ⟨hn, _, hr⟩ := ho
  have hn' : ∀ i, dyE W ms b σ i 0 0 ≤ 6 ∧ dyE W ms b σ i 27 0 ≤ 6 ∧ dyE W ms b σ i 31 0 ≤ 10 ∧ dyE W ms b σ i 34 0 ≤ 8 := fun i => by
    rw [dyE_o (by omega) (by omega), dyE_o (by omega) (by omega), dyE_o (by omega) (by omega), dyE_o (by omega) (by omega)]; exact hn
  intro m
  induction m with
  | zero =>
    intro i n ν hi hk hX
    obtain ⟨n, rfl⟩ := suc_of hk
    obtain rfl : i = σ 0 0 := by omega
    have h0 := hX.1.1
    have h3 := hX.1.2.2.1
    rw [dyE_o (by omega) (by omega)] at h0 h3
    refine ⟨sI ν S 3 (nI (σ 10 0 + 1)), ?_, XS_up hX (hn' _) rfl (.inr (.inl ⟨rfl, rfl, rfl, rfl⟩)), fr_s (by omega), fun k c hc => gI_ne2 (by omega)⟩
    rw [f_X2_go_44, h0, if_pos (nI_le (by omega) (by omega))]
    simp only [bind_p]
    rw [h3, K1, nI_add, nI_add]
  | succ m ih =>
    intro i n ν hi hk hX
    obtain ⟨n, rfl⟩ := suc_of hk
    have h0 := hX.1.1
    rw [dyE_o (by omega) (by omega)] at h0
    have hnx : nI i + (1 : Int32) = nI (i + 1) := by rw [K1, nI_add]
    have hbit := bit7 (e := i) (b := b) (by omega) (by omega)
    have hdy : dyE W ms b σ (i + 1) = if b / 2 ^ i % 2 = 1 then up (up (dyE W ms b σ i) 6 i (min (σ 6 i + 1) W)) 7 i (min (σ 7 i + ms) W) else dyE W ms b σ i := rfl
    rcases b01 (b / 2 ^ i) with hv | hv
    · rw [if_neg (by omega)] at hdy
      obtain ⟨ξ, e1, e2, e3, e4⟩ := ih (i + 1) n ν (by omega) (by omega) (by rw [hdy]; exact hX)
      refine ⟨ξ, ?_, e2, e3, e4⟩
      rw [f_X2_go_44, h0, if_neg (nI_ge (by omega) (by omega)), hbit, hv, if_neg (by decide), f_X2_go_123]
      simp only [bind_p]
      rw [hnx]
      exact e1
    · rw [if_pos hv] at hdy
      have hxr := hX.2.1 i (by rw [dyE_o (by omega) (by omega)]; omega)
      have g5 : gI ν (S + 1 + 1 + i) 5 = nI (σ 6 i) := by
        have := hxr.1 5 (by omega)
        rw [dyE_ge i (Nat.le_refl _)] at this
        exact this
      have g6 : gI ν (S + 1 + 1 + i) 6 = nI (σ 7 i) := by
        have := hxr.1 6 (by omega)
        rw [dyE_ge i (Nat.le_refl _)] at this
        exact this
      have hri := hr i (by omega)
      have hX1 : XS (sI ν (S + 1 + 1 + i) 5 (nI (min (σ 6 i + 1) W))) S (up (dyE W ms b σ i) 6 i (min (σ 6 i + 1) W)) := XS_up hX (hn' i) rfl (.inr (.inr (.inl ⟨i, 5, by omega, by omega, rfl, rfl, rfl, rfl⟩)))
      have hX2 : XS (sI (sI ν (S + 1 + 1 + i) 5 (nI (min (σ 6 i + 1) W))) (S + 1 + 1 + i) 6 (nI (min (σ 7 i + ms) W))) S (dyE W ms b σ (i + 1)) := by
        rw [hdy]
        refine XS_up hX1 ?_ rfl (.inr (.inr (.inl ⟨i, 6, by omega, by omega, rfl, rfl, rfl, rfl⟩)))
        rw [up_n1 (by omega), up_n1 (by omega), up_n1 (by omega), up_n1 (by omega)]
        exact hn' i
      obtain ⟨ξ, e1, e2, e3, e4⟩ := ih (i + 1) n _ (by omega) (by omega) hX2
      refine ⟨ξ, ?_, e2, fr_t (fr_t (fr_s (by omega)) (fr_s (by omega))) e3, fun k c hc => by rw [e4 k c hc, gI_ne2 (by omega), gI_ne2 (by omega)]⟩
      rw [f_X2_go_44, h0, if_neg (nI_ge (by omega) (by omega)), hbit, hv, if_pos (show nI 1 = 1 from rfl), aix_n (by omega) (by omega)]
      simp only [bind_p]
      rw [K5, ldI_n (by omega) (by omega), g5]
      simp only [bind_p]
      rw [K1, nI_add, minI (by omega) hW, stI_n (by omega) (by omega)]
      simp only [bind_p]
      rw [K6, ldI_n (by omega) (by omega), gI_ne2 (by omega), g6]
      simp only [bind_p]
      have hnx' : nI i + nI 1 = nI (i + 1) := nI_add _ _
      rcases (show ms = 0 ∨ ms = 1 by omega) with rfl | rfl
      · rw [if_pos (show nI 0 = 0 from rfl), f_X2_go_117, K0, nI_add, minI (by omega) hW, stI_n (by omega) (by omega)]
        simp only [bind_p]
        rw [f_X2_go_123]
        simp only [bind_p]
        rw [hnx]
        exact e1
      · rw [if_neg (show ¬ nI 1 = 0 by decide), f_X2_go_117, nI_add, minI (by omega) hW, stI_n (by omega) (by omega)]
        simp only [bind_p]
        rw [f_X2_go_123]
        simp only [bind_p]
        rw [hnx]
        exact e1
theorem Rk_dy {W S n E : Nat} {l : List CL} {σ : SG} {ν ξ : Mem} (h : Rk ν S σ l E) (hc : ∀ k c, 7 ≤ c → gI ξ k c = gI ν k c) : Rk ξ S (dyN W l n σ) l E := fun e he => by
  rw [hc _ _ (by omega), hc _ _ (by omega), tuE_eq (dyN_agr e), reE_eq (dyN_agr e)]
  exact h e he
theorem go_l {S W st N : Nat} {l : List CL} : ∀ m j n ν σ w D, j + m = N → m < n → N < 1000 → XS ν S σ → Rk ν S σ l (σ 0 0) → okDy w D st σ → D + m ≤ 1000000 → ((W = 9999 ∧ w = 9999) ∨ (W = 2147483647 ∧ w + m ≤ 100000)) →
    ∃ ξ, f_X2_go_2 S n ν (nI N) (nI W) (nI j) = some ξ ∧ XS ξ S (dyN W l m σ) ∧ fr S (S + 8) ν ξ ∧ ∀ k c, 7 ≤ c → gI ξ k c = gI ν k c := by
  intro m
  induction m with
  | zero =>
    intro j n ν σ w D hi hn hN hX hR ho hD hW
    obtain ⟨n, rfl⟩ := suc_of hn
    refine ⟨ν, ?_, hX, fr_r _ _ _, fun _ _ _ => rfl⟩
    rw [f_X2_go_2, if_pos (nI_le (by omega) (by omega))]
  | succ m ih =>
    intro j n ν σ w D hi hn hN hX hR ho hD hW
    obtain ⟨n, rfl⟩ := suc_of hn
    obtain ⟨hno, ⟨b1, b2, b3⟩, hr⟩ := id ho
    have hob := offN_b σ l (σ 10 0) (σ 0 0)
    have h64 := pow6 hno.1
    have hgo := gOff6 (on := σ 10 0) hno.1 hX hR (fun e he => (hr e he).1) (by omega)
    have hbit := bit7 (e := σ 10 0 % 7) (b := σ 9 0) (Nat.mod_lt _ (by omega)) (by omega)
    have hR1 : hrd σ = 0 ∨ hrd σ = 1 := b01 _
    obtain ⟨ξ, e1, e2, e3, e4⟩ := go44 (S := S) (W := W) (b := offN σ l (σ 10 0) (σ 0 0)) (ms := 1 - hrd σ) (N := N) (j := j) (κ := fun μ z0 z1 z2 => f_X2_go_2 S n μ z0 z1 z2) ho (by omega) (by omega) (by omega) (by omega) (σ 0 0) 0 FU ν (by omega) (FU_p _ (by omega)) hX
    obtain ⟨w', hw1, hw2, hw3⟩ : ∃ w', w ≤ w' ∧ min (w + 1) W ≤ w' ∧ ((W = 9999 ∧ w' = 9999) ∨ (W = 2147483647 ∧ w' + m ≤ 100000)) := by
      rcases hW with ⟨h1, h2⟩ | ⟨h1, h2⟩
      · exact ⟨w, by omega, by omega, .inl ⟨h1, h2⟩⟩
      · exact ⟨w + 1, by omega, by omega, .inr ⟨h1, by omega⟩⟩
    have hE : dyS W l σ 0 0 = σ 0 0 := dyS_o (by omega) (by omega) (by omega)
    have hRd : Rk ξ S (dyS W l σ) l (dyS W l σ 0 0) := by rw [hE]; exact Rk_dy (n := 1) hR e4
    obtain ⟨ζ, f1, f2, f3, f4⟩ := ih (j + 1) n ξ (dyS W l σ) w' (D + 1) (by omega) (by omega) hN e2 hRd (dyS_ok ho hw1 hw2) (by omega) hw3
    refine ⟨ζ, ?_, f2, fr_t e3 f3, fun k c hc => (f4 k c hc).trans (e4 k c hc)⟩
    rw [f_X2_go_2, if_neg (nI_ge (by omega) (by omega)), hX.1.2.2.1, hgo]
    simp only [bind_p]
    rw [K7, rmI_n (by omega) (by omega) (by omega)]
    simp only [bind_p]
    rw [hX.1.2.1, hbit, show σ 9 0 / 2 ^ (σ 10 0 % 7) % 2 = hrd σ from rfl]
    rcases hR1 with h | h
    · rw [h] at e1 ⊢
      rw [if_pos (show nI 0 = 0 from rfl), f_X2_go_39]
      exact e1.trans f1
    · rw [h] at e1 ⊢
      rw [if_neg (show ¬ nI 1 = 0 by decide), f_X2_go_39]
      exact e1.trans f1
theorem go6 {S W st N w D : Nat} {l : List CL} {ν : Mem} {σ : SG} (hN : N < 1000) (hX : XS ν S σ) (hR : Rk ν S σ l (σ 0 0)) (ho : okDy w D st σ) (hD : D + N ≤ 1000000) (hW : (W = 9999 ∧ w = 9999) ∨ (W = 2147483647 ∧ w + N ≤ 100000)) :
    ∃ ξ, f_X2_go ν S (nI N) (nI W) = some ξ ∧ XS ξ S (dyN W l N σ) ∧ fr S (S + 8) ν ξ ∧ Rk ξ S (dyN W l N σ) l (σ 0 0) := by
  obtain ⟨ξ, e1, e2, e3, e4⟩ := go_l (S := S) (W := W) (N := N) (l := l) N 0 FU ν σ w D (by omega) (FU_p _ (by omega)) hN hX hR ho hD hW
  exact ⟨ξ, e1, e2, e3, Rk_dy hR e4⟩
/-! .. in the reference -/
/-- what days and trials leave, there -/
def MF (μ ν : Mem) : Prop := (∀ k, ¬ (2001 ≤ k ∧ k ≤ 2007) → k ≠ 2026 → k ≠ 2000 → gI ν k = gI μ k) ∧ (∀ i, i ≠ 9 → i ≠ 10 → gI ν 2000 i = gI μ 2000 i) ∧ ∀ k, gL ν k = gL μ k
theorem MF.rfl' (μ : Mem) : MF μ μ := ⟨fun _ _ _ _ => rfl, fun _ _ _ => rfl, fun _ => rfl⟩
theorem MF.trans {a b c : Mem} (h : MF a b) (h' : MF b c) : MF a c := ⟨fun k h1 h2 h3 => (h'.1 k h1 h2 h3).trans (h.1 k h1 h2 h3), fun i h1 h2 => (h'.2.1 i h1 h2).trans (h.2.1 i h1 h2), fun k => (h'.2.2 k).trans (h.2.2 k)⟩
theorem Sk.MF' {μ ν : Mem} (h : Sk μ ν) : MF μ ν := ⟨fun k h1 h2 h3 => h.1 k h2, fun i h1 h2 => by rw [h.1 2000 (by omega)], h.2⟩
theorem MF_s {μ : Mem} {k i : Nat} {v : Int32} (h : 2001 ≤ k ∧ k ≤ 2007) : MF μ (sI μ k i v) := ⟨fun q h1 h2 h3 => gI_sI_ne (by omega), fun j h1 h2 => gI_ne1 (by omega), fun q => rfl⟩
theorem MF_f {μ : Mem} {i : Nat} {v : Int32} (h : i = 9 ∨ i = 10) : MF μ (sI μ 2000 i v) := ⟨fun q h1 h2 h3 => gI_sI_ne h3, fun j h1 h2 => gI_ne2 (by omega), fun q => rfl⟩
theorem MF.O {μ ν : Mem} (h : MF μ ν) : MO μ ν := ⟨fun k h1 h2 => h.1 k (fun q => h1 (by unfold mrow; omega)) (fun q => h1 (by unfold mrow; omega)) h2, fun i hi => h.2.1 i (fun q => hi (by unfold mfld; omega)) (fun q => hi (by unfold mfld; omega)), h.2.2⟩
theorem MF.CM' {μ ν : Mem} {st : Nat} {f : Nat → List CL} (h : MF μ ν) (hC : CM μ st f) : CM ν st f := hC.O (fun k hk => h.1 k (by omega) (by omega) (by omega))
theorem heard7 {ν : Mem} {L d : Nat} (h9 : gI ν 2000 9 = nI L) (h10 : gI ν 2000 10 = nI d) (hL : L ≤ 127) (hd : d ≤ 1000000) : f_X7_isHeard ν = some (nI (L / 2 ^ (d % 7) % 2)) := by
  have hbit := bit7 (e := d % 7) (b := L) (Nat.mod_lt _ (by omega)) (by omega)
  unfold f_X7_isHeard
  rw [h9, h10, K7, rmI_n (by omega) (by omega) (by omega)]
  simp only [bind_p]
  rw [hbit]
  rcases b01 (L / 2 ^ (d % 7)) with h | h
  · rw [h, if_neg (by decide)]; rfl
  · rw [h, if_pos (show nI 1 = 1 from rfl)]; rfl
theorem gd11 {w D st b : Nat} {σ : SG} (ho : okDy w D st σ) (hw : w ≤ 1000000) (hD : D ≤ 1000000) (hb : b < 64) :
    ∀ m i n ν, i + m = σ 0 0 → m < n → MS ν (dyE 2147483647 (1 - hrd σ) b σ i) → ∃ ξ, f_X7_goesDay_11 n ν (nI b) (nI i) = some ξ ∧ MS ξ (up (dyE 2147483647 (1 - hrd σ) b σ (σ 0 0)) 10 0 (σ 10 0 + 1)) ∧ MF ν ξ := by
  obtain ⟨hn, ⟨hb1, hb2, hb3⟩, hr⟩ := ho
  intro m
  induction m with
  | zero =>
    intro i n ν hi hk hM
    obtain ⟨n, rfl⟩ := suc_of hk
    obtain rfl : i = σ 0 0 := by omega
    have h0 := hM.1.1
    have h10 := hM.1.2.2.1
    rw [dyE_o (by omega) (by omega)] at h0 h10
    refine ⟨sI ν 2000 10 (nI (σ 10 0 + 1)), ?_, MS_up hM rfl (.inr (.inl ⟨rfl, rfl, rfl, rfl⟩)), MF_f (by omega)⟩
    rw [f_X7_goesDay_11, h0, if_pos (nI_le (by omega) (by omega)), h10, K1, nI_add]
    rfl
  | succ m ih =>
    intro i n ν hi hk hM
    obtain ⟨n, rfl⟩ := suc_of hk
    have h0 := hM.1.1
    have h9 := hM.1.2.1
    have h10 := hM.1.2.2.1
    rw [dyE_o (by omega) (by omega)] at h0 h9 h10
    have hnx : nI i + (1 : Int32) = nI (i + 1) := by rw [K1, nI_add]
    have hbit := bit7 (e := i) (b := b) (by omega) (by omega)
    have hdy : dyE 2147483647 (1 - hrd σ) b σ (i + 1) = if b / 2 ^ i % 2 = 1 then up (up (dyE 2147483647 (1 - hrd σ) b σ i) 6 i (min (σ 6 i + 1) 2147483647)) 7 i (min (σ 7 i + (1 - hrd σ)) 2147483647) else dyE 2147483647 (1 - hrd σ) b σ i := rfl
    rcases b01 (b / 2 ^ i) with hv | hv
    · rw [if_neg (by omega)] at hdy
      obtain ⟨ξ, e1, e2, e3⟩ := ih (i + 1) n ν (by omega) (by omega) (by rw [hdy]; exact hM)
      refine ⟨ξ, ?_, e2, e3⟩
      rw [f_X7_goesDay_11, h0, if_neg (nI_ge (by omega) (by omega)), hbit, hv, if_pos (show nI 0 = 0 from rfl), f_X7_goesDay_57]
      simp only [bind_p]
      rw [hnx]
      exact e1
    · rw [if_pos hv] at hdy
      have hxr := hM.2.1 i (by rw [dyE_o (by omega) (by omega)]; omega)
      have g5 : gI ν 2006 i = nI (σ 6 i) := by
        have := hxr.1 5 (by omega)
        rw [dyE_ge i (Nat.le_refl _)] at this
        exact this
      have g6 : gI ν 2007 i = nI (σ 7 i) := by
        have := hxr.1 6 (by omega)
        rw [dyE_ge i (Nat.le_refl _)] at this
        exact this
      have hri := hr i (by omega)
      rw [Nat.min_eq_left (by omega), Nat.min_eq_left (by omega)] at hdy
      have hM1 : MS (sI ν 2006 i (nI (σ 6 i + 1))) (up (dyE 2147483647 (1 - hrd σ) b σ i) 6 i (σ 6 i + 1)) := MS_up hM rfl (.inr (.inr (.inl ⟨5, by omega, rfl, rfl, rfl⟩)))
      have hh := heard7 (ν := sI ν 2006 i (nI (σ 6 i + 1))) (by rw [gI_ne1 (by omega)]; exact h9) (by rw [gI_ne1 (by omega)]; exact h10) hb1 (by omega)
      rw [f_X7_goesDay_11, h0, if_neg (nI_ge (by omega) (by omega)), hbit, hv, if_neg (by decide), ldI_n (by omega) (by omega), g5]
      simp only [bind_p]
      rw [K1, nI_add, stI_n (by omega) (by omega)]
      simp only [bind_p]
      rw [hh, show σ 9 0 / 2 ^ (σ 10 0 % 7) % 2 = hrd σ from rfl]
      simp only [bind_p]
      rcases (show hrd σ = 0 ∨ hrd σ = 1 from b01 _) with hq | hq
      · have hM2 : MS (sI (sI ν 2006 i (nI (σ 6 i + 1))) 2007 i (nI (σ 7 i + 1))) (dyE 2147483647 (1 - hrd σ) b σ (i + 1)) := by
          rw [hdy, hq]
          rw [hq] at hM1
          exact MS_up hM1 rfl (.inr (.inr (.inl ⟨6, by omega, rfl, rfl, rfl⟩)))
        obtain ⟨ξ, e1, e2, e3⟩ := ih (i + 1) n _ (by omega) (by omega) hM2
        refine ⟨ξ, ?_, e2, MF.trans (MF.trans (MF_s (by omega)) (MF_s (by omega))) e3⟩
        rw [hq, if_pos (show nI 0 = 0 from rfl), ldI_n (by omega) (by omega), gI_ne1 (by omega), g6]
        simp only [bind_p]
        rw [nI_add, stI_n (by omega) (by omega)]
        simp only [bind_p]
        rw [f_X7_goesDay_57]
        simp only [bind_p]
        rw [hnx]
        exact e1
      · have hM2 : MS (sI ν 2006 i (nI (σ 6 i + 1))) (dyE 2147483647 (1 - hrd σ) b σ (i + 1)) := by
          have hs : up (up (dyE 2147483647 (1 - hrd σ) b σ i) 6 i (σ 6 i + 1)) 7 i (σ 7 i + (1 - hrd σ)) = up (dyE 2147483647 (1 - hrd σ) b σ i) 6 i (σ 6 i + 1) := by
            have h7 : σ 7 i + (1 - hrd σ) = up (dyE 2147483647 (1 - hrd σ) b σ i) 6 i (σ 6 i + 1) 7 i := by rw [up_n1 (by omega), dyE_ge i (Nat.le_refl _)]; omega
            rw [h7]
            exact up_same _ _ _
          rw [hdy, hs]
          exact hM1
        obtain ⟨ξ, e1, e2, e3⟩ := ih (i + 1) n _ (by omega) (by omega) hM2
        refine ⟨ξ, ?_, e2, MF.trans (MF_s (by omega)) e3⟩
        rw [hq, if_neg (show ¬ nI 1 = 0 by decide), f_X7_goesDay_57]
        simp only [bind_p]
        rw [hnx]
        exact e1
theorem gday7 {μ : Mem} {w D st : Nat} {f : Nat → List CL} {σ : SG} (hM : MS μ σ) (hC : CM μ st f) (ho : okDy w D st σ) (hw : w ≤ 1000000) (hD : D ≤ 1000000) : ∃ ν, f_X7_goesDay μ = some ν ∧ MS ν (dyS 2147483647 (clF f σ) σ) ∧ MF μ ν := by
  obtain ⟨hH, hl⟩ := holdM hC hM ho.2.1.2.2
  have hd := ho.2.1.2.1
  obtain ⟨ν, e1, s1⟩ := goOff7 (on := σ 10 0) ho.1.1 hM.1.1 hH hl (hM.rows ho) (by omega)
  have hob := offN_b σ (clF f σ) (σ 10 0) (σ 0 0)
  have h64 := pow6 ho.1.1
  have h6 := ho.1.1
  obtain ⟨ξ, f1, f2, f3⟩ := gd11 (b := offN σ (clF f σ) (σ 10 0) (σ 0 0)) ho hw hD (by omega) (σ 0 0) 0 FU ν (by omega) (FU_p _ (by omega)) (s1.MS hM)
  refine ⟨ξ, ?_, f2, MF.trans s1.MF' f3⟩
  unfold f_X7_goesDay
  rw [hM.1.2.2.1, e1]
  simp only [bind_p]
  exact f1
