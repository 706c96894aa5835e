/-! can -/
def agF (σ : SG) (l : List CL) (e : Nat) : Nat → Nat → Bool
  | 0, _ => true
  | m + 1, i => if σ 28 i = e then (if decide ((σ 10 0 + σ 29 i) % tuE σ e = reE σ l e) = decide (σ 30 i = 1) then agF σ l e m (i + 1) else false) else agF σ l e m (i + 1)
theorem agr6 {ν : Mem} {S e w D st : Nat} {l : List CL} {σ : SG} (he : e < σ 0 0) (hX : XS ν S σ) (ho : okDy w D st σ) (hD : D ≤ 900000) (hH : ∀ i, i < σ 27 0 → σ 29 i ≤ 60 ∧ σ 30 i ≤ 1 ∧ σ 28 i < 6) (hR : gI ν (S + 1 + 1 + e) 7 = nI (tuE σ e) ∧ gI ν (S + 1 + 1 + e) 8 = nI (reE σ l e)) :
    ∀ m i n, i + m = σ 27 0 → m < n → f_X2_agrees_2 ν S n (nI e) (nI i) = some (bI (agF σ l e m i)) := by
  have h6 := ho.1.1
  have h27 := ho.1.2.1
  have hd := ho.2.1.2.1
  intro m
  induction m with
  | zero =>
    intro i n hi hn
    obtain ⟨n, rfl⟩ := suc_of hn
    rw [f_X2_agrees_2, hX.2.2.1.1, if_pos (nI_le (by omega) (by omega))]
    rfl
  | succ m ih =>
    intro i n hi hn
    obtain ⟨n, rfl⟩ := suc_of hn
    have hnx : nI i + (1 : Int32) = nI (i + 1) := by rw [K1, nI_add]
    obtain ⟨c1, c2, c3⟩ := hX.2.2.1.2 i (by omega)
    obtain ⟨b1, b2, b3⟩ := hH i (by omega)
    have e2 := ih (i + 1) n (by omega) (by omega)
    rw [f_X2_agrees_2, hX.2.2.1.1, if_neg (nI_ge (by omega) (by omega)), aix_n (by omega) (by omega)]
    simp only [bind_p]
    rw [K0, ldI_n (by omega) (by omega), c1, agF]
    simp only [bind_p]
    by_cases h : σ 28 i = e
    · rw [if_pos (by rw [h]), if_pos h, K1, ldI_n (by omega) (by omega), c2]
      simp only [bind_p]
      rw [hX.1.2.2.1, nI_add, due6 (by omega) hR (ho.2.2 e he).1 (by omega), K2, ldI_n (by omega) (by omega), c3]
      simp only [bind_p]
      rcases (show σ 30 i = 0 ∨ σ 30 i = 1 by omega) with q | q
      · rw [q, if_neg (show ¬ nI 0 = nI 1 by decide), decide_eq_false (by decide : ¬ (0 : Nat) = 1), f_X2_agrees_55, f_X2_agrees_60]
        simp only [bind_p]
        rw [hnx]
        cases decide ((σ 10 0 + σ 29 i) % tuE σ e = reE σ l e)
        · rw [if_pos (show bI false = nI 0 from rfl), if_pos rfl]; exact e2
        · rw [if_neg (show ¬ bI true = nI 0 by decide), if_neg (by decide)]; rfl
      · rw [q, if_pos rfl, decide_eq_true (rfl : (1 : Nat) = 1), f_X2_agrees_55, f_X2_agrees_60]
        simp only [bind_p]
        rw [hnx]
        cases decide ((σ 10 0 + σ 29 i) % tuE σ e = reE σ l e)
        · rw [if_neg (show ¬ bI false = nI 1 by decide), if_neg (by decide)]; rfl
        · rw [if_pos (show bI true = nI 1 from rfl), if_pos rfl]; exact e2
    · rw [if_neg (by rw [nI_eq (by omega) (by omega)]; exact h), if_neg h, f_X2_agrees_60]
      simp only [bind_p]
      rw [hnx]
      exact e2
theorem agr7 {ν : Mem} {e w D st : Nat} {l : List CL} {σ : SG} (he : e < σ 0 0) (hM : MS ν σ) (ho : okDy w D st σ) (hD : D ≤ 900000) (hH : HM ν l) (hl : okL l) (hB : ∀ i, i < σ 27 0 → σ 29 i ≤ 60 ∧ σ 30 i ≤ 1 ∧ σ 28 i < 6) :
    ∀ m i n ξ, Sk ν ξ → i + m = σ 27 0 → m < n → ∃ ζ, f_X7_isAllSo_2 n ξ (nI e) (nI i) = some (bI (agF σ l e m i), ζ) ∧ Sk ν ζ := by
  have h6 := ho.1.1
  have h27 := ho.1.2.1
  have hd := ho.2.1.2.1
  intro m
  induction m with
  | zero =>
    intro i n ξ hs hi hn
    obtain ⟨n, rfl⟩ := suc_of hn
    refine ⟨ξ, ?_, hs⟩
    rw [f_X7_isAllSo_2, (hs.MS hM).2.2.1.1, if_pos (nI_le (by omega) (by omega))]
    rfl
  | succ m ih =>
    intro i n ξ hs hi hn
    obtain ⟨n, rfl⟩ := suc_of hn
    have hnx : nI i + (1 : Int32) = nI (i + 1) := by rw [K1, nI_add]
    obtain ⟨c1, c2, c3⟩ := (hs.MS hM).2.2.1.2 i (by omega)
    obtain ⟨b1, b2, b3⟩ := hB i (by omega)
    rw [f_X7_isAllSo_2, (hs.MS hM).2.2.1.1, if_neg (nI_ge (by omega) (by omega)), ldI_n (by omega) (by omega), c1, agF]
    simp only [bind_p]
    by_cases h : σ 28 i = e
    · obtain ⟨ζ, g1, g2⟩ := isDay7 (e := e) (on := σ 10 0 + σ 29 i) (by omega) (hH.sk hs) hl (RowM.sk hs (hM.2.1 e he)) (ho.2.2 e he).1 (by omega)
      have c3' : gI ζ 2030 i = nI (σ 30 i) := by rw [g2.1 2030 (by omega)]; exact c3
      obtain ⟨κ, e1, e2⟩ := ih (i + 1) n ζ (hs.trans g2) (by omega) (by omega)
      rw [if_pos (by rw [h]), if_pos h, ldI_n (by omega) (by omega), c2]
      simp only [bind_p]
      rw [(hs.MS hM).1.2.2.1, nI_add, g1]
      simp only [bind_p]
      rw [ldI_n (by omega) (by omega), c3']
      simp only [bind_p]
      rcases (show σ 30 i = 0 ∨ σ 30 i = 1 by omega) with q | q
      · rw [q, if_neg (by decide), decide_eq_false (by decide : ¬ (0 : Nat) = 1), f_X7_isAllSo_51, f_X7_isAllSo_56]
        simp only [bind_p]
        rw [hnx]
        cases decide ((σ 10 0 + σ 29 i) % tuE σ e = reE σ l e)
        · rw [if_pos (show bI false = (0 : Int32) from rfl), if_pos rfl]; exact ⟨κ, e1, e2⟩
        · rw [if_neg (show ¬ bI true = (0 : Int32) by decide), if_neg (by decide)]; exact ⟨ζ, rfl, hs.trans g2⟩
      · rw [q, if_pos (show nI 1 = 1 from rfl), decide_eq_true (rfl : (1 : Nat) = 1), f_X7_isAllSo_51, f_X7_isAllSo_56]
        simp only [bind_p]
        rw [hnx]
        cases decide ((σ 10 0 + σ 29 i) % tuE σ e = reE σ l e)
        · rw [if_neg (show ¬ bI false = (1 : Int32) by decide), if_neg (by decide)]; exact ⟨ζ, rfl, hs.trans g2⟩
        · rw [if_pos (show bI true = (1 : Int32) from rfl), if_pos rfl]; exact ⟨κ, e1, e2⟩
    · obtain ⟨κ, e1, e2⟩ := ih (i + 1) n ξ hs (by omega) (by omega)
      refine ⟨κ, ?_, e2⟩
      rw [if_neg (by rw [nI_eq (by omega) (by omega)]; exact h), if_neg h, f_X7_isAllSo_56]
      simp only [bind_p]
      rw [hnx]
      exact e1
def ctU (P : Nat → Bool) : Nat → Nat → Nat
  | 0, _ => 0
  | m + 1, n => (if P n = true then 1 else 0) + ctU P m (n + 1)
def fsU (P : Nat → Bool) : Nat → Nat → Int32
  | 0, _ => -nI 5
  | m + 1, n => if P n = true then nI n else fsU P m (n + 1)
theorem up_up (σ : SG) (f i v w : Nat) : up (up σ f i v) f i w = up σ f i w := by
  funext a b
  unfold up
  by_cases h : a = f ∧ b = i
  · rw [if_pos h, if_pos h]
  · rw [if_neg h, if_neg h, if_neg h]
theorem heard_b {W st : Nat} {σ : SG} (ho : okS W st σ) : ∀ i, i < σ 27 0 → σ 29 i ≤ 60 ∧ σ 30 i ≤ 1 ∧ σ 28 i < 6 := fun i hi => by
  have h1 := ho.2.2.1.2 i hi
  have h2 := ho.1.1
  omega
/-- one number is tried, in the class -/
theorem fit1 {ν : Mem} {c e n x st : Nat} {g : Nat → List CL} {σ : SG} (he : e < σ 0 0) (hc : c = 1 ∨ c = 2 ∨ c = 3) (hC : CX ν st g) (hX : XS ν 300 (up σ (c + 1) e x)) (ho : okS 9999 st σ) (ho' : okS 9999 st (up σ (c + 1) e n)) :
    ∃ ξ, f_X2_reckonOne (sI ν (300 + 1 + 1 + e) c (nI n)) 300 (nI e) (hdK σ) = some ξ ∧ f_X2_agrees ξ 300 (nI e) = some (bI (agF (up σ (c + 1) e n) (clF g σ) e (σ 27 0) 0)) ∧ XS ξ 300 (up σ (c + 1) e n) ∧ fr 300 360 ν ξ := by
  have h6 := ho.1.1
  have h27 := ho.2.2.1.1
  have n18 : up σ (c + 1) e n 18 0 = σ 18 0 := up_n1 (by omega)
  have n27 : up σ (c + 1) e n 27 0 = σ 27 0 := up_n1 (by omega)
  have n10 : up σ (c + 1) e n 10 0 = σ 10 0 := up_n1 (by omega)
  have n00 : up σ (c + 1) e n 0 0 = σ 0 0 := up_n1 (by omega)
  have hd := ho.1.2.2.1
  have hn1 : up σ (c + 1) e x 0 0 ≤ 6 ∧ up σ (c + 1) e x 27 0 ≤ 6 ∧ up σ (c + 1) e x 31 0 ≤ 10 ∧ up σ (c + 1) e x 34 0 ≤ 8 := by
    rw [up_n1 (by omega), up_n1 (by omega), up_n1 (by omega), up_n1 (by omega)]; exact ho.n
  have hX1 : XS (sI ν (300 + 1 + 1 + e) c (nI n)) 300 (up σ (c + 1) e n) := by
    rw [← up_up σ (c + 1) e x n]
    exact XS_up hX hn1 rfl (.inr (.inr (.inl ⟨e, c, by omega, by omega, rfl, rfl, rfl, rfl⟩)))
  have hC1 : CX (sI ν (300 + 1 + 1 + e) c (nI n)) st g := hC.O (fun k hk => gI_sI_ne (by omega))
  obtain ⟨_, h2, h3⟩ := hold6 hC1 hX1.1.2.2.2 (by rw [n18]; exact ho.1.2.2.2)
  have hk : hdK (up σ (c + 1) e n) = hdK σ := by unfold hdK; rw [n18]
  have hcl : clF g (up σ (c + 1) e n) = clF g σ := by unfold clF; rw [n18]
  rw [hk, hcl] at h2
  rw [hcl] at h3
  have hr := reck1 (S := 300) (k2 := hdK σ) (e := e) (d := σ 10 0) (by omega) h2 h3 (hX1.2.1 e (by rw [n00]; exact he)) (ho'.e (by rw [n00]; exact he)) (by rw [hX1.1.2.2.1, n10]) (by omega)
  have hO : RkO 300 (sI ν (300 + 1 + 1 + e) c (nI n)) (rkM (sI ν (300 + 1 + 1 + e) c (nI n)) (300 + 1 + 1 + e) (up σ (c + 1) e n) (clF g σ) e (σ 10 0)) := RkO_M (by omega)
  have hX2 := hO.XS hX1 ho'.n
  refine ⟨_, hr, ?_, hX2, fr_t (fr_s (by omega)) (fr_w hO.fr' (by omega) (by omega))⟩
  have ha := agr6 (e := e) (l := clF g σ) (by rw [n00]; exact he) hX2 ho'.dy (by omega) (heard_b ho') (by
    unfold rkM
    rw [gI_ne2 (by omega), gI_ne2 (by omega), gI_at, gI_ne2 (by omega), gI_at]
    exact ⟨rfl, rfl⟩) (σ 27 0) 0 FU (by rw [n27]; omega) (FU_p _ (by omega))
  exact ha
theorem fit_l {c e hi st : Nat} {g : Nat → List CL} {σ : SG} {how : Int32} (he : e < σ 0 0) (hc : c = 1 ∨ c = 2 ∨ c = 3) (ho : okS 9999 st σ) (hhi : hi ≤ 30) (hok : ∀ n, (c = 2 → 1 ≤ n) → n ≤ hi → okS 9999 st (up σ (c + 1) e n)) :
    ∀ m n k ν x fit, n + m = hi + 1 → m < k → (c = 2 → 1 ≤ n) → CX ν st g → XS ν 300 (up σ (c + 1) e x) → ∃ ξ, f_X6_fitting_27 k ν (nI e) (nI c) (nI hi) how (hdK σ) (nI fit) (nI n) = some (if how = 0 then fsU (fun n => agF (up σ (c + 1) e n) (clF g σ) e (σ 27 0) 0) m n else nI (fit + ctU (fun n => agF (up σ (c + 1) e n) (clF g σ) e (σ 27 0) 0) m n), ξ) ∧ fr 300 360 ν ξ := by
  have h6 := ho.1.1
  intro m
  induction m with
  | zero =>
    intro n k ν x fit hn hk h2 hC hX
    obtain ⟨k, rfl⟩ := suc_of hk
    refine ⟨ν, ?_, fr_r _ _ _⟩
    rw [f_X6_fitting_27, if_pos (nI_lt (by omega) (by omega))]
    by_cases h : how = 0
    · rw [if_pos h, if_pos h]; rfl
    · rw [if_neg h, if_neg h]; rfl
  | succ m ih =>
    intro n k ν x fit hn hk h2 hC hX
    obtain ⟨k, rfl⟩ := suc_of hk
    have hnx : nI n + (1 : Int32) = nI (n + 1) := by rw [K1, nI_add]
    obtain ⟨ξ, f1, f2, f3, f4⟩ := fit1 he hc hC hX ho (hok n h2 (by omega))
    have hC' : CX ξ st g := hC.O (fun k hk => f4.1 k (by omega))
    rw [f_X6_fitting_27, if_neg (nI_nlt (by omega) (by omega)), aix_n (by omega) (by omega)]
    simp only [bind_p]
    rw [stI_n (by omega) (by omega)]
    simp only [bind_p]
    rw [f1]
    simp only [bind_p]
    rw [f2, fsU, ctU]
    simp only [bind_p]
    cases hP : agF (up σ (c + 1) e n) (clF g σ) e (σ 27 0) 0
    · obtain ⟨ζ, e1, e2⟩ := ih (n + 1) k ξ n fit (by omega) (by omega) (by omega) hC' f3
      refine ⟨ζ, ?_, fr_t f4 e2⟩
      rw [if_pos (show bI false = 0 from rfl), f_X6_fitting_79]
      simp only [bind_p]
      rw [hnx, e1, if_neg (show ¬ false = true by decide), if_neg (show ¬ false = true by decide), Nat.zero_add]
    · rw [if_neg (show ¬ bI true = 0 by decide), if_pos rfl, if_pos rfl]
      by_cases h : how = 0
      · refine ⟨ξ, ?_, f4⟩
        rw [if_pos h, if_pos h]
      · obtain ⟨ζ, e1, e2⟩ := ih (n + 1) k ξ n (fit + 1) (by omega) (by omega) (by omega) hC' f3
        refine ⟨ζ, ?_, fr_t f4 e2⟩
        rw [if_neg h, K1, nI_add, f_X6_fitting_79]
        simp only [bind_p]
        rw [hnx, e1, if_neg h, if_neg h, Nat.add_assoc]
/-- one number is tried, in the reference -/
theorem try7 {ν : Mem} {c e n x st : Nat} {g : Nat → List CL} {σ : SG} (he : e < σ 0 0) (hc : c = 1 ∨ c = 2 ∨ c = 3) (hC : CM ν st g) (hM : MS ν (up σ (c + 1) e x)) (ho : okS 9999 st σ) (ho' : okS 9999 st (up σ (c + 1) e n)) :
    ∃ ξ, f_X7_isAllSo (sI ν (2001 + c) e (nI n)) (nI e) = some (bI (agF (up σ (c + 1) e n) (clF g σ) e (σ 27 0) 0), ξ) ∧ MS ξ (up σ (c + 1) e n) ∧ MF ν ξ := by
  have h6 := ho.1.1
  have h27 := ho.2.2.1.1
  have n18 : up σ (c + 1) e n 18 0 = σ 18 0 := up_n1 (by omega)
  have n27 : up σ (c + 1) e n 27 0 = σ 27 0 := up_n1 (by omega)
  have n00 : up σ (c + 1) e n 0 0 = σ 0 0 := up_n1 (by omega)
  have hd := ho.1.2.2.1
  have hM1 : MS (sI ν (2001 + c) e (nI n)) (up σ (c + 1) e n) := by
    rw [← up_up σ (c + 1) e x n]
    exact MS_up hM rfl (.inr (.inr (.inl ⟨c, by omega, rfl, rfl, rfl⟩)))
  obtain ⟨hH, hl⟩ := holdM (hC.O (fun k hk => gI_sI_ne (by omega))) hM1 (by rw [n18]; exact ho.1.2.2.2)
  have hcl : clF g (up σ (c + 1) e n) = clF g σ := by unfold clF; rw [n18]
  rw [hcl] at hH hl
  obtain ⟨ξ, e1, e2⟩ := agr7 (e := e) (by rw [n00]; exact he) hM1 ho'.dy (by omega) hH hl (heard_b ho') (σ 27 0) 0 FU _ (Sk.rfl' _) (by rw [n27]; omega) (FU_p _ (by omega))
  exact ⟨ξ, e1, e2.MS hM1, (MF_s (by omega)).trans e2.MF'⟩
theorem can_l {c e lo hi st wh : Nat} {g : Nat → List CL} {σ : SG} {how : Int32} (he : e < σ 0 0) (hcw : (wh = 0 ∧ c = 3 ∧ lo = 0) ∨ (wh = 1 ∧ c = 2 ∧ lo = 1) ∨ (wh = 2 ∧ c = 1 ∧ lo = 0)) (ho : okS 9999 st σ) (hhi : hi ≤ 30) (hok : ∀ n, (c = 2 → 1 ≤ n) → n ≤ hi → okS 9999 st (up σ (c + 1) e n)) :
    ∀ r m k ν x, lo + r + m = hi + 1 → r < k → CM ν st g → MS ν (up σ (c + 1) e x) → ∃ ζ, MF ν ζ ∧ ∀ η, f_X7_again ζ 2041 = some η → f_X7_can_67 k ν (nI e) (nI wh) how (nI (ctU (fun n => agF (up σ (c + 1) e n) (clF g σ) e (σ 27 0) 0) m (lo + r))) (fsU (fun n => agF (up σ (c + 1) e n) (clF g σ) e (σ 27 0) 0) m (lo + r)) (nI (lo + r) - nI 1) = some (if how = 0 then nI (ctU (fun n => agF (up σ (c + 1) e n) (clF g σ) e (σ 27 0) 0) (m + r) lo) else fsU (fun n => agF (up σ (c + 1) e n) (clF g σ) e (σ 27 0) 0) (m + r) lo, η) := by
  have h6 := ho.1.1
  have hc : c = 1 ∨ c = 2 ∨ c = 3 := by omega
  have hlt : nI lo - nI 1 < nI lo := by
    rcases (show lo = 0 ∨ lo = 1 by omega) with rfl | rfl <;> decide
  intro r
  induction r with
  | zero =>
    intro m k ν x hm hk hC hM
    obtain ⟨k, rfl⟩ := suc_of hk
    refine ⟨ν, MF.rfl' _, fun η hη => ?_⟩
    have fin : f_X7_can_79 (fun μ z0 z1 z2 z3 z4 z5 => f_X7_can_67 k μ z0 z1 z2 z3 z4 z5) ν (nI e) (nI wh) how (nI (ctU (fun n => agF (up σ (c + 1) e n) (clF g σ) e (σ 27 0) 0) m (lo + 0))) (fsU (fun n => agF (up σ (c + 1) e n) (clF g σ) e (σ 27 0) 0) m (lo + 0)) (nI (lo + 0) - nI 1) (nI lo) (nI (lo + 0) - nI 1) = some (if how = 0 then nI (ctU (fun n => agF (up σ (c + 1) e n) (clF g σ) e (σ 27 0) 0) (m + 0) lo) else fsU (fun n => agF (up σ (c + 1) e n) (clF g σ) e (σ 27 0) 0) (m + 0) lo, η) := by
      unfold f_X7_can_79
      rw [Nat.add_zero, Nat.add_zero, if_pos hlt, hη]
      simp only [bind_p]
      by_cases h : how = 0
      · rw [if_pos h, if_pos h]; rfl
      · rw [if_neg h, if_neg h]; rfl
    rw [f_X7_can_67]
    rcases hcw with ⟨rfl, rfl, rfl⟩ | ⟨rfl, rfl, rfl⟩ | ⟨rfl, rfl, rfl⟩
    · rw [if_neg (by decide)]; exact fin
    · rw [if_pos (by decide)]; exact fin
    · rw [if_neg (by decide)]; exact fin
  | succ r ih =>
    intro m k ν x hm hk hC hM
    obtain ⟨k, rfl⟩ := suc_of hk
    obtain ⟨ξ, t1, t2, t3⟩ := try7 (n := lo + r) he hc hC hM ho (hok (lo + r) (by omega) (by omega))
    obtain ⟨ζ, z1, z2⟩ := ih (m + 1) k ξ (lo + r) (by omega) (by omega) (t3.CM' hC) t2
    refine ⟨ζ, t3.trans z1, fun η hη => ?_⟩
    have z3 := z2 η hη
    rw [ctU, fsU, show m + 1 + r = m + (r + 1) by omega] at z3
    have hsub : nI (lo + (r + 1)) - nI 1 = nI (lo + r) := by rw [nI_sub (by omega)]; rfl
    have hdn : nI (lo + r) + (-1 : Int32) = nI (lo + r) - nI 1 := (Int32.sub_eq_add_neg _ _).symm
    have fin121 : f_X7_can_121 (fun μ z0 z1 z2 z3 z4 z5 => f_X7_can_67 k μ z0 z1 z2 z3 z4 z5) (sI ν (2001 + c) e (nI (lo + r))) (nI e) (nI wh) how (nI (ctU (fun n => agF (up σ (c + 1) e n) (clF g σ) e (σ 27 0) 0) m (lo + (r + 1)))) (fsU (fun n => agF (up σ (c + 1) e n) (clF g σ) e (σ 27 0) 0) m (lo + (r + 1))) (nI (lo + r)) = some (if how = 0 then nI (ctU (fun n => agF (up σ (c + 1) e n) (clF g σ) e (σ 27 0) 0) (m + (r + 1)) lo) else fsU (fun n => agF (up σ (c + 1) e n) (clF g σ) e (σ 27 0) 0) (m + (r + 1)) lo, η) := by
      unfold f_X7_can_121
      rw [t1]
      simp only [bind_p]
      cases hP : agF (up σ (c + 1) e (lo + r)) (clF g σ) e (σ 27 0) 0
      · rw [hP, if_neg (by decide), if_neg (by decide), Nat.zero_add] at z3
        rw [if_pos (show bI false = 0 from rfl), f_X7_can_139]
        simp only [bind_p]
        rw [hdn]
        exact z3
      · rw [hP, if_pos rfl, if_pos rfl, Nat.add_comm 1] at z3
        rw [if_neg (show ¬ bI true = 0 by decide), show nI (ctU (fun n => agF (up σ (c + 1) e n) (clF g σ) e (σ 27 0) 0) m (lo + (r + 1))) + (1 : Int32) = nI (ctU (fun n => agF (up σ (c + 1) e n) (clF g σ) e (σ 27 0) 0) m (lo + (r + 1)) + 1) from nI_add _ 1, f_X7_can_139]
        simp only [bind_p]
        rw [hdn]
        exact z3
    rw [f_X7_can_67, hsub]
    rcases hcw with ⟨rfl, rfl, rfl⟩ | ⟨rfl, rfl, rfl⟩ | ⟨rfl, rfl, rfl⟩
    · rw [if_neg (by decide), f_X7_can_79, if_neg (by rw [K0]; exact nI_nlt (by omega) (by omega)), if_pos (by decide), stI_n (by omega) (by omega)]
      exact fin121
    · rw [if_pos (by decide), f_X7_can_79, if_neg (by rw [K1]; exact nI_nlt (by omega) (by omega)), if_neg (by decide), if_pos (by decide), stI_n (by omega) (by omega)]
      exact fin121
    · rw [if_neg (by decide), f_X7_can_79, if_neg (by rw [K0]; exact nI_nlt (by omega) (by omega)), if_neg (by decide), if_neg (by decide), stI_n (by omega) (by omega)]
      exact fin121
theorem s_can {T : PT} {μ : Mem} (hR : RR T μ) (a b d : Int32) : Same T μ (fun μ => f_X6_can μ a b d) (fun μ => f_X7_can μ a b d) := by
  obtain ⟨⟨x1, _⟩, ⟨m1, _⟩, o1, _⟩ := id hR
  have hE := o1.1.1
  rcases oneS (S := 100) (E := T.1 0 0 0) (by omega) a with ⟨e, he, rfl, hx, hm⟩ | ⟨hn, hx, hm⟩
  · rcases arg b (lo := 0) (hi := 2) (A := 0) (B := 2) (C := 0) (D := 2) rfl rfl rfl rfl with ⟨wh, _, hw, _, rfl, hbx, hbm⟩ | ⟨_, hbx, hbm⟩
    · rcases arg d (lo := 0) (hi := 1) (A := 0) (B := 1) (C := 0) (D := 1) rfl rfl rfl rfl with ⟨q, _, hq, _, rfl, hdx, hdm⟩ | ⟨_, hdx, hdm⟩
      · obtain ⟨c, lo, hi, hcw, hhi, hlh, hbd⟩ : ∃ c lo hi, ((wh = 0 ∧ c = 3 ∧ lo = 0) ∨ (wh = 1 ∧ c = 2 ∧ lo = 1) ∨ (wh = 2 ∧ c = 1 ∧ lo = 0)) ∧ hi ≤ 30 ∧ lo ≤ hi ∧ ((wh = 0 ∧ hi = 29) ∨ (wh = 1 ∧ hi = 30) ∨ (wh = 2 ∧ hi = 9)) := by
          rcases (show wh = 0 ∨ wh = 1 ∨ wh = 2 by omega) with rfl | rfl | rfl
          · exact ⟨3, 0, 29, by omega, by omega, by omega, by omega⟩
          · exact ⟨2, 1, 30, by omega, by omega, by omega, by omega⟩
          · exact ⟨1, 0, 9, by omega, by omega, by omega, by omega⟩
        obtain ⟨ν, b1, b2, b3⟩ := bec (p := 300) (q := 100) (by omega) x1 o1.n
        have hok : ∀ n, (c = 2 → 1 ≤ n) → n ≤ hi → okS 9999 (T.1 2 17 0) (up (T.1 0) (c + 1) e n) := fun n h1 h2 => okS_up o1 (by omega)
        have hCν : CX ν (T.1 2 17 0) T.2.2 := hR.CX.O (fun k hk => b2.1 k (by omega))
        obtain ⟨hold, _, _⟩ := hold6 hCν b3.1.2.2.2 o1.1.2.2.2
        obtain ⟨m0, hm0⟩ : ∃ m0, m0 = hi + 1 - lo := ⟨_, rfl⟩
        obtain ⟨P, hP⟩ : ∃ P, P = fun n => agF (up (T.1 0) (c + 1) e n) (clF T.2.2 (T.1 0)) e (T.1 0 27 0) 0 := ⟨_, rfl⟩
        have c6 : ∀ how, ∃ ξ, f_X6_can_44 μ (nI e) (nI wh) how = some (if how = 0 then fsU P m0 lo else nI (ctU P m0 lo), ξ) ∧ fr 300 360 μ ξ := fun how => by
          obtain ⟨ξ, e1, e2⟩ := fit_l (how := how) he (by omega) o1 hhi hok m0 lo FU ν (T.1 0 (c + 1) e) 0 (by omega) (FU_p _ (by omega)) (by omega) hCν (by rw [up_same]; exact b3)
          rw [← hP, Nat.zero_add] at e1
          refine ⟨ξ, ?_, fr_t b2 e2⟩
          have hfit : f_X6_fitting μ (nI e) (nI c) (nI lo) (nI hi) how = some (if how = 0 then fsU P m0 lo else nI (ctU P m0 lo), ξ) := by
            unfold f_X6_fitting
            rw [b1]
            simp only [bind_p]
            rw [hold]
            simp only [bind_p]
            exact e1
          unfold f_X6_can_44
          rcases hcw with ⟨rfl, rfl, rfl⟩ | ⟨rfl, rfl, rfl⟩ | ⟨rfl, rfl, rfl⟩
          · obtain rfl : hi = 29 := by omega
            rw [if_pos (show nI 0 = (0 : Int32) from rfl)]
            show (f_X6_fitting μ (nI e) (nI 3) (nI 0) (nI 29) how).bind _ = _
            rw [hfit]; rfl
          · obtain rfl : hi = 30 := by omega
            rw [if_neg (show ¬ nI 1 = (0 : Int32) by decide), if_pos (show nI 1 = (1 : Int32) from rfl)]
            show (f_X6_fitting μ (nI e) (nI 2) (nI 1) (nI 30) how).bind _ = _
            rw [hfit]; rfl
          · obtain rfl : hi = 9 := by omega
            rw [if_neg (show ¬ nI 2 = (0 : Int32) by decide), if_neg (show ¬ nI 2 = (1 : Int32) by decide)]
            show (f_X6_fitting μ (nI e) (nI 1) (nI 0) (nI 9) how).bind _ = _
            rw [hfit]; rfl
        obtain ⟨how, hhow⟩ : ∃ how : Int32, (q = 0 ∧ how = 1) ∨ (q = 1 ∧ how = 0) := by
          rcases (show q = 0 ∨ q = 1 by omega) with rfl | rfl
          · exact ⟨1, .inl ⟨rfl, rfl⟩⟩
          · exact ⟨0, .inr ⟨rfl, rfl⟩⟩
        obtain ⟨ξ, c1, c2⟩ := c6 how
        obtain ⟨ζ0, k1, k2, k3, k4, k5⟩ := back7 hR c2
        obtain ⟨ζ, z1, z2⟩ := can_l (how := nI q) he hcw o1 hhi hok m0 0 FU ζ0 (T.1 0 (c + 1) e) (by omega) (FU_p _ (by omega)) k4 (by rw [up_same]; exact k3)
        obtain ⟨η, a1, a2, a3⟩ := k5 ζ z1
        have z3 := z2 η a1
        obtain ⟨r, hr⟩ : ∃ r, r = (if nI q = (0 : Int32) then nI (ctU P m0 lo) else fsU P m0 lo) := ⟨_, rfl⟩
        rw [← hP, Nat.zero_add, ← hr, ctU, fsU, show nI (lo + m0) - nI 1 = nI hi from (nI_sub (by omega)).trans (congrArg nI (by omega))] at z3
        refine same_try (r := r) hR c2 ?_ ?_ a2 a3
        · show f_X6_can μ _ _ _ = _
          unfold f_X6_can
          rw [hx μ x1.1.1, hbx, hdx]
          simp only [bind_p]
          rw [if_neg (by decide), if_neg (by decide), if_neg (by decide)]
          rcases hhow with ⟨rfl, rfl⟩ | ⟨rfl, rfl⟩
          · rw [if_pos (show nI 0 = (0 : Int32) from rfl), c1, hr, if_neg (show ¬ (1 : Int32) = 0 by decide), if_pos (show nI 0 = (0 : Int32) from rfl)]
          · rw [if_neg (show ¬ nI 1 = (0 : Int32) by decide), c1, hr, if_pos (rfl : (0 : Int32) = 0), if_neg (show ¬ nI 1 = (0 : Int32) by decide)]
        · show f_X7_can ξ _ _ _ = _
          unfold f_X7_can f_X7_can_65
          rw [hm ξ (by rw [c2.1 2000 (by omega)]; exact m1.1.1), hbm, hdm, k1]
          simp only [bind_p]
          rw [if_neg (by decide), if_neg (by decide), if_neg (by decide)]
          rcases hcw with ⟨rfl, rfl, rfl⟩ | ⟨rfl, rfl, rfl⟩ | ⟨rfl, rfl, rfl⟩
          · obtain rfl : hi = 29 := by omega
            rw [if_neg (show ¬ nI 0 = (2 : Int32) by decide), if_neg (show ¬ nI 0 = (1 : Int32) by decide)]
            exact z3
          · obtain rfl : hi = 30 := by omega
            rw [if_neg (show ¬ nI 1 = (2 : Int32) by decide), if_pos (show nI 1 = (1 : Int32) from rfl)]
            exact z3
          · obtain rfl : hi = 9 := by omega
            rw [if_pos (show nI 2 = (2 : Int32) from rfl)]
            exact z3
      · refine same_q (r := -1) hR ?_ ?_
        · show f_X6_can μ _ _ d = _
          unfold f_X6_can; rw [hx μ x1.1.1, hbx, hdx]; rfl
        · show f_X7_can μ _ _ d = _
          unfold f_X7_can; rw [hm μ m1.1.1, hbm, hdm]; rfl
    · refine same_q (r := -1) hR ?_ ?_
      · show f_X6_can μ _ b d = _
        unfold f_X6_can; rw [hx μ x1.1.1, hbx]; rfl
      · show f_X7_can μ _ b d = _
        unfold f_X7_can; rw [hm μ m1.1.1, hbm]; rfl
  · refine same_q (r := -1) hR ?_ ?_
    · show f_X6_can μ a b d = _
      unfold f_X6_can; rw [hx μ x1.1.1]; rfl
    · show f_X7_can μ a b d = _
      unfold f_X7_can; rw [hm μ m1.1.1]; rfl
