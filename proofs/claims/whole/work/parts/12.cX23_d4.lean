/-! which go off, in the class -/
theorem tm0 {a t : Int} (ht : 0 < t) : a.tmod t = 0 ↔ a % t = 0 := by
  constructor
  · intro h
    rw [← tm_eq ht]
    by_cases h0 : 0 ≤ a
    · rw [if_pos h0]; exact h
    · rw [if_neg h0, if_pos h]; exact h
  · intro h
    have h2 := Int.tmod_eq_emod (a := a) (b := t)
    rw [if_pos (show 0 ≤ a ∨ t ∣ a from .inr (Int.dvd_of_emod_eq_zero h))] at h2
    omega
theorem due_iff {on re t : Nat} (ht : 0 < t) (hr : re < t) : ((on : Int) - (re : Int)).tmod (t : Int) = 0 ↔ on % t = re := by
  rw [tm0 (by omega), ← Int.emod_eq_emod_iff_emod_sub_eq_zero, ← Int.natCast_emod, ← Int.natCast_emod, Nat.mod_eq_of_lt hr]
  omega
theorem due6 {μ : Mem} {S e on : Nat} {l : List CL} {σ : SG} (he : e < 6) (hR : gI μ (S + 1 + 1 + e) 7 = nI (tuE σ e) ∧ gI μ (S + 1 + 1 + e) 8 = nI (reE σ l e)) (hk : okE σ e) (hd : on ≤ 1000000) : f_X2_isDue μ S (nI e) (nI on) = some (bI (decide (on % tuE σ e = reE σ l e))) := by
  have htb := tuE_b hk
  have hrb := reE_b (l := l) hk
  have hb := tm_le (a := (on : Int) - (reE σ l e : Int)) (t := (tuE σ e : Int)) (M := 1000000000) (by omega) (by omega) (by omega)
  have hdi := due_iff (on := on) (show 0 < tuE σ e by omega) hrb
  unfold f_X2_isDue
  rw [aix_n he (by omega)]
  simp only [bind_p]
  rw [K7, ldI_n (by omega) (by omega), hR.1]
  simp only [bind_p]
  rw [K0, if_neg (nI_ge (by omega) (by omega)), K8, ldI_n (by omega) (by omega), hR.2]
  simp only [bind_p]
  rw [nI_iI on, nI_iI (reE σ l e), iI_sub, nI_iI (tuE σ e), rmI_i (by omega) (by omega) (by omega)]
  simp only [bind_p]
  by_cases h : on % tuE σ e = reE σ l e
  · rw [hdi.mpr h, if_pos (show iI 0 = nI 0 from rfl), decide_eq_true h]; rfl
  · rw [if_neg, decide_eq_false h]
    · rfl
    · intro q
      rw [show nI 0 = iI 0 from rfl, iI_eqI (by omega) (by omega) (by omega) (by omega)] at q
      exact h (hdi.mp q)
theorem gOff_l {μ : Mem} {S on : Nat} {l : List CL} {σ : SG} (h6 : σ 0 0 ≤ 6) (hX : XS μ S σ) (hR : Rk μ S σ l (σ 0 0)) (hk : ∀ e, e < σ 0 0 → okE σ e) (hd : on ≤ 1000000) :
    ∀ m i n, i + m = σ 0 0 → m < n → f_X2_goingOff_4 μ S n (nI on) (nI (offN σ l on i)) (nI i) = some (nI (offN σ l on (σ 0 0))) := by
  intro m
  induction m with
  | zero =>
    intro i n hi hn
    obtain ⟨n, rfl⟩ := suc_of hn
    obtain rfl : i = σ 0 0 := by omega
    rw [f_X2_goingOff_4, hX.1.1, if_pos (nI_le (by omega) (by omega))]
  | succ m ih =>
    intro i n hi hn
    obtain ⟨n, rfl⟩ := suc_of hn
    have hnx : nI i + (1 : Int32) = nI (i + 1) := by rw [K1, nI_add]
    have hki := hk i (by omega)
    have hk5 := hki.1.2.2.2.2.2
    have h4 : gI μ (S + 1 + 1 + i) 4 = nI (σ 5 i) := (hX.2.1 i (by omega)).1 4 (by omega)
    have e2 := ih (i + 1) n (by omega) (by omega)
    rw [offN] at e2
    rw [f_X2_goingOff_4, hX.1.1, if_neg (nI_ge (by omega) (by omega)), aix_n (by omega) (by omega)]
    simp only [bind_p]
    rw [K4, ldI_n (by omega) (by omega), h4]
    simp only [bind_p]
    by_cases h : σ 5 i = 0
    · have hv : offB σ l i on = decide (on % tuE σ i = reE σ l i) := by unfold offB; rw [decide_eq_true h, Bool.true_and]
      rw [if_pos (by rw [h]; rfl), due6 (by omega) (hR i (by omega)) hki hd]
      simp only [bind_p]
      rw [← hv]
      cases hv2 : offB σ l i on
      · rw [hv2, if_neg (by decide)] at e2
        rw [if_pos (show bI false = 0 from rfl), f_X2_goingOff_38]
        simp only [bind_p]
        rw [hnx]
        exact e2
      · rw [hv2, if_pos rfl] at e2
        rw [if_neg (show ¬ bI true = 0 by decide), bitOr (by omega) (offN_b σ l on i), f_X2_goingOff_38]
        simp only [bind_p]
        rw [hnx]
        exact e2
    · have hv : offB σ l i on = false := by unfold offB; rw [decide_eq_false h, Bool.false_and]
      rw [hv, if_neg (by decide)] at e2
      rw [if_neg (nI_ne0 (by omega) (by omega)), f_X2_goingOff_38]
      simp only [bind_p]
      rw [hnx]
      exact e2
theorem gOff6 {μ : Mem} {S on : Nat} {l : List CL} {σ : SG} (h6 : σ 0 0 ≤ 6) (hX : XS μ S σ) (hR : Rk μ S σ l (σ 0 0)) (hk : ∀ e, e < σ 0 0 → okE σ e) (hd : on ≤ 1000000) : f_X2_goingOff μ S (nI on) = some (nI (offN σ l on (σ 0 0))) :=
  gOff_l h6 hX hR hk hd (σ 0 0) 0 FU (by omega) (FU_p _ (by omega))
/-! sums -/
def suE (σ : SG) (f : Nat) : Nat → Nat
  | 0 => 0
  | e + 1 => suE σ f e + σ f e
theorem tot_l {μ : Mem} {S c : Nat} {σ : SG} (h6 : σ 0 0 ≤ 6) (hX : XS μ S σ) (hc : c < 7) : ∀ m i n, i + m = σ 0 0 → m < n → f_X2_total_4 μ S n (nI c) (nI (suE σ (c + 1) i)) (nI i) = some (nI (suE σ (c + 1) (σ 0 0))) := by
  intro m
  induction m with
  | zero =>
    intro i n hi hn
    obtain ⟨n, rfl⟩ := suc_of hn
    obtain rfl : i = σ 0 0 := by omega
    rw [f_X2_total_4, hX.1.1, if_pos (nI_le (by omega) (by omega))]
  | succ m ih =>
    intro i n hi hn
    obtain ⟨n, rfl⟩ := suc_of hn
    have hg := (hX.2.1 i (by omega)).1 c hc
    have e2 := ih (i + 1) n (by omega) (by omega)
    rw [f_X2_total_4, hX.1.1, if_neg (nI_ge (by omega) (by omega)), aix_n (by omega) (by omega)]
    simp only [bind_p]
    rw [ldI_n (by omega) (by omega), hg]
    simp only [bind_p]
    rw [nI_add, K1, nI_add]
    exact e2
theorem tot6 {μ : Mem} {S c : Nat} {σ : SG} (h6 : σ 0 0 ≤ 6) (hX : XS μ S σ) (hc : c < 7) : f_X2_total μ S (nI c) = some (nI (suE σ (c + 1) (σ 0 0))) :=
  tot_l h6 hX hc (σ 0 0) 0 FU (by omega) (FU_p _ (by omega))
theorem aw_l {μ : Mem} {σ : SG} (h6 : σ 0 0 ≤ 6) (hM : MS μ σ) : ∀ m i n, i + m = σ 0 0 → m < n → f_X7_allWent_4 μ n (nI (suE σ 6 i)) (nI i) = some (nI (suE σ 6 (σ 0 0))) := by
  intro m
  induction m with
  | zero =>
    intro i n hi hn
    obtain ⟨n, rfl⟩ := suc_of hn
    obtain rfl : i = σ 0 0 := by omega
    rw [f_X7_allWent_4, hM.1.1, if_pos (nI_le (by omega) (by omega))]
  | succ m ih =>
    intro i n hi hn
    obtain ⟨n, rfl⟩ := suc_of hn
    have hg : gI μ 2006 i = nI (σ 6 i) := (hM.2.1 i (by omega)).1 5 (by omega)
    have e2 := ih (i + 1) n (by omega) (by omega)
    rw [f_X7_allWent_4, hM.1.1, if_neg (nI_ge (by omega) (by omega)), ldI_n (by omega) (by omega), hg]
    simp only [bind_p]
    rw [nI_add, K1, nI_add]
    exact e2
theorem aw7 {μ : Mem} {σ : SG} (h6 : σ 0 0 ≤ 6) (hM : MS μ σ) : f_X7_allWent μ = some (nI (suE σ 6 (σ 0 0))) :=
  aw_l h6 hM (σ 0 0) 0 FU (by omega) (FU_p _ (by omega))
theorem am_l {μ : Mem} {σ : SG} (h6 : σ 0 0 ≤ 6) (hM : MS μ σ) : ∀ m i n, i + m = σ 0 0 → m < n → f_X7_allMissed_4 μ n (nI (suE σ 7 i)) (nI i) = some (nI (suE σ 7 (σ 0 0))) := by
  intro m
  induction m with
  | zero =>
    intro i n hi hn
    obtain ⟨n, rfl⟩ := suc_of hn
    obtain rfl : i = σ 0 0 := by omega
    rw [f_X7_allMissed_4, hM.1.1, if_pos (nI_le (by omega) (by omega))]
  | succ m ih =>
    intro i n hi hn
    obtain ⟨n, rfl⟩ := suc_of hn
    have hg : gI μ 2007 i = nI (σ 7 i) := (hM.2.1 i (by omega)).1 6 (by omega)
    have e2 := ih (i + 1) n (by omega) (by omega)
    rw [f_X7_allMissed_4, hM.1.1, if_neg (nI_ge (by omega) (by omega)), ldI_n (by omega) (by omega), hg]
    simp only [bind_p]
    rw [nI_add, K1, nI_add]
    exact e2
theorem am7 {μ : Mem} {σ : SG} (h6 : σ 0 0 ≤ 6) (hM : MS μ σ) : f_X7_allMissed μ = some (nI (suE σ 7 (σ 0 0))) :=
  am_l h6 hM (σ 0 0) 0 FU (by omega) (FU_p _ (by omega))
/-! what turn and rest rest on -/
def agr (σ τ : SG) (e : Nat) : Prop := (∀ f, 1 ≤ f → f ≤ 5 → τ f e = σ f e) ∧ ∀ q, τ 8 q = σ 8 q
theorem tuE_eq {σ τ : SG} {e : Nat} (h : agr σ τ e) : tuE τ e = tuE σ e := by
  unfold tuE
  rw [h.1 1 (by omega) (by omega), h.1 2 (by omega) (by omega), h.1 3 (by omega) (by omega)]
theorem shE_eq {σ τ : SG} {e : Nat} (h : agr σ τ e) : shE τ e = shE σ e := by
  unfold shE
  rw [h.1 1 (by omega) (by omega), h.1 2 (by omega) (by omega), h.1 3 (by omega) (by omega), h.2]
theorem tst_eq {σ τ : SG} {e c : Nat} (h : agr σ τ e) : tst τ e c = tst σ e c := by
  unfold tst vlOf
  by_cases h0 : (c - 3) / 300 = 0
  · rw [if_pos h0, if_pos h0]
  · rw [if_neg h0, if_neg h0]
    by_cases h5 : (c - 3) / 300 ≤ 5
    · rw [if_pos h5, if_pos h5, h.1 _ (by omega) h5]
    · rw [if_neg h5, if_neg h5]
theorem evs_eq {σ τ : SG} {e : Nat} (h : agr σ τ e) : ∀ (cs : List Nat) (st : List Bool), evs τ e cs st = evs σ e cs st
  | [], st => rfl
  | c :: cs, st => by
    rw [evs, evs, evs_eq h cs]
    unfold stp
    rw [tst_eq h]
theorem latZ_eq {σ τ : SG} {e : Nat} (h : agr σ τ e) : ∀ l : List CL, latZ τ e l = latZ σ e l
  | [] => rfl
  | q :: r => by rw [latZ, latZ, latZ_eq h r, evs_eq h]
theorem sumZ_eq {σ τ : SG} {e : Nat} {l : List CL} (h : agr σ τ e) : sumZ τ l e = sumZ σ l e := by
  unfold sumZ
  rw [latZ_eq h, h.1 4 (by omega) (by omega)]
theorem reE_eq {σ τ : SG} {e : Nat} {l : List CL} (h : agr σ τ e) : reE τ l e = reE σ l e := by
  unfold reE
  rw [h.1 1 (by omega) (by omega), tuE_eq h, sumZ_eq h, shE_eq h]
theorem offB_eq {σ τ : SG} {e on : Nat} {l : List CL} (h : agr σ τ e) : offB τ l e on = offB σ l e on := by
  unfold offB
  rw [h.1 5 (by omega) (by omega), tuE_eq h, reE_eq h]
theorem okE_eq {σ τ : SG} {e : Nat} (h : agr σ τ e) (hk : okE σ e) : okE τ e := by
  unfold okE
  rw [h.1 1 (by omega) (by omega), h.1 2 (by omega) (by omega), h.1 3 (by omega) (by omega), h.1 4 (by omega) (by omega), h.1 5 (by omega) (by omega)]
  exact ⟨hk.1, fun q hq => by rw [h.2]; exact hk.2 q hq⟩
/-! a day goes -/
def dyE (W ms b : Nat) (σ : SG) : Nat → SG
  | 0 => σ
  | e + 1 => if b / 2 ^ e % 2 = 1 then up (up (dyE W ms b σ e) 6 e (min (σ 6 e + 1) W)) 7 e (min (σ 7 e + ms) W) else dyE W ms b σ e
theorem dyE_o {W ms b : Nat} {σ : SG} {a x : Nat} (h6 : a ≠ 6) (h7 : a ≠ 7) : ∀ i, dyE W ms b σ i a x = σ a x
  | 0 => rfl
  | i + 1 => by
    rw [dyE]
    by_cases hb : b / 2 ^ i % 2 = 1
    · rw [if_pos hb, up_n1 h7, up_n1 h6, dyE_o h6 h7 i]
    · rw [if_neg hb, dyE_o h6 h7 i]
theorem dyE_ge {W ms b : Nat} {σ : SG} {a x : Nat} : ∀ i, i ≤ x → dyE W ms b σ i a x = σ a x
  | 0, _ => rfl
  | i + 1, h => by
    rw [dyE]
    by_cases hb : b / 2 ^ i % 2 = 1
    · rw [if_pos hb, up_n2 (by omega), up_n2 (by omega), dyE_ge i (by omega)]
    · rw [if_neg hb, dyE_ge i (by omega)]
theorem dyE_lt {W ms b : Nat} {σ : SG} {x : Nat} : ∀ i, x < i → dyE W ms b σ i 6 x = (if b / 2 ^ x % 2 = 1 then min (σ 6 x + 1) W else σ 6 x) ∧ dyE W ms b σ i 7 x = (if b / 2 ^ x % 2 = 1 then min (σ 7 x + ms) W else σ 7 x)
  | 0, h => by omega
  | i + 1, h => by
    rw [dyE]
    by_cases hx : x = i
    · subst hx
      by_cases hb : b / 2 ^ x % 2 = 1
      · rw [if_pos hb, if_pos hb, if_pos hb]
        exact ⟨by rw [up_n1 (by omega), up_at], up_at _ _ _ _⟩
      · rw [if_neg hb, if_neg hb, if_neg hb]
        exact ⟨dyE_ge x (Nat.le_refl _), dyE_ge x (Nat.le_refl _)⟩
    · have ih := dyE_lt (W := W) (ms := ms) (b := b) (σ := σ) (x := x) i (by omega)
      by_cases hb : b / 2 ^ i % 2 = 1
      · rw [if_pos hb, up_n2 hx, up_n2 hx, up_n2 hx, up_n2 hx]
        exact ih
      · rw [if_neg hb]
        exact ih
def hrd (σ : SG) : Nat := σ 9 0 / 2 ^ (σ 10 0 % 7) % 2
def dyS (W : Nat) (l : List CL) (σ : SG) : SG := up (dyE W (1 - hrd σ) (offN σ l (σ 10 0) (σ 0 0)) σ (σ 0 0)) 10 0 (σ 10 0 + 1)
def dyN (W : Nat) (l : List CL) : Nat → SG → SG
  | 0, σ => σ
  | n + 1, σ => dyN W l n (dyS W l σ)
theorem dyS_o {W : Nat} {l : List CL} {σ : SG} {a x : Nat} (h6 : a ≠ 6) (h7 : a ≠ 7) (h10 : a ≠ 10) : dyS W l σ a x = σ a x := by
  unfold dyS
  rw [up_n1 h10, dyE_o h6 h7]
theorem dyN_o {W : Nat} {l : List CL} {a x : Nat} (h6 : a ≠ 6) (h7 : a ≠ 7) (h10 : a ≠ 10) : ∀ (n : Nat) (σ : SG), dyN W l n σ a x = σ a x
  | 0, σ => rfl
  | n + 1, σ => by rw [dyN, dyN_o h6 h7 h10 n, dyS_o h6 h7 h10]
theorem dyS_agr {W : Nat} {l : List CL} {σ : SG} (e : Nat) : agr σ (dyS W l σ) e := ⟨fun f h1 h2 => dyS_o (by omega) (by omega) (by omega), fun q => dyS_o (by omega) (by omega) (by omega)⟩
theorem dyN_agr {W n : Nat} {l : List CL} {σ : SG} (e : Nat) : agr σ (dyN W l n σ) e := ⟨fun f h1 h2 => dyN_o (by omega) (by omega) (by omega) _ _, fun q => dyN_o (by omega) (by omega) (by omega) _ _⟩
theorem dyS_10 {W : Nat} {l : List CL} {σ : SG} : dyS W l σ 10 0 = σ 10 0 + 1 := by unfold dyS; rw [up_at]
theorem dyN_10 {W : Nat} {l : List CL} : ∀ (n : Nat) (σ : SG), dyN W l n σ 10 0 = σ 10 0 + n
  | 0, σ => rfl
  | n + 1, σ => by rw [dyN, dyN_10 n, dyS_10]; omega
theorem dyS_b {W w w' : Nat} {l : List CL} {σ : SG} {x : Nat} (h6 : σ 6 x ≤ w) (h7 : σ 7 x ≤ w) (hw : w ≤ w') (hm : min (w + 1) W ≤ w') : dyS W l σ 6 x ≤ w' ∧ dyS W l σ 7 x ≤ w' := by
  unfold dyS
  rw [up_n1 (by omega), up_n1 (by omega)]
  by_cases hx : x < σ 0 0
  · obtain ⟨h1, h2⟩ := dyE_lt (W := W) (ms := 1 - hrd σ) (b := offN σ l (σ 10 0) (σ 0 0)) (σ := σ) (σ 0 0) hx
    rw [h1, h2]
    refine ⟨?_, ?_⟩ <;> (split <;> omega)
  · rw [dyE_ge _ (by omega), dyE_ge _ (by omega)]
    omega
theorem dyS_ok {W w w' D st : Nat} {l : List CL} {σ : SG} (h : okDy w D st σ) (hw : w ≤ w') (hm : min (w + 1) W ≤ w') : okDy w' (D + 1) st (dyS W l σ) := by
  obtain ⟨⟨a1, a2, a3, a4⟩, ⟨b1, b2, b3⟩, c⟩ := h
  unfold okDy
  rw [dyS_10, dyS_o (a := 0) (by omega) (by omega) (by omega), dyS_o (a := 27) (by omega) (by omega) (by omega), dyS_o (a := 31) (by omega) (by omega) (by omega), dyS_o (a := 34) (by omega) (by omega) (by omega), dyS_o (a := 9) (by omega) (by omega) (by omega), dyS_o (a := 18) (by omega) (by omega) (by omega)]
  refine ⟨⟨a1, a2, a3, a4⟩, ⟨b1, by omega, b3⟩, fun e he => ⟨okE_eq (dyS_agr e) (c e he).1, ?_⟩⟩
  exact dyS_b (c e he).2.1 (c e he).2.2 hw hm
