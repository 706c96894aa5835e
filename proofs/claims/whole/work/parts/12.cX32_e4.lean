/-! ends: the plan's rows are tried -/
theorem okDy_9 {w D st v : Nat} {τ : SG} (h : okDy w D st τ) (hv : v ≤ 127) : okDy w D st (up τ 9 0 v) := by
  obtain ⟨⟨a1, a2, a3, a4⟩, ⟨b1, b2, b3⟩, c⟩ := h
  have hu : ∀ a b, a ≠ 9 → up τ 9 0 v a b = τ a b := fun a b q => up_n1 q
  unfold okDy
  rw [hu 0 0 (by omega), hu 27 0 (by omega), hu 31 0 (by omega), hu 34 0 (by omega), hu 10 0 (by omega), hu 18 0 (by omega), up_at]
  refine ⟨⟨a1, a2, a3, a4⟩, ⟨hv, b2, b3⟩, fun e he => ?_⟩
  rw [hu 6 e (by omega), hu 7 e (by omega)]
  exact ⟨okE_eq ⟨fun f h1 h2 => hu f e (by omega), fun q => hu 8 q (by omega)⟩ (c e he).1, (c e he).2⟩
theorem okDy_5 {w D st v i : Nat} {τ : SG} (h : okDy w D st τ) (hv : v ≤ 1) : okDy w D st (up τ 5 i v) := by
  obtain ⟨⟨a1, a2, a3, a4⟩, ⟨b1, b2, b3⟩, c⟩ := h
  have hu : ∀ a b, a ≠ 5 → up τ 5 i v a b = τ a b := fun a b q => up_n1 q
  unfold okDy
  rw [hu 0 0 (by omega), hu 27 0 (by omega), hu 31 0 (by omega), hu 34 0 (by omega), hu 9 0 (by omega), hu 10 0 (by omega), hu 18 0 (by omega)]
  refine ⟨⟨a1, a2, a3, a4⟩, ⟨b1, b2, b3⟩, fun e he => ?_⟩
  rw [hu 6 e (by omega), hu 7 e (by omega)]
  refine ⟨?_, (c e he).2⟩
  obtain ⟨⟨q1, q2, q3, q4, q5, q6⟩, q7⟩ := (c e he).1
  unfold okE
  rw [hu 1 e (by omega), hu 2 e (by omega), hu 3 e (by omega), hu 4 e (by omega)]
  refine ⟨⟨q1, q2, q3, q4, q5, ?_⟩, fun q hq => by rw [hu 8 _ (by omega)]; exact q7 q hq⟩
  by_cases he' : e = i
  · rw [he', up_at]; exact hv
  · rw [up_n2 he']; exact q6
/-- a row of the plan goes by -/
def enS (σ0 : SG) (f : Nat → List CL) (i : Nat) (τ : SG) : SG := if σ0 32 i = 0 then dyS 2147483647 (clF f τ) τ else if σ0 32 i = 3 then up τ 9 0 (σ0 33 i) else if σ0 32 i = 1 then up τ 5 (σ0 33 i) 1 else up τ 5 (σ0 33 i) 0
def enT (σ0 : SG) (f : Nat → List CL) : Nat → Nat → SG → SG
  | 0, _, τ => τ
  | m + 1, i, τ => enT σ0 f m (i + 1) (enS σ0 f i τ)
theorem enS_k {σ0 : SG} {f : Nat → List CL} {i : Nat} {τ : SG} {a x : Nat} (h5 : a ≠ 5) (h6 : a ≠ 6) (h7 : a ≠ 7) (h9 : a ≠ 9) (h10 : a ≠ 10) : enS σ0 f i τ a x = τ a x := by
  unfold enS
  split
  · exact dyS_o h6 h7 h10
  · split
    · exact up_n1 h9
    · split
      · exact up_n1 h5
      · exact up_n1 h5
theorem enS_ok {W st st' w D i : Nat} {σ0 : SG} {f : Nat → List CL} {τ : SG} (h0 : okS W st' σ0) (hi : i < σ0 31 0) (ho : okDy w D st τ) (hw : w ≤ 1000000) : okDy (w + 1) (D + 1) st (enS σ0 f i τ) := by
  have hrb := h0.2.2.2.1.2 i hi
  have mono : ∀ {τ : SG}, okDy w D st τ → okDy (w + 1) (D + 1) st τ := fun h => ⟨h.1, ⟨h.2.1.1, by have := h.2.1.2.1; omega, h.2.1.2.2⟩, fun e he => ⟨(h.2.2 e he).1, by have := (h.2.2 e he).2.1; omega, by have := (h.2.2 e he).2.2; omega⟩⟩
  unfold enS
  split
  · exact dyS_ok ho (by omega) (by omega)
  · split
    · exact mono (okDy_9 ho (by omega))
    · split
      · exact mono (okDy_5 ho (by omega))
      · exact mono (okDy_5 ho (by omega))
theorem enT_ok {W st st' : Nat} {σ0 : SG} {f : Nat → List CL} (h0 : okS W st' σ0) : ∀ m i w D (τ : SG), i + m = σ0 31 0 → w + m ≤ 1000000 → okDy w D st τ → okDy (w + m) (D + m) st (enT σ0 f m i τ)
  | 0, i, w, D, τ, _, _, h => h
  | m + 1, i, w, D, τ, hi, hw, h => by
    rw [enT, show w + (m + 1) = w + 1 + m by omega, show D + (m + 1) = D + 1 + m by omega]
    exact enT_ok h0 m (i + 1) (w + 1) (D + 1) _ (by omega) (by omega) (enS_ok h0 (by omega) h (by omega))
theorem ends6_l {T : PT} {μ : Mem} {b : Int32} (hR : RR T μ) :
    ∀ m i n ν τ w D, i + m = T.1 0 31 0 → m < n → D + m ≤ 1000000 → w + m ≤ 100000 → fr 300 360 μ ν → XS ν 300 τ → okDy w D (T.1 2 17 0) τ → τ 0 0 = T.1 0 0 0 →
      ∃ k ν', f_X6_ends_25 n ν b (nI i) = f_X6_ends_25 (k + 1) ν' b (nI (T.1 0 31 0)) ∧ fr 300 360 μ ν' ∧ XS ν' 300 (enT (T.1 0) T.2.2 m i τ) := by
  obtain ⟨⟨x1, _⟩, ⟨m1, _⟩, o1, _⟩ := id hR
  have h31 := o1.2.2.2.1.1
  intro m
  induction m with
  | zero =>
    intro i n ν τ w D hi hn hD hw hf hX ho h0
    obtain ⟨n, rfl⟩ := suc_of hn
    obtain rfl : i = T.1 0 31 0 := by omega
    exact ⟨n, ν, rfl, hf, hX⟩
  | succ m ih =>
    intro i n ν τ w D hi hn hD hw hf hX ho h0
    obtain ⟨n, rfl⟩ := suc_of hn
    have hnx : nI i + (1 : Int32) = nI (i + 1) := by rw [K1, nI_add]
    have hxr := x1.2.2.2.1.2 i (by omega)
    have hrb := o1.2.2.2.1.2 i (by omega)
    have cx : gI ν (100 + 30) 1 = nI (T.1 0 31 0) := by rw [hf.1 _ (by omega)]; exact x1.2.2.2.1.1
    have hes : ∀ τ1, enS (T.1 0) T.2.2 i τ = τ1 → enT (T.1 0) T.2.2 (m + 1) i τ = enT (T.1 0) T.2.2 m (i + 1) τ1 := fun τ1 q => by rw [enT, q]
    have heo := enS_ok (f := T.2.2) o1 (show i < T.1 0 31 0 by omega) ho (by omega)
    have he0 : enS (T.1 0) T.2.2 i τ 0 0 = τ 0 0 := enS_k (by omega) (by omega) (by omega) (by omega) (by omega)
    have go : ∀ ν1, f_X6_tryRow ν (100 + 30 + 1 + 1 + i) = some ν1 → fr 300 360 ν ν1 → XS ν1 300 (enS (T.1 0) T.2.2 i τ) →
        ∃ k ν', f_X6_ends_25 (n + 1) ν b (nI i) = f_X6_ends_25 (k + 1) ν' b (nI (T.1 0 31 0)) ∧ fr 300 360 μ ν' ∧ XS ν' 300 (enT (T.1 0) T.2.2 (m + 1) i τ) := fun ν1 q1 q5 q6 => by
      obtain ⟨k, ν', r1, r3⟩ := ih (i + 1) n ν1 _ (w + 1) (D + 1) (by omega) (by omega) (by omega) (by omega) (fr_t hf q5) q6 heo (by rw [he0]; exact h0)
      refine ⟨k, ν', ?_, r3⟩
      rw [f_X6_ends_25, cx, if_neg (nI_ge (by omega) (by omega)), aix_n (by omega) (by omega)]
      simp only [bind_p]
      rw [q1]
      simp only [bind_p]
      rw [hnx]
      exact r1
    obtain ⟨wh, hwh⟩ : ∃ wh, wh = T.1 0 32 i := ⟨_, rfl⟩
    obtain ⟨v, hv⟩ : ∃ v, v = T.1 0 33 i := ⟨_, rfl⟩
    unfold enS at go
    rw [← hwh, ← hv] at hxr hrb go
    have x0 : gI ν (100 + 30 + 1 + 1 + i) 0 = nI wh := by rw [hf.1 _ (by omega)]; exact hxr.1
    have x2 : wh ≠ 0 → gI ν (100 + 30 + 1 + 1 + i) 1 = nI v := fun q => by rw [hf.1 _ (by omega)]; exact hxr.2 q
    have xf : f_X6_tryRow ν (100 + 30 + 1 + 1 + i) = (if nI wh = (0 : Int32) then (f_X6_reckon ν 300).bind fun μ21 => (f_X2_go μ21 300 (1 : Int32) (2147483647 : Int32)).bind fun μ23 => some μ23 else if nI wh = (3 : Int32) then some (sI ν 300 2 (gI ν (100 + 30 + 1 + 1 + i) 1)) else (f_X2_has ν 300 (gI ν (100 + 30 + 1 + 1 + i) 1)).bind fun v27 => if v27 = (0 : Int32) then some ν else (aix (gI ν (100 + 30 + 1 + 1 + i) 1) 6).bind fun j30 => if nI wh = (1 : Int32) then f_X6_tryRow_98 (100 + 30 + 1 + 1 + i) ν (1 : Int32) (4 : Int32) (300 + 1 + 1 + j30) else f_X6_tryRow_98 (100 + 30 + 1 + 1 + i) ν (0 : Int32) (4 : Int32) (300 + 1 + 1 + j30)) := by
      unfold f_X6_tryRow
      rw [show ldI ν (100 + 30 + 1 + 1 + i) 3 (1 : Int32) = some (gI ν (100 + 30 + 1 + 1 + i) 1) from ldI_n (j := 1) (by omega) (by omega), show ldI ν (100 + 30 + 1 + 1 + i) 3 (0 : Int32) = some (gI ν (100 + 30 + 1 + 1 + i) 0) from ldI_n (j := 0) (by omega) (by omega), x0]
      rfl
    rcases (show wh = 0 ∨ wh = 3 ∨ wh = 1 ∨ wh = 2 by omega) with h | h | h | h
    · have hCX : CX ν (T.1 2 17 0) T.2.2 := hR.CX.O (fun k hk => hf.1 k (by omega))
      obtain ⟨ν1, e1, e2, e3, e4, e5⟩ := reckon6 (S := 300) (by omega) hCX hX ho (by omega)
      obtain ⟨ν2, f1, f2, f3, f4⟩ := go6 (W := 2147483647) (N := 1) (by omega) e5 e3 ho (by omega) (.inr ⟨rfl, by omega⟩)
      rw [if_pos h] at go
      refine go ν2 ?_ (fr_t (fr_w e2.fr' (by omega) (by omega)) (fr_w f3 (by omega) (by omega))) f2
      rw [xf, h, if_pos (show nI 0 = (0 : Int32) from rfl), e1]
      simp only [bind_p]
      rw [K1, K2147483647, f1]
      rfl
    · rw [if_neg (by omega), if_pos h] at go
      refine go (sI ν 300 2 (nI v)) ?_ (fr_s (by omega)) (XS_up hX ho.1 rfl (.inl ⟨rfl, rfl, rfl, rfl⟩))
      rw [xf, h, if_neg (show ¬ nI 3 = (0 : Int32) by decide), if_pos (show nI 3 = (3 : Int32) from rfl), x2 (by omega)]
    · have hvb := hrb.2.1 (.inl h)
      have h6 := ho.1.1
      rw [if_neg (by omega), if_neg (by omega), if_pos h] at go
      refine go (sI ν (300 + 1 + 1 + v) 4 (nI 1)) ?_ (fr_s (by omega)) (XS_up hX ho.1 rfl (.inr (.inr (.inl ⟨v, 4, by omega, by omega, rfl, rfl, rfl, rfl⟩))))
      rw [xf, h, if_neg (show ¬ nI 1 = (0 : Int32) by decide), if_neg (show ¬ nI 1 = (3 : Int32) by decide), x2 (by omega), one6_yes hX.1.1 (by omega) (by omega)]
      simp only [bind_p]
      rw [if_neg (by decide), aix_n (by omega) (by omega)]
      simp only [bind_p]
      rw [if_pos (show nI 1 = (1 : Int32) from rfl)]
      unfold f_X6_tryRow_98
      rw [K4, stI_n (by omega) (by omega)]
      rfl
    · have hvb := hrb.2.1 (.inr h)
      have h6 := ho.1.1
      rw [if_neg (by omega), if_neg (by omega), if_neg (by omega)] at go
      refine go (sI ν (300 + 1 + 1 + v) 4 (nI 0)) ?_ (fr_s (by omega)) (XS_up hX ho.1 rfl (.inr (.inr (.inl ⟨v, 4, by omega, by omega, rfl, rfl, rfl, rfl⟩))))
      rw [xf, h, if_neg (show ¬ nI 2 = (0 : Int32) by decide), if_neg (show ¬ nI 2 = (3 : Int32) by decide), x2 (by omega), one6_yes hX.1.1 (by omega) (by omega)]
      simp only [bind_p]
      rw [if_neg (by decide), aix_n (by omega) (by omega)]
      simp only [bind_p]
      rw [if_neg (show ¬ nI 2 = (1 : Int32) by decide)]
      unfold f_X6_tryRow_98
      rw [K4, stI_n (by omega) (by omega)]
      rfl
theorem ends7_l {W st st' : Nat} {σ0 : SG} {f : Nat → List CL} {ζ0 : Mem} {b : Int32} (o1 : okS W st' σ0) (hM0 : MS ζ0 σ0) :
    ∀ m i n ξ τ w D, i + m = σ0 31 0 → m < n → D + m ≤ 1000000 → w + m ≤ 100000 → MF ζ0 ξ → MS ξ τ → CM ξ st f → okDy w D st τ → τ 0 0 = σ0 0 0 →
      ∃ k ξ', f_X7_ends_21 n ξ b (nI i) = f_X7_ends_21 (k + 1) ξ' b (nI (σ0 31 0)) ∧ MF ζ0 ξ' ∧ MS ξ' (enT σ0 f m i τ) := by
  have h31 := o1.2.2.2.1.1
  intro m
  induction m with
  | zero =>
    intro i n ξ τ w D hi hn hD hw hF hM hC ho h0
    obtain ⟨n, rfl⟩ := suc_of hn
    obtain rfl : i = σ0 31 0 := by omega
    exact ⟨n, ξ, rfl, hF, hM⟩
  | succ m ih =>
    intro i n ξ τ w D hi hn hD hw hF hM hC ho h0
    obtain ⟨n, rfl⟩ := suc_of hn
    have hnx : nI i + (1 : Int32) = nI (i + 1) := by rw [K1, nI_add]
    have hmr := hM0.2.2.2.1.2 i (by omega)
    have hrb := o1.2.2.2.1.2 i (by omega)
    have cm : gI ξ 2000 31 = nI (σ0 31 0) := by rw [hF.2.1 31 (by omega) (by omega)]; exact hM0.2.2.2.1.1
    have heo := enS_ok (f := f) o1 (show i < σ0 31 0 by omega) ho (by omega)
    have he0 : enS σ0 f i τ 0 0 = τ 0 0 := enS_k (by omega) (by omega) (by omega) (by omega) (by omega)
    have go : ∀ ξ1, f_X7_ends_21 (n + 1) ξ b (nI i) = f_X7_ends_21 n ξ1 b (nI (i + 1)) → MF ξ ξ1 → MS ξ1 (enS σ0 f i τ) →
        ∃ k ξ', f_X7_ends_21 (n + 1) ξ b (nI i) = f_X7_ends_21 (k + 1) ξ' b (nI (σ0 31 0)) ∧ MF ζ0 ξ' ∧ MS ξ' (enT σ0 f (m + 1) i τ) := fun ξ1 q2 q7 q8 => by
      obtain ⟨k, ξ', r1, r3⟩ := ih (i + 1) n ξ1 _ (w + 1) (D + 1) (by omega) (by omega) (by omega) (by omega) (hF.trans q7) q8 (q7.CM' hC) heo (by rw [he0]; exact h0)
      exact ⟨k, ξ', q2.trans r1, r3⟩
    obtain ⟨wh, hwh⟩ : ∃ wh, wh = σ0 32 i := ⟨_, rfl⟩
    obtain ⟨v, hv⟩ : ∃ v, v = σ0 33 i := ⟨_, rfl⟩
    unfold enS at go
    rw [← hwh, ← hv] at hmr hrb go
    have m0 : gI ξ 2032 i = nI wh := by rw [hF.1 _ (by omega) (by omega) (by omega)]; exact hmr.1
    have m2 : wh ≠ 0 → gI ξ 2033 i = nI v := fun q => by rw [hF.1 _ (by omega) (by omega) (by omega)]; exact hmr.2 q
    have rf : f_X7_ends_21 (n + 1) ξ b (nI i) = (if nI wh = (0 : Int32) then (f_X7_goesDay ξ).bind fun μ44 => f_X7_ends_91 (fun μ z0 z1 => f_X7_ends_21 n μ z0 z1) μ44 b (nI i) else if nI wh = (3 : Int32) then f_X7_ends_91 (fun μ z0 z1 => f_X7_ends_21 n μ z0 z1) (sI ξ 2000 9 (gI ξ 2033 i)) b (nI i) else if nI wh = (1 : Int32) then f_X7_ends_90 (fun μ z0 z1 => f_X7_ends_21 n μ z0 z1) ξ b (nI i) (1 : Int32) (gI ξ 2033 i) else f_X7_ends_90 (fun μ z0 z1 => f_X7_ends_21 n μ z0 z1) ξ b (nI i) (0 : Int32) (gI ξ 2033 i)) := by
      rw [f_X7_ends_21, cm, if_neg (nI_ge (by omega) (by omega)), ldI_n (by omega) (by omega), ldI_n (by omega) (by omega), m0]
      rfl
    rcases (show wh = 0 ∨ wh = 3 ∨ wh = 1 ∨ wh = 2 by omega) with h | h | h | h
    · obtain ⟨ξ1, r1, r2, r3⟩ := gday7 hM hC ho (by omega) (by omega)
      rw [if_pos h] at go
      refine go ξ1 ?_ r3 r2
      rw [rf, h, if_pos (show nI 0 = (0 : Int32) from rfl), r1]
      simp only [bind_p]
      rw [f_X7_ends_91]
      simp only [bind_p]
      rw [hnx]
    · rw [if_neg (by omega), if_pos h] at go
      refine go (sI ξ 2000 9 (nI v)) ?_ (MF_f (by omega)) (MS_up hM rfl (.inl ⟨rfl, rfl, rfl, rfl⟩))
      rw [rf, h, if_neg (show ¬ nI 3 = (0 : Int32) by decide), if_pos (show nI 3 = (3 : Int32) from rfl), m2 (by omega), f_X7_ends_91]
      simp only [bind_p]
      rw [hnx]
    · have hvb := hrb.2.1 (.inl h)
      have h6 := ho.1.1
      rw [if_neg (by omega), if_neg (by omega), if_pos h] at go
      refine go (sI ξ 2005 v (nI 1)) ?_ (MF_s (by omega)) (MS_up hM rfl (.inr (.inr (.inl ⟨4, by omega, rfl, rfl, rfl⟩))))
      rw [rf, h, if_neg (show ¬ nI 1 = (0 : Int32) by decide), if_neg (show ¬ nI 1 = (3 : Int32) by decide), if_pos (show nI 1 = (1 : Int32) from rfl), m2 (by omega), f_X7_ends_90, stI_n (by omega) (by omega)]
      simp only [bind_p]
      rw [f_X7_ends_91]
      simp only [bind_p]
      rw [hnx]
      rfl
    · have hvb := hrb.2.1 (.inr h)
      have h6 := ho.1.1
      rw [if_neg (by omega), if_neg (by omega), if_neg (by omega)] at go
      refine go (sI ξ 2005 v (nI 0)) ?_ (MF_s (by omega)) (MS_up hM rfl (.inr (.inr (.inl ⟨4, by omega, rfl, rfl, rfl⟩))))
      rw [rf, h, if_neg (show ¬ nI 2 = (0 : Int32) by decide), if_neg (show ¬ nI 2 = (3 : Int32) by decide), if_neg (show ¬ nI 2 = (1 : Int32) by decide), m2 (by omega), f_X7_ends_90, stI_n (by omega) (by omega)]
      simp only [bind_p]
      rw [f_X7_ends_91]
      simp only [bind_p]
      rw [hnx]
      rfl
theorem s_ends {T : PT} {μ : Mem} (hR : RR T μ) (a : Int32) : Same T μ (fun μ => f_X6_ends μ a) (fun μ => f_X7_ends μ a) := by
  obtain ⟨⟨x1, _⟩, ⟨m1, _⟩, o1, _⟩ := id hR
  have hE := o1.1.1
  have h31 := o1.2.2.2.1.1
  rcases arg a (lo := 0) (hi := 1) (A := 0) (B := 1) (C := 0) (D := 1) rfl rfl rfl rfl with ⟨p, _, hp, _, rfl, hax, ham⟩ | ⟨_, hax, ham⟩
  · obtain ⟨ν0, b1, b2, b3⟩ := bec (p := 300) (q := 100) (by omega) x1 o1.n
    obtain ⟨k, ν, e1, e2, e3⟩ := ends6_l (b := nI p) hR (T.1 0 31 0) 0 FU ν0 (T.1 0) 9999 99999 (by omega) (FU_p _ (by omega)) (by omega) (by omega) b2 b3 o1.dy rfl
    obtain ⟨ξ0, q1, q2, q3, q4, q5⟩ := back7 hR e2
    obtain ⟨k', ξ, g1, g2, g3⟩ := ends7_l (b := nI p) o1 q3 (T.1 0 31 0) 0 FU ξ0 (T.1 0) 9999 99999 (by omega) (FU_p _ (by omega)) (by omega) (by omega) (MF.rfl' _) q3 q4 o1.dy rfl
    have hok := enT_ok (f := T.2.2) o1 (T.1 0 31 0) 0 9999 99999 (T.1 0) (by omega) (by omega) o1.dy
    have cx : gI ν (100 + 30) 1 = nI (T.1 0 31 0) := by rw [e2.1 _ (by omega)]; exact x1.2.2.2.1.1
    have cm : gI ξ 2000 31 = nI (T.1 0 31 0) := by rw [g2.2.1 31 (by omega) (by omega)]; exact q3.2.2.2.1.1
    obtain ⟨τ, hτ⟩ : ∃ τ, τ = enT (T.1 0) T.2.2 (T.1 0 31 0) 0 (T.1 0) := ⟨_, rfl⟩
    rw [← hτ] at e3 g3 hok
    have h6 := hok.1.1
    obtain ⟨η, a1, a2, a3⟩ := q5 ξ g2
    rcases (show p = 0 ∨ p = 1 by omega) with rfl | rfl
    · refine same_try (r := nI (suE τ 6 (τ 0 0))) hR e2 ?_ ?_ a2 a3
      · show f_X6_ends μ _ = _
        unfold f_X6_ends
        rw [hax]
        simp only [bind_p]
        rw [if_neg (by decide), b1]
        simp only [bind_p]
        rw [show (0 : Int32) = nI 0 from rfl, e1, f_X6_ends_25, cx, if_pos (nI_le (by omega) (by omega)), if_pos (show nI 0 = (0 : Int32) from rfl)]
        unfold f_X6_ends_75
        rw [show (5 : Int32) = nI 5 from rfl, tot6 h6 e3 (by omega)]
        rfl
      · show f_X7_ends ν _ = _
        unfold f_X7_ends
        rw [ham]
        simp only [bind_p]
        rw [if_neg (by decide), q1]
        simp only [bind_p]
        rw [show (0 : Int32) = nI 0 from rfl, g1, f_X7_ends_21, cm, if_pos (nI_le (by omega) (by omega)), if_pos (show nI 0 = (0 : Int32) from rfl), aw7 h6 g3]
        simp only [bind_p]
        unfold f_X7_ends_112
        rw [a1]
        rfl
    · refine same_try (r := nI (suE τ 7 (τ 0 0))) hR e2 ?_ ?_ a2 a3
      · show f_X6_ends μ _ = _
        unfold f_X6_ends
        rw [hax]
        simp only [bind_p]
        rw [if_neg (by decide), b1]
        simp only [bind_p]
        rw [show (0 : Int32) = nI 0 from rfl, e1, f_X6_ends_25, cx, if_pos (nI_le (by omega) (by omega)), if_neg (show ¬ nI 1 = (0 : Int32) by decide)]
        unfold f_X6_ends_75
        rw [show (6 : Int32) = nI 6 from rfl, tot6 h6 e3 (by omega)]
        rfl
      · show f_X7_ends ν _ = _
        unfold f_X7_ends
        rw [ham]
        simp only [bind_p]
        rw [if_neg (by decide), q1]
        simp only [bind_p]
        rw [show (0 : Int32) = nI 0 from rfl, g1, f_X7_ends_21, cm, if_pos (nI_le (by omega) (by omega)), if_neg (show ¬ nI 1 = (0 : Int32) by decide), am7 h6 g3]
        simp only [bind_p]
        unfold f_X7_ends_112
        rw [a1]
        rfl
  · exact same_q (r := -1) hR (by show f_X6_ends μ a = _; unfold f_X6_ends; rw [hax]; rfl) (by show f_X7_ends μ a = _; unfold f_X7_ends; rw [ham]; rfl)
