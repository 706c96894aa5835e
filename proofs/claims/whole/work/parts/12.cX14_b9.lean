/-! a state is copied, in the class -/
def fr (a b : Nat) (μ ν : Mem) : Prop := (∀ k, ¬ (a ≤ k ∧ k < b) → gI ν k = gI μ k) ∧ ∀ k, gL ν k = gL μ k
theorem fr_r (a b : Nat) (μ : Mem) : fr a b μ μ := ⟨fun _ _ => rfl, fun _ => rfl⟩
theorem fr_t {a b : Nat} {μ ν ξ : Mem} (h : fr a b μ ν) (h' : fr a b ν ξ) : fr a b μ ξ := ⟨fun k hk => (h'.1 k hk).trans (h.1 k hk), fun k => (h'.2 k).trans (h.2 k)⟩
theorem fr_s {a b k i : Nat} {μ : Mem} {v : Int32} (h : a ≤ k ∧ k < b) : fr a b μ (sI μ k i v) := ⟨fun q hq => gI_sI_ne (fun e => hq (e ▸ h)), fun q => rfl⟩
theorem fr_sR {a b k : Nat} {μ : Mem} {f : Nat → Int32} (h : a ≤ k ∧ k < b) : fr a b μ (sR μ k f) := ⟨fun q hq => by rw [gI_sR, if_neg (fun (e : q = k) => hq (by rw [e]; exact h))], fun q => rfl⟩
theorem cpI_n {μ : Mem} {k n i k' n' j w : Nat} (h : i + w ≤ n) (h' : j + w ≤ n') (hn : n < 2147483648) (hn' : n' < 2147483648) : cpI μ k n (nI i) k' n' (nI j) (nI w) = some (sR μ k' (va_cpy (gI μ k) (gI μ k') i j w)) := by
  unfold cpI
  rw [nI_clamp (by omega), nI_clamp (by omega), nI_clamp (by omega), if_neg]
  rintro (q | q | q | q | q)
  · exact nI_pos (by omega) q
  · exact nI_pos (by omega) q
  · exact nI_pos (by omega) q
  · omega
  · omega
theorem fr_w {a b c d : Nat} {μ ν : Mem} (h : fr a b μ ν) (h1 : c ≤ a) (h2 : b ≤ d) : fr c d μ ν := ⟨fun k hk => h.1 k (by omega), h.2⟩
theorem fr_add {a b k i : Nat} {μ : Mem} {x y z : Int32} (h : a ≤ k ∧ k + 1 + 1 + i < b) : fr a b μ (addM μ k i x y z) := by
  unfold addM
  exact fr_t (fr_t (fr_t (fr_s (by omega)) (fr_s (by omega))) (fr_s (by omega))) (fr_s (by omega))
theorem rowsB_l {μ : Mem} {p q n C : Nat} (hd : p + 20 ≤ q ∨ q + 20 ≤ p) (hn : n ≤ 10) (hC : C ≤ n) (hq : gI μ q 1 = nI C) : ∀ m i k ν, i + m = C → m < k → fr p (p + 1 + 1 + n) μ ν → gI ν p 1 = nI i → (∀ x, x < i → ∀ c, c < 3 → gI ν (p + 1 + 1 + x) c = gI μ (q + 1 + 1 + x) c) →
    ∃ ν', f_X1_becomes_7 p n q n k ν (nI i) = some ν' ∧ fr p (p + 1 + 1 + n) μ ν' ∧ gI ν' p 1 = nI C ∧ ∀ x, x < C → ∀ c, c < 3 → gI ν' (p + 1 + 1 + x) c = gI μ (q + 1 + 1 + x) c := by
  intro m
  induction m with
  | zero =>
    intro i k ν hi hk hf h1 h2
    obtain ⟨k, rfl⟩ := suc_of hk
    obtain rfl : i = C := by omega
    have hqv : gI ν q 1 = nI i := by rw [hf.1 q (by omega)]; exact hq
    refine ⟨ν, ?_, hf, h1, h2⟩
    rw [f_X1_becomes_7]
    simp (disch := omega) only [ofN, lC_lt, lC_ge, lC_eq, lC_gt, lC_le, T_ltL, F_ltL, T_leL, F_leL, T_eqL, F_eqL, m1_0, lN_add, nI_lE, lN_i, ↓reduceIte, bind_s, T_lt, F_lt, T_le, F_le, T_eq, F_eq, F_neg, T_ltm, F_lem, F_ltm, nI_add, nI_mul, nI_sub, ldI_n, stI_n, aix_n, ldL_n, stL_n, ldF_n, gI_atE, gI_ne1, gI_ne2, gL_atE, gL_ne1, gL_ne2, gL_s, gI_s, w7T, w7F1, w7F2, and31, K0, K1, K2, K3, K4, K5, K6, K7, K8, K9, K10, K11, K12, K14, K16, K18, K20, K24, K29, K30, K31, K32, K33, K36, K38, K40, K41, K42, K48, K50, K51, K54, K57, K59, K60, K63, K70, K71, K84, K94, K97, K100, K101, K104, K108, K112, K120, K121, K122, K123, K124, K125, K127, K255, K300, K1000, K9999, K99999, K2147483647, hqv]
  | succ m ih =>
    intro i k ν hi hk hf h1 h2
    obtain ⟨k, rfl⟩ := suc_of hk
    have hqv : gI ν q 1 = nI C := by rw [hf.1 q (by omega)]; exact hq
    have hqr : ∀ x c, gI ν (q + 1 + 1 + i) c = gI μ (q + 1 + 1 + i) c := fun _ c => by rw [hf.1 _ (by omega)]
    have hadd := fun a b c => add6_yes (a := a) (b := b) (c := c) h1 (n := n) (by omega) (by omega)
    obtain ⟨ν', e1, e2, e3, e4⟩ := ih (i + 1) k (addM ν p i (gI ν (q + 1 + 1 + i) 0) (gI ν (q + 1 + 1 + i) 1) (gI ν (q + 1 + 1 + i) 2)) (by omega) (by omega) (fr_t hf (fr_add (by omega))) addM_c (fun x hx c hc => by
      by_cases h : x = i
      · subst h
        rcases (show c = 0 ∨ c = 1 ∨ c = 2 by omega) with rfl | rfl | rfl
        · rw [addM_0, hf.1 _ (by omega)]
        · rw [addM_1, hf.1 _ (by omega)]
        · rw [addM_2, hf.1 _ (by omega)]
      · rw [addM_ne (by omega) (by omega)]; exact h2 x (by omega) c hc)
    refine ⟨ν', ?_, e2, e3, e4⟩
    rw [f_X1_becomes_7]
    simp (disch := omega) only [ofN, lC_lt, lC_ge, lC_eq, lC_gt, lC_le, T_ltL, F_ltL, T_leL, F_leL, T_eqL, F_eqL, m1_0, lN_add, nI_lE, lN_i, ↓reduceIte, bind_s, T_lt, F_lt, T_le, F_le, T_eq, F_eq, F_neg, T_ltm, F_lem, F_ltm, nI_add, nI_mul, nI_sub, ldI_n, stI_n, aix_n, ldL_n, stL_n, ldF_n, gI_atE, gI_ne1, gI_ne2, gL_atE, gL_ne1, gL_ne2, gL_s, gI_s, w7T, w7F1, w7F2, and31, K0, K1, K2, K3, K4, K5, K6, K7, K8, K9, K10, K11, K12, K14, K16, K18, K20, K24, K29, K30, K31, K32, K33, K36, K38, K40, K41, K42, K48, K50, K51, K54, K57, K59, K60, K63, K70, K71, K84, K94, K97, K100, K101, K104, K108, K112, K120, K121, K122, K123, K124, K125, K127, K255, K300, K1000, K9999, K99999, K2147483647, hqv, hadd]
    exact e1
theorem rowsB {μ : Mem} {p q n C : Nat} (hd : p + 20 ≤ q ∨ q + 20 ≤ p) (hn : n ≤ 10) (hC : C ≤ n) (hq : gI μ q 1 = nI C) : ∃ ν', f_X1_becomes μ p n q n = some ν' ∧ fr p (p + 1 + 1 + n) μ ν' ∧ gI ν' p 1 = nI C ∧ ∀ x, x < C → ∀ c, c < 3 → gI ν' (p + 1 + 1 + x) c = gI μ (q + 1 + 1 + x) c := by
  unfold f_X1_becomes
  obtain ⟨N, hFU, hN⟩ : ∃ N, FU = N ∧ 4000 < N := ⟨FU, rfl, FU_p _ (by omega)⟩; rw [hFU]; clear hFU
  obtain ⟨ν', e1, e2, e3, e4⟩ := rowsB_l (μ := sI μ p 1 (nI 0)) (p := p) (q := q) (n := n) (C := C) hd hn hC (by rw [gI_ne1 (by omega)]; exact hq) C 0 N (sI μ p 1 (nI 0)) (by omega) (by omega) (fr_r _ _ _) (gI_at _ _ _ _) (fun x hx => by omega)
  refine ⟨ν', ?_, fr_t (fr_s (by omega)) e2, e3, fun x hx c hc => ?_⟩
  · simp only [bind_s]; exact e1
  · rw [e4 x hx c hc, gI_ne1 (by omega)]
theorem bec_l {μ : Mem} {p q : Nat} {σ : SG} (hd : p + 100 ≤ q ∨ q + 100 ≤ p) (hX : XS μ q σ) (ho : σ 0 0 ≤ 6 ∧ σ 27 0 ≤ 6 ∧ σ 31 0 ≤ 10 ∧ σ 34 0 ≤ 8) : ∀ m i k ν, i + m = σ 0 0 → m < k → fr p (p + 60) μ ν → gI ν p 0 = nI (σ 0 0) → (∀ x, x < i → ∀ c, c < 14 → gI ν (p + 1 + 1 + x) c = gI μ (q + 1 + 1 + x) c) →
    ∃ ν', f_X2_becomes_10 p q k ν (nI i) = some ν' ∧ fr p (p + 60) μ ν' ∧ XS ν' p σ := by
  obtain ⟨⟨a1, a2, a3, a4⟩, b, ⟨c1, c2⟩, ⟨d1, d2⟩, e1, e2⟩ := hX
  intro m
  induction m with
  | zero =>
    intro i k ν hi hk hf h1 h2
    obtain ⟨k, rfl⟩ := suc_of hk
    obtain rfl : i = σ 0 0 := by omega
    rw [f_X2_becomes_10, if_pos (by rw [h1]; exact nI_le (by omega) (by omega))]
    simp only [bind_s]
    generalize hν1 : sI (sI (sI ν p 2 (gI ν q 2)) p 3 (gI (sI ν p 2 (gI ν q 2)) q 3)) p 4 (gI (sI (sI ν p 2 (gI ν q 2)) p 3 (gI (sI ν p 2 (gI ν q 2)) q 3)) q 4) = ν1
    have f1 : fr p (p + 60) μ ν1 := by rw [← hν1]; exact fr_t (fr_t (fr_t hf (fr_s (by omega))) (fr_s (by omega))) (fr_s (by omega))
    have g0 : gI ν1 p 0 = nI (σ 0 0) := by rw [← hν1]; simp (disch := omega) only [gI_atE, gI_ne1, gI_ne2, gL_atE, gL_ne1, gL_ne2, gL_s, gI_s, up_atE, up_n1, up_n2]; exact h1
    have g2 : gI ν1 p 2 = nI (σ 9 0) := by rw [← hν1]; simp (disch := omega) only [gI_atE, gI_ne1, gI_ne2, gL_atE, gL_ne1, gL_ne2, gL_s, gI_s, up_atE, up_n1, up_n2]; rw [hf.1 q (by omega)]; exact a2
    have g3 : gI ν1 p 3 = nI (σ 10 0) := by rw [← hν1]; simp (disch := omega) only [gI_atE, gI_ne1, gI_ne2, gL_atE, gL_ne1, gL_ne2, gL_s, gI_s, up_atE, up_n1, up_n2]; rw [hf.1 q (by omega)]; exact a3
    have g4 : gI ν1 p 4 = nI (σ 18 0) - 1 := by rw [← hν1]; simp (disch := omega) only [gI_atE, gI_ne1, gI_ne2, gL_atE, gL_ne1, gL_ne2, gL_s, gI_s, up_atE, up_n1, up_n2]; rw [hf.1 q (by omega)]; exact a4
    have gr : ∀ x, x < σ 0 0 → ∀ c, c < 14 → gI ν1 (p + 1 + 1 + x) c = gI μ (q + 1 + 1 + x) c := fun x hx c hc => by rw [← hν1]; simp (disch := omega) only [gI_atE, gI_ne1, gI_ne2, gL_atE, gL_ne1, gL_ne2, gL_s, gI_s, up_atE, up_n1, up_n2]; exact h2 x hx c hc
    obtain ⟨ν2, r1, f2, r2, r3⟩ := rowsB (μ := ν1) (p := p + 10) (q := q + 10) (n := 6) (C := σ 27 0) (by omega) (by omega) (by omega) (by rw [f1.1 _ (by omega)]; exact c1)
    obtain ⟨ν3, s1, f3, s2, s3⟩ := rowsB (μ := ν2) (p := p + 30) (q := q + 30) (n := 10) (C := σ 31 0) (by omega) (by omega) (by omega) (by rw [f2.1 _ (by omega), f1.1 _ (by omega)]; exact d1)
    obtain ⟨ν4, t1, f4, t2, t3⟩ := rowsB (μ := ν3) (p := p + 50) (q := q + 50) (n := 8) (C := σ 34 0) (by omega) (by omega) (by omega) (by rw [f3.1 _ (by omega), f2.1 _ (by omega), f1.1 _ (by omega)]; exact e1)
    refine ⟨ν4, ?_, fr_t (fr_t (fr_t f1 (fr_w f2 (by omega) (by omega))) (fr_w f3 (by omega) (by omega))) (fr_w f4 (by omega) (by omega)), ?_⟩
    · rw [r1]; simp only [bind_s]; rw [s1]; simp only [bind_s]; rw [t1]; simp only [bind_s]
    · have hp : ∀ k, p ≤ k → k < p + 10 → gI ν4 k = gI ν1 k := fun k q1 q2 => by rw [f4.1 k (by omega), f3.1 k (by omega), f2.1 k (by omega)]
      refine ⟨⟨?_, ?_, ?_, ?_⟩, fun x hx => ⟨fun c hc => ?_, fun z hz => ?_⟩, ⟨?_, fun x hx => ⟨?_, ?_, ?_⟩⟩, ⟨?_, fun x hx => ⟨?_, fun h0 => ?_⟩⟩, ?_, fun x hx => ⟨?_, ?_⟩⟩
      · rw [hp p (by omega) (by omega)]; exact g0
      · rw [hp p (by omega) (by omega)]; exact g2
      · rw [hp p (by omega) (by omega)]; exact g3
      · rw [hp p (by omega) (by omega)]; exact g4
      · rw [hp _ (by omega) (by omega), gr x hx c (by omega)]; exact (b x hx).1 c hc
      · rw [hp _ (by omega) (by omega), gr x hx _ (by omega)]; exact (b x hx).2 z hz
      · rw [f4.1 _ (by omega), f3.1 _ (by omega)]; exact r2
      · rw [f4.1 _ (by omega), f3.1 _ (by omega), r3 x hx 0 (by omega), f1.1 _ (by omega)]; exact (c2 x hx).1
      · rw [f4.1 _ (by omega), f3.1 _ (by omega), r3 x hx 1 (by omega), f1.1 _ (by omega)]; exact (c2 x hx).2.1
      · rw [f4.1 _ (by omega), f3.1 _ (by omega), r3 x hx 2 (by omega), f1.1 _ (by omega)]; exact (c2 x hx).2.2
      · rw [f4.1 _ (by omega)]; exact s2
      · rw [f4.1 _ (by omega), s3 x hx 0 (by omega), f2.1 _ (by omega), f1.1 _ (by omega)]; exact (d2 x hx).1
      · rw [f4.1 _ (by omega), s3 x hx 1 (by omega), f2.1 _ (by omega), f1.1 _ (by omega)]; exact (d2 x hx).2 h0
      · exact t2
      · rw [t3 x hx 0 (by omega), f3.1 _ (by omega), f2.1 _ (by omega), f1.1 _ (by omega)]; exact (e2 x hx).1
      · rw [t3 x hx 1 (by omega), f3.1 _ (by omega), f2.1 _ (by omega), f1.1 _ (by omega)]; exact (e2 x hx).2
  | succ m ih =>
    intro i k ν hi hk hf h1 h2
    obtain ⟨k, rfl⟩ := suc_of hk
    have hcp := cpI_n (μ := ν) (k := q + 1 + 1 + i) (n := 14) (i := 0) (k' := p + 1 + 1 + i) (n' := 14) (j := 0) (w := 14) (by omega) (by omega) (by omega) (by omega)
    obtain ⟨ν', w1, w2, w3⟩ := ih (i + 1) k (sR ν (p + 1 + 1 + i) (va_cpy (gI ν (q + 1 + 1 + i)) (gI ν (p + 1 + 1 + i)) 0 0 14)) (by omega) (by omega) (fr_t hf (fr_sR (by omega))) (by rw [gI_sR, if_neg (by omega)]; exact h1) (fun x hx c hc => by
      rw [gI_sR]
      by_cases h : x = i
      · subst h
        rw [if_pos rfl, show va_cpy (gI ν (q + 1 + 1 + x)) (gI ν (p + 1 + 1 + x)) 0 0 14 c = gI ν (q + 1 + 1 + x) (0 + (c - 0)) from if_pos (by omega), hf.1 _ (by omega), Nat.zero_add, Nat.sub_zero]
      · rw [if_neg (by omega)]; exact h2 x (by omega) c hc)
    refine ⟨ν', ?_, w2, w3⟩
    rw [f_X2_becomes_10]
    simp (disch := omega) only [ofN, lC_lt, lC_ge, lC_eq, lC_gt, lC_le, T_ltL, F_ltL, T_leL, F_leL, T_eqL, F_eqL, m1_0, lN_add, nI_lE, lN_i, ↓reduceIte, bind_s, T_lt, F_lt, T_le, F_le, T_eq, F_eq, F_neg, T_ltm, F_lem, F_ltm, nI_add, nI_mul, nI_sub, ldI_n, stI_n, aix_n, ldL_n, stL_n, ldF_n, gI_atE, gI_ne1, gI_ne2, gL_atE, gL_ne1, gL_ne2, gL_s, gI_s, w7T, w7F1, w7F2, and31, K0, K1, K2, K3, K4, K5, K6, K7, K8, K9, K10, K11, K12, K14, K16, K18, K20, K24, K29, K30, K31, K32, K33, K36, K38, K40, K41, K42, K48, K50, K51, K54, K57, K59, K60, K63, K70, K71, K84, K94, K97, K100, K101, K104, K108, K112, K120, K121, K122, K123, K124, K125, K127, K255, K300, K1000, K9999, K99999, K2147483647, h1, hcp]
    exact w1
theorem bec {μ : Mem} {p q : Nat} {σ : SG} (hd : p + 100 ≤ q ∨ q + 100 ≤ p) (hX : XS μ q σ) (ho : σ 0 0 ≤ 6 ∧ σ 27 0 ≤ 6 ∧ σ 31 0 ≤ 10 ∧ σ 34 0 ≤ 8) : ∃ ν', f_X2_becomes μ p q = some ν' ∧ fr p (p + 60) μ ν' ∧ XS ν' p σ := by
  unfold f_X2_becomes
  obtain ⟨N, hFU, hN⟩ : ∃ N, FU = N ∧ 4000 < N := ⟨FU, rfl, FU_p _ (by omega)⟩; rw [hFU]; clear hFU
  have hX' : XS (sI μ p 0 (nI (σ 0 0))) q σ := XS_c (fun k h1 h2 => gI_sI_ne (by omega)) hX ho
  obtain ⟨ν', e1, e2, e3⟩ := bec_l hd hX' ho (σ 0 0) 0 N (sI μ p 0 (nI (σ 0 0))) (by omega) (by omega) (fr_r _ _ _) (gI_at _ _ _ _) (fun x hx => by omega)
  refine ⟨ν', ?_, fr_t (fr_s (by omega)) e2, e3⟩
  simp only [bind_s]
  rw [hX.1.1]
  exact e1
