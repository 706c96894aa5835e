/-! the store -/
theorem XC_of {k0 H p : Nat} {tx : Nat → Nat} {ν : Mem} {l : List CL} (hP : PX k0 H tx ν ν p (cat l)) (hA : XA k0 ν l) (hcl : cat (ces l) = cat l) (hc : (cat l).length ≤ 100) : XC ν k0 l := by
  obtain ⟨a, b, c⟩ := hA
  refine ⟨a, b, fun i h => ?_⟩
  have e : (ces l)[i]? = some (ces l)[i] := List.getElem?_eq_getElem h
  obtain ⟨c1, c2⟩ := c i _ e
  have m := endX_m (ces l) (i + 1)
  have n := endX_n (ces l) i _ e
  rw [hcl] at m
  refine ⟨c1, c2, by omega, fun j hj => ?_⟩
  rw [hP.2.1.2 _ (by omega), ← hcl, cat_g (ces l) i j _ e hj, List.getD_eq_getElem?_getD, List.getElem?_eq_getElem hj]
  rfl
theorem MC_of {c0 st H p o : Nat} {tx : Nat → Nat} {ξ ξ' : Mem} {l : List CL} (hP : PM c0 H tx ξ ξ p (cat l) o) (hA : MA c0 st ξ l) (hl : l.length ≤ 10) (hst : st < 6) (hc : (cat l).length ≤ 100) (hc0 : c0 ≤ 100 * st) (h : ∀ k, 2020 ≤ k → k ≤ 2024 → gI ξ' k = gI ξ k) (hn : gI ξ' 2019 st = nI l.length) :
    MC ξ' st l ∧ ∀ i, (h : i < l.length) → ∃ b, gI ξ' 2022 (10 * st + i) = nI b ∧ b + l[i].2.2.length ≤ c0 + (cat l).length := by
  have key : ∀ i, (h : i < l.length) → endX l i + l[i].2.2.length ≤ (cat l).length := fun i h => by
    have e : l[i]? = some l[i] := List.getElem?_eq_getElem h
    have m := endX_m l (i + 1)
    have n := endX_n l i _ e
    omega
  refine ⟨⟨hn, fun i hi => ?_⟩, fun i hi => ⟨c0 + endX l i, ?_, ?_⟩⟩
  · have e : l[i]? = some l[i] := List.getElem?_eq_getElem hi
    have k := key i hi
    obtain ⟨a1, a2, a3, a4⟩ := hA i _ e
    rw [h 2020 (by omega) (by omega), h 2021 (by omega) (by omega), h 2022 (by omega) (by omega), h 2023 (by omega) (by omega), h 2024 (by omega) (by omega)]
    refine ⟨a1, a2, c0 + endX l i, by omega, by omega, a3, a4, fun j hj => ?_⟩
    rw [Nat.add_assoc, hP.2.1.2 _ (by omega), cat_g l i j _ e hj, List.getD_eq_getElem?_getD, List.getElem?_eq_getElem hj]
    rfl
  · rw [h 2022 (by omega) (by omega)]
    exact (hA i _ (List.getElem?_eq_getElem hi)).2.2.1
  · have := key i hi
    omega
theorem MC_k {c k st : Nat} {μ ξ : Mem} {l : List CL} (hc : c ≤ 600) (hk : k < st) (hl : l.length ≤ 10) (h : ∀ j, 2020 ≤ j → j ≤ 2023 → ∀ i, i < 10 * st → gI ξ j i = gI μ j i) (h4 : ∀ j, j < c → gI ξ 2024 j = gI μ 2024 j) (h9 : gI ξ 2019 k = gI μ 2019 k) (hM : MC μ k l) (hD : ∀ i, (h : i < l.length) → ∃ b, gI μ 2022 (10 * k + i) = nI b ∧ b + l[i].2.2.length ≤ c) :
    MC ξ k l ∧ ∀ i, (h : i < l.length) → ∃ b, gI ξ 2022 (10 * k + i) = nI b ∧ b + l[i].2.2.length ≤ c := by
  obtain ⟨m1, m2⟩ := hM
  refine ⟨⟨h9.trans m1, fun i hi => ?_⟩, fun i hi => ?_⟩
  · obtain ⟨a1, a2, b, a3, a4, a5, a6, a7⟩ := m2 i hi
    obtain ⟨b', d1, d2⟩ := hD i hi
    have hb : b = b' := by
      rw [a5, nI_eq (by omega) (by omega)] at d1
      exact d1
    rw [h 2020 (by omega) (by omega) _ (by omega), h 2021 (by omega) (by omega) _ (by omega), h 2022 (by omega) (by omega) _ (by omega), h 2023 (by omega) (by omega) _ (by omega)]
    refine ⟨a1, a2, b, a3, a4, a5, a6, fun j hj => ?_⟩
    rw [h4 _ (by omega)]
    exact a7 j hj
  · rw [h 2022 (by omega) (by omega) _ (by omega)]
    exact hD i hi
theorem XS_h {μ μ' : Mem} {S : Nat} {σ τ : SG} (hX : XS μ S σ) (hn : σ 0 0 ≤ 6 ∧ σ 27 0 ≤ 6 ∧ σ 31 0 ≤ 10 ∧ σ 34 0 ≤ 8) (ht : ∀ a b, a ≠ 18 → τ a b = σ a b) (hc : ∀ k, S < k → k < S + 60 → gI μ' k = gI μ k) (h0 : ∀ i, i ≠ 4 → gI μ' S i = gI μ S i) (h4 : gI μ' S 4 = nI (τ 18 0) - 1) : XS μ' S τ := by
  obtain ⟨⟨a1, a2, a3, a4⟩, b, ⟨c1, c2⟩, ⟨d1, d2⟩, e1, e2⟩ := hX
  have h1 := hc (S + 10) (by omega) (by omega)
  have h3 := hc (S + 30) (by omega) (by omega)
  have h5 := hc (S + 50) (by omega) (by omega)
  unfold XS
  rw [ht 0 0 (by omega), ht 9 0 (by omega), ht 10 0 (by omega), ht 27 0 (by omega), ht 31 0 (by omega), ht 34 0 (by omega), h0 0 (by omega), h0 2 (by omega), h0 3 (by omega), h1, h3, h5]
  refine ⟨⟨a1, a2, a3, h4⟩, fun e he => ⟨fun c hcc => ?_, fun q hq => ?_⟩, ⟨c1, fun i hi => ?_⟩, ⟨d1, fun i hi => ?_⟩, e1, fun i hi => ?_⟩
  · rw [hc _ (by omega) (by omega), ht _ _ (by omega)]; exact (b e he).1 c hcc
  · rw [hc _ (by omega) (by omega), ht _ _ (by omega)]; exact (b e he).2 q hq
  · rw [hc _ (by omega) (by omega), ht _ _ (by omega), ht _ _ (by omega), ht _ _ (by omega)]; exact c2 i hi
  · rw [hc _ (by omega) (by omega), ht 32 _ (by omega), ht 33 _ (by omega)]; exact d2 i hi
  · rw [hc _ (by omega) (by omega), ht _ _ (by omega), ht _ _ (by omega)]; exact e2 i hi
theorem MS_h {μ μ' : Mem} {σ τ : SG} (hX : MS μ σ) (ht : ∀ a b, a ≠ 18 → τ a b = σ a b) (hc : ∀ k, (2001 ≤ k ∧ k ≤ 2008) ∨ (2026 ≤ k ∧ k ≤ 2036) → gI μ' k = gI μ k) (h0 : ∀ i, i = 0 ∨ i = 9 ∨ i = 10 ∨ i = 27 ∨ i = 31 ∨ i = 34 → gI μ' 2000 i = gI μ 2000 i) (h4 : gI μ' 2000 18 = nI (τ 18 0) - 1) : MS μ' τ := by
  obtain ⟨⟨a1, a2, a3, a4⟩, b, ⟨c1, c2⟩, ⟨d1, d2⟩, e1, e2⟩ := hX
  unfold MS
  rw [ht 0 0 (by omega), ht 9 0 (by omega), ht 10 0 (by omega), ht 27 0 (by omega), ht 31 0 (by omega), ht 34 0 (by omega), h0 0 (by omega), h0 9 (by omega), h0 10 (by omega), h0 27 (by omega), h0 31 (by omega), h0 34 (by omega)]
  refine ⟨⟨a1, a2, a3, h4⟩, fun e he => ⟨fun c hcc => ?_, fun q hq => ?_⟩, ⟨c1, fun i hi => ?_⟩, ⟨d1, fun i hi => ?_⟩, e1, fun i hi => ?_⟩
  · rw [hc _ (by omega), ht _ _ (by omega)]; exact (b e he).1 c hcc
  · rw [hc _ (by omega), ht _ _ (by omega)]; exact (b e he).2 q hq
  · rw [hc 2028 (by omega), hc 2029 (by omega), hc 2030 (by omega), ht _ _ (by omega), ht _ _ (by omega), ht _ _ (by omega)]; exact c2 i hi
  · rw [hc 2032 (by omega), hc 2033 (by omega), ht 32 _ (by omega), ht 33 _ (by omega)]; exact d2 i hi
  · rw [hc 2035 (by omega), hc 2036 (by omega), ht _ _ (by omega), ht _ _ (by omega)]; exact e2 i hi
theorem okS_h {W st st' : Nat} {σ τ : SG} (h : okS W st σ) (ht : ∀ a b, a ≠ 18 → τ a b = σ a b) (h18 : τ 18 0 ≤ st') : okS W st' τ := by
  obtain ⟨⟨a1, a2, a3, a4⟩, b, ⟨c1, c2⟩, ⟨d1, d2⟩, e1, e2⟩ := h
  unfold okS
  rw [ht 0 0 (by omega), ht 9 0 (by omega), ht 10 0 (by omega), ht 27 0 (by omega), ht 31 0 (by omega), ht 34 0 (by omega)]
  refine ⟨⟨a1, a2, a3, h18⟩, fun e he => ⟨?_, fun q hq => ?_⟩, ⟨c1, fun i hi => ?_⟩, ⟨d1, fun i hi => ?_⟩, e1, fun i hi => ?_⟩
  · rw [ht 1 _ (by omega), ht 2 _ (by omega), ht 3 _ (by omega), ht 4 _ (by omega), ht 5 _ (by omega), ht 6 _ (by omega), ht 7 _ (by omega)]; exact (b e he).1
  · rw [ht _ _ (by omega)]; exact (b e he).2 q hq
  · rw [ht _ _ (by omega), ht _ _ (by omega), ht _ _ (by omega)]; exact c2 i hi
  · rw [ht 32 _ (by omega), ht 33 _ (by omega)]; exact d2 i hi
  · rw [ht _ _ (by omega), ht _ _ (by omega)]; exact e2 i hi
theorem R_store {T : PT} {μ ξ : Mem} {σ : SG} {st' : Nat} {lf : Nat → List CL} (hR : RR T μ) (hst : T.1 2 17 0 ≤ st' ∧ st' ≤ 6)
    (hX : XS ξ 100 σ) (hM : MS ξ σ) (hS : okS 9999 st' σ)
    (hc : ∀ k, k = 5 ∨ k = 6 ∨ (200 ≤ k ∧ k < 260) ∨ (1100 ≤ k ∧ k < 1112) ∨ k = 2038 ∨ k = 2040 ∨ k = 2042 ∨ k = 2043 → gI ξ k = gI μ k) (hL : ∀ k, gL ξ k = gL μ k) (h13 : gI ξ 1 3 = gI μ 1 3)
    (h39 : gI ξ 2000 39 = gI μ 2000 39) (h37 : gI ξ 2000 37 = gI μ 2000 37) (hx1 : gI ξ 2 1 = nI 0) (hm1 : gI ξ 2000 11 = nI 0) (hx6 : gI ξ 1 6 = nI st') (hm6 : gI ξ 2000 17 = nI st')
    (hC : ∀ k, k < st' → XC ξ (1000 + 10 * k) (lf k)) (hD : ∃ c, c ≤ 100 * st' ∧ gI ξ 2000 25 = nI c ∧ ∀ k, k < st' → MC ξ k (lf k) ∧ ∀ i, (h : i < (lf k).length) → ∃ b, gI ξ 2022 (10 * k + i) = nI b ∧ b + (lf k)[i].2.2.length ≤ c)
    (hO : ∀ k, k < st' → (lf k).length ≤ 10 ∧ ∀ q ∈ lf k, okC q) : ∃ T', RR T' ξ := by
  obtain ⟨⟨x1, ⟨x2, x2'⟩, ⟨x3, x3'⟩, ⟨x4, x4'⟩, ⟨x5, x5'⟩, x6⟩, ⟨m1, ⟨m2, m2'⟩, ⟨m3, m3'⟩, ⟨m4, m4'⟩, ⟨m5, m5'⟩, m6⟩, o1, ⟨o2, o2'⟩, ⟨o3, o3'⟩, ⟨o4, o4'⟩, o5, o6⟩ := hR
  have u17 : up (up (T.1 2) 17 0 st') 11 0 0 17 0 = st' := by rw [up_n1 (by omega), up_at]
  have u11 : up (up (T.1 2) 17 0 st') 11 0 0 11 0 = 0 := up_at _ _ _ _
  have u39 : up (up (T.1 2) 17 0 st') 11 0 0 39 0 = T.1 2 39 0 := by rw [up_n1 (by omega), up_n1 (by omega)]
  have u37 : up (up (T.1 2) 17 0 st') 11 0 0 37 0 = T.1 2 37 0 := by rw [up_n1 (by omega), up_n1 (by omega)]
  have u38 : ∀ i, up (up (T.1 2) 17 0 st') 11 0 0 38 i = T.1 2 38 i := fun i => by rw [up_n1 (by omega), up_n1 (by omega)]
  have u42 : ∀ i, up (up (T.1 2) 17 0 st') 11 0 0 42 i = T.1 2 42 i := fun i => by rw [up_n1 (by omega), up_n1 (by omega)]
  have u43 : ∀ i, up (up (T.1 2) 17 0 st') 11 0 0 43 i = T.1 2 43 i := fun i => by rw [up_n1 (by omega), up_n1 (by omega)]
  refine ⟨(fun a => if a = 0 then σ else if a = 2 then up (up (T.1 2) 17 0 st') 11 0 0 else T.1 a, T.2.1, lf), ⟨hX, ⟨?_, ?_⟩, ⟨?_, ?_⟩, ⟨?_, ?_⟩, ⟨?_, ?_⟩, fun t ht => ?_⟩, ⟨hM, ⟨?_, ?_⟩, ⟨?_, ?_⟩, ⟨?_, ?_⟩, ⟨?_, ?_⟩, fun t ht => ?_⟩, ?_, ⟨?_, ?_⟩, ⟨?_, ?_⟩, ⟨?_, ?_⟩, ?_, fun t ht => ?_⟩
  · show _ = nI (up (up (T.1 2) 17 0 st') 11 0 0 39 0); rw [u39, h13]; exact x2
  · show up (up (T.1 2) 17 0 st') 11 0 0 39 0 = 1 → XS ξ 200 (T.1 1)
    rw [u39]
    exact fun h => XS_c (fun k h1 h2 => hc k (by omega)) (x2' h) (o2' h).n
  · show _ = nI (up (up (T.1 2) 17 0 st') 11 0 0 11 0); rw [u11]; exact hx1
  · show ∀ i, i < up (up (T.1 2) 17 0 st') 11 0 0 11 0 → _
    rw [u11]; exact fun i hi => absurd hi (by omega)
  · show _ = nI (up (up (T.1 2) 17 0 st') 11 0 0 17 0); rw [u17]; exact hx6
  · show ∀ k, k < up (up (T.1 2) 17 0 st') 11 0 0 17 0 → XC ξ (1000 + 10 * k) (lf k)
    rw [u17]; exact hC
  · show _ = nI (up (up (T.1 2) 17 0 st') 11 0 0 37 0); rw [u37, hc 5 (by omega)]; exact x5
  · show ∀ i, i < up (up (T.1 2) 17 0 st') 11 0 0 37 0 → i < 20 → gI ξ 6 i = nI (up (up (T.1 2) 17 0 st') 11 0 0 38 i)
    rw [u37, hc 6 (by omega)]
    exact fun i hi h20 => by rw [u38]; exact x5' i hi h20
  · show gI ξ (1100 + 2 * t) 0 = nI (up (up (T.1 2) 17 0 st') 11 0 0 42 t) - 1 ∧ gI ξ (1100 + 2 * t) 1 = nI (up (up (T.1 2) 17 0 st') 11 0 0 43 t) ∧ ∀ i, i < 60 → gL ξ ((1100 + 2 * t) + 1) i = T.2.1 t i
    rw [u42, u43, hc _ (by omega), hL]
    exact x6 t ht
  · show _ = nI (up (up (T.1 2) 17 0 st') 11 0 0 39 0); rw [u39, h39]; exact m2
  · show up (up (T.1 2) 17 0 st') 11 0 0 39 0 = 1 → IM ξ 2040 (T.1 1)
    rw [u39]
    intro h
    have q := m2' h
    unfold IM at q ⊢
    rw [hc 2040 (by omega)]
    exact q
  · show _ = nI (up (up (T.1 2) 17 0 st') 11 0 0 11 0); rw [u11]; exact hm1
  · show ∀ i, i < up (up (T.1 2) 17 0 st') 11 0 0 11 0 → _
    rw [u11]; exact fun i hi => absurd hi (by omega)
  · show _ = nI (up (up (T.1 2) 17 0 st') 11 0 0 17 0); rw [u17]; exact hm6
  · show ∃ c, c ≤ 100 * up (up (T.1 2) 17 0 st') 11 0 0 17 0 ∧ gI ξ 2000 25 = nI c ∧ ∀ k, k < up (up (T.1 2) 17 0 st') 11 0 0 17 0 → MC ξ k (lf k) ∧ ∀ i, (h : i < (lf k).length) → ∃ b, gI ξ 2022 (10 * k + i) = nI b ∧ b + (lf k)[i].2.2.length ≤ c
    rw [u17]; exact hD
  · show _ = nI (up (up (T.1 2) 17 0 st') 11 0 0 37 0); rw [u37, h37]; exact m5
  · show ∀ i, i < up (up (T.1 2) 17 0 st') 11 0 0 37 0 → i < 20 → gI ξ 2038 i = nI (up (up (T.1 2) 17 0 st') 11 0 0 38 i)
    rw [u37, hc 2038 (by omega)]
    exact fun i hi h20 => by rw [u38]; exact m5' i hi h20
  · show gI ξ 2042 t = nI (up (up (T.1 2) 17 0 st') 11 0 0 42 t) - 1 ∧ gI ξ 2043 t = nI (up (up (T.1 2) 17 0 st') 11 0 0 43 t) ∧ ∀ i, i < 60 → gL ξ 2044 (60 * t + i) = T.2.1 t i
    rw [u42, u43, hc 2042 (by omega), hc 2043 (by omega), hL]
    exact m6 t ht
  · show okS 9999 (up (up (T.1 2) 17 0 st') 11 0 0 17 0) σ
    rw [u17]; exact hS
  · show up (up (T.1 2) 17 0 st') 11 0 0 39 0 ≤ 1
    rw [u39]; exact o2
  · show up (up (T.1 2) 17 0 st') 11 0 0 39 0 = 1 → okS 9999 (up (up (T.1 2) 17 0 st') 11 0 0 17 0) (T.1 1)
    rw [u39, u17]
    exact fun h => okS_h (o2' h) (fun _ _ _ => rfl) (Nat.le_trans (o2' h).1.2.2.2 hst.1)
  · show up (up (T.1 2) 17 0 st') 11 0 0 11 0 ≤ 100
    rw [u11]; exact Nat.zero_le _
  · show ∀ i, i < up (up (T.1 2) 17 0 st') 11 0 0 11 0 → _
    rw [u11]; exact fun i hi => absurd hi (by omega)
  · show up (up (T.1 2) 17 0 st') 11 0 0 17 0 ≤ 6
    rw [u17]; exact hst.2
  · show ∀ k, k < up (up (T.1 2) 17 0 st') 11 0 0 17 0 → (lf k).length ≤ 10 ∧ ∀ q ∈ lf k, okC q
    rw [u17]; exact hO
  · show up (up (T.1 2) 17 0 st') 11 0 0 37 0 ≤ 100000
    rw [u37]; exact o5
  · show up (up (T.1 2) 17 0 st') 11 0 0 42 t ≤ 5 ∧ up (up (T.1 2) 17 0 st') 11 0 0 43 t ≤ 60 ∧ (up (up (T.1 2) 17 0 st') 11 0 0 42 t = 0 → up (up (T.1 2) 17 0 st') 11 0 0 43 t = 0)
    rw [u42, u43]; exact o6 t ht
