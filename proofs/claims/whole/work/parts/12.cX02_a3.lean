/-- what is shown of each method that changes no more than now -/
def Same (T : PT) (μ : Mem) {α : Type} (fx fm : Mem → Option (α × Mem)) : Prop := ∃ r μ1 μ2 σ, fx μ = some (r, μ1) ∧ fm μ1 = some (r, μ2) ∧ RR (now T σ) μ2
theorem now_0 (T : PT) : now T (T.1 0) = T := by
  unfold now
  have : (fun a => if a = 0 then T.1 0 else T.1 a) = T.1 := by funext a; by_cases h : a = 0 <;> simp [h]
  rw [this]
theorem same_q {T : PT} {μ : Mem} {α : Type} {r : α} {fx fm : Mem → Option (α × Mem)} (hR : RR T μ) (h1 : fx μ = some (r, μ)) (h2 : fm μ = some (r, μ)) : Same T μ fx fm :=
  ⟨r, μ, μ, T.1 0, h1, h2, by rw [now_0]; exact hR⟩
theorem same_n {T : PT} {μ : Mem} {α : Type} {r : α} {μ1 μ2 : Mem} {σ : SG} {fx fm : Mem → Option (α × Mem)} (hR : RR T μ) (h1 : fx μ = some (r, μ1)) (h2 : fm μ1 = some (r, μ2)) (hx : XO μ μ1) (hX : XS μ1 100 σ) (hm : MO μ1 μ2) (hM : MS μ2 σ) (ho : okS 9999 (T.1 2 17 0) σ) : Same T μ fx fm :=
  ⟨r, μ1, μ2, σ, h1, h2, R_now hR hx hX hm hM ho⟩
theorem XO_s {μ : Mem} {k i : Nat} {v : Int32} (h : 100 ≤ k ∧ k < 160 ∨ 300 ≤ k ∧ k < 360) : XO μ (sI μ k i v) := fun q h1 h2 => ⟨gI_sI_ne (by omega), rfl⟩
theorem MO_s {μ : Mem} {k i : Nat} {v : Int32} (h : mrow k) : MO μ (sI μ k i v) := ⟨fun q h1 h2 => gI_sI_ne (fun e => h1 (by rw [e]; exact h)), fun j hj => gI_ne1 (fun e => by unfold mrow at h; omega), fun q => rfl⟩
theorem MO_f {μ : Mem} {i : Nat} {v : Int32} (h : mfld i) : MO μ (sI μ 2000 i v) := ⟨fun q h1 h2 => gI_sI_ne h2, fun j hj => gI_ne2 (fun e => hj (by rw [e]; exact h)), fun q => rfl⟩
theorem fld {μ : Mem} {k j a b f i v a' b' : Nat} {w : Int32} {σ : SG} (h : gI μ a b = nI (σ a' b')) (hi : (a = k ∧ b = j) ↔ (a' = f ∧ b' = i)) (hw : w = nI v) : gI (sI μ k j w) a b = nI (up σ f i v a' b') := by
  unfold up
  rw [gI_sI]
  by_cases q : a = k ∧ b = j
  · rw [if_pos q, if_pos (hi.mp q), hw]
  · rw [if_neg q, if_neg (fun z => q (hi.mpr z)), h]
theorem fld1 {μ : Mem} {k j a b f i v a' b' : Nat} {w : Int32} {σ : SG} (h : gI μ a b = nI (σ a' b') - 1) (hi : (a = k ∧ b = j) ↔ (a' = f ∧ b' = i)) (hw : w = nI v - 1) : gI (sI μ k j w) a b = nI (up σ f i v a' b') - 1 := by
  unfold up
  rw [gI_sI]
  by_cases q : a = k ∧ b = j
  · rw [if_pos q, if_pos (hi.mp q), hw]
  · rw [if_neg q, if_neg (fun z => q (hi.mpr z)), h]
/-- one number of a state changes, in the class .. -/
theorem XS_up {μ : Mem} {S k j f i v : Nat} {w : Int32} {σ : SG} (hX : XS μ S σ) (hn : σ 0 0 ≤ 6 ∧ σ 27 0 ≤ 6 ∧ σ 31 0 ≤ 10 ∧ σ 34 0 ≤ 8) (hw : w = nI v)
    (hk : (k = S ∧ j = 2 ∧ f = 9 ∧ i = 0) ∨ (k = S ∧ j = 3 ∧ f = 10 ∧ i = 0) ∨ (∃ e c, e < 6 ∧ c < 7 ∧ k = S + 1 + 1 + e ∧ j = c ∧ f = c + 1 ∧ i = e) ∨ (∃ e q, e < 6 ∧ q < 4 ∧ k = S + 1 + 1 + e ∧ j = 10 + q ∧ f = 8 ∧ i = 4 * e + q)) :
    XS (sI μ k j w) S (up σ f i v) := by
  obtain ⟨⟨a1, a2, a3, a4⟩, b, ⟨c1, c2⟩, ⟨d1, d2⟩, e1, e2⟩ := hX
  have f0 : f ≠ 0 ∧ f ≠ 27 ∧ f ≠ 31 ∧ f ≠ 34 ∧ f ≠ 28 ∧ f ≠ 29 ∧ f ≠ 30 ∧ f ≠ 32 ∧ f ≠ 33 ∧ f ≠ 35 ∧ f ≠ 36 ∧ f ≠ 18 ∧ (S ≤ k ∧ k < S + 8) := by
    rcases hk with h | h | ⟨e, c, h⟩ | ⟨e, c, h⟩ <;> omega
  obtain ⟨f1, f2, f3, f4, f5, f6, f7, f8, f9, f10, f11, f12, hkS⟩ := f0
  have u0 : up σ f i v 0 0 = σ 0 0 := up_n1 (Ne.symm f1)
  have u27 : up σ f i v 27 0 = σ 27 0 := up_n1 (Ne.symm f2)
  have u31 : up σ f i v 31 0 = σ 31 0 := up_n1 (Ne.symm f3)
  have u34 : up σ f i v 34 0 = σ 34 0 := up_n1 (Ne.symm f4)
  have u32 : ∀ x, up σ f i v 32 x = σ 32 x := fun x => up_n1 (Ne.symm f8)
  unfold XS
  rw [u0, u27, u31, u34]
  refine ⟨⟨?_, fld a2 ?_ hw, fld a3 ?_ hw, ?_⟩, fun e he => ⟨fun c hc => fld ((b e he).1 c hc) ?_ hw, fun q hq => fld ((b e he).2 q hq) ?_ hw⟩, ⟨?_, fun x hx => ⟨fld (c2 x hx).1 ?_ hw, fld (c2 x hx).2.1 ?_ hw, fld (c2 x hx).2.2 ?_ hw⟩⟩, ⟨?_, fun x hx => ⟨fld (d2 x hx).1 ?_ hw, fun h0 => fld ((d2 x hx).2 (by rw [← u32]; exact h0)) ?_ hw⟩⟩, ?_, fun x hx => ⟨fld (e2 x hx).1 ?_ hw, fld (e2 x hx).2 ?_ hw⟩⟩
  · rw [gI_sI, if_neg (by rcases hk with h | h | ⟨e', c', h⟩ | ⟨e', c', h⟩ <;> omega)]; exact a1
  · rcases hk with h | h | ⟨e', c', h⟩ | ⟨e', c', h⟩ <;> omega
  · rcases hk with h | h | ⟨e', c', h⟩ | ⟨e', c', h⟩ <;> omega
  · rw [up_n1 (Ne.symm f12), gI_sI, if_neg (by rcases hk with h | h | ⟨e', c', h⟩ | ⟨e', c', h⟩ <;> omega)]; exact a4
  · rcases hk with h | h | ⟨e', c', h⟩ | ⟨e', c', h⟩ <;> omega
  · rcases hk with h | h | ⟨e', c', h⟩ | ⟨e', c', h⟩ <;> omega
  · rw [gI_sI, if_neg (by omega)]; exact c1
  · omega
  · omega
  · omega
  · rw [gI_sI, if_neg (by omega)]; exact d1
  · omega
  · omega
  · rw [gI_sI, if_neg (by omega)]; exact e1
  · omega
  · omega
/-- .. in the reference -/
theorem MS_up {μ : Mem} {k j f i v : Nat} {w : Int32} {σ : SG} (hX : MS μ σ) (hw : w = nI v)
    (hk : (k = 2000 ∧ j = 9 ∧ f = 9 ∧ i = 0) ∨ (k = 2000 ∧ j = 10 ∧ f = 10 ∧ i = 0) ∨ (∃ c, c < 7 ∧ k = 2001 + c ∧ f = c + 1 ∧ i = j) ∨ (k = 2008 ∧ f = 8 ∧ i = j)) :
    MS (sI μ k j w) (up σ f i v) := by
  obtain ⟨⟨a1, a2, a3, a4⟩, b, ⟨c1, c2⟩, ⟨d1, d2⟩, e1, e2⟩ := hX
  have f0 : f ≠ 0 ∧ f ≠ 27 ∧ f ≠ 31 ∧ f ≠ 34 ∧ f ≠ 28 ∧ f ≠ 29 ∧ f ≠ 30 ∧ f ≠ 32 ∧ f ≠ 33 ∧ f ≠ 35 ∧ f ≠ 36 ∧ f ≠ 18 ∧ (2000 ≤ k ∧ k ≤ 2008) := by
    rcases hk with h | h | ⟨c, h⟩ | h <;> omega
  obtain ⟨f1, f2, f3, f4, f5, f6, f7, f8, f9, f10, f11, f12, hkS⟩ := f0
  have u0 : up σ f i v 0 0 = σ 0 0 := up_n1 (Ne.symm f1)
  have u27 : up σ f i v 27 0 = σ 27 0 := up_n1 (Ne.symm f2)
  have u31 : up σ f i v 31 0 = σ 31 0 := up_n1 (Ne.symm f3)
  have u34 : up σ f i v 34 0 = σ 34 0 := up_n1 (Ne.symm f4)
  have u32 : ∀ x, up σ f i v 32 x = σ 32 x := fun x => up_n1 (Ne.symm f8)
  unfold MS
  rw [u0, u27, u31, u34]
  refine ⟨⟨?_, fld a2 ?_ hw, fld a3 ?_ hw, ?_⟩, fun e he => ⟨fun c hc => fld ((b e he).1 c hc) ?_ hw, fun q hq => fld ((b e he).2 q hq) ?_ hw⟩, ⟨?_, fun x hx => ⟨fld (c2 x hx).1 ?_ hw, fld (c2 x hx).2.1 ?_ hw, fld (c2 x hx).2.2 ?_ hw⟩⟩, ⟨?_, fun x hx => ⟨fld (d2 x hx).1 ?_ hw, fun h0 => fld ((d2 x hx).2 (by rw [← u32]; exact h0)) ?_ hw⟩⟩, ?_, fun x hx => ⟨fld (e2 x hx).1 ?_ hw, fld (e2 x hx).2 ?_ hw⟩⟩
  · rw [gI_sI, if_neg (by rcases hk with h | h | ⟨c', h⟩ | h <;> omega)]; exact a1
  · rcases hk with h | h | ⟨c', h⟩ | h <;> omega
  · rcases hk with h | h | ⟨c', h⟩ | h <;> omega
  · rw [up_n1 (Ne.symm f12), gI_sI, if_neg (by rcases hk with h | h | ⟨c', h⟩ | h <;> omega)]; exact a4
  · rcases hk with h | h | ⟨c', h⟩ | h <;> omega
  · rcases hk with h | h | ⟨c', h⟩ | h <;> omega
  · rw [gI_sI, if_neg (by rcases hk with h | h | ⟨c', h⟩ | h <;> omega)]; exact c1
  · omega
  · omega
  · omega
  · rw [gI_sI, if_neg (by rcases hk with h | h | ⟨c', h⟩ | h <;> omega)]; exact d1
  · omega
  · omega
  · rw [gI_sI, if_neg (by rcases hk with h | h | ⟨c', h⟩ | h <;> omega)]; exact e1
  · omega
  · omega
/-- the reference's state is untouched by the class -/
theorem MS_X {μ μ' : Mem} {σ : SG} (h : ∀ k, 2000 ≤ k → gI μ' k = gI μ k) (hM : MS μ σ) : MS μ' σ := by
  unfold MS at hM ⊢
  rw [h 2000 (by omega), h 2008 (by omega), h 2028 (by omega), h 2029 (by omega), h 2030 (by omega), h 2032 (by omega), h 2033 (by omega), h 2035 (by omega), h 2036 (by omega)]
  refine ⟨hM.1, fun e he => ⟨fun c hc => ?_, (hM.2.1 e he).2⟩, hM.2.2⟩
  rw [h (2001 + c) (by omega)]
  exact (hM.2.1 e he).1 c hc
/-- .. and the bounds -/
theorem okS_up {W st f i v : Nat} {σ : SG} (h : okS W st σ) (hv : (f = 9 ∧ i = 0 ∧ v ≤ 127) ∨ (f = 10 ∧ i = 0 ∧ v ≤ 99999) ∨ (f = 1 ∧ v ≤ 6) ∨ (f = 2 ∧ v ≤ 9) ∨ (f = 3 ∧ 1 ≤ v ∧ v ≤ 30) ∨ (f = 4 ∧ v ≤ 29) ∨ (f = 5 ∧ v ≤ 1) ∨ (f = 6 ∧ v ≤ W) ∨ (f = 7 ∧ v ≤ W) ∨ (f = 8 ∧ v ≤ 9)) : okS W st (up σ f i v) := by
  have hf : ∀ a b, a ≠ f → up σ f i v a b = σ a b := fun a b q => up_n1 q
  obtain ⟨⟨a1, a2, a3, a4⟩, b, ⟨c1, c2⟩, ⟨d1, d2⟩, e1, e2⟩ := h
  unfold okS
  rw [hf 0 0 (by omega), hf 27 0 (by omega), hf 31 0 (by omega), hf 34 0 (by omega), hf 18 0 (by omega)]
  refine ⟨⟨a1, ?_, ?_, a4⟩, fun e he => ⟨?_, fun q hq => ?_⟩, ⟨c1, fun x hx => ?_⟩, ⟨d1, fun x hx => ?_⟩, e1, fun x hx => ?_⟩
  · unfold up; split <;> omega
  · unfold up; split <;> omega
  · have := (b e he).1
    unfold up
    refine ⟨?_, ?_, ?_, ?_, ?_, ?_, ?_, ?_⟩ <;> (split <;> omega)
  · have := (b e he).2 q hq
    unfold up; split <;> omega
  · rw [hf 28 x (by omega), hf 29 x (by omega), hf 30 x (by omega)]; exact c2 x hx
  · rw [hf 32 x (by omega), hf 33 x (by omega)]; exact d2 x hx
  · rw [hf 35 x (by omega), hf 36 x (by omega)]; exact e2 x hx
theorem s_listen {T : PT} {μ : Mem} (hR : RR T μ) (a : Int32) : Same T μ (fun μ => f_X6_listen μ a) (fun μ => f_X7_listen μ a) := by
  obtain ⟨⟨x1, _⟩, ⟨m1, _⟩, o1, _⟩ := id hR
  rcases arg a (lo := 0) (hi := 127) (A := 0) (B := 127) (C := 0) (D := 127) rfl rfl rfl rfl with ⟨n, h1, h2, h3, rfl, hx, hm⟩ | ⟨hn, hx, hm⟩
  · refine same_n (r := nI (T.1 0 9 0)) (σ := up (T.1 0) 9 0 n) (μ1 := sI μ 100 2 (nI n)) (μ2 := sI (sI μ 100 2 (nI n)) 2000 9 (nI n)) hR ?_ ?_ (XO_s (by omega)) (XS_up x1 o1.n rfl (by omega)) (MO_f (by unfold mfld; omega)) (MS_up (MS_X (fun k hk => gI_sI_ne (by omega)) m1) rfl (by omega)) (okS_up o1 (by omega))
    · show f_X6_listen μ _ = _; unfold f_X6_listen; rw [hx]; simp only [bind_s]; rw [if_neg (by decide), x1.1.2.1]
    · show f_X7_listen _ _ = _; unfold f_X7_listen; rw [hm]; simp only [bind_s]; rw [if_neg (by decide), gI_ne1 (by omega), m1.1.2.1]
  · exact same_q (r := -2) hR (by show f_X6_listen μ a = _; unfold f_X6_listen; rw [hx]; rfl) (by show f_X7_listen μ a = _; unfold f_X7_listen; rw [hm]; rfl)
