/-! the abstract state -/
abbrev CL : Type := Nat × Nat × List Nat
abbrev SG : Type := Nat → Nat → Nat
abbrev PT : Type := (Nat → SG) × (Nat → Nat → Int64) × (Nat → List CL)
def up (σ : SG) (f i v : Nat) : SG := fun a b => if a = f ∧ b = i then v else σ a b
theorem up_at (σ : SG) (f i v : Nat) : up σ f i v f i = v := if_pos ⟨rfl, rfl⟩
theorem up_n1 {σ : SG} {f i v a b : Nat} (h : a ≠ f) : up σ f i v a b = σ a b := if_neg (fun q => h q.1)
theorem up_n2 {σ : SG} {f i v a b : Nat} (h : b ≠ i) : up σ f i v a b = σ a b := if_neg (fun q => h q.2)
/-- a state of the class -/
def XS (μ : Mem) (S : Nat) (σ : SG) : Prop :=
  (gI μ S 0 = nI (σ 0 0) ∧ gI μ S 2 = nI (σ 9 0) ∧ gI μ S 3 = nI (σ 10 0) ∧ gI μ S 4 = nI (σ 18 0) - 1) ∧
  (∀ e, e < σ 0 0 → (∀ c, c < 7 → gI μ (S + 1 + 1 + e) c = nI (σ (c + 1) e)) ∧ ∀ q, q < 4 → gI μ (S + 1 + 1 + e) (10 + q) = nI (σ 8 (4 * e + q))) ∧
  (gI μ (S + 10) 1 = nI (σ 27 0) ∧ ∀ i, i < σ 27 0 → gI μ ((S + 10) + 1 + 1 + i) 0 = nI (σ 28 i) ∧ gI μ ((S + 10) + 1 + 1 + i) 1 = nI (σ 29 i) ∧ gI μ ((S + 10) + 1 + 1 + i) 2 = nI (σ 30 i)) ∧
  (gI μ (S + 30) 1 = nI (σ 31 0) ∧ ∀ i, i < σ 31 0 → gI μ ((S + 30) + 1 + 1 + i) 0 = nI (σ 32 i) ∧ (σ 32 i ≠ 0 → gI μ ((S + 30) + 1 + 1 + i) 1 = nI (σ 33 i))) ∧
  (gI μ (S + 50) 1 = nI (σ 34 0) ∧ ∀ i, i < σ 34 0 → gI μ ((S + 50) + 1 + 1 + i) 0 = nI (σ 35 i) ∧ gI μ ((S + 50) + 1 + 1 + i) 1 = nI (σ 36 i))
/-- .. of the reference -/
def MS (μ : Mem) (σ : SG) : Prop :=
  (gI μ 2000 0 = nI (σ 0 0) ∧ gI μ 2000 9 = nI (σ 9 0) ∧ gI μ 2000 10 = nI (σ 10 0) ∧ gI μ 2000 18 = nI (σ 18 0) - 1) ∧
  (∀ e, e < σ 0 0 → (∀ c, c < 7 → gI μ (2001 + c) e = nI (σ (c + 1) e)) ∧ ∀ q, q < 4 → gI μ 2008 (4 * e + q) = nI (σ 8 (4 * e + q))) ∧
  (gI μ 2000 27 = nI (σ 27 0) ∧ ∀ i, i < σ 27 0 → gI μ 2028 i = nI (σ 28 i) ∧ gI μ 2029 i = nI (σ 29 i) ∧ gI μ 2030 i = nI (σ 30 i)) ∧
  (gI μ 2000 31 = nI (σ 31 0) ∧ ∀ i, i < σ 31 0 → gI μ 2032 i = nI (σ 32 i) ∧ (σ 32 i ≠ 0 → gI μ 2033 i = nI (σ 33 i))) ∧
  (gI μ 2000 34 = nI (σ 34 0) ∧ ∀ i, i < σ 34 0 → gI μ 2035 i = nI (σ 35 i) ∧ gI μ 2036 i = nI (σ 36 i))
/-- .. of the reference's image: 126 cells -/
def IM (μ : Mem) (k : Nat) (σ : SG) : Prop :=
  (gI μ k 120 = nI (σ 0 0) ∧ gI μ k 121 = nI (σ 9 0) ∧ gI μ k 122 = nI (σ 10 0) ∧ gI μ k 125 = nI (σ 18 0) - 1) ∧
  (∀ e, e < σ 0 0 → (∀ c, c < 7 → gI μ k (6 * c + e) = nI (σ (c + 1) e)) ∧ ∀ q, q < 4 → gI μ k (60 + (4 * e + q)) = nI (σ 8 (4 * e + q))) ∧
  (gI μ k 123 = nI (σ 27 0) ∧ ∀ i, i < σ 27 0 → gI μ k (42 + i) = nI (σ 28 i) ∧ gI μ k (48 + i) = nI (σ 29 i) ∧ gI μ k (54 + i) = nI (σ 30 i)) ∧
  (gI μ k 124 = nI (σ 31 0 + 100 * σ 34 0) ∧ ∀ i, i < σ 31 0 → gI μ k (84 + i) = nI (σ 32 i) ∧ (σ 32 i ≠ 0 → gI μ k (94 + i) = nI (σ 33 i))) ∧
  (∀ i, i < σ 34 0 → gI μ k (104 + i) = nI (σ 35 i) ∧ gI μ k (112 + i) = nI (σ 36 i))
def okS (W st : Nat) (σ : SG) : Prop :=
  (σ 0 0 ≤ 6 ∧ σ 9 0 ≤ 127 ∧ σ 10 0 ≤ 99999 ∧ σ 18 0 ≤ st) ∧
  (∀ e, e < σ 0 0 → (σ 1 e ≤ 6 ∧ σ 2 e ≤ 9 ∧ 1 ≤ σ 3 e ∧ σ 3 e ≤ 30 ∧ σ 4 e ≤ 29 ∧ σ 5 e ≤ 1 ∧ σ 6 e ≤ W ∧ σ 7 e ≤ W) ∧ ∀ q, q < 4 → σ 8 (4 * e + q) ≤ 9) ∧
  (σ 27 0 ≤ 6 ∧ ∀ i, i < σ 27 0 → σ 28 i < σ 0 0 ∧ σ 29 i ≤ 60 ∧ σ 30 i ≤ 1) ∧
  (σ 31 0 ≤ 10 ∧ ∀ i, i < σ 31 0 → σ 32 i ≤ 3 ∧ (σ 32 i = 1 ∨ σ 32 i = 2 → σ 33 i < σ 0 0) ∧ (σ 32 i = 3 → σ 33 i ≤ 127)) ∧
  (σ 34 0 ≤ 8 ∧ ∀ i, i < σ 34 0 → σ 35 i < σ 0 0 ∧ σ 36 i ≤ 9999)
/-- the class's token for the reference's code -/
def tokX (c : Nat) : Int32 := if c = 0 then -1 else if c = 1 then -2 else if c = 2 then -3 else nI ((c - 3) / 300 * 1000 + (c - 3) / 100 % 3 * 100 + (c - 3) % 100)
/-- how high the stack of answers stands behind some codes; none: too high or too low -/
def dep : List Nat → Nat → Option Nat
  | [], d => some d
  | c :: cs, d => if c = 0 then (if 1 ≤ d then dep cs d else none) else if c ≤ 2 then (if 2 ≤ d then dep cs (d - 1) else none) else if c < 1803 then (if d < 20 then dep cs (d + 1) else none) else none
/-- the clauses that aren't all .. -/
def ces (l : List CL) : List CL := l.filter (fun q => q.1 < 2)
/-- .. and the n of the last of all -/
def allN (l : List CL) : Nat := l.foldl (fun n q => if q.1 = 2 then q.2.1 else n) 0
def okC (q : CL) : Prop := q.1 ≤ 2 ∧ q.2.1 ≤ 99 ∧ q.2.2.length ≤ 100 ∧ (q.1 < 2 → dep q.2.2 0 = some 1)
/-- the place where the codes of the i-th clause end, all in a row -/
def endX (l : List CL) (i : Nat) : Nat := ((l.take i).map (fun q => q.2.2.length)).sum
def XC (μ : Mem) (k : Nat) (l : List CL) : Prop :=
  gI μ k 0 = nI (allN l) ∧ gI μ k 1 = nI (ces l).length ∧
  ∀ i, (h : i < (ces l).length) → gI μ (k + 1) i = (if (ces l)[i].1 = 0 then nI (ces l)[i].2.1 else -nI (ces l)[i].2.1) ∧ gI μ (k + 2) i = nI (endX (ces l) (i + 1)) ∧ endX (ces l) (i + 1) ≤ 100 ∧
    ∀ j, (hj : j < (ces l)[i].2.2.length) → gI μ (k + 3) (endX (ces l) i + j) = tokX (ces l)[i].2.2[j]
def MC (μ : Mem) (k : Nat) (l : List CL) : Prop :=
  gI μ 2019 k = nI l.length ∧
  ∀ i, (h : i < l.length) → gI μ 2020 (10 * k + i) = nI l[i].1 ∧ gI μ 2021 (10 * k + i) = nI l[i].2.1 ∧
    ∃ b, b + l[i].2.2.length ≤ 800 ∧ b + l[i].2.2.length ≤ 100 * (k + 1) ∧ gI μ 2022 (10 * k + i) = nI b ∧ gI μ 2023 (10 * k + i) = nI l[i].2.2.length ∧ ∀ j, (hj : j < l[i].2.2.length) → gI μ 2024 (b + j) = nI l[i].2.2[j]
def RX (T : PT) (μ : Mem) : Prop :=
  XS μ 100 (T.1 0) ∧ (gI μ 1 3 = nI (T.1 2 39 0) ∧ (T.1 2 39 0 = 1 → XS μ 200 (T.1 1))) ∧
  (gI μ 2 1 = nI (T.1 2 11 0) ∧ ∀ i, i < T.1 2 11 0 → gI μ 3 i = nI (T.1 2 12 i)) ∧
  (gI μ 1 6 = nI (T.1 2 17 0) ∧ ∀ k, k < T.1 2 17 0 → XC μ (1000 + 10 * k) (T.2.2 k)) ∧
  (gI μ 5 1 = nI (T.1 2 37 0) ∧ ∀ i, i < T.1 2 37 0 → i < 20 → gI μ 6 i = nI (T.1 2 38 i)) ∧
  (∀ t, t < 6 → gI μ (1100 + 2 * t) 0 = nI (T.1 2 42 t) - 1 ∧ gI μ (1100 + 2 * t) 1 = nI (T.1 2 43 t) ∧ ∀ i, i < 60 → gL μ ((1100 + 2 * t) + 1) i = T.2.1 t i)
def RM (T : PT) (μ : Mem) : Prop :=
  MS μ (T.1 0) ∧ (gI μ 2000 39 = nI (T.1 2 39 0) ∧ (T.1 2 39 0 = 1 → IM μ 2040 (T.1 1))) ∧
  (gI μ 2000 11 = nI (T.1 2 11 0) ∧ ∀ i, i < T.1 2 11 0 → gI μ 2012 i = nI (T.1 2 12 i)) ∧
  (gI μ 2000 17 = nI (T.1 2 17 0) ∧ (∃ c, c ≤ 100 * T.1 2 17 0 ∧ gI μ 2000 25 = nI c ∧ ∀ k, k < T.1 2 17 0 → MC μ k (T.2.2 k) ∧ ∀ i, (h : i < (T.2.2 k).length) → ∃ b, gI μ 2022 (10 * k + i) = nI b ∧ b + (T.2.2 k)[i].2.2.length ≤ c)) ∧
  (gI μ 2000 37 = nI (T.1 2 37 0) ∧ ∀ i, i < T.1 2 37 0 → i < 20 → gI μ 2038 i = nI (T.1 2 38 i)) ∧
  (∀ t, t < 6 → gI μ 2042 t = nI (T.1 2 42 t) - 1 ∧ gI μ 2043 t = nI (T.1 2 43 t) ∧ ∀ i, i < 60 → gL μ 2044 (60 * t + i) = T.2.1 t i)
def okT (T : PT) : Prop :=
  okS 9999 (T.1 2 17 0) (T.1 0) ∧ (T.1 2 39 0 ≤ 1 ∧ (T.1 2 39 0 = 1 → okS 9999 (T.1 2 17 0) (T.1 1))) ∧ (T.1 2 11 0 ≤ 100 ∧ ∀ i, i < T.1 2 11 0 → T.1 2 12 i ≤ 127) ∧
  (T.1 2 17 0 ≤ 6 ∧ ∀ k, k < T.1 2 17 0 → (T.2.2 k).length ≤ 10 ∧ ∀ q ∈ T.2.2 k, okC q) ∧ T.1 2 37 0 ≤ 100000 ∧ (∀ t, t < 6 → T.1 2 42 t ≤ 5 ∧ T.1 2 43 t ≤ 60 ∧ (T.1 2 42 t = 0 → T.1 2 43 t = 0))
def RR (T : PT) (μ : Mem) : Prop := RX T μ ∧ RM T μ ∧ okT T
def now (T : PT) (σ : SG) : PT := (fun a => if a = 0 then σ else T.1 a, T.2)
/-! what a method leaves -/
def XO (μ μ' : Mem) : Prop := ∀ k, ¬ (100 ≤ k ∧ k < 160) → ¬ (300 ≤ k ∧ k < 360) → gI μ' k = gI μ k ∧ gL μ' k = gL μ k
def mrow (k : Nat) : Prop := (2001 ≤ k ∧ k ≤ 2008) ∨ (2026 ≤ k ∧ k ≤ 2036) ∨ k = 2041
def mfld (i : Nat) : Prop := i = 0 ∨ i = 9 ∨ i = 10 ∨ i = 18 ∨ i = 27 ∨ i = 31 ∨ i = 34
def MO (μ μ' : Mem) : Prop := (∀ k, ¬ mrow k → k ≠ 2000 → gI μ' k = gI μ k) ∧ (∀ i, ¬ mfld i → gI μ' 2000 i = gI μ 2000 i) ∧ ∀ k, gL μ' k = gL μ k
theorem XO.rfl' (μ : Mem) : XO μ μ := fun _ _ _ => ⟨rfl, rfl⟩
theorem XO.trans {a b c : Mem} (h : XO a b) (h' : XO b c) : XO a c := fun k h1 h2 => ⟨((h' k h1 h2).1).trans (h k h1 h2).1, ((h' k h1 h2).2).trans (h k h1 h2).2⟩
theorem MO.rfl' (μ : Mem) : MO μ μ := ⟨fun _ _ _ => rfl, fun _ _ => rfl, fun _ => rfl⟩
theorem MO.trans {a b c : Mem} (h : MO a b) (h' : MO b c) : MO a c := ⟨fun k h1 h2 => (h'.1 k h1 h2).trans (h.1 k h1 h2), fun i hi => (h'.2.1 i hi).trans (h.2.1 i hi), fun k => (h'.2.2 k).trans (h.2.2 k)⟩
theorem XS_c {μ μ' : Mem} {S : Nat} {σ : SG} (h : ∀ k, S ≤ k → k < S + 60 → gI μ' k = gI μ k) (hS : XS μ S σ) (ho : σ 0 0 ≤ 6 ∧ σ 27 0 ≤ 6 ∧ σ 31 0 ≤ 10 ∧ σ 34 0 ≤ 8) : XS μ' S σ := by
  obtain ⟨⟨a1, a2, a3, a4⟩, b, ⟨c1, c2⟩, ⟨d1, d2⟩, e1, e2⟩ := hS
  have hS0 := h S (by omega) (by omega)
  have h1 := h (S + 10) (by omega) (by omega)
  have h3 := h (S + 30) (by omega) (by omega)
  have h5 := h (S + 50) (by omega) (by omega)
  refine ⟨⟨by rw [hS0]; exact a1, by rw [hS0]; exact a2, by rw [hS0]; exact a3, by rw [hS0]; exact a4⟩, fun e he => ?_, ⟨by rw [h1]; exact c1, fun i hi => ?_⟩, ⟨by rw [h3]; exact d1, fun i hi => ?_⟩, by rw [h5]; exact e1, fun i hi => ?_⟩
  · rw [h (S + 1 + 1 + e) (by omega) (by omega)]; exact b e he
  · rw [h (S + 10 + 1 + 1 + i) (by omega) (by omega)]; exact c2 i hi
  · rw [h (S + 30 + 1 + 1 + i) (by omega) (by omega)]; exact d2 i hi
  · rw [h (S + 50 + 1 + 1 + i) (by omega) (by omega)]; exact e2 i hi
theorem okS.n {W st : Nat} {σ : SG} (h : okS W st σ) : σ 0 0 ≤ 6 ∧ σ 27 0 ≤ 6 ∧ σ 31 0 ≤ 10 ∧ σ 34 0 ≤ 8 := ⟨h.1.1, h.2.2.1.1, h.2.2.2.1.1, h.2.2.2.2.1⟩
theorem XC_c {μ μ' : Mem} {k : Nat} {l : List CL} (h : ∀ j, k ≤ j → j < k + 4 → gI μ' j = gI μ j) (hC : XC μ k l) : XC μ' k l := by
  obtain ⟨a, b, c⟩ := hC
  have h0 := h k (by omega) (by omega)
  have h1 := h (k + 1) (by omega) (by omega)
  have h2 := h (k + 2) (by omega) (by omega)
  have h3 := h (k + 3) (by omega) (by omega)
  refine ⟨by rw [h0]; exact a, by rw [h0]; exact b, fun i hi => ?_⟩
  rw [h1, h2, h3]
  exact c i hi
theorem MC_c {μ μ' : Mem} {k : Nat} {l : List CL} (h : ∀ j, 2019 ≤ j → j ≤ 2024 → gI μ' j = gI μ j) (hC : MC μ k l) : MC μ' k l := by
  obtain ⟨a, b⟩ := hC
  refine ⟨by rw [h 2019 (by omega) (by omega)]; exact a, fun i hi => ?_⟩
  rw [h 2020 (by omega) (by omega), h 2021 (by omega) (by omega), h 2022 (by omega) (by omega), h 2023 (by omega) (by omega), h 2024 (by omega) (by omega)]
  exact b i hi
theorem R_now {T : PT} {μ μ1 μ2 : Mem} {σ : SG} (hR : RR T μ) (hx : XO μ μ1) (hX : XS μ1 100 σ) (hm : MO μ1 μ2) (hM : MS μ2 σ) (ho : okS 9999 (T.1 2 17 0) σ) : RR (now T σ) μ2 := by
  obtain ⟨⟨x1, ⟨x2, x2'⟩, ⟨x3, x3'⟩, ⟨x4, x4'⟩, ⟨x5, x5'⟩, x6⟩, ⟨m1, ⟨m2, m2'⟩, ⟨m3, m3'⟩, ⟨m4, c, m4', m4c, m4''⟩, ⟨m5, m5'⟩, m6⟩, o1, ⟨o2, o2'⟩, ⟨o3, o3'⟩, ⟨o4, o4'⟩, o5, o6⟩ := hR
  have hg : ∀ k, ¬ (100 ≤ k ∧ k < 160) → ¬ (300 ≤ k ∧ k < 360) → k < 2000 → gI μ2 k = gI μ k ∧ gL μ2 k = gL μ k := fun k h1 h2 h3 => by
    have := hx k h1 h2
    refine ⟨(hm.1 k (by unfold mrow; omega) (by omega)).trans this.1, (hm.2.2 k).trans this.2⟩
  have hr : ∀ k, ¬ mrow k → 2000 < k → gI μ2 k = gI μ k := fun k h1 h2 => (hm.1 k h1 (by omega)).trans (hx k (by omega) (by omega)).1
  have hl : ∀ k, 2000 ≤ k → gL μ2 k = gL μ k := fun k h2 => (hm.2.2 k).trans (hx k (by omega) (by omega)).2
  have hf : ∀ i, ¬ mfld i → gI μ2 2000 i = gI μ 2000 i := fun i hi => by rw [hm.2.1 i hi, (hx 2000 (by omega) (by omega)).1]
  have i1 := (hg 1 (by omega) (by omega) (by omega)).1
  have i2 := (hg 2 (by omega) (by omega) (by omega)).1
  have i3 := (hg 3 (by omega) (by omega) (by omega)).1
  have i5 := (hg 5 (by omega) (by omega) (by omega)).1
  have i6 := (hg 6 (by omega) (by omega) (by omega)).1
  refine ⟨⟨XS_c (fun k h1 h2 => hm.1 k (by unfold mrow; omega) (by omega)) hX ho.n, ⟨by rw [i1]; exact x2, fun h => XS_c (fun k h1 h2 => (hg k (by omega) (by omega) (by omega)).1) (x2' h) (o2' h).n⟩, ⟨by rw [i2]; exact x3, fun i hi => by rw [i3]; exact x3' i hi⟩, ⟨by rw [i1]; exact x4, fun k hk => XC_c (fun j h1 h2 => ?_) (x4' k hk)⟩, ⟨by rw [i5]; exact x5, fun i hi h20 => by rw [i6]; exact x5' i hi h20⟩, fun t ht => ?_⟩,
    ⟨hM, ⟨by rw [hf 39 (by unfold mfld; omega)]; exact m2, fun h => ?_⟩, ⟨by rw [hf 11 (by unfold mfld; omega)]; exact m3, fun i hi => by rw [hr 2012 (by unfold mrow; omega) (by omega)]; exact m3' i hi⟩, ⟨by rw [hf 17 (by unfold mfld; omega)]; exact m4, c, m4', by rw [hf 25 (by unfold mfld; omega)]; exact m4c, fun k hk => ⟨MC_c (fun j h1 h2 => hr j (by unfold mrow; omega) (by omega)) (m4'' k hk).1, ?_⟩⟩, ⟨by rw [hf 37 (by unfold mfld; omega)]; exact m5, fun i hi h20 => by rw [hr 2038 (by unfold mrow; omega) (by omega)]; exact m5' i hi h20⟩, fun t ht => ?_⟩, ho, ⟨o2, o2'⟩, ⟨o3, o3'⟩, ⟨o4, o4'⟩, o5, o6⟩
  · have : k < T.1 2 17 0 := hk
    exact (hg j (by omega) (by omega) (by omega)).1
  · rw [(hg (1100 + 2 * t) (by omega) (by omega) (by omega)).1, (hg (1100 + 2 * t + 1) (by omega) (by omega) (by omega)).2]
    exact x6 t ht
  · have q := m2' h
    unfold IM at q ⊢
    rw [hr 2040 (by unfold mrow; omega) (by omega)]
    exact q
  · rw [hr 2022 (by unfold mrow; omega) (by omega)]
    exact (m4'' k hk).2
  · rw [hr 2042 (by unfold mrow; omega) (by omega), hr 2043 (by unfold mrow; omega) (by omega), hl 2044 (by omega)]
    exact m6 t ht
