/-! the codes of clauses, all in a row -/
def cat (L : List CL) : List Nat := (L.map (fun q => q.2.2)).flatten
theorem cat_a (L : List CL) (q : CL) : cat (L ++ [q]) = cat L ++ q.2.2 := by
  unfold cat; rw [List.map_append, List.flatten_append]; simp
theorem endX_k (a : CL) (L : List CL) (i : Nat) : endX (a :: L) (i + 1) = a.2.2.length + endX L i := by
  unfold endX; rw [List.take_succ_cons, List.map_cons, List.sum_cons]
theorem cat_s (a : CL) (L : List CL) : cat (a :: L) = a.2.2 ++ cat L := by
  unfold cat; rw [List.map_cons, List.flatten_cons]
theorem cat_l : ∀ L : List CL, (cat L).length = endX L L.length
  | [] => rfl
  | a :: L => by
    have := cat_l L
    rw [List.length_cons, endX_k, cat_s, List.length_append, this]
theorem endX_m : ∀ (L : List CL) (i : Nat), endX L i ≤ (cat L).length
  | [], i => by unfold endX; rw [List.take_nil]; exact Nat.zero_le _
  | a :: L, 0 => by unfold endX; rw [List.take_zero]; exact Nat.zero_le _
  | a :: L, i + 1 => by
    have := endX_m L i
    rw [endX_k, cat_s, List.length_append]; omega
theorem endX_n : ∀ (L : List CL) (i : Nat) (q : CL), L[i]? = some q → endX L (i + 1) = endX L i + q.2.2.length
  | [], _, _, h => by cases h
  | a :: L, 0, q, h => by
    have h' : a = q := Option.some.inj h
    subst h'
    rw [endX_k]
    unfold endX; rw [List.take_zero, List.take_zero]; show _ + 0 = 0 + _; omega
  | a :: L, i + 1, q, h => by
    have h' : L[i]? = some q := h
    rw [endX_k, endX_k, endX_n L i q h']; omega
theorem cat_g : ∀ (L : List CL) (i j : Nat) (q : CL), L[i]? = some q → j < q.2.2.length → (cat L).getD (endX L i + j) 0 = q.2.2.getD j 0
  | [], _, _, _, h, _ => by cases h
  | a :: L, 0, j, q, h, hj => by
    have h' : a = q := Option.some.inj h
    subst h'
    rw [cat_s]
    have : endX (a :: L) 0 = 0 := by unfold endX; rw [List.take_zero]; rfl
    rw [this, Nat.zero_add, List.getD_eq_getElem?_getD, List.getElem?_append_left hj, ← List.getD_eq_getElem?_getD]
  | a :: L, i + 1, j, q, h, hj => by
    have h' : L[i]? = some q := h
    rw [endX_k, cat_s, ← cat_g L i j q h' hj, List.getD_eq_getElem?_getD, List.getElem?_append_right (by omega), ← List.getD_eq_getElem?_getD, show a.2.2.length + endX L i + j - a.2.2.length = endX L i + j by omega]
theorem endX_a {L : List CL} {q : CL} {i : Nat} (h : i ≤ L.length) : endX (L ++ [q]) i = endX L i := by
  unfold endX; rw [List.take_append_of_le_length h]
theorem app_c {l : List CL} {q r : CL} {i : Nat} (h : (l ++ [q])[i]? = some r) : (i < l.length ∧ l[i]? = some r) ∨ (i = l.length ∧ r = q) := by
  by_cases c : i < l.length
  · rw [List.getElem?_append_left c] at h; exact .inl ⟨c, h⟩
  · rw [List.getElem?_append_right (by omega)] at h
    obtain ⟨k, hk⟩ : ∃ k, k = i - l.length := ⟨_, rfl⟩
    rw [← hk] at h
    cases k with
    | zero => exact .inr ⟨by omega, (Option.some.inj h).symm⟩
    | succ k => cases h
theorem ces_a {l : List CL} {q : CL} (h : q.1 < 2) : ces (l ++ [q]) = ces l ++ [q] := by
  unfold ces; rw [List.filter_append]; simp [h]
theorem ces_b {l : List CL} {q : CL} (h : ¬ q.1 < 2) : ces (l ++ [q]) = ces l := by
  unfold ces; rw [List.filter_append]; simp [h]
theorem allN_a {l : List CL} {q : CL} : allN (l ++ [q]) = if q.1 = 2 then q.2.1 else allN l := by
  unfold allN; rw [List.foldl_append]; rfl
theorem ces_l (l : List CL) : (ces l).length ≤ l.length := List.length_filter_le _ _
/-! where both stand while they read a store -/
def XFr (k0 : Nat) (μ ν : Mem) : Prop := (∀ k, k ≠ 2 → ¬ (k0 ≤ k ∧ k < k0 + 4) → gI ν k = gI μ k) ∧ ∀ k, gL ν k = gL μ k
def XA (k0 : Nat) (ν : Mem) (l : List CL) : Prop := gI ν k0 0 = nI (allN l) ∧ gI ν k0 1 = nI (ces l).length ∧ ∀ i q, (ces l)[i]? = some q → gI ν (k0 + 1) i = (if q.1 = 0 then nI q.2.1 else -nI q.2.1) ∧ gI ν (k0 + 2) i = nI (endX (ces l) (i + 1))
def XI (k0 H : Nat) (tx : Nat → Nat) (μ ν : Mem) (p : Nat) (l : List CL) : Prop := PX k0 H tx ν ν p (cat l) ∧ XA k0 ν l ∧ XFr k0 μ ν
def MFr (c0 st : Nat) (μ ξ : Mem) : Prop := (∀ k, k ≠ 2000 → k ≠ 2024 → ¬ (2020 ≤ k ∧ k ≤ 2023) → gI ξ k = gI μ k) ∧ (∀ i, i < 13 ∨ i = 17 ∨ i = 18 ∨ 26 ≤ i → gI ξ 2000 i = gI μ 2000 i) ∧ (∀ j, j < c0 → gI ξ 2024 j = gI μ 2024 j) ∧ (∀ k, 2020 ≤ k → k ≤ 2023 → ∀ i, i < 10 * st → gI ξ k i = gI μ k i) ∧ ∀ k, gL ξ k = gL μ k
def MA (c0 st : Nat) (ξ : Mem) (l : List CL) : Prop := ∀ i q, l[i]? = some q → gI ξ 2020 (10 * st + i) = nI q.1 ∧ gI ξ 2021 (10 * st + i) = nI q.2.1 ∧ gI ξ 2022 (10 * st + i) = nI (c0 + endX l i) ∧ gI ξ 2023 (10 * st + i) = nI q.2.2.length
def MI (c0 st H : Nat) (tx : Nat → Nat) (μ ξ : Mem) (p : Nat) (l : List CL) : Prop := (∃ o, PM c0 H tx ξ ξ p (cat l) o) ∧ MA c0 st ξ l ∧ MFr c0 st μ ξ
theorem PX_s {k0 H p : Nat} {tx : Nat → Nat} {μ0 ν : Mem} {cs : List Nat} (h : PX k0 H tx μ0 ν p cs) : PX k0 H tx ν ν p cs := ⟨h.1, h.2.1, fun _ _ _ _ => rfl, fun _ _ => rfl, fun _ => rfl⟩
theorem PM_s {c0 H p o : Nat} {tx : Nat → Nat} {μ0 ξ : Mem} {cs : List Nat} (h : PM c0 H tx μ0 ξ p cs o) : PM c0 H tx ξ ξ p cs o := ⟨h.1, h.2.1, h.2.2.1, fun _ _ _ => rfl, fun _ _ => rfl, fun _ _ => rfl, fun _ => rfl⟩
theorem XFr_P {k0 H p : Nat} {tx : Nat → Nat} {μ ν ν' : Mem} {cs : List Nat} (h : XFr k0 μ ν) (hP : PX k0 H tx ν ν' p cs) : XFr k0 μ ν' :=
  ⟨fun k a b => (hP.2.2.1 k a (by omega) (by omega)).trans (h.1 k a b), fun k => (hP.2.2.2.2 k).trans (h.2 k)⟩
theorem XA_P {k0 H p : Nat} {tx : Nat → Nat} {ν ν' : Mem} {l : List CL} {cs : List Nat} (hk : 1000 ≤ k0) (h : XA k0 ν l) (hP : PX k0 H tx ν ν' p cs) : XA k0 ν' l := by
  obtain ⟨a, b, c⟩ := h
  obtain ⟨_, _, d, e, _⟩ := hP
  refine ⟨(e 0 (by omega)).trans a, (e 1 (by omega)).trans b, fun i q hq => ?_⟩
  rw [d (k0 + 1) (by omega) (by omega) (by omega), d (k0 + 2) (by omega) (by omega) (by omega)]
  exact c i q hq
theorem MFr_P {c0 st H p o : Nat} {tx : Nat → Nat} {μ ξ ξ' : Mem} {cs : List Nat} (h : MFr c0 st μ ξ) (hP : PM c0 H tx ξ ξ' p cs o) : MFr c0 st μ ξ' := by
  obtain ⟨a, b, c, d, e⟩ := h
  obtain ⟨_, _, _, q1, q2, q3, q4⟩ := hP
  refine ⟨fun k x y z => (q1 k x y).trans (a k x y z), fun i hi => (q2 i hi).trans (b i hi), fun j hj => (q3 j hj).trans (c j hj), fun k x y i hi => ?_, fun k => (q4 k).trans (e k)⟩
  rw [q1 k (by omega) (by omega)]; exact d k x y i hi
theorem MFr_w {c0 st k i : Nat} {μ ξ : Mem} {v : Int32} (h : MFr c0 st μ ξ) (hk : 2020 ≤ k ∧ k ≤ 2023) (hi : 10 * st ≤ i) : MFr c0 st μ (sI ξ k i v) := by
  obtain ⟨a, b, c, d, e⟩ := h
  refine ⟨fun x y z w => ?_, fun j hj => ?_, fun j hj => ?_, fun x y z j hj => ?_, e⟩
  · rw [gI_sI_ne (by omega)]; exact a x y z w
  · rw [gI_ne1 (by omega)]; exact b j hj
  · rw [gI_ne1 (by omega)]; exact c j hj
  · rw [gI_ne2 (by omega)]; exact d x y z j hj
theorem MFr_f {c0 st i : Nat} {μ ξ : Mem} {v : Int32} (h : MFr c0 st μ ξ) (hi : 13 ≤ i ∧ i ≤ 16) : MFr c0 st μ (sI ξ 2000 i v) := by
  obtain ⟨a, b, c, d, e⟩ := h
  refine ⟨fun x y z w => ?_, fun j hj => ?_, fun j hj => ?_, fun x y z j hj => ?_, e⟩
  · rw [gI_sI_ne (by omega)]; exact a x y z w
  · rw [gI_ne2 (by omega)]; exact b j hj
  · rw [gI_ne1 (by omega)]; exact c j hj
  · rw [gI_ne1 (by omega)]; exact d x y z j hj
theorem PM_w {c0 H p o k i : Nat} {tx : Nat → Nat} {μ0 ξ : Mem} {cs : List Nat} {v : Int32} (h : PM c0 H tx μ0 ξ p cs o) (hk : 2020 ≤ k ∧ k ≤ 2023) : PM c0 H tx (sI ξ k i v) (sI ξ k i v) p cs o := by
  obtain ⟨⟨a1, a2, a3⟩, ⟨b1, b2⟩, b3, _⟩ := h
  refine ⟨⟨?_, ?_, fun i hi => ?_⟩, ⟨?_, fun j hj => ?_⟩, ?_, fun _ _ _ => rfl, fun _ _ => rfl, fun _ _ => rfl, fun _ => rfl⟩
  · rw [gI_ne1 (by omega)]; exact a1
  · rw [gI_ne1 (by omega)]; exact a2
  · rw [gI_ne1 (by omega)]; exact a3 i hi
  · rw [gI_ne1 (by omega)]; exact b1
  · rw [gI_ne1 (by omega)]; exact b2 j hj
  · rw [gI_ne1 (by omega)]; exact b3
theorem PX_w {k0 H p k i : Nat} {tx : Nat → Nat} {μ0 ν : Mem} {cs : List Nat} {v : Int32} (hk : 1000 ≤ k0) (h : PX k0 H tx μ0 ν p cs) (hki : k = k0 ∧ i ≠ 5 ∨ k = k0 + 1 ∨ k = k0 + 2) : PX k0 H tx (sI ν k i v) (sI ν k i v) p cs := by
  obtain ⟨⟨a1, a2, a3⟩, ⟨b1, b2⟩, _⟩ := h
  refine ⟨⟨?_, ?_, fun i hi => ?_⟩, ⟨?_, fun j hj => ?_⟩, fun _ _ _ _ => rfl, fun _ _ => rfl, fun _ => rfl⟩
  · rw [gI_ne1 (by omega)]; exact a1
  · rw [gI_ne1 (by omega)]; exact a2
  · rw [gI_ne1 (by omega)]; exact a3 i hi
  · rw [gI_sI, if_neg (by omega)]; exact b1
  · rw [gI_ne1 (by omega)]; exact b2 j hj
theorem XFr_w {k0 k i : Nat} {μ ν : Mem} {v : Int32} (h : XFr k0 μ ν) (hk : k0 ≤ k ∧ k < k0 + 4) : XFr k0 μ (sI ν k i v) :=
  ⟨fun x a b => (gI_sI_ne (by omega)).trans (h.1 x a b), h.2⟩
/-! words -/
def wd (k : Nat) : List Nat := [[108, 97, 116, 101], [101, 97, 114, 108, 121], [97, 108, 108], [48, 49, 50, 51, 52, 53, 54, 55, 56, 57], [112, 107, 118, 109, 115, 98], [60, 61, 62], [108, 97, 116, 101, 32], [101, 97, 114, 108, 121, 32], [97, 108, 108, 32]].getD k []
theorem wd_l : ∀ k, k < 9 → f_J0_length_8abf5 mem0 k = some (nI (wd k).length) := by decide +kernel
theorem wd_c : ∀ k, k < 9 → ∀ i, i < (wd k).length → f_J0_charAt_5068e mem0 k (nI i) = some (nI ((wd k).getD i 0)) ∧ (wd k).getD i 0 ≤ 127 := by decide +kernel
theorem wd_n : ∀ k, k < 9 → (wd k).length ≤ 10 := by decide +kernel
def wm (H : Nat) (tx : Nat → Nat) : Nat → List Nat → Bool × Nat
  | p, [] => (true, p)
  | p, c :: cs => if p < H ∧ tx p = c then wm H tx (p + 1) cs else (false, p)
theorem wm_b {H : Nat} {tx : Nat → Nat} : ∀ ws p, p ≤ H → p ≤ (wm H tx p ws).2 ∧ (wm H tx p ws).2 ≤ H
  | [], p, h => ⟨Nat.le_refl _, h⟩
  | c :: cs, p, h => by
    rw [wm]
    by_cases q : p < H ∧ tx p = c
    · rw [if_pos q]
      have := wm_b (H := H) (tx := tx) cs (p + 1) (by omega)
      omega
    · rw [if_neg q]
      exact ⟨Nat.le_refl _, h⟩
theorem wm_a {H : Nat} {tx : Nat → Nat} : ∀ ws p c, wm H tx p (ws ++ [c]) = if (wm H tx p ws).1 = true then (if (wm H tx p ws).2 < H ∧ tx (wm H tx p ws).2 = c then (true, (wm H tx p ws).2 + 1) else (false, (wm H tx p ws).2)) else wm H tx p ws
  | [], p, c => by
    show wm H tx p [c] = _
    rw [wm, wm, wm, if_pos (show (true, p).1 = true from rfl)]
  | a :: ws, p, c => by
    show wm H tx p (a :: (ws ++ [c])) = _
    rw [wm, wm]
    by_cases q : p < H ∧ tx p = a
    · rw [if_pos q, if_pos q]; exact wm_a ws (p + 1) c
    · rw [if_neg q, if_neg q]; rfl
theorem drop_c {ws : List Nat} {i : Nat} (h : i < ws.length) : ws.drop i = ws.getD i 0 :: ws.drop (i + 1) := by
  rw [List.drop_eq_getElem_cons h, List.getD_eq_getElem?_getD, List.getElem?_eq_getElem h]; rfl
theorem drop_e {ws : List Nat} {i : Nat} (h : i = ws.length) : ws.drop i = [] := by
  rw [h]; exact List.drop_length
theorem wd6 {k k0 H : Nat} {tx : Nat → Nat} {μ0 : Mem} {cs : List Nat} (hk : k < 9) (hk0 : 1000 ≤ k0) (hH : H ≤ 100) (htx : ∀ i, i < H → tx i ≤ 127) :
    ∀ m i n p ν, i + m = (wd k).length → m < n → p ≤ H → PX k0 H tx μ0 ν p cs → ∃ ν', f_X5_takeWord_2 k n ν (nI i) = some (bI (wm H tx p ((wd k).drop i)).1, ν') ∧ PX k0 H tx μ0 ν' (wm H tx p ((wd k).drop i)).2 cs := by
  have hn := wd_n k hk
  intro m
  induction m with
  | zero =>
    intro i n p ν hi hm hp h
    obtain ⟨n, rfl⟩ := suc_of hm
    refine ⟨ν, ?_, by rw [drop_e (by omega)]; exact h⟩
    rw [f_X5_takeWord_2, show f_J0_length_8abf5 ν k = some (nI (wd k).length) from wd_l k hk]
    simp only [bind_p]
    rw [if_pos (nI_le (by omega) (by omega)), drop_e (by omega)]
    rfl
  | succ m ih =>
    intro i n p ν hi hm hp h
    obtain ⟨n, rfl⟩ := suc_of (show 0 < n by omega)
    have hil : i < (wd k).length := by omega
    obtain ⟨c1, c2⟩ := wd_c k hk i hil
    rw [drop_c hil, wm]
    rw [f_X5_takeWord_2, show f_J0_length_8abf5 ν k = some (nI (wd k).length) from wd_l k hk]
    simp only [bind_p]
    rw [if_neg (nI_ge hil (by omega)), show f_J0_charAt_5068e ν k (nI i) = some (nI ((wd k).getD i 0)) from c1]
    simp only [bind_p]
    by_cases q : p < H ∧ tx p = (wd k).getD i 0
    · obtain ⟨ν1, e1, p1⟩ := tkY hk0 h hH q.1 q.2
      obtain ⟨ν2, e2, p2⟩ := ih (i + 1) n (p + 1) ν1 (by omega) (by omega) (by omega) p1
      rw [if_pos q]
      refine ⟨ν2, ?_, p2⟩
      rw [e1]
      simp only [bind_p]
      rw [if_neg (show ¬ nI 1 = (0 : Int32) by decide), K1, nI_add]
      exact e2
    · rw [if_neg q]
      refine ⟨ν, ?_, h⟩
      rw [tkN h hH hp htx c2 q]
      simp only [bind_p]
      rw [if_pos (show nI 0 = (0 : Int32) from rfl)]
      rfl
theorem wd7 {k c0 H o : Nat} {tx : Nat → Nat} {μ0 : Mem} {cs : List Nat} (hk : k < 9) (hH : H ≤ 100) (htx : ∀ i, i < H → tx i ≤ 127) :
    ∀ m i n p ξ, i + m = (wd k).length → m < n → p ≤ H → PM c0 H tx μ0 ξ p cs o → ∃ ξ', f_X7_isAll_2 k n ξ (nI i) = some (bI (wm H tx p ((wd k).drop i)).1, ξ') ∧ PM c0 H tx μ0 ξ' (wm H tx p ((wd k).drop i)).2 cs o := by
  have hn := wd_n k hk
  intro m
  induction m with
  | zero =>
    intro i n p ν hi hm hp h
    obtain ⟨n, rfl⟩ := suc_of hm
    refine ⟨ν, ?_, by rw [drop_e (by omega)]; exact h⟩
    rw [f_X7_isAll_2, show f_J0_length_8abf5 ν k = some (nI (wd k).length) from wd_l k hk]
    simp only [bind_p]
    rw [if_pos (nI_le (by omega) (by omega)), drop_e (by omega)]
    rfl
  | succ m ih =>
    intro i n p ν hi hm hp h
    obtain ⟨n, rfl⟩ := suc_of (show 0 < n by omega)
    have hil : i < (wd k).length := by omega
    obtain ⟨c1, c2⟩ := wd_c k hk i hil
    rw [drop_c hil, wm]
    rw [f_X7_isAll_2, show f_J0_length_8abf5 ν k = some (nI (wd k).length) from wd_l k hk]
    simp only [bind_p]
    rw [if_neg (nI_ge hil (by omega)), show f_J0_charAt_5068e ν k (nI i) = some (nI ((wd k).getD i 0)) from c1]
    simp only [bind_p]
    by_cases q : p < H ∧ tx p = (wd k).getD i 0
    · obtain ⟨ν1, e1, p1⟩ := isY h hH q.1 q.2
      obtain ⟨ν2, e2, p2⟩ := ih (i + 1) n (p + 1) ν1 (by omega) (by omega) (by omega) p1
      rw [if_pos q]
      refine ⟨ν2, ?_, p2⟩
      rw [e1]
      simp only [bind_p]
      rw [if_neg (show ¬ nI 1 = (0 : Int32) by decide), K1, nI_add]
      exact e2
    · rw [if_neg q]
      refine ⟨ν, ?_, h⟩
      rw [isN h hH hp htx c2 q]
      simp only [bind_p]
      rw [if_pos (show nI 0 = (0 : Int32) from rfl)]
      rfl
