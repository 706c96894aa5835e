/-! by how much all is late, in the class .. -/
theorem endX_s {l : List CL} {i : Nat} (h : i < l.length) : endX l (i + 1) = endX l i + l[i].2.2.length := by
  unfold endX
  rw [List.take_succ_eq_append_getElem h, List.map_append, List.sum_append_nat]
  simp
theorem endX_0 (l : List CL) : endX l 0 = 0 := by unfold endX; simp
theorem ces_m {l : List CL} {q : CL} (h : q ∈ ces l) : q ∈ l ∧ q.1 < 2 := by
  unfold ces at h
  rw [List.mem_filter] at h
  exact ⟨h.1, of_decide_eq_true h.2⟩
theorem lat_l {μ : Mem} {k r e : Nat} {l : List CL} {σ : SG} (he : e < 6) (hX : XC μ k l) (hl : okL l) (hrow : ∀ x, x < 7 → gI μ r x = nI (σ (x + 1) e)) (hb : ∀ f, 1 ≤ f → f ≤ 5 → σ f e ≤ 30) :
    ∀ m i n (s : Int), i + m = (ces l).length → m < n → f_X3_lateness_8 μ k r n (nI e) (iI s) (nI (endX (ces l) i)) (nI i) = some (iI (s + latZ σ e ((ces l).drop i))) := by
  obtain ⟨h0, h1, h2⟩ := hX
  have hL : (ces l).length ≤ 10 := Nat.le_trans (List.length_filter_le _ _) hl.1
  intro m
  induction m with
  | zero =>
    intro i n s hi hn
    obtain ⟨n, rfl⟩ := suc_of hn
    rw [f_X3_lateness_8, h1, if_pos (nI_le (by omega) (by omega)), List.drop_eq_nil_of_le (by omega), latZ, Int.add_zero]
  | succ m ih =>
    intro i n s hi hn
    obtain ⟨n, rfl⟩ := suc_of hn
    have hic : i < (ces l).length := by omega
    obtain ⟨g1, g2, g3, g4⟩ := h2 i hic
    have hes := endX_s hic
    have hm : (ces l)[i] ∈ ces l := List.getElem_mem hic
    have hdr : (ces l).drop i = (ces l)[i] :: (ces l).drop (i + 1) := List.drop_eq_getElem_cons hic
    generalize (ces l)[i] = q at g1 g4 hes hm hdr
    obtain ⟨hml, hw⟩ := ces_m hm
    obtain ⟨o1, o2, o3, o4⟩ := hl.2 q hml
    have hh := hold_l (k0 := k) (k1 := r) (σ := σ) he hrow hb g3 q.2.2 FU 0 (endX (ces l) i) [] g4 hes.symm (FU_p _ (by omega)) enc_0 (by simp) (o4 hw)
    have hnx : nI i + (1 : Int32) = nI (i + 1) := by rw [K1, nI_add]
    rw [f_X3_lateness_8, h1, if_neg (nI_ge hic (by omega)), ldI_n (by omega) (by omega), g2, hdr, latZ]
    simp only [bind_p]
    unfold f_X3_holdsFor
    rw [hh]
    simp only [bind_p]
    cases hv : (evs σ e q.2.2 []).headD false
    · rw [bI_f, if_pos (show nI 0 = 0 from rfl), f_X3_lateness_45, ldI_n (by omega) (by omega), g2]
      simp only [bind_p]
      rw [hnx, if_neg (fun z => by cases z.2), Int.zero_add]
      exact ih (i + 1) n s (by omega) (by omega)
    · have hz : (if q.1 = 0 then nI q.2.1 else -nI q.2.1) = iI (if q.1 = 0 then (q.2.1 : Int) else -(q.2.1 : Int)) := by
        by_cases h : q.1 = 0
        · rw [if_pos h, if_pos h]; exact nI_iI _
        · rw [if_neg h, if_neg h, nI_iI, iI_neg]
      rw [bI_t, if_neg (show ¬ nI 1 = 0 by decide), ldI_n (by omega) (by omega), g1]
      simp only [bind_p]
      rw [f_X3_lateness_45, ldI_n (by omega) (by omega), g2]
      simp only [bind_p]
      rw [hnx, hz, iI_add, if_pos (show q.1 < 2 ∧ True from ⟨hw, trivial⟩), ← Int.add_assoc]
      exact ih (i + 1) n _ (by omega) (by omega)
theorem lat6 {μ : Mem} {k r e : Nat} {l : List CL} {σ : SG} (he : e < 6) (hX : XC μ k l) (hl : okL l) (hrow : ∀ x, x < 7 → gI μ r x = nI (σ (x + 1) e)) (hb : ∀ f, 1 ≤ f → f ≤ 5 → σ f e ≤ 30) : f_X3_lateness μ k r (nI e) = some (iI (latZ σ e l)) := by
  have hL : (ces l).length ≤ 10 := Nat.le_trans (List.length_filter_le _ _) hl.1
  have h := lat_l he hX hl hrow hb (ces l).length 0 FU 0 (by omega) (FU_p _ (by omega))
  rw [endX_0, Int.zero_add, List.drop_zero, latZ_ces] at h
  unfold f_X3_lateness
  exact h
/-! .. in the reference -/
/-- which clauses hold, in the class: the store's id, 0 is none .. -/
def HX (μ : Mem) (k : Nat) (l : List CL) : Prop := (k = 0 ∧ l = []) ∨ (k ≠ 0 ∧ XC μ k l)
/-- .. in the reference -/
def HM (μ : Mem) (l : List CL) : Prop := (gI μ 2000 18 = -1 ∧ l = []) ∨ ∃ H, H < 6 ∧ gI μ 2000 18 = nI H ∧ MC μ H l
theorem nm1 {H : Nat} (h : H < 2147483648) : ¬ nI H = (-1 : Int32) := fun q => by
  have q' : nI H = -nI 1 := q
  rw [F_neg h (by omega) (by omega)] at q'
  exact q'
theorem HM.sk {μ ν : Mem} {l : List CL} (h : Sk μ ν) (hm : HM μ l) : HM ν l := by
  rcases hm with ⟨a, b⟩ | ⟨H, a, b, c⟩
  · exact .inl ⟨by rw [h.1 2000 (by omega)]; exact a, b⟩
  · exact .inr ⟨H, a, by rw [h.1 2000 (by omega)]; exact b, h.MC c⟩
def RowX (μ : Mem) (r : Nat) (σ : SG) (e : Nat) : Prop := (∀ x, x < 7 → gI μ r x = nI (σ (x + 1) e)) ∧ ∀ q, q < 4 → gI μ r (10 + q) = nI (σ 8 (4 * e + q))
def RowM (μ : Mem) (σ : SG) (e : Nat) : Prop := (∀ x, x < 7 → gI μ (2001 + x) e = nI (σ (x + 1) e)) ∧ ∀ q, q < 4 → gI μ 2008 (4 * e + q) = nI (σ 8 (4 * e + q))
theorem RowM.sk {μ ν : Mem} {σ : SG} {e : Nat} (h : Sk μ ν) (hr : RowM μ σ e) : RowM ν σ e :=
  ⟨fun x hx => by rw [h.1 _ (by omega)]; exact hr.1 x hx, fun q hq => by rw [h.1 _ (by omega)]; exact hr.2 q hq⟩
theorem sum_l {μ0 : Mem} {e H : Nat} {l : List CL} {σ : SG} (he : e < 6) (hH : H < 6) (h18 : gI μ0 2000 18 = nI H) (hX : MC μ0 H l) (hl : okL l) (hrow : ∀ x, x < 7 → gI μ0 (2001 + x) e = nI (σ (x + 1) e)) (hb : ∀ f, 1 ≤ f → f ≤ 5 → σ f e ≤ 30) :
    ∀ m i n μ (s : Int), Sk μ0 μ → i + m = l.length → m < n → ∃ μ', f_X7_sum_14 n μ (nI e) (iI s) (nI i) = some (iI (s + latZ σ e (l.drop i)), μ') ∧ Sk μ0 μ' := by
  obtain ⟨hlen, h2⟩ := hX
  have hL := hl.1
  intro m
  induction m with
  | zero =>
    intro i n μ s hs hi hn
    obtain ⟨n, rfl⟩ := suc_of hn
    have h18' : gI μ 2000 18 = nI H := by rw [hs.1 2000 (by omega)]; exact h18
    have hlen' : gI μ 2019 H = nI l.length := by rw [hs.1 2019 (by omega)]; exact hlen
    refine ⟨μ, ?_, hs⟩
    rw [f_X7_sum_14, h18', if_neg (nm1 (by omega)), ldI_n hH (by omega), hlen']
    simp only [bind_p]
    rw [if_pos (nI_le (by omega) (by omega)), List.drop_eq_nil_of_le (by omega), latZ, Int.add_zero]
  | succ m ih =>
    intro i n μ s hs hi hn
    obtain ⟨n, rfl⟩ := suc_of hn
    have h18' : gI μ 2000 18 = nI H := by rw [hs.1 2000 (by omega)]; exact h18
    have hlen' : gI μ 2019 H = nI l.length := by rw [hs.1 2019 (by omega)]; exact hlen
    have hic : i < l.length := by omega
    obtain ⟨g1, g2, b, g3, _, g4, g5, g6⟩ := h2 i hic
    have hm : l[i] ∈ l := List.getElem_mem hic
    have hdr : l.drop i = l[i] :: l.drop (i + 1) := List.drop_eq_getElem_cons hic
    generalize l[i] = q at g1 g2 g3 g5 g6 hm hdr
    obtain ⟨o1, o2, o3, o4⟩ := hl.2 q hm
    have hnx : nI i + (1 : Int32) = nI (i + 1) := by rw [K1, nI_add]
    have g1' : gI μ 2020 (10 * H + i) = nI q.1 := by rw [hs.1 2020 (by omega)]; exact g1
    rw [f_X7_sum_14, h18', if_neg (nm1 (by omega)), ldI_n hH (by omega), hlen', hdr, latZ]
    simp only [bind_p]
    rw [if_neg (nI_ge hic (by omega)), K10, nI_mul, nI_add, ldI_n (by omega) (by omega), g1']
    simp only [bind_p]
    by_cases hw : q.1 < 2
    · have hrow' : ∀ x, x < 7 → gI μ (2001 + x) e = nI (σ (x + 1) e) := fun x hx => by rw [hs.1 _ (by omega)]; exact hrow x hx
      obtain ⟨μ1, e1, s1⟩ := ist_l (μ0 := μ0) (q := 10 * H + i) (B := b) (N := q.2.2.length) (σ := σ) he (by omega) hrow hb g4 g5 g3 q.2.2 FU μ b [] hs g6 rfl (FU_p _ (by omega)) trivial (by simp) (o4 hw)
      have e2 : f_X7_isTrue μ (nI e) (nI (10 * H + i)) = some (bI ((evs σ e q.2.2 []).headD false), μ1) := by
        unfold f_X7_isTrue
        rw [ldI_n (by omega) (by omega), show gI μ 2022 (10 * H + i) = nI b by rw [hs.1 2022 (by omega)]; exact g4]
        exact e1
      have g1'' : gI μ1 2020 (10 * H + i) = nI q.1 := by rw [s1.1 2020 (by omega)]; exact g1
      have g2'' : gI μ1 2021 (10 * H + i) = nI q.2.1 := by rw [s1.1 2021 (by omega)]; exact g2
      rw [if_neg (by rw [K2]; exact nI_ge hw (by omega)), e2]
      simp only [bind_p]
      cases hv : (evs σ e q.2.2 []).headD false
      · rw [bI_f, if_pos (show nI 0 = 0 from rfl), f_X7_sum_98]
        simp only [bind_p]
        rw [hnx, if_neg (fun z => by cases z.2), Int.zero_add]
        exact ih (i + 1) n μ1 s s1 (by omega) (by omega)
      · rw [bI_t, if_neg (show ¬ nI 1 = 0 by decide), ldI_n (by omega) (by omega), g1'', ldI_n (by omega) (by omega), g2'']
        simp only [bind_p]
        rw [if_pos (show q.1 < 2 ∧ True from ⟨hw, trivial⟩), ← Int.add_assoc]
        by_cases h0 : q.1 = 0
        · rw [if_pos (by rw [h0]; rfl), f_X7_sum_96]
          unfold f_X7_sum_98
          simp only [bind_p]
          rw [hnx, if_pos h0, nI_iI q.2.1, iI_add]
          exact ih (i + 1) n μ1 _ s1 (by omega) (by omega)
        · rw [if_neg (nI_ne0 (by omega) (by omega)), f_X7_sum_96]
          unfold f_X7_sum_98
          simp only [bind_p]
          rw [hnx, if_neg h0, nI_iI q.2.1, iI_neg, iI_add]
          exact ih (i + 1) n μ1 _ s1 (by omega) (by omega)
    · rw [if_pos (by rw [K2]; exact nI_le (by omega) (by omega)), f_X7_sum_98]
      simp only [bind_p]
      rw [hnx, if_neg (fun z => hw z.1), Int.zero_add]
      exact ih (i + 1) n μ s hs (by omega) (by omega)
theorem all_l {μ : Mem} {H : Nat} {l : List CL} (hH : H < 6) (h18 : gI μ 2000 18 = nI H) (hX : MC μ H l) (hl : okL l) :
    ∀ m i n a, i + m = l.length → m < n → f_X7_allBy_4 μ n (nI a) (nI i) = some (nI ((l.drop i).foldl (fun n q => if q.1 = 2 then q.2.1 else n) a)) := by
  obtain ⟨hlen, h2⟩ := hX
  have hL := hl.1
  intro m
  induction m with
  | zero =>
    intro i n a hi hn
    obtain ⟨n, rfl⟩ := suc_of hn
    rw [f_X7_allBy_4, h18, if_neg (nm1 (by omega)), ldI_n hH (by omega), hlen]
    simp only [bind_p]
    rw [if_pos (nI_le (by omega) (by omega)), List.drop_eq_nil_of_le (by omega), List.foldl_nil]
  | succ m ih =>
    intro i n a hi hn
    obtain ⟨n, rfl⟩ := suc_of hn
    have hic : i < l.length := by omega
    obtain ⟨g1, g2, _⟩ := h2 i hic
    have hm : l[i] ∈ l := List.getElem_mem hic
    have hdr : l.drop i = l[i] :: l.drop (i + 1) := List.drop_eq_getElem_cons hic
    generalize l[i] = q at g1 g2 hm hdr
    obtain ⟨o1, o2, o3, o4⟩ := hl.2 q hm
    have hnx : nI i + (1 : Int32) = nI (i + 1) := by rw [K1, nI_add]
    rw [f_X7_allBy_4, h18, if_neg (nm1 (by omega)), ldI_n hH (by omega), hlen, hdr, List.foldl_cons]
    simp only [bind_p]
    rw [if_neg (nI_ge hic (by omega)), K10, nI_mul, nI_add, ldI_n (by omega) (by omega), g1]
    simp only [bind_p]
    by_cases h2' : q.1 = 2
    · rw [if_pos (by rw [h2']; rfl), if_pos h2', ldI_n (by omega) (by omega), g2]
      unfold f_X7_allBy_58
      simp only [bind_p]
      rw [hnx]
      exact ih (i + 1) n _ (by omega) (by omega)
    · rw [if_neg (by rw [K2, nI_eq (by omega) (by omega)]; exact h2'), if_neg h2']
      unfold f_X7_allBy_58
      simp only [bind_p]
      rw [hnx]
      exact ih (i + 1) n _ (by omega) (by omega)
theorem allBy7 {μ : Mem} {l : List CL} (hH : HM μ l) (hl : okL l) : f_X7_allBy μ = some (nI (allN l)) := by
  unfold f_X7_allBy
  rcases hH with ⟨h, rfl⟩ | ⟨H, h6, h18, hX⟩
  · obtain ⟨N, hF⟩ := FU_8
    rw [hF, f_X7_allBy_4, if_pos h]
    rfl
  · have hL := hl.1
    have := all_l h6 h18 hX hl l.length 0 FU 0 (by omega) (FU_p _ (by omega))
    rw [List.drop_zero] at this
    exact this
theorem sum7 {μ : Mem} {e : Nat} {l : List CL} {σ : SG} (he : e < 6) (hH : HM μ l) (hl : okL l) (hr : RowM μ σ e) (hk : okE σ e) : ∃ ν, f_X7_sum μ (nI e) = some (iI (sumZ σ l e), ν) ∧ Sk μ ν := by
  have h4 : gI μ 2004 e = nI (σ 4 e) := hr.1 3 (by omega)
  have hs : nI (σ 4 e) + nI (allN l) = iI ((σ 4 e : Int) + (allN l : Int)) := by rw [nI_iI, nI_iI, iI_add]
  unfold f_X7_sum
  rw [ldI_n he (by omega), h4, allBy7 hH hl]
  simp only [bind_p]
  rw [hs]
  rcases hH with ⟨h, rfl⟩ | ⟨H, h6, h18, hX⟩
  · obtain ⟨N, hF⟩ := FU_8
    refine ⟨μ, ?_, Sk.rfl' _⟩
    rw [hF, f_X7_sum_14, if_pos h]
    unfold sumZ
    rw [latZ, Int.add_zero]
  · have hL := hl.1
    have := sum_l he h6 h18 hX hl hr.1 hk.f l.length 0 FU μ ((σ 4 e : Int) + (allN l : Int)) (Sk.rfl' _) (by omega) (FU_p _ (by omega))
    rw [List.drop_zero] at this
    exact this
