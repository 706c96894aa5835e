/-- bind of some, not by rfl: else the kernel holds some against what comes behind and unfolds it -/
theorem bind_p {α β : Type} (a : α) (f : α → Option β) : (some a).bind f = f a := Eq.trans rfl rfl
def Sk (μ ν : Mem) : Prop := (∀ k, k ≠ 2026 → gI ν k = gI μ k) ∧ ∀ k, gL ν k = gL μ k
theorem Sk.rfl' (μ : Mem) : Sk μ μ := ⟨fun _ _ => rfl, fun _ => rfl⟩
theorem Sk.trans {a b c : Mem} (h : Sk a b) (h' : Sk b c) : Sk a c := ⟨fun k hk => (h'.1 k hk).trans (h.1 k hk), fun k => (h'.2 k).trans (h.2 k)⟩
theorem Sk_s {μ : Mem} {i : Nat} {v : Int32} : Sk μ (sI μ 2026 i v) := ⟨fun k hk => gI_sI_ne hk, fun _ => rfl⟩
theorem Sk.MO {μ ν : Mem} (h : Sk μ ν) : MO μ ν := ⟨fun k h1 h2 => h.1 k (fun e => h1 (by rw [e]; unfold mrow; omega)), fun i _ => by rw [h.1 2000 (by omega)], h.2⟩
theorem Sk.MS {μ ν : Mem} {σ : SG} (h : Sk μ ν) (hM : MS μ σ) : MS ν σ := by
  unfold Jvm.Pilot.CWoundEggsLaw_law_r1682_6e90c1.MS at hM ⊢
  rw [h.1 2000 (by omega), h.1 2008 (by omega), h.1 2028 (by omega), h.1 2029 (by omega), h.1 2030 (by omega), h.1 2032 (by omega), h.1 2033 (by omega), h.1 2035 (by omega), h.1 2036 (by omega)]
  refine ⟨hM.1, fun e he => ⟨fun c hc => ?_, (hM.2.1 e he).2⟩, hM.2.2⟩
  rw [h.1 (2001 + c) (by omega)]
  exact (hM.2.1 e he).1 c hc
theorem Sk.MC {μ ν : Mem} {k : Nat} {l : List CL} (h : Sk μ ν) (hM : MC μ k l) : MC ν k l := MC_c (fun j _ _ => h.1 j (by omega)) hM
/-- the answers that wait, in the reference -/
def SE (μ : Mem) : List Bool → Prop
  | [] => True
  | b :: r => gI μ 2026 r.length = bI b ∧ SE μ r
theorem SE_s {μ : Mem} {i : Nat} {v : Int32} : ∀ {st : List Bool}, st.length ≤ i → SE μ st → SE (sI μ 2026 i v) st
  | [], _, _ => trivial
  | b :: r, h, hs => by
    simp only [List.length_cons] at h
    exact ⟨by rw [gI_ne2 (by omega)]; exact hs.1, SE_s (by omega) hs.2⟩
theorem ldZ_b {μ : Mem} {j : Nat} {b : Bool} (hj : j < 110) (h : gI μ 2026 j = bI b) : ldZ μ 2026 110 (nI j) = some (bI b) := by
  unfold ldZ
  rw [ldI_n hj (by omega), h]
  simp only [bind_p]
  cases b
  · rw [if_pos (.inl rfl)]
  · rw [if_pos (.inr rfl)]
theorem nrb (b : Bool) : vp_nar .boolean (bI b) = bI b := by cases b <;> rfl
theorem addm1 (n : Nat) : nI (n + 1) + (-1 : Int32) = nI n := by
  rw [nI_iI, nI_iI, show (-1 : Int32) = iI (-1) from rfl, iI_add]; congr 1; omega
theorem subm1 (n : Nat) : nI (n + 1) - (1 : Int32) = nI n := by
  rw [nI_iI, nI_iI, show (1 : Int32) = iI 1 from rfl, iI_sub]; congr 1; omega
theorem letter7 {μ : Mem} {e L : Nat} {σ : SG} (he : e < 6) (hrow : ∀ x, x < 7 → gI μ (2001 + x) e = nI (σ (x + 1) e)) (hL : L ≤ 5) : f_X7_letterOf μ (nI e) (nI L) = some (nI (vlOf σ e L)) := by
  have h0 : gI μ 2001 e = nI (σ 1 e) := hrow 0 (by omega)
  have h1 : gI μ 2002 e = nI (σ 2 e) := hrow 1 (by omega)
  have h2 : gI μ 2003 e = nI (σ 3 e) := hrow 2 (by omega)
  have h3 : gI μ 2004 e = nI (σ 4 e) := hrow 3 (by omega)
  have h4 : gI μ 2005 e = nI (σ 5 e) := hrow 4 (by omega)
  unfold f_X7_letterOf vlOf
  rcases (show L = 0 ∨ L = 1 ∨ L = 2 ∨ L = 3 ∨ L = 4 ∨ L = 5 by omega) with rfl | rfl | rfl | rfl | rfl | rfl
  · rw [if_pos (show nI 0 = 0 from rfl), if_pos rfl]
  · rw [if_neg (by decide), if_pos (show nI 1 = 1 from rfl), ldI_n he (by omega), h0, if_neg (by decide), if_pos (by decide)]; rfl
  · rw [if_neg (by decide), if_neg (by decide), if_pos (show nI 2 = 2 from rfl), ldI_n he (by omega), h1, if_neg (by decide), if_pos (by decide)]; rfl
  · rw [if_neg (by decide), if_neg (by decide), if_neg (by decide), if_pos (show nI 3 = 3 from rfl), ldI_n he (by omega), h2, if_neg (by decide), if_pos (by decide)]; rfl
  · rw [if_neg (by decide), if_neg (by decide), if_neg (by decide), if_neg (by decide), if_pos (show nI 4 = 4 from rfl), ldI_n he (by omega), h3, if_neg (by decide), if_pos (by decide)]; rfl
  · rw [if_neg (by decide), if_neg (by decide), if_neg (by decide), if_neg (by decide), if_neg (by decide), ldI_n he (by omega), h4, if_neg (by decide), if_pos (by decide)]; rfl
theorem ex_of {A B : Option (Int32 × Mem)} {v : Int32} {P : Mem → Prop} (h : A = B) (k : ∃ ν, B = some (v, ν) ∧ P ν) : ∃ ν, A = some (v, ν) ∧ P ν := by rw [h]; exact k
/-- what the reference does behind each code -/
theorem nx_s {κ : Mem → Int32 → Int32 → Int32 → Int32 → Option (Int32 × Mem)} {μ : Mem} {a b c : Int32} {i j : Nat} {v : Bool} (hj : j < 110) :
    f_X7_isTrue_139 κ μ a b c (nI i) (bI v) (nI j) = κ (sI μ 2026 j (bI v)) a b c (nI (i + 1)) ∧ f_X7_isTrue_171 κ μ a b c (nI i) (bI v) (nI j) = κ (sI μ 2026 j (bI v)) a b c (nI (i + 1)) ∧ f_X7_isTrue_244 κ μ a b c (nI i) (bI v) (nI j) = κ (sI μ 2026 j (bI v)) a b c (nI (i + 1)) := by
  unfold f_X7_isTrue_139 f_X7_isTrue_171 f_X7_isTrue_244 f_X7_isTrue_245
  rw [nrb, stI_n hj (by omega), K1, nI_add]
  exact ⟨rfl, rfl, rfl⟩
theorem rel_7 {κ : Mem → Int32 → Int32 → Int32 → Int32 → Option (Int32 × Mem)} {μ : Mem} {a b c : Int32} {i j s v m : Nat} (hj : j < 110) (hs : s ≤ 2) (hv : v ≤ 99) (hm : m ≤ 99) :
    (if nI s = (0 : Int32) then (if nI m ≤ nI v then f_X7_isTrue_139 κ μ a b c (nI i) (0 : Int32) (nI j) else f_X7_isTrue_139 κ μ a b c (nI i) (1 : Int32) (nI j)) else if nI s = (1 : Int32) then (if nI v = nI m then f_X7_isTrue_139 κ μ a b c (nI i) (1 : Int32) (nI j) else f_X7_isTrue_139 κ μ a b c (nI i) (0 : Int32) (nI j)) else (if nI v ≤ nI m then f_X7_isTrue_139 κ μ a b c (nI i) (0 : Int32) (nI j) else f_X7_isTrue_139 κ μ a b c (nI i) (1 : Int32) (nI j))) = κ (sI μ 2026 j (bI (rel s v m))) a b c (nI (i + 1)) := by
  have n1 := (nx_s (κ := κ) (μ := μ) (a := a) (b := b) (c := c) (i := i) (v := true) (j := j) hj).1
  have n0 := (nx_s (κ := κ) (μ := μ) (a := a) (b := b) (c := c) (i := i) (v := false) (j := j) hj).1
  rw [bI_t, show nI 1 = (1 : Int32) from rfl] at n1
  rw [bI_f, show nI 0 = (0 : Int32) from rfl] at n0
  rw [n1, n0]
  unfold rel
  rcases (show s = 0 ∨ s = 1 ∨ s = 2 by omega) with rfl | rfl | rfl
  · rw [if_pos (show nI 0 = (0 : Int32) from rfl), if_pos (rfl : (0 : Nat) = 0)]
    by_cases h : v < m
    · rw [if_neg (nI_ge h (by omega)), decide_eq_true h]; rfl
    · rw [if_pos (nI_le (by omega) (by omega)), decide_eq_false h]; rfl
  · rw [if_neg (show ¬ nI 1 = (0 : Int32) by decide), if_pos (show nI 1 = (1 : Int32) from rfl), if_neg (by decide : ¬ (1 : Nat) = 0), if_pos (rfl : (1 : Nat) = 1)]
    by_cases h : v = m
    · rw [if_pos (by rw [h]), decide_eq_true h]; rfl
    · rw [if_neg (by rw [nI_eq (by omega) (by omega)]; exact h), decide_eq_false h]; rfl
  · rw [if_neg (show ¬ nI 2 = (0 : Int32) by decide), if_neg (show ¬ nI 2 = (1 : Int32) by decide), if_neg (by decide : ¬ (2 : Nat) = 0), if_neg (by decide : ¬ (2 : Nat) = 1)]
    by_cases h : m < v
    · rw [if_neg (nI_ge h (by omega)), decide_eq_true h]; rfl
    · rw [if_pos (nI_le (by omega) (by omega)), decide_eq_false h]; rfl
theorem cod7 {c : Nat} (h3 : 3 ≤ c) (hc : c < 1803) : dvI (nI (c - 3)) (300 : Int32) = some (nI ((c - 3) / 300)) ∧ rmI (nI (c - 3)) (100 : Int32) = some (nI ((c - 3) % 100)) ∧ dvI (nI (c - 3)) (100 : Int32) = some (nI ((c - 3) / 100)) ∧ rmI (nI ((c - 3) / 100)) (3 : Int32) = some (nI ((c - 3) / 100 % 3)) :=
  ⟨dvI_n (b := 300) (by omega) (by omega) (by omega), rmI_n (b := 100) (by omega) (by omega) (by omega), dvI_n (b := 100) (by omega) (by omega) (by omega), rmI_n (b := 3) (by omega) (by omega) (by omega)⟩
/-- what a test's code says, by parts -/
theorem cod7' {c : Nat} (h3 : 3 ≤ c) (hc : c < 1803) : ∃ L s h m, L = (c - 3) / 300 ∧ s = (c - 3) / 100 % 3 ∧ m = (c - 3) % 100 ∧ L ≤ 5 ∧ s ≤ 2 ∧ m ≤ 99 ∧ dvI (nI (c - 3)) (300 : Int32) = some (nI L) ∧ rmI (nI (c - 3)) (100 : Int32) = some (nI m) ∧ dvI (nI (c - 3)) (100 : Int32) = some (nI h) ∧ rmI (nI h) (3 : Int32) = some (nI s) := by
  obtain ⟨h1, h2, h4, h5⟩ := cod7 h3 hc
  exact ⟨(c - 3) / 300, (c - 3) / 100 % 3, (c - 3) / 100, (c - 3) % 100, rfl, rfl, rfl, by omega, by omega, by omega, h1, h2, h4, h5⟩
theorem ist_l {μ0 : Mem} {e q B N : Nat} {σ : SG} (he : e < 6) (hq : q < 61) (hrow : ∀ x, x < 7 → gI μ0 (2001 + x) e = nI (σ (x + 1) e)) (hb : ∀ f, 1 ≤ f → f ≤ 5 → σ f e ≤ 30) (hB : gI μ0 2022 q = nI B) (hN : gI μ0 2023 q = nI N) (hE : B + N ≤ 800) :
    ∀ (cs : List Nat) n μ i st, Sk μ0 μ → (∀ j, (hj : j < cs.length) → gI μ0 2024 (i + j) = nI cs[j]) → i + cs.length = B + N → cs.length < n → SE μ st → st.length ≤ 20 → dep cs st.length = some 1 →
      ∃ μ', f_X7_isTrue_10 n μ (nI e) (nI q) (nI st.length) (nI i) = some (bI ((evs σ e cs st).headD false), μ') ∧ Sk μ0 μ' := by
  intro cs
  induction cs with
  | nil =>
    intro n μ i st hs ht hi hn hS hl hd
    obtain ⟨n, rfl⟩ := suc_of hn
    simp only [List.length_nil] at hi
    have hB' : gI μ 2022 q = nI B := by rw [hs.1 _ (by omega)]; exact hB
    have hN' : gI μ 2023 q = nI N := by rw [hs.1 _ (by omega)]; exact hN
    rw [dep] at hd
    match st, hd, hS with
    | [b], _, hS =>
      refine ⟨μ, ?_, hs⟩
      rw [f_X7_isTrue_10, ldI_n hq (by omega), ldI_n hq (by omega), hB', hN']
      simp only [bind_p]
      rw [nI_add, if_pos (nI_le (by omega) (by omega)), K0, ldZ_b (by omega) (show gI μ 2026 0 = bI b from hS.1)]
      rfl
    | [], hd, _ => simp at hd
    | _ :: _ :: _, hd, _ => simp at hd
  | cons c cs ih =>
    intro n μ i st hs ht hi hn hS hl hd
    obtain ⟨n, rfl⟩ := suc_of hn
    simp only [List.length_cons] at hi hn
    have hB' : gI μ 2022 q = nI B := by rw [hs.1 _ (by omega)]; exact hB
    have hN' : gI μ 2023 q = nI N := by rw [hs.1 _ (by omega)]; exact hN
    have ht0 : gI μ 2024 i = nI c := by rw [hs.1 _ (by omega)]; exact ht 0 (by simp)
    have hts : ∀ j, (hj : j < cs.length) → gI μ0 2024 (i + 1 + j) = nI cs[j] := fun j hj => by
      have := ht (j + 1) (by simp; omega)
      rw [show i + 1 + j = i + (j + 1) by omega, this]
      rfl
    rw [f_X7_isTrue_10, ldI_n hq (by omega), ldI_n hq (by omega), hB', hN', evs]
    simp only [bind_p]
    rw [nI_add, if_neg (nI_ge (by omega) (by omega)), ldI_n (by omega) (by omega), ht0]
    simp only [bind_p]
    rcases dep_c hd with ⟨rfl, h1, h2⟩ | ⟨hc, h1, h2⟩ | ⟨h3, hc, h1, h2⟩
    · cases st with
      | nil => simp at h1
      | cons b r =>
        simp only [List.length_cons] at hl h2 ⊢
        rw [if_pos (by decide), if_pos (show nI 0 = 0 from rfl), subm1, ldZ_b (by omega) hS.1]
        simp only [bind_p]
        have key := ih n (sI μ 2026 r.length (bI (!b))) (i + 1) ((!b) :: r) (hs.trans Sk_s) hts (by omega) (by omega) ⟨gI_at _ _ _ _, SE_s (Nat.le_refl _) hS.2⟩ (by simp; omega) (by simpa using h2)
        cases b
        · rw [if_pos (show bI false = 0 from rfl)]
          exact ex_of (nx_s (v := true) (j := r.length) (by omega)).2.1 key
        · rw [if_neg (show ¬ bI true = 0 by decide)]
          exact ex_of (nx_s (v := false) (j := r.length) (by omega)).2.1 key
    · match st, h1, hS, hl, h2 with
      | b :: a :: r, _, hS, hl, h2 =>
        simp only [List.length_cons] at hl h2 ⊢
        have hb1 : gI μ 2026 (r.length + 1) = bI b := hS.1
        have ha1 : gI μ 2026 r.length = bI a := hS.2.1
        have key : ∀ v : Bool, ∃ μ', f_X7_isTrue_10 n (sI μ 2026 r.length (bI v)) (nI e) (nI q) (nI (r.length + 1)) (nI (i + 1)) = some (bI ((evs σ e cs (v :: r)).headD false), μ') ∧ Sk μ0 μ' := fun v =>
          ih n (sI μ 2026 r.length (bI v)) (i + 1) (v :: r) (hs.trans Sk_s) hts (by omega) (by omega) ⟨gI_at _ _ _ _, SE_s (Nat.le_refl _) hS.2.2⟩ (by simp; omega) (by simpa using h2)
        have nx := fun (v : Bool) (κ : Mem → Int32 → Int32 → Int32 → Int32 → Option (Int32 × Mem)) (c : Int32) => (nx_s (κ := κ) (μ := μ) (a := nI e) (b := nI q) (c := c) (i := i) (v := v) (j := r.length) (by omega)).2.2
        rcases hc with rfl | rfl
        · rw [if_pos (by decide), if_neg (by decide), addm1, if_pos (show nI 1 = 1 from rfl), subm1, ldZ_b (by omega) ha1]
          simp only [bind_p]
          cases a
          · rw [if_pos (show bI false = 0 from rfl), f_X7_isTrue_215]
            exact ex_of (nx false _ _) (key false)
          · rw [if_neg (show ¬ bI true = 0 by decide), ldZ_b (by omega) hb1]
            simp only [bind_p]
            cases b
            · rw [if_pos (show bI false = 0 from rfl), f_X7_isTrue_215]
              exact ex_of (nx false _ _) (key false)
            · rw [if_neg (show ¬ bI true = 0 by decide)]
              exact ex_of (nx true _ _) (key true)
        · rw [if_pos (by decide), if_neg (by decide), addm1, if_neg (by decide), subm1, ldZ_b (by omega) ha1]
          simp only [bind_p]
          cases a
          · rw [if_pos (show bI false = 0 from rfl), ldZ_b (by omega) hb1]
            simp only [bind_p]
            cases b
            · rw [if_pos (show bI false = 0 from rfl)]
              exact ex_of (nx false _ _) (key false)
            · rw [if_neg (show ¬ bI true = 0 by decide), f_X7_isTrue_239]
              exact ex_of (nx true _ _) (key true)
          · rw [if_neg (show ¬ bI true = 0 by decide), f_X7_isTrue_239]
            exact ex_of (nx true _ _) (key true)
    · have hrow' : ∀ x, x < 7 → gI μ (2001 + x) e = nI (σ (x + 1) e) := fun x hx => by rw [hs.1 _ (by omega)]; exact hrow x hx
      have hst : stp σ e c st = tst σ e c :: st := by unfold stp; rw [if_neg (by omega), if_neg (by omega), if_neg (by omega)]
      rw [hst]
      have key : ∃ μ', f_X7_isTrue_10 n (sI μ 2026 st.length (bI (tst σ e c))) (nI e) (nI q) (nI (st.length + 1)) (nI (i + 1)) = some (bI ((evs σ e cs (tst σ e c :: st)).headD false), μ') ∧ Sk μ0 μ' :=
        ih n (sI μ 2026 st.length (bI (tst σ e c))) (i + 1) (tst σ e c :: st) (hs.trans Sk_s) hts (by omega) (by omega) ⟨gI_at _ _ _ _, SE_s (Nat.le_refl _) hS⟩ (by simp; omega) (by simpa using h2)
      have hst1 : nI st.length + (1 : Int32) = nI (st.length + 1) := by rw [K1, nI_add]
      have h3' : nI c - (3 : Int32) = nI (c - 3) := by rw [K3, nI_sub (by omega)]
      have hc3 : ¬ nI c < (3 : Int32) := by rw [K3]; exact nI_nlt (by omega) (by omega)
      obtain ⟨L, s, h, m, hL, hsd, hmd, hL5, hs2, hm9, hd1, hd2, hd3, hd4⟩ := cod7' h3 hc
      have ht : tst σ e c = rel s (vlOf σ e L) m := by rw [hL, hsd, hmd]; rfl
      have hlr := letter7 he hrow' hL5
      have hv : vlOf σ e L ≤ 99 := by
        unfold vlOf
        by_cases h0 : L = 0
        · rw [if_pos h0]; omega
        · rw [if_neg h0, if_pos hL5]; have := hb L (by omega) hL5; omega
      rw [ht] at key ⊢
      clear hL hsd hmd ht
      generalize vlOf σ e L = v at hlr hv key ⊢
      rw [if_neg hc3, h3', hd1]
      simp only [bind_p]
      rw [hlr, hd2, hd3]
      simp only [bind_p]
      rw [hd4]
      simp only [bind_p]
      rw [hst1]
      exact ex_of (rel_7 (by omega) hs2 hv hm9) key
