/-! a clause -/
theorem nI_ng {n : Nat} (h : n ≤ 127) : nI n ≠ -nI 1 := fun z => by
  rw [nI_iI, nI_iI, iI_neg, iI_eqI (by omega) (by omega) (by omega) (by omega)] at z; omega
def ClF (H : Nat) (tx : Nat → Nat) (p : Nat) (l : List CL) (gx : Mem → Nat → Option (Int32 × Mem)) (gm : Mem → Int32 → Option (Int32 × Mem)) : Prop :=
  ∃ p', p' ≤ H ∧ (∀ k0 μ ν, 1000 ≤ k0 → XI k0 H tx μ ν p l → ∃ ν', gx ν k0 = some (nI 0, ν') ∧ gI ν' 2 2 = nI p' ∧ XFr k0 μ ν') ∧ (∀ c0 st μ ξ, c0 ≤ 600 → st < 6 → MI c0 st H tx μ ξ p l → ∃ ξ', gm ξ (nI (10 * st + l.length)) = some (nI 0, ξ') ∧ gI ξ' 2000 13 = nI p' ∧ MFr c0 st μ ξ')
def ClY (H : Nat) (tx : Nat → Nat) (p : Nat) (l : List CL) (gx : Mem → Nat → Option (Int32 × Mem)) (gm : Mem → Int32 → Option (Int32 × Mem)) : Prop :=
  ∃ p' q, p ≤ p' ∧ p' ≤ H ∧ q.2.2.length ≤ p' - p ∧ okC q ∧ (¬ q.1 < 2 → q.2.2 = []) ∧ (∀ k0 μ ν, 1000 ≤ k0 → XI k0 H tx μ ν p l → ∃ ν', gx ν k0 = some (nI 1, ν') ∧ XI k0 H tx μ ν' p' (l ++ [q])) ∧ (∀ c0 st μ ξ, c0 ≤ 600 → st < 6 → MI c0 st H tx μ ξ p l → ∃ ξ', gm ξ (nI (10 * st + l.length)) = some (nI 1, ξ') ∧ MI c0 st H tx μ ξ' p' (l ++ [q]))
/-- what the reference writes of a clause before its codes .. -/
def cw (ξ : Mem) (I w n b : Nat) : Mem := sI (sI (sI (sI ξ 2020 I (nI w)) 2021 I (nI n)) 2022 I (nI b)) 2000 16 (nI 0)
def MB (c0 st : Nat) (ξ : Mem) (l : List CL) (w n b : Nat) : Prop := MA c0 st ξ l ∧ gI ξ 2020 (10 * st + l.length) = nI w ∧ gI ξ 2021 (10 * st + l.length) = nI n ∧ gI ξ 2022 (10 * st + l.length) = nI b
theorem cl_w {c0 st H p p2 o w n b : Nat} {tx : Nat → Nat} {μ ξ ξ2 : Mem} {l : List CL} (hM : MI c0 st H tx μ ξ p l) (hP : PM c0 H tx ξ ξ2 p2 (cat l) o) :
    PM c0 H tx (cw ξ2 (10 * st + l.length) w n b) (cw ξ2 (10 * st + l.length) w n b) p2 (cat l) 0 ∧ MFr c0 st μ (cw ξ2 (10 * st + l.length) w n b) ∧ MB c0 st (cw ξ2 (10 * st + l.length) w n b) l w n b := by
  obtain ⟨_, hA, hF⟩ := hM
  have hc := hP.2.2.2.1
  refine ⟨PM_s (PM_o (PM_w (PM_w (PM_w hP (by omega)) (by omega)) (by omega))), MFr_f (MFr_w (MFr_w (MFr_w (MFr_P hF hP) (by omega) (by omega)) (by omega) (by omega)) (by omega) (by omega)) (by omega), fun i q hq => ?_, ?_, ?_, ?_⟩
  · have hi : i < l.length := (List.getElem?_eq_some_iff.mp hq).1
    have h := hA i q hq
    rw [← hc 2020 (by omega) (by omega), ← hc 2021 (by omega) (by omega), ← hc 2022 (by omega) (by omega), ← hc 2023 (by omega) (by omega)] at h
    unfold cw
    rw [gI_ne1 (by omega), gI_ne1 (by omega), gI_ne1 (by omega), gI_ne2 (by omega), gI_ne1 (by omega), gI_ne1 (by omega), gI_ne2 (by omega), gI_ne1 (by omega), gI_ne1 (by omega), gI_ne2 (by omega), gI_ne1 (by omega), gI_ne1 (by omega), gI_ne1 (by omega), gI_ne1 (by omega), gI_ne1 (by omega), gI_ne1 (by omega)]
    exact h
  · unfold cw; rw [gI_ne1 (by omega), gI_ne1 (by omega), gI_ne1 (by omega), gI_at]
  · unfold cw; rw [gI_ne1 (by omega), gI_ne1 (by omega), gI_at]
  · unfold cw; rw [gI_ne1 (by omega), gI_at]
/-- .. and behind them -/
theorem cl_e {c0 st H p4 o w n : Nat} {tx : Nat → Nat} {μ ξ3 ξ4 : Mem} {l : List CL} {ns : List Nat} (hB : MB c0 st ξ3 l w n (c0 + (cat l).length)) (hF : MFr c0 st μ ξ3) (hP : PM c0 H tx ξ3 ξ4 p4 (cat l ++ ns) o) (hst : st < 6) (hl : l.length ≤ 9) (hc : c0 + (cat l ++ ns).length ≤ 800) :
    ∃ ξ5, f_X7_isClause_184 ξ4 (nI (10 * st + l.length)) = some (nI 1, ξ5) ∧ MI c0 st H tx μ ξ5 p4 (l ++ [(w, n, ns)]) := by
  obtain ⟨hA, h0, h1, h2⟩ := hB
  have hq := hP.2.2.2.1
  rw [List.length_append] at hc
  refine ⟨sI ξ4 2023 (10 * st + l.length) (nI ns.length), ?_, ⟨o, ?_⟩, fun i q hi => ?_, MFr_w (MFr_P hF hP) (by omega) (by omega)⟩
  · unfold f_X7_isClause_184
    rw [ldI_n (by omega) (by omega), hq 2022 (by omega) (by omega), h2, hP.2.1.1, List.length_append]
    simp only [bind_p]
    rw [nI_sub (by omega), stI_n (by omega) (by omega), show c0 + ((cat l).length + ns.length) - (c0 + (cat l).length) = ns.length by omega]
    rfl
  · rw [cat_a]
    exact PM_w hP (by omega)
  · rw [gI_ne1 (by omega), gI_ne1 (by omega), gI_ne1 (by omega), hq 2020 (by omega) (by omega), hq 2021 (by omega) (by omega), hq 2022 (by omega) (by omega)]
    rcases app_c hi with ⟨c, e⟩ | ⟨rfl, rfl⟩
    · rw [gI_ne2 (by omega), hq 2023 (by omega) (by omega), endX_a (by omega)]
      exact hA i q e
    · rw [gI_at, endX_a (Nat.le_refl _), ← cat_l]
      exact ⟨h0, h1, h2, rfl⟩
/-- what the class writes of a clause -/
theorem cl_x {k0 H p4 w n m : Nat} {tx : Nat → Nat} {μ ν ν4 : Mem} {l : List CL} {ns : List Nat} (hk : 1000 ≤ k0) (hA : XA k0 ν l) (hF : XFr k0 μ ν) (hP : PX k0 H tx ν ν4 p4 (cat l ++ ns)) (hl : l.length ≤ 9) (hw : w < 2) (hcl : cat (ces l) = cat l) (hm : m = (ces l).length) :
    ∃ ν5, f_X3_readClause_127 k0 ν4 (if w = 0 then nI n else -nI n) (nI m) = some (nI 1, ν5) ∧ XI k0 H tx μ ν5 p4 (l ++ [(w, n, ns)]) := by
  subst hm
  have hm9 := ces_l l
  have hA4 := XA_P hk hA hP
  obtain ⟨a0, a1, a2⟩ := hA4
  refine ⟨sI (sI (sI ν4 (k0 + 1) (ces l).length (if w = 0 then nI n else -nI n)) (k0 + 2) (ces l).length (nI (cat l ++ ns).length)) k0 1 (nI ((ces l).length + 1)), ?_, ?_, ⟨?_, ?_, fun i q hi => ?_⟩, XFr_w (XFr_w (XFr_w (XFr_P hF hP) (by omega)) (by omega)) (by omega)⟩
  · unfold f_X3_readClause_127
    rw [stI_n (by omega) (by omega)]
    simp only [bind_p]
    rw [gI_ne1 (by omega), gI_ne1 (by omega), a1, hP.2.1.1, stI_n (by omega) (by omega)]
    simp only [bind_p]
    rw [gI_ne1 (by omega), gI_ne1 (by omega), a1, K1, nI_add]
  · rw [cat_a]
    exact PX_w hk (PX_w hk (PX_w hk hP (by omega)) (by omega)) (by omega)
  · rw [gI_ne2 (by omega), gI_ne1 (by omega), gI_ne1 (by omega), allN_a, if_neg (show ¬ w = 2 by omega)]; exact a0
  · rw [gI_at, ces_a (show ((w, n, ns) : CL).1 < 2 from hw), List.length_append]; rfl
  · rw [ces_a (show ((w, n, ns) : CL).1 < 2 from hw)] at hi ⊢
    rcases app_c hi with ⟨c, e⟩ | ⟨rfl, rfl⟩
    · rw [gI_ne1 (by omega), gI_ne1 (by omega), gI_ne2 (by omega), gI_ne1 (by omega), gI_ne2 (by omega), gI_ne1 (by omega), endX_a (by omega)]
      exact a2 i q e
    · rw [gI_ne1 (by omega), gI_ne1 (by omega), gI_at, gI_ne1 (by omega), gI_at]
      refine ⟨rfl, ?_⟩
      have h := cat_l (ces l ++ [((w, n, ns) : CL)])
      rw [cat_a, hcl, List.length_append (as := ces l)] at h
      rw [h]; rfl
theorem cl_ok {H p w ch : Nat} {tx : Nat → Nat} {l : List CL} (hH : H ≤ 100) (htx : ∀ i, i < H → tx i ≤ 127) (hp : p ≤ H) (hl : l.length ≤ 9) (hcs : (cat l).length ≤ p) (hcl : cat (ces l) = cat l) (hw : (w = 0 ∧ ch = 108) ∨ (w = 1 ∧ ch = 101) ∨ (w = 2 ∧ ch = 97)) :
    ClF H tx p l (fun ν k0 => f_X3_readClause_29 k0 ν (nI ch) w) (fun ξ a => f_X7_isClause_69 ξ a (nI w)) ∨ ClY H tx p l (fun ν k0 => f_X3_readClause_29 k0 ν (nI ch) w) (fun ξ a => f_X7_isClause_69 ξ a (nI w)) := by
  have hw2 : w ≤ 2 := by omega
  obtain ⟨b1, b2⟩ := wm_b (H := H) (tx := tx) (wd w) p hp
  have hwd : wd (w + 6) = wd w ++ [32] := by
    rcases hw with ⟨rfl, _⟩ | ⟨rfl, _⟩ | ⟨rfl, _⟩ <;> rfl
  have hwa := wm_a (H := H) (tx := tx) (wd w) p 32
  rw [← hwd] at hwa
  have x1 : ∀ k0 ν, 1000 ≤ k0 → PX k0 H tx ν ν p (cat l) → ∃ ν', f_X5_takeWord ν w = some (bI (wm H tx p (wd w)).1, ν') ∧ PX k0 H tx ν ν' (wm H tx p (wd w)).2 (cat l) := fun k0 ν hk h => by
    have := wd_n w (by omega)
    exact wd6 (k := w) (by omega) hk hH htx (wd w).length 0 FU p ν (by omega) (FU_p _ (by omega)) hp h
  have y1 : ∀ c0 ξ o, PM c0 H tx ξ ξ p (cat l) o → ∀ a, ∃ ξ', f_X7_isClause_69 ξ a (nI w) = f_X7_isClause_115 ξ' a (nI w) (bI (wm H tx p (wd (w + 6))).1) ∧ PM c0 H tx ξ ξ' (wm H tx p (wd (w + 6))).2 (cat l) o := fun c0 ξ o h a => by
    have := wd_n (w + 6) (by omega)
    obtain ⟨ξ', e, h'⟩ := wd7 (k := w + 6) (by omega) hH htx (wd (w + 6)).length 0 FU p ξ (by omega) (FU_p _ (by omega)) hp h
    refine ⟨ξ', ?_, h'⟩
    have e' : f_X7_isAll ξ (w + 6) = some (bI (wm H tx p (wd (w + 6))).1, ξ') := e
    unfold f_X7_isClause_69
    rcases hw with ⟨rfl, _⟩ | ⟨rfl, _⟩ | ⟨rfl, _⟩
    · rw [if_pos (show nI 0 = (0 : Int32) from rfl), e']; rfl
    · rw [if_neg (show ¬ nI 1 = (0 : Int32) by decide), if_pos (show nI 1 = (1 : Int32) from rfl), e']; rfl
    · rw [if_neg (show ¬ nI 2 = (0 : Int32) by decide), if_neg (show ¬ nI 2 = (1 : Int32) by decide), if_pos (show nI 2 = (2 : Int32) from rfl), e']
      simp only [bind_p]
      cases (wm H tx p (wd (2 + 6))).1
      · rw [if_pos (show bI false = (0 : Int32) from rfl)]; rfl
      · rw [if_neg (show ¬ bI true = (0 : Int32) by decide)]; rfl
  by_cases r1 : (wm H tx p (wd w)).1 = true
  case neg =>
    rw [if_neg r1] at hwa
    have r1' : (wm H tx p (wd w)).1 = false := by revert r1; cases (wm H tx p (wd w)).1 <;> simp
    refine .inl ⟨(wm H tx p (wd w)).2, b2, fun k0 μ ν hk h => ?_, fun c0 st μ ξ hc hst h => ?_⟩
    · obtain ⟨hP, hA, hF⟩ := h
      obtain ⟨ν1, e1, q1⟩ := x1 k0 ν hk hP
      refine ⟨ν1, ?_, q1.1.2.1, XFr_P hF q1⟩
      show f_X3_readClause_29 k0 ν (nI ch) w = _
      unfold f_X3_readClause_29
      rw [e1]
      simp only [bind_p]
      rw [r1', if_pos (show bI false = (0 : Int32) from rfl)]; rfl
    · obtain ⟨⟨o, hP⟩, hA, hF⟩ := h
      obtain ⟨ξ1, e1, q1⟩ := y1 c0 ξ o hP (nI (10 * st + l.length))
      rw [hwa] at e1 q1
      refine ⟨ξ1, ?_, q1.1.2.1, MFr_P hF q1⟩
      show f_X7_isClause_69 ξ _ (nI w) = _
      rw [e1, r1']
      unfold f_X7_isClause_115
      rw [if_pos (show bI false = (0 : Int32) from rfl)]; rfl
  rw [if_pos r1] at hwa
  generalize (wm H tx p (wd w)).2 = p1 at *
  by_cases r2 : p1 < H ∧ tx p1 = 32
  case neg =>
    rw [if_neg r2] at hwa
    refine .inl ⟨p1, b2, fun k0 μ ν hk h => ?_, fun c0 st μ ξ hc hst h => ?_⟩
    · obtain ⟨hP, hA, hF⟩ := h
      obtain ⟨ν1, e1, q1⟩ := x1 k0 ν hk hP
      refine ⟨ν1, ?_, q1.1.2.1, XFr_P hF q1⟩
      show f_X3_readClause_29 k0 ν (nI ch) w = _
      unfold f_X3_readClause_29
      rw [e1]
      simp only [bind_p]
      rw [r1, if_neg (show ¬ bI true = (0 : Int32) by decide), K32, tkN q1 hH b2 htx (by omega) r2]
      simp only [bind_p]
      rw [if_pos (show nI 0 = (0 : Int32) from rfl)]; rfl
    · obtain ⟨⟨o, hP⟩, hA, hF⟩ := h
      obtain ⟨ξ1, e1, q1⟩ := y1 c0 ξ o hP (nI (10 * st + l.length))
      rw [hwa] at e1 q1
      refine ⟨ξ1, ?_, q1.1.2.1, MFr_P hF q1⟩
      show f_X7_isClause_69 ξ _ (nI w) = _
      rw [e1]
      unfold f_X7_isClause_115
      rw [if_pos (show bI false = (0 : Int32) from rfl)]; rfl
  rw [if_pos r2] at hwa
  obtain ⟨r2a, r2b⟩ := r2
  have x2 : ∀ k0 ν, 1000 ≤ k0 → PX k0 H tx ν ν p (cat l) → ∃ ν', f_X3_readClause_29 k0 ν (nI ch) w = ((f_X5_takeNumber ν').bind fun p57 =>
      if (0 : Int32) ≤ p57.1 then
        if nI ch = (97 : Int32) then
          (some (sI p57.2 k0 0 p57.1)).bind fun μ72 =>
          some ((1 : Int32), μ72)
        else
          (f_X5_takeSign p57.2 (32 : Int32)).bind fun p63 =>
          if p63.1 = (0 : Int32) then
            some ((0 : Int32), p63.2)
          else
            (f_X3_readAny p63.2 k0 (0 : Int32)).bind fun p68 =>
            if p68.1 = (0 : Int32) then
              some ((0 : Int32), p68.2)
            else
              if (gI p68.2 k0 1) < (10 : Int32) then
                if nI ch = (108 : Int32) then
                  f_X3_readClause_127 k0 p68.2 p57.1 (gI p68.2 k0 1)
                else
                  f_X3_readClause_127 k0 p68.2 (-p57.1) (gI p68.2 k0 1)
              else
                some ((0 : Int32), p68.2)
      else
        some ((0 : Int32), p57.2)) ∧ PX k0 H tx ν ν' (p1 + 1) (cat l) := fun k0 ν hk h => by
    obtain ⟨ν1, e1, q1⟩ := x1 k0 ν hk h
    obtain ⟨ν2, e2, q2⟩ := tkY hk q1 hH r2a r2b
    refine ⟨ν2, ?_, q2⟩
    unfold f_X3_readClause_29
    rw [e1]
    simp only [bind_p]
    rw [r1, if_neg (show ¬ bI true = (0 : Int32) by decide), K32, e2]
    simp only [bind_p]
    rw [if_neg (show ¬ nI 1 = (0 : Int32) by decide)]
  cases hn : nmF H tx (p1 + 1) with
  | none =>
    refine .inl ⟨p1 + 1, r2a, fun k0 μ ν hk h => ?_, fun c0 st μ ξ hc hst h => ?_⟩
    · obtain ⟨hP, hA, hF⟩ := h
      obtain ⟨ν1, e1, q1⟩ := x2 k0 ν hk hP
      have e2 := num6 hk q1 hH r2a htx
      rw [hn] at e2
      refine ⟨ν1, ?_, q1.1.2.1, XFr_P hF q1⟩
      show f_X3_readClause_29 k0 ν (nI ch) w = _
      rw [e1, show f_X5_takeNumber ν1 = some (-nI 1, ν1) from e2]
      simp only [bind_p]
      rw [if_neg (show ¬ (0 : Int32) ≤ -nI 1 by decide)]; rfl
    · obtain ⟨⟨o, hP⟩, hA, hF⟩ := h
      obtain ⟨ξ1, e1, q1⟩ := y1 c0 ξ o hP (nI (10 * st + l.length))
      rw [hwa] at e1 q1
      have e2 := num7 q1 hH r2a htx
      rw [hn] at e2
      obtain ⟨ξ2, e2, q2⟩ := e2
      refine ⟨ξ2, ?_, q2.1.2.1, MFr_P hF q2⟩
      show f_X7_isClause_69 ξ _ (nI w) = _
      rw [e1]
      unfold f_X7_isClause_115
      rw [if_neg (show ¬ bI true = (0 : Int32) by decide), e2]
      simp only [bind_p]
      rw [if_pos (show nI 0 = (0 : Int32) from rfl)]; rfl
  | some nq =>
    obtain ⟨n, p2⟩ := nq
    obtain ⟨n1, n2, n3⟩ := nmF_b hn
    have x3 : ∀ k0 ν, 1000 ≤ k0 → PX k0 H tx ν ν p (cat l) → ∃ ν', f_X3_readClause_29 k0 ν (nI ch) w = (
        if nI ch = (97 : Int32) then
          (some (sI ν' k0 0 (nI n))).bind fun μ72 =>
          some ((1 : Int32), μ72)
        else
          (f_X5_takeSign ν' (32 : Int32)).bind fun p63 =>
          if p63.1 = (0 : Int32) then
            some ((0 : Int32), p63.2)
          else
            (f_X3_readAny p63.2 k0 (0 : Int32)).bind fun p68 =>
            if p68.1 = (0 : Int32) then
              some ((0 : Int32), p68.2)
            else
              if (gI p68.2 k0 1) < (10 : Int32) then
                if nI ch = (108 : Int32) then
                  f_X3_readClause_127 k0 p68.2 (nI n) (gI p68.2 k0 1)
                else
                  f_X3_readClause_127 k0 p68.2 (-nI n) (gI p68.2 k0 1)
              else
                some ((0 : Int32), p68.2)) ∧ PX k0 H tx ν ν' p2 (cat l) := fun k0 ν hk h => by
      obtain ⟨ν1, e1, q1⟩ := x2 k0 ν hk h
      have e2 := num6 hk q1 hH r2a htx
      rw [hn] at e2
      obtain ⟨ν2, e2, q2⟩ := e2
      refine ⟨ν2, ?_, q2⟩
      rw [e1, e2]
      simp only [bind_p]
      rw [if_pos (nI_pos' (by omega))]
    have y3 : ∀ c0 st μ ξ, c0 ≤ 600 → st < 6 → MI c0 st H tx μ ξ p l → ∃ ξ', f_X7_isClause_69 ξ (nI (10 * st + l.length)) (nI w) = (
        if (2 : Int32) ≤ nI w then
          f_X7_isClause_184 ξ' (nI (10 * st + l.length))
        else
          (f_X7_is ξ' (32 : Int32)).bind fun p63 =>
          if p63.1 = (0 : Int32) then
            some ((0 : Int32), p63.2)
          else
            (f_X7_isE p63.2).bind fun p68 =>
            if p68.1 = (0 : Int32) then
              some ((0 : Int32), p68.2)
            else
              f_X7_isClause_184 p68.2 (nI (10 * st + l.length))) ∧ PM c0 H tx ξ' ξ' p2 (cat l) 0 ∧ MFr c0 st μ ξ' ∧ MB c0 st ξ' l w n (c0 + (cat l).length) := fun c0 st μ ξ hc hst h => by
      obtain ⟨o, hP⟩ := h.1
      obtain ⟨ξ1, e1, q1⟩ := y1 c0 ξ o hP (nI (10 * st + l.length))
      rw [hwa] at e1 q1
      have e2 := num7 q1 hH r2a htx
      rw [hn] at e2
      obtain ⟨ξ2, e2, q2, q3⟩ := e2
      refine ⟨cw ξ2 (10 * st + l.length) w n (c0 + (cat l).length), ?_, cl_w h q2⟩
      rw [e1]
      unfold f_X7_isClause_115
      rw [if_neg (show ¬ bI true = (0 : Int32) by decide), e2]
      simp only [bind_p]
      rw [if_neg (show ¬ nI 1 = (0 : Int32) by decide), stI_n (by omega) (by omega)]
      simp only [bind_p]
      rw [gI_ne1 (by omega), q3, stI_n (by omega) (by omega)]
      simp only [bind_p]
      rw [gI_ne1 (by omega), gI_ne1 (by omega), q2.2.1.1, stI_n (by omega) (by omega)]
      rfl
    by_cases z : w = 2
    · obtain rfl : ch = 97 := by omega
      subst z
      refine .inr ⟨p2, (2, n, []), by omega, n3, Nat.zero_le _, ⟨Nat.le_refl _, n1, Nat.zero_le _, fun z => absurd z (Nat.lt_irrefl 2)⟩, fun _ => rfl, fun k0 μ ν hk h => ?_, fun c0 st μ ξ hc hst h => ?_⟩
      · obtain ⟨hP, hA, hF⟩ := h
        obtain ⟨ν1, e1, q1⟩ := x3 k0 ν hk hP
        obtain ⟨a0, a1, a2⟩ := XA_P hk hA q1
        have hce : ces (l ++ [((2, n, []) : CL)]) = ces l := ces_b (Nat.lt_irrefl 2)
        refine ⟨sI ν1 k0 0 (nI n), ?_, ?_, ⟨?_, ?_, fun i q hi => ?_⟩, XFr_w (XFr_P hF q1) (by omega)⟩
        · show f_X3_readClause_29 k0 ν (nI 97) 2 = _
          rw [e1, if_pos (show nI 97 = (97 : Int32) from rfl)]
          rfl
        · rw [cat_a, ag_nil]; exact PX_w hk q1 (by omega)
        · rw [gI_at, allN_a]; rfl
        · rw [gI_ne2 (by omega), hce]; exact a1
        · rw [hce] at hi ⊢
          rw [gI_ne1 (by omega), gI_ne1 (by omega)]; exact a2 i q hi
      · obtain ⟨ξ1, e1, q1, q2, q3⟩ := y3 c0 st μ ξ hc hst h
        have q1' := q1
        rw [← ag_nil (cat l)] at q1'
        obtain ⟨ξ2, e2, q4⟩ := cl_e q3 q2 q1' hst hl (by rw [ag_nil]; omega)
        refine ⟨ξ2, ?_, q4⟩
        show f_X7_isClause_69 ξ _ (nI 2) = _
        rw [e1, if_pos (show (2 : Int32) ≤ nI 2 by decide)]
        exact e2
    · have hw1 : w < 2 := by omega
      have h97 : ¬ nI ch = (97 : Int32) := by
        rw [K97, nI_eq (by omega) (by omega)]; omega
      have h2w : ¬ (2 : Int32) ≤ nI w := by
        rw [K2]; exact nI_ge hw1 (by omega)
      by_cases r3 : p2 < H ∧ tx p2 = 32
      case neg =>
        refine .inl ⟨p2, n3, fun k0 μ ν hk h => ?_, fun c0 st μ ξ hc hst h => ?_⟩
        · obtain ⟨hP, hA, hF⟩ := h
          obtain ⟨ν1, e1, q1⟩ := x3 k0 ν hk hP
          refine ⟨ν1, ?_, q1.1.2.1, XFr_P hF q1⟩
          show f_X3_readClause_29 k0 ν (nI ch) w = _
          rw [e1, if_neg h97, K32, tkN q1 hH n3 htx (by omega) r3]
          simp only [bind_p]
          rw [if_pos (show nI 0 = (0 : Int32) from rfl)]; rfl
        · obtain ⟨ξ1, e1, q1, q2, q3⟩ := y3 c0 st μ ξ hc hst h
          refine ⟨ξ1, ?_, q1.1.2.1, q2⟩
          show f_X7_isClause_69 ξ _ (nI w) = _
          rw [e1, if_neg h2w, K32, isN q1 hH n3 htx (by omega) r3]
          simp only [bind_p]
          rw [if_pos (show nI 0 = (0 : Int32) from rfl)]; rfl
      obtain ⟨r3a, r3b⟩ := r3
      obtain ⟨b, p4, ns, ⟨j1, j2, j3⟩, jd, jx, jm⟩ := any_ok hH htx (p2 + 1) (cat l) (by omega) (by omega)
      by_cases hb : b = true
      case neg =>
        have hb' : b = false := by revert hb; cases b <;> simp
        refine .inl ⟨p4, j2, fun k0 μ ν hk h => ?_, fun c0 st μ ξ hc hst h => ?_⟩
        · obtain ⟨hP, hA, hF⟩ := h
          obtain ⟨ν1, e1, q1⟩ := x3 k0 ν hk hP
          obtain ⟨ν2, e2, q2⟩ := tkY hk q1 hH r3a r3b
          obtain ⟨ν3, e3, q3⟩ := jx k0 ν ν2 hk q2
          refine ⟨ν3, ?_, q3.1.2.1, XFr_P hF q3⟩
          show f_X3_readClause_29 k0 ν (nI ch) w = _
          rw [e1, if_neg h97, K32, e2]
          simp only [bind_p]
          rw [if_neg (show ¬ nI 1 = (0 : Int32) by decide), show f_X3_readAny ν2 k0 (0 : Int32) = some (bI b, ν3) from e3]
          simp only [bind_p]
          rw [hb', if_pos (show bI false = (0 : Int32) from rfl)]; rfl
        · obtain ⟨ξ1, e1, q1, q2, q3⟩ := y3 c0 st μ ξ hc hst h
          obtain ⟨ξ2, e2, q4⟩ := isY q1 hH r3a r3b
          obtain ⟨ξ3, e3, q5⟩ := jm c0 ξ1 ξ2 hc q4
          refine ⟨ξ3, ?_, q5.1.2.1, MFr_P q2 q5⟩
          show f_X7_isClause_69 ξ _ (nI w) = _
          rw [e1, if_neg h2w, K32, e2]
          simp only [bind_p]
          rw [if_neg (show ¬ nI 1 = (0 : Int32) by decide), e3]
          simp only [bind_p]
          rw [hb', if_pos (show bI false = (0 : Int32) from rfl)]; rfl
      · obtain ⟨jp, jdd⟩ := jd hb
        have hdep : dep ns 0 = some 1 := by
          have := jdd 0 (Nat.le_refl _) []
          rw [ag_nil] at this
          exact this
        refine .inr ⟨p4, (w, n, ns), by omega, j2, by show ns.length ≤ _; omega, ⟨hw2, n1, by show ns.length ≤ _; omega, fun _ => hdep⟩, fun z => absurd hw1 z, fun k0 μ ν hk h => ?_, fun c0 st μ ξ hc hst h => ?_⟩
        · obtain ⟨hP, hA, hF⟩ := h
          obtain ⟨ν1, e1, q1⟩ := x3 k0 ν hk hP
          obtain ⟨ν2, e2, q2⟩ := tkY hk q1 hH r3a r3b
          obtain ⟨ν3, e3, q3⟩ := jx k0 ν ν2 hk q2
          obtain ⟨ν4, e4, q4⟩ := cl_x (n := n) hk hA hF q3 hl hw1 hcl rfl
          have hm9 := ces_l l
          refine ⟨ν4, ?_, q4⟩
          show f_X3_readClause_29 k0 ν (nI ch) w = _
          rw [e1, if_neg h97, K32, e2]
          simp only [bind_p]
          rw [if_neg (show ¬ nI 1 = (0 : Int32) by decide), show f_X3_readAny ν2 k0 (0 : Int32) = some (bI b, ν3) from e3]
          simp only [bind_p]
          rw [hb, if_neg (show ¬ bI true = (0 : Int32) by decide), (XA_P hk hA q3).2.1, K10, if_pos (nI_lt (by omega) (by omega))]
          rcases hw with ⟨rfl, rfl⟩ | ⟨rfl, rfl⟩ | ⟨rfl, rfl⟩
          · rw [if_pos (show nI 108 = (108 : Int32) from rfl)]; exact e4
          · rw [if_neg (show ¬ nI 101 = (108 : Int32) by decide)]; exact e4
          · exact absurd rfl z
        · obtain ⟨ξ1, e1, q1, q2, q3⟩ := y3 c0 st μ ξ hc hst h
          obtain ⟨ξ2, e2, q4⟩ := isY q1 hH r3a r3b
          obtain ⟨ξ3, e3, q5⟩ := jm c0 ξ1 ξ2 hc q4
          obtain ⟨ξ4, e4, q6⟩ := cl_e q3 q2 q5 hst hl (by rw [List.length_append]; omega)
          refine ⟨ξ4, ?_, q6⟩
          show f_X7_isClause_69 ξ _ (nI w) = _
          rw [e1, if_neg h2w, K32, e2]
          simp only [bind_p]
          rw [if_neg (show ¬ nI 1 = (0 : Int32) by decide), e3]
          simp only [bind_p]
          rw [hb, if_neg (show ¬ bI true = (0 : Int32) by decide)]
          exact e4
theorem clause_ok {H p : Nat} {tx : Nat → Nat} {l : List CL} (hH : H ≤ 100) (htx : ∀ i, i < H → tx i ≤ 127) (hp : p ≤ H) (hl : l.length ≤ 9) (hcs : (cat l).length ≤ p) (hcl : cat (ces l) = cat l) :
    ClF H tx p l (fun ν k0 => f_X3_readClause ν k0) (fun ξ a => f_X7_isClause ξ a) ∨ ClY H tx p l (fun ν k0 => f_X3_readClause ν k0) (fun ξ a => f_X7_isClause ξ a) := by
  have go : ∀ w ch, ((w = 0 ∧ ch = 108) ∨ (w = 1 ∧ ch = 101) ∨ (w = 2 ∧ ch = 97)) → p < H → tx p = ch → (∀ k0 μ0 ν, PX k0 H tx μ0 ν p (cat l) → f_X3_readClause ν k0 = f_X3_readClause_29 k0 ν (nI ch) w) ∧ (∀ c0 o μ0 ξ a, PM c0 H tx μ0 ξ p (cat l) o → f_X7_isClause ξ a = f_X7_isClause_69 ξ a (nI w)) := fun w ch hw hpH hc => by
    refine ⟨fun k0 μ0 ν h => ?_, fun c0 o μ0 ξ a h => ?_⟩
    · unfold f_X3_readClause
      rw [next6 h hH hp, if_pos hpH, hc]
      simp only [bind_p]
      rcases hw with ⟨rfl, rfl⟩ | ⟨rfl, rfl⟩ | ⟨rfl, rfl⟩
      · rw [if_pos (show nI 108 = (108 : Int32) from rfl)]
      · rw [if_neg (show ¬ nI 101 = (108 : Int32) by decide), if_pos (show nI 101 = (101 : Int32) from rfl)]
      · rw [if_neg (show ¬ nI 97 = (108 : Int32) by decide), if_neg (show ¬ nI 97 = (101 : Int32) by decide)]
    · unfold f_X7_isClause f_X7_isClause_68
      rw [h.1.1, h.1.2.1, if_neg (nI_ge hpH (by omega)), ldI_n (by omega) (by omega), h.1.2.2 p hpH, hc]
      simp only [bind_p]
      rcases hw with ⟨rfl, rfl⟩ | ⟨rfl, rfl⟩ | ⟨rfl, rfl⟩
      · rw [if_pos (show nI 108 = (108 : Int32) from rfl)]; rfl
      · rw [if_neg (show ¬ nI 101 = (108 : Int32) by decide), if_pos (show nI 101 = (101 : Int32) from rfl)]; rfl
      · rw [if_neg (show ¬ nI 97 = (108 : Int32) by decide), if_neg (show ¬ nI 97 = (101 : Int32) by decide), if_pos (show nI 97 = (97 : Int32) from rfl)]; rfl
  have go2 : ∀ w ch, ((w = 0 ∧ ch = 108) ∨ (w = 1 ∧ ch = 101) ∨ (w = 2 ∧ ch = 97)) → p < H → tx p = ch → ClF H tx p l (fun ν k0 => f_X3_readClause ν k0) (fun ξ a => f_X7_isClause ξ a) ∨ ClY H tx p l (fun ν k0 => f_X3_readClause ν k0) (fun ξ a => f_X7_isClause ξ a) := fun w ch hw hpH hc => by
    obtain ⟨g1, g2⟩ := go w ch hw hpH hc
    rcases cl_ok hH htx hp hl hcs hcl hw with ⟨p', a1, a2, a3⟩ | ⟨p', q, a0, a1, a2, a3, a4, a5, a6⟩
    · refine .inl ⟨p', a1, fun k0 μ ν hk h => ?_, fun c0 st μ ξ hc hst h => ?_⟩
      · obtain ⟨ν', e, f⟩ := a2 k0 μ ν hk h
        exact ⟨ν', (g1 k0 ν ν h.1).trans e, f⟩
      · obtain ⟨ν', e, f⟩ := a3 c0 st μ ξ hc hst h
        obtain ⟨o, hP⟩ := h.1
        exact ⟨ν', (g2 c0 o ξ ξ _ hP).trans e, f⟩
    · refine .inr ⟨p', q, a0, a1, a2, a3, a4, fun k0 μ ν hk h => ?_, fun c0 st μ ξ hc hst h => ?_⟩
      · obtain ⟨ν', e, f⟩ := a5 k0 μ ν hk h
        exact ⟨ν', (g1 k0 ν ν h.1).trans e, f⟩
      · obtain ⟨ν', e, f⟩ := a6 c0 st μ ξ hc hst h
        obtain ⟨o, hP⟩ := h.1
        exact ⟨ν', (g2 c0 o ξ ξ _ hP).trans e, f⟩
  by_cases h1 : p < H ∧ tx p = 108
  · exact go2 0 108 (.inl ⟨rfl, rfl⟩) h1.1 h1.2
  by_cases h2 : p < H ∧ tx p = 101
  · exact go2 1 101 (.inr (.inl ⟨rfl, rfl⟩)) h2.1 h2.2
  by_cases h3 : p < H ∧ tx p = 97
  · exact go2 2 97 (.inr (.inr ⟨rfl, rfl⟩)) h3.1 h3.2
  refine .inl ⟨p, hp, fun k0 μ ν hk h => ?_, fun c0 st μ ξ hc hst h => ?_⟩
  · obtain ⟨hP, hA, hF⟩ := h
    refine ⟨ν, ?_, hP.1.2.1, hF⟩
    have hv : ∃ v, f_X5_next ν = some v ∧ ¬ v = (108 : Int32) ∧ ¬ v = (101 : Int32) := by
      refine ⟨_, next6 hP hH hp, ?_⟩
      by_cases q : p < H
      · have ht := htx p q
        rw [if_pos q, K108, K101, nI_eq (by omega) (by omega), nI_eq (by omega) (by omega)]
        exact ⟨fun z => h1 ⟨q, z⟩, fun z => h2 ⟨q, z⟩⟩
      · rw [if_neg q]; exact ⟨by decide, by decide⟩
    obtain ⟨v, e, v1, v2⟩ := hv
    show f_X3_readClause ν k0 = _
    unfold f_X3_readClause
    rw [e]
    simp only [bind_p]
    rw [if_neg v1, if_neg v2]
    unfold f_X3_readClause_29
    obtain ⟨ν', e1, q1⟩ := wd6 (k := 2) (by omega) hk hH htx 3 0 FU p ν rfl (FU_p _ (by omega)) hp hP
    rw [show (wd 2).drop 0 = 97 :: [108, 108] from rfl, wm, if_neg h3] at e1 q1
    have e0 : f_X5_takeWord ν 2 = some (nI 0, ν) := by
      have : f_X5_takeWord_2 2 FU ν (nI 0) = some (nI 0, ν) := by
        obtain ⟨N, hFU⟩ := FU_8
        rw [hFU, f_X5_takeWord_2, show f_J0_length_8abf5 ν 2 = some (nI 3) from wd_l 2 (by omega)]
        simp only [bind_p]
        rw [if_neg (show ¬ nI 3 ≤ nI 0 by decide), show f_J0_charAt_5068e ν 2 (nI 0) = some (nI 97) from (wd_c 2 (by omega) 0 (by decide)).1]
        simp only [bind_p]
        rw [tkN hP hH hp htx (by omega) h3]
        simp only [bind_p]
        rw [if_pos (show nI 0 = (0 : Int32) from rfl)]; rfl
      exact this
    rw [e0]
    simp only [bind_p]
    rw [if_pos (show nI 0 = (0 : Int32) from rfl)]; rfl
  · obtain ⟨⟨o, hP⟩, hA, hF⟩ := h
    refine ⟨ξ, ?_, hP.1.2.1, hF⟩
    have fin : ∀ a, f_X7_isClause_69 ξ a (-1 : Int32) = some (nI 0, ξ) := fun a => by
      unfold f_X7_isClause_69 f_X7_isClause_114 f_X7_isClause_115
      rw [if_neg (by decide), if_neg (by decide), if_neg (by decide), if_pos rfl]; rfl
    show f_X7_isClause ξ _ = _
    unfold f_X7_isClause f_X7_isClause_68
    rw [hP.1.1, hP.1.2.1]
    by_cases q : p < H
    · have ht := htx p q
      rw [if_neg (nI_ge q (by omega)), ldI_n (by omega) (by omega), hP.1.2.2 p q]
      simp only [bind_p]
      rw [K108, K101, K97, if_neg (by rw [nI_eq (by omega) (by omega)]; exact fun z => h1 ⟨q, z⟩), if_neg (by rw [nI_eq (by omega) (by omega)]; exact fun z => h2 ⟨q, z⟩), if_neg (by rw [nI_eq (by omega) (by omega)]; exact fun z => h3 ⟨q, z⟩)]
      exact fin _
    · rw [if_pos (nI_le (by omega) (by omega))]
      exact fin _
