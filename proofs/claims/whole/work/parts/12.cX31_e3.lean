/-! odds: the days on which none goes off, told by sets -/
def quD (σ : SG) (l : List CL) (all : Nat) : Nat → Nat → Nat → Nat → Int
  | 0, _, _, s => ((all / s : Nat) : Int)
  | m + 1, e, R, s => if σ 5 e = 1 then quD σ l all m (e + 1) R s else (match cR R s (reE σ l e) (tuE σ e) with | none => quD σ l all m (e + 1) R s | some k => quD σ l all m (e + 1) R s - quD σ l all m (e + 1) (R + k * s) (mulG s (tuE σ e)))
theorem quiet6 {ν : Mem} {S all w D st : Nat} {l : List CL} {σ : SG} (hX : XS ν S σ) (hR : Rk ν S σ l (σ 0 0)) (ho : okDy w D st σ) (hall : all ≤ 51520374361) :
    ∀ m e d R s, e + m = σ 0 0 → m < d → s ≤ 61 ^ e → 0 < s → R < 61 ^ e → G_quiet d ν S (lN all) (nI e) (lN R) (lN s) = some (jL (quD σ l all m e R s)) := by
  have h6 := ho.1.1
  intro m
  induction m with
  | zero =>
    intro e d R s he hd hs hs0 hRb
    obtain ⟨d, rfl⟩ := suc_of hd
    have h61 := p61 e (by omega)
    obtain rfl : e = σ 0 0 := by omega
    show b_X2_quietDays (G_quiet d) ν S (lN all) (nI (σ 0 0)) (lN R) (lN s) = _
    unfold b_X2_quietDays
    rw [if_pos (by rw [cmp_ge, L1, T_leL (by omega) (by omega)]; trivial), one6_no hX.1.1 (by omega) (by rw [nI_toInt (by omega)]; omega)]
    simp only [bind_p]
    rw [if_pos (by decide), dvL_n (by omega) hs0 (by omega), quD, lN_jL]
    rfl
  | succ m ih =>
    intro e d R s he hd hs hs0 hRb
    obtain ⟨d, rfl⟩ := suc_of hd
    have h61 := p61 e (by omega)
    have hk := (ho.2.2 e (by omega)).1
    have htb := tuE_b hk
    have hrb := reE_b (l := l) hk
    have hk5 := hk.1.2.2.2.2.2
    have h4 : gI ν (S + 1 + 1 + e) 4 = nI (σ 5 e) := (hX.2.1 e (by omega)).1 4 (by omega)
    obtain ⟨r7, r8⟩ := hR e (by omega)
    have i1 := ih (e + 1) d R s (by omega) (by omega) (by rw [Nat.pow_succ]; omega) hs0 (by rw [Nat.pow_succ]; omega)
    show b_X2_quietDays (G_quiet d) ν S (lN all) (nI e) (lN R) (lN s) = _
    unfold b_X2_quietDays
    rw [if_pos (by rw [cmp_ge, L1, T_leL (by omega) (by omega)]; trivial), one6_yes hX.1.1 (by omega) (by omega)]
    simp only [bind_p]
    rw [if_neg (by decide), K1, nI_add, i1, aix_n (by omega) (by omega)]
    simp only [bind_p]
    rw [K4, ldI_n (by omega) (by omega), h4, quD]
    simp only [bind_p]
    by_cases hb : σ 5 e = 1
    · rw [if_pos (by rw [hb]), if_pos hb]
    · rw [if_neg (by rw [nI_eq (by omega) (by omega)]; exact hb), if_neg hb, K8, ldI_n (by omega) (by omega), r8]
      simp only [bind_p]
      rw [K7, ldI_n (by omega) (by omega), r7]
      simp only [bind_p]
      rw [nI_lE (by omega), nI_lE (by omega), comR (by omega) (by omega) (by omega) (by omega) hrb]
      simp only [bind_p]
      cases hc : cR R s (reE σ l e) (tuE σ e) with
      | none =>
        show (if (0 : Int32) ≤ lg_cmp (-lN 1) 0 then _ else _) = _
        rw [if_neg (show ¬ (0 : Int32) ≤ lg_cmp (-lN 1) 0 by decide)]
      | some k =>
        obtain ⟨c1, _⟩ := cR_s hc
        obtain ⟨n1, n2⟩ := nx61 hs hRb htb.2 c1
        have h61' := p61 (e + 1) (by omega)
        have i2 := ih (e + 1) d _ _ (by omega) (by omega) n1 (mulG_pos hs0 (by omega)) n2
        show (if (0 : Int32) ≤ lg_cmp (lN (R + k * s)) 0 then _ else _) = _
        rw [if_pos (by rw [cmp_ge, L0, T_leL (by omega) (by omega)]; trivial), cm6 (by omega) hs0 (by omega)]
        simp only [bind_p]
        rw [i2]
        simp only [bind_p]
        rw [jL_sub]
/-! how many of the first n days are so -/
def cnt (p : Nat → Bool) : Nat → Nat
  | 0 => 0
  | n + 1 => cnt p n + (if p n = true then 1 else 0)
theorem cnt_le (p : Nat → Bool) : ∀ n, cnt p n ≤ n
  | 0 => Nat.le_refl _
  | n + 1 => by
    have := cnt_le p n
    rw [cnt]
    split <;> omega
theorem cnt_c {p q : Nat → Bool} (h : ∀ x, p x = q x) : ∀ n, cnt p n = cnt q n
  | 0 => rfl
  | n + 1 => by rw [cnt, cnt, cnt_c h n, h]
theorem cnt_s {p q r : Nat → Bool} (h : ∀ x, (if r x = true then 1 else 0) = (if p x = true then 1 else 0) + (if q x = true then 1 else 0)) : ∀ n, cnt r n = cnt p n + cnt q n
  | 0 => rfl
  | n + 1 => by
    have := h n
    rw [cnt, cnt, cnt, cnt_s h n]
    omega
theorem cnt_a (p : Nat → Bool) (a : Nat) : ∀ b, cnt p (a + b) = cnt p a + cnt (fun x => p (a + x)) b
  | 0 => rfl
  | b + 1 => by rw [← Nat.add_assoc, cnt, cnt, cnt_a p a b, Nat.add_assoc]
theorem cnt_1 {s r : Nat} : ∀ n, n ≤ s → cnt (fun x => decide (x % s = r)) n = (if r < n then 1 else 0)
  | 0, _ => rfl
  | n + 1, h => by
    rw [cnt, cnt_1 n (by omega), Nat.mod_eq_of_lt (show n < s by omega)]
    by_cases hn : n = r
    · rw [decide_eq_true hn, if_neg (by omega), if_pos rfl, if_pos (by omega)]
    · rw [decide_eq_false hn, if_neg (show ¬ false = true by decide)]
      by_cases h2 : r < n
      · rw [if_pos h2, if_pos (by omega)]
      · rw [if_neg h2, if_neg (by omega)]
theorem cnt_m {s r : Nat} (hr : r < s) : ∀ c, cnt (fun x => decide (x % s = r)) (s * c) = c
  | 0 => rfl
  | c + 1 => by
    rw [Nat.mul_succ, cnt_a, cnt_m hr c]
    have : cnt (fun x => decide ((s * c + x) % s = r)) s = cnt (fun x => decide (x % s = r)) s := cnt_c (fun x => by rw [Nat.add_comm, Nat.add_mul_mod_self_left]) s
    rw [this, cnt_1 s (Nat.le_refl _), if_pos hr]
def noG (σ : SG) (l : List CL) : Nat → Nat → Nat → Bool
  | 0, _, _ => true
  | m + 1, e, x => !offB σ l e x && noG σ l m (e + 1) x
def qp (σ : SG) (l : List CL) (m e R s : Nat) (x : Nat) : Bool := decide (x % s = R % s) && noG σ l m e x
theorem qu_cnt {all W st : Nat} {l : List CL} {σ : SG} (ho : ∀ e, e < σ 0 0 → okE σ e) : ∀ m e R s, e + m ≤ σ 0 0 → 0 < s → s ∣ all → (∀ i, e ≤ i → i < e + m → σ 5 i = 0 → tuE σ i ∣ all) → quD σ l all m e R s = (cnt (qp σ l m e R s) all : Int)
  | 0, e, R, s, he, hs, hd, ht => by
    obtain ⟨c, hc⟩ := hd
    have h1 : cnt (qp σ l 0 e R s) all = cnt (fun x => decide (x % s = R % s)) all := cnt_c (fun x => by unfold qp; rw [noG, Bool.and_true]) all
    rw [quD, h1, hc, cnt_m (Nat.mod_lt R hs), Nat.mul_div_cancel_left c hs]
  | m + 1, e, R, s, he, hs, hd, ht => by
    have hk := ho e (by omega)
    have htb := tuE_b hk
    have i1 := qu_cnt (all := all) (W := W) (st := st) (l := l) ho m (e + 1) R s (by omega) hs hd (fun i h1 h2 => ht i (by omega) (by omega))
    rw [quD]
    by_cases hb : σ 5 e = 1
    · have h1 : cnt (qp σ l (m + 1) e R s) all = cnt (qp σ l m (e + 1) R s) all := cnt_c (fun x => by
        unfold qp; rw [noG]; unfold offB
        rw [decide_eq_false (show ¬ σ 5 e = 0 by omega), Bool.false_and, Bool.not_false, Bool.true_and]) all
      rw [if_pos hb, i1, h1]
    · have h50 : σ 5 e = 0 := by have := hk.1.2.2.2.2.2; omega
      have hof : ∀ x, offB σ l e x = decide (x % tuE σ e = reE σ l e) := fun x => by unfold offB; rw [decide_eq_true h50, Bool.true_and]
      rw [if_neg hb]
      cases hc : cR R s (reE σ l e) (tuE σ e) with
      | none =>
        have hn := cR_n hs (by omega) hc
        have h1 : cnt (qp σ l (m + 1) e R s) all = cnt (qp σ l m (e + 1) R s) all := cnt_c (fun x => by
          unfold qp
          rw [noG, hof]
          by_cases q1 : x % s = R % s
          · rw [decide_eq_false (fun q2 => hn x ⟨q1, q2⟩), Bool.not_false, Bool.true_and]
          · rw [decide_eq_false q1, Bool.false_and, Bool.false_and]) all
        show quD σ l all m (e + 1) R s = _
        rw [i1, h1]
      | some k =>
        obtain ⟨c1, c2, c3, c4⟩ := cR_s hc
        have htd := ht e (Nat.le_refl _) (by omega) h50
        have i2 := qu_cnt (all := all) (W := W) (st := st) (l := l) ho m (e + 1) (R + k * s) (mulG s (tuE σ e)) (by omega) (mulG_pos hs (by omega)) (mulG_d hd htd) (fun i h1 h2 => ht i (by omega) (by omega))
        have h1 : cnt (qp σ l m (e + 1) R s) all = cnt (qp σ l (m + 1) e R s) all + cnt (qp σ l m (e + 1) (R + k * s) (mulG s (tuE σ e))) all := cnt_s (fun x => by
          unfold qp
          rw [noG, hof]
          by_cases q1 : x % s = R % s
          · by_cases q2 : x % tuE σ e = reE σ l e
            · rw [decide_eq_true q1, decide_eq_true q2, decide_eq_true ((c4 x).mp ⟨q1, q2⟩), Bool.not_true, Bool.false_and, Bool.and_false, Bool.true_and]
              rw [if_neg (show ¬ false = true by decide), Nat.zero_add]
            · rw [decide_eq_true q1, decide_eq_false q2, decide_eq_false (fun q3 => q2 ((c4 x).mpr q3).2), Bool.not_false, Bool.true_and, Bool.true_and, Bool.false_and]
              rw [if_neg (show ¬ false = true by decide)]
              exact (Nat.add_zero _).symm
          · rw [decide_eq_false q1, decide_eq_false (fun q3 => q1 ((c4 x).mpr q3).1), Bool.false_and, Bool.false_and]
            rfl) all
        show quD σ l all m (e + 1) R s - quD σ l all m (e + 1) (R + k * s) (mulG s (tuE σ e)) = _
        rw [i1, i2, h1]
        omega
/-! the same, set by set -/
def sg : Nat → Nat → Int
  | 0, _ => 1
  | m + 1, x => if x % 2 = 1 then -sg m (x / 2) else sg m (x / 2)
def vlS (σ : SG) (l : List CL) (all m e R s x : Nat) : Int := match chG σ l m e R s x with | none => 0 | some q => sg m x * ((all / q.2 : Nat) : Int)
def sumF (f : Nat → Int) : Nat → Int
  | 0 => 0
  | n + 1 => sumF f n + f n
theorem sumF_c {f g : Nat → Int} (h : ∀ x, f x = g x) : ∀ n, sumF f n = sumF g n
  | 0 => rfl
  | n + 1 => by rw [sumF, sumF, sumF_c h n, h]
theorem sumF_2 (f : Nat → Int) : ∀ n, sumF f (2 * n) = sumF (fun y => f (2 * y)) n + sumF (fun y => f (2 * y + 1)) n
  | 0 => rfl
  | n + 1 => by
    rw [show 2 * (n + 1) = 2 * n + 1 + 1 by omega, sumF, sumF, sumF_2 f n, sumF, sumF]
    omega
theorem sumF_n (f : Nat → Int) : ∀ n, sumF (fun y => -f y) n = -sumF f n
  | 0 => rfl
  | n + 1 => by
    rw [sumF, sumF, sumF_n f n]
    omega
theorem sumF_0 : ∀ n, sumF (fun _ => 0) n = 0
  | 0 => rfl
  | n + 1 => by rw [sumF, sumF_0 n]; rfl
theorem sum_qu {σ : SG} {l : List CL} {all : Nat} : ∀ m e R s, sumF (vlS σ l all m e R s) (2 ^ m) = quD σ l all m e R s
  | 0, e, R, s => by
    show 0 + vlS σ l all 0 e R s 0 = _
    unfold vlS
    rw [chG, quD, Int.zero_add]
    show sg 0 0 * _ = _
    rw [sg, Int.one_mul]
  | m + 1, e, R, s => by
    have ev : ∀ y, vlS σ l all (m + 1) e R s (2 * y) = vlS σ l all m (e + 1) R s y := fun y => by
      unfold vlS
      rw [chG, if_neg (by omega), sg, if_neg (by omega), show 2 * y / 2 = y by omega]
    have od : ∀ y, vlS σ l all (m + 1) e R s (2 * y + 1) = (if σ 5 e = 1 then 0 else (match cR R s (reE σ l e) (tuE σ e) with | none => 0 | some k => -vlS σ l all m (e + 1) (R + k * s) (mulG s (tuE σ e)) y)) := fun y => by
      have hc : chG σ l (m + 1) e R s (2 * y + 1) = if σ 5 e = 1 then none else (match cR R s (reE σ l e) (tuE σ e) with | none => none | some k => chG σ l m (e + 1) (R + k * s) (mulG s (tuE σ e)) y) := by
        rw [chG, if_pos (show (2 * y + 1) % 2 = 1 by omega), show (2 * y + 1) / 2 = y by omega]; rfl
      have hs : sg (m + 1) (2 * y + 1) = -sg m y := by rw [sg, if_pos (show (2 * y + 1) % 2 = 1 by omega), show (2 * y + 1) / 2 = y by omega]
      unfold vlS
      rw [hc, hs]
      by_cases hb : σ 5 e = 1
      · rw [if_pos hb, if_pos hb]
      · rw [if_neg hb, if_neg hb]
        cases cR R s (reE σ l e) (tuE σ e) with
        | none => rfl
        | some k =>
          show (match chG σ l m (e + 1) (R + k * s) (mulG s (tuE σ e)) y with | none => 0 | some q => -sg m y * ((all / q.2 : Nat) : Int)) = -(match chG σ l m (e + 1) (R + k * s) (mulG s (tuE σ e)) y with | none => 0 | some q => sg m y * ((all / q.2 : Nat) : Int))
          cases chG σ l m (e + 1) (R + k * s) (mulG s (tuE σ e)) y with
          | none => rfl
          | some q => exact Int.neg_mul _ _
    rw [Nat.pow_succ, Nat.mul_comm, sumF_2, sumF_c ev, sum_qu m (e + 1) R s, sumF_c od, quD]
    by_cases hb : σ 5 e = 1
    · rw [if_pos hb, sumF_c (g := fun _ => 0) (fun y => by rw [if_pos hb]), sumF_0, Int.add_zero]
    · rw [if_neg hb]
      cases hc : cR R s (reE σ l e) (tuE σ e) with
      | none =>
        rw [sumF_c (g := fun _ => 0) (fun y => by rw [if_neg hb]), sumF_0, Int.add_zero]
      | some k =>
        rw [sumF_c (g := fun y => -vlS σ l all m (e + 1) (R + k * s) (mulG s (tuE σ e)) y) (fun y => by rw [if_neg hb]), sumF_n, sum_qu m (e + 1) (R + k * s) (mulG s (tuE σ e))]
        rfl
theorem sg_pc : ∀ m, m < 7 → ∀ x, x < 64 → x < 2 ^ m → sg m x = if pcN x % 2 = 0 then 1 else -1 := by decide +kernel
def mskB (x w : Nat) : Bool := (x / 2 ^ 0 % 2 == 1 && w / 2 ^ 0 % 2 == 0) || (x / 2 ^ 1 % 2 == 1 && w / 2 ^ 1 % 2 == 0) || (x / 2 ^ 2 % 2 == 1 && w / 2 ^ 2 % 2 == 0) || (x / 2 ^ 3 % 2 == 1 && w / 2 ^ 3 % 2 == 0) || (x / 2 ^ 4 % 2 == 1 && w / 2 ^ 4 % 2 == 0) || (x / 2 ^ 5 % 2 == 1 && w / 2 ^ 5 % 2 == 0)
theorem mask_b : ∀ x, x < 64 → ∀ w, w < 64 → (nI x &&& (nI w ^^^ (-1 : Int32))) = 0 ∨ mskB x w = true := by decide +kernel
theorem msk_e {x w : Nat} (h : mskB x w = true) : ∃ j, j < 6 ∧ x / 2 ^ j % 2 = 1 ∧ w / 2 ^ j % 2 = 0 := by
  unfold mskB at h
  rw [Bool.or_eq_true, Bool.or_eq_true, Bool.or_eq_true, Bool.or_eq_true, Bool.or_eq_true, Bool.and_eq_true, Bool.and_eq_true, Bool.and_eq_true, Bool.and_eq_true, Bool.and_eq_true, Bool.and_eq_true] at h
  rcases h with ((((h | h) | h) | h) | h) | h
  · exact ⟨0, by omega, eq_of_beq h.1, eq_of_beq h.2⟩
  · exact ⟨1, by omega, eq_of_beq h.1, eq_of_beq h.2⟩
  · exact ⟨2, by omega, eq_of_beq h.1, eq_of_beq h.2⟩
  · exact ⟨3, by omega, eq_of_beq h.1, eq_of_beq h.2⟩
  · exact ⟨4, by omega, eq_of_beq h.1, eq_of_beq h.2⟩
  · exact ⟨5, by omega, eq_of_beq h.1, eq_of_beq h.2⟩
theorem ch_none {σ : SG} {l : List CL} : ∀ m e R s x j, j < m → x / 2 ^ j % 2 = 1 → σ 5 (e + j) = 1 → chG σ l m e R s x = none
  | 0, e, R, s, x, j, h, _, _ => by omega
  | m + 1, e, R, s, x, 0, h, hx, hb => by
    rw [Nat.pow_zero, Nat.div_one] at hx
    rw [chG, if_pos hx, if_pos (show σ 5 e = 1 from hb)]
  | m + 1, e, R, s, x, j + 1, h, hx, hb => by
    have hx' : x / 2 / 2 ^ j % 2 = 1 := by
      rw [Nat.div_div_eq_div_mul, Nat.mul_comm, ← Nat.pow_succ]; exact hx
    have hb' : σ 5 (e + 1 + j) = 1 := by rw [Nat.add_assoc, Nat.add_comm 1]; exact hb
    rw [chG]
    by_cases hv : x % 2 = 1
    · rw [if_pos hv]
      by_cases h5 : σ 5 e = 1
      · rw [if_pos h5]
      · rw [if_neg h5]
        cases cR R s (reE σ l e) (tuE σ e) with
        | none => rfl
        | some k => exact ch_none m _ _ _ _ j (by omega) hx' hb'
    · rw [if_neg hv]
      exact ch_none m _ _ _ _ j (by omega) hx' hb'
def whN (σ : SG) : Nat → Nat
  | 0 => 0
  | e + 1 => whN σ e + (if σ 5 e = 0 then 2 ^ e else 0)
theorem whN_b (σ : SG) : ∀ e, whN σ e < 2 ^ e
  | 0 => by unfold whN; omega
  | e + 1 => by
    have h := whN_b σ e
    rw [whN, Nat.pow_succ]
    split <;> omega
theorem bit_lo : ∀ i, i < 6 → ∀ e, e < i → ∀ w, w < 64 → (w + 2 ^ i) / 2 ^ e % 2 = w / 2 ^ e % 2 := by decide +kernel
theorem whN_i {σ : SG} {e : Nat} : ∀ i, i ≤ 6 → e < i → whN σ i / 2 ^ e % 2 = if σ 5 e = 0 then 1 else 0
  | 0, _, h => by omega
  | i + 1, h6, h => by
    have hb := whN_b σ i
    have h64 := pow6 (e := i) (by omega)
    have hp := Nat.two_pow_pos i
    rw [whN]
    by_cases he : e = i
    · subst he
      by_cases h5 : σ 5 e = 0
      · rw [if_pos h5, if_pos h5, Nat.add_div_right _ hp, Nat.div_eq_of_lt hb]
      · rw [if_neg h5, if_neg h5, Nat.add_zero, Nat.div_eq_of_lt hb]
    · have ih := whN_i (σ := σ) (e := e) i (by omega) (by omega)
      by_cases h5 : σ 5 i = 0
      · rw [if_pos h5, bit_lo i (by omega) e (by omega) _ (by omega)]; exact ih
      · rw [if_neg h5, Nat.add_zero]; exact ih
def rdG (σ : SG) : Nat → Nat → Nat → Nat
  | 0, _, s => s
  | m + 1, e, s => if σ 5 e = 0 then rdG σ m (e + 1) (mulG s (tuE σ e)) else rdG σ m (e + 1) s
theorem cm_rd {σ : SG} (h6 : σ 0 0 ≤ 6) : ∀ m e s, e + m = σ 0 0 → cmG σ m e s (whN σ (σ 0 0) / 2 ^ e) = rdG σ m e s
  | 0, e, s, _ => rfl
  | m + 1, e, s, he => by
    have hb := whN_i (σ := σ) (e := e) (σ 0 0) h6 (by omega)
    rw [cmG, rdG, half2]
    by_cases h5 : σ 5 e = 0
    · rw [if_pos h5] at hb
      rw [if_pos hb, if_pos h5]
      exact cm_rd h6 m (e + 1) _ (by omega)
    · rw [if_neg h5] at hb
      rw [if_neg (by omega), if_neg h5]
      exact cm_rd h6 m (e + 1) _ (by omega)
theorem rdG_d {σ : SG} : ∀ m e s, s ∣ rdG σ m e s ∧ ∀ i, e ≤ i → i < e + m → σ 5 i = 0 → tuE σ i ∣ rdG σ m e s
  | 0, e, s => ⟨Nat.dvd_refl _, fun i h1 h2 => by omega⟩
  | m + 1, e, s => by
    rw [rdG]
    by_cases h5 : σ 5 e = 0
    · obtain ⟨h1, h2⟩ := rdG_d (σ := σ) m (e + 1) (mulG s (tuE σ e))
      rw [if_pos h5]
      refine ⟨Nat.dvd_trans (mulG_l _ _) h1, fun i q1 q2 q3 => ?_⟩
      by_cases hi : i = e
      · subst hi; exact Nat.dvd_trans (mulG_r _ _) h1
      · exact h2 i (by omega) (by omega) q3
    · obtain ⟨h1, h2⟩ := rdG_d (σ := σ) m (e + 1) s
      rw [if_neg h5]
      refine ⟨h1, fun i q1 q2 q3 => ?_⟩
      by_cases hi : i = e
      · subst hi; exact absurd q3 h5
      · exact h2 i (by omega) (by omega) q3
theorem round_l {ν : Mem} {S w D st : Nat} {l : List CL} {σ : SG} (hX : XS ν S σ) (hR : Rk ν S σ l (σ 0 0)) (ho : okDy w D st σ) :
    ∀ m e n s, e + m = σ 0 0 → m < n → s ≤ 61 ^ e → 0 < s → f_X2_round_4 ν S n (lN s) (nI e) = some (lN (rdG σ m e s)) := by
  have h6 := ho.1.1
  intro m
  induction m with
  | zero =>
    intro e n s he hn hs hs0
    obtain ⟨n, rfl⟩ := suc_of hn
    rw [f_X2_round_4, hX.1.1, if_pos (nI_le (by omega) (by omega))]
    rfl
  | succ m ih =>
    intro e n s he hn hs hs0
    obtain ⟨n, rfl⟩ := suc_of hn
    have h61 := p61 e (by omega)
    have hk := (ho.2.2 e (by omega)).1
    have htb := tuE_b hk
    have hk5 := hk.1.2.2.2.2.2
    have h4 : gI ν (S + 1 + 1 + e) 4 = nI (σ 5 e) := (hX.2.1 e (by omega)).1 4 (by omega)
    have r7 := (hR e (by omega)).1
    have hnx : nI e + (1 : Int32) = nI (e + 1) := by rw [K1, nI_add]
    rw [f_X2_round_4, hX.1.1, if_neg (nI_ge (by omega) (by omega)), aix_n (by omega) (by omega), rdG]
    simp only [bind_p]
    rw [K4, ldI_n (by omega) (by omega), h4]
    simp only [bind_p]
    by_cases h5 : σ 5 e = 0
    · have n1 : mulG s (tuE σ e) ≤ 61 ^ (e + 1) := Nat.le_trans (mulG_le _ _) (by rw [Nat.pow_succ]; exact Nat.mul_le_mul hs htb.2)
      rw [if_pos (by rw [h5]; rfl), if_pos h5, K7, ldI_n (by omega) (by omega), r7]
      simp only [bind_p]
      rw [nI_lE (by omega), cm6 (by omega) hs0 (by omega)]
      simp only [bind_p]
      rw [f_X2_round_38]
      simp only [bind_p]
      rw [hnx]
      exact ih (e + 1) n _ (by omega) (by omega) n1 (mulG_pos hs0 (by omega))
    · rw [if_neg (nI_ne0 (by omega) (by omega)), if_neg h5, f_X2_round_38]
      simp only [bind_p]
      rw [hnx]
      exact ih (e + 1) n s (by omega) (by omega) (by rw [Nat.pow_succ]; omega) hs0
theorem odw_l {μ : Mem} {w D st all : Nat} {p : Int32} {σ : SG} (hM : MS μ σ) (ho : okDy w D st σ) (hc : f_X7_common μ (nI (whN σ (σ 0 0))) = some (lN all)) :
    ∀ m i n, i + m = σ 0 0 → m < n → f_X7_odds_17 n μ p (nI (whN σ i)) (nI i) = f_X7_odds_58 FU μ p (nI (whN σ (σ 0 0))) (lN all) 0 0 := by
  have h6 := ho.1.1
  intro m
  induction m with
  | zero =>
    intro i n hi hn
    obtain ⟨n, rfl⟩ := suc_of hn
    obtain rfl : i = σ 0 0 := by omega
    rw [f_X7_odds_17, hM.1.1, if_pos (nI_le (by omega) (by omega)), hc]
    rfl
  | succ m ih =>
    intro i n hi hn
    obtain ⟨n, rfl⟩ := suc_of hn
    have hk := (ho.2.2 i (by omega)).1
    have hk5 := hk.1.2.2.2.2.2
    have h4 : gI μ 2005 i = nI (σ 5 i) := (hM.2.1 i (by omega)).1 4 (by omega)
    have hnx : nI i + (1 : Int32) = nI (i + 1) := by rw [K1, nI_add]
    have e1 := ih (i + 1) n (by omega) (by omega)
    rw [whN] at e1
    rw [f_X7_odds_17, hM.1.1, if_neg (nI_ge (by omega) (by omega)), ldI_n (by omega) (by omega), h4]
    simp only [bind_p]
    by_cases h5 : σ 5 i = 0
    · rw [if_pos h5] at e1
      rw [if_pos (by rw [h5]; rfl), bitOr (by omega) (whN_b σ i), f_X7_odds_40]
      simp only [bind_p]
      rw [hnx]
      exact e1
    · rw [if_neg h5] at e1
      rw [if_neg (nI_ne0 (by omega) (by omega)), f_X7_odds_40]
      simp only [bind_p]
      rw [hnx]
      exact e1
theorem ods_l {μ : Mem} {w D st all : Nat} {p : Int32} {l : List CL} {σ : SG} (hM : MS μ σ) (hH : HM μ l) (hl : okL l) (ho : okDy w D st σ) (hD : D ≤ 1000000) (hall : all ≤ 51520374361) :
    ∀ m x n ξ, Sk μ ξ → x + m = 2 ^ σ 0 0 → m < n → ∃ ζ, f_X7_odds_58 n ξ p (nI (whN σ (σ 0 0))) (lN all) (jL (sumF (vlS σ l all (σ 0 0) 0 0 1) x)) (nI x) = (f_X7_part ζ (jL (sumF (vlS σ l all (σ 0 0) 0 0 1) (2 ^ σ 0 0))) (lN all) p).bind (fun v => some (v, ζ)) ∧ Sk μ ζ := by
  have h6 := ho.1.1
  have hd := ho.2.1.2.1
  have h64 := pow6 h6
  have hsh := shl_1 (σ 0 0) (by omega)
  have hwb := whN_b σ (σ 0 0)
  intro m
  induction m with
  | zero =>
    intro x n ξ hs hx hn
    obtain ⟨n, rfl⟩ := suc_of hn
    obtain rfl : x = 2 ^ σ 0 0 := by omega
    refine ⟨ξ, ?_, hs⟩
    rw [f_X7_odds_58, (hs.MS hM).1.1, hsh, if_pos (nI_le (by omega) (by omega))]
  | succ m ih =>
    intro x n ξ hs hx hn
    obtain ⟨n, rfl⟩ := suc_of hn
    have hnx : nI x + (1 : Int32) = nI (x + 1) := by rw [K1, nI_add]
    have skip : vlS σ l all (σ 0 0) 0 0 1 x = 0 → ∀ ξ', Sk μ ξ' → ∃ ζ, f_X7_odds_125 (fun μ z0 z1 z2 z3 z4 => f_X7_odds_58 n μ z0 z1 z2 z3 z4) ξ' p (nI (whN σ (σ 0 0))) (lN all) (jL (sumF (vlS σ l all (σ 0 0) 0 0 1) x)) (nI x) = (f_X7_part ζ (jL (sumF (vlS σ l all (σ 0 0) 0 0 1) (2 ^ σ 0 0))) (lN all) p).bind (fun v => some (v, ζ)) ∧ Sk μ ζ := fun hz ξ' hs' => by
      obtain ⟨ζ, e1, e2⟩ := ih (x + 1) n ξ' hs' (by omega) (by omega)
      refine ⟨ζ, ?_, e2⟩
      rw [sumF, hz, Int.add_zero] at e1
      rw [f_X7_odds_125]
      simp only [bind_p]
      rw [hnx]
      exact e1
    rw [f_X7_odds_58, (hs.MS hM).1.1, hsh, if_neg (nI_ge (by omega) (by omega))]
    by_cases hmask : (nI x &&& (nI (whN σ (σ 0 0)) ^^^ (-1 : Int32))) = 0
    · rw [if_pos hmask]
      obtain ⟨ζ, g1, g2⟩ := first_l (set := x) (d := σ 10 0) hM hH hl ho (by omega) rfl (by omega) (σ 0 0) 0 FU ξ 0 0 1 hs (by omega) (FU_p _ (by omega)) (by omega) (by omega) (by omega) ⟨by omega, by omega⟩
      rw [Nat.pow_zero, Nat.div_one] at g2
      cases hch : chG σ l (σ 0 0) 0 0 1 x with
      | none =>
        rw [hch] at g2
        have hz : vlS σ l all (σ 0 0) 0 0 1 x = 0 := by unfold vlS; rw [hch]
        have g2' : f_X7_first ξ (nI x) = some (-lN 5, ζ) := g2
        rw [g2']
        simp only [bind_p]
        rw [if_neg (show ¬ (0 : Int32) ≤ lg_cmp (-lN 5) 0 by decide)]
        exact skip hz ζ g1
      | some q =>
        rw [hch] at g2
        obtain ⟨A, f1, f2, f3, f4, f5⟩ := g2
        have f1' : f_X7_first ξ (nI x) = some (lN A, ζ) := f1
        have hcm := ch_cm _ _ _ _ _ _ hch
        obtain ⟨cm1, cm2, cm3⟩ := com7 (set := x) (g1.MS hM) ho (by omega)
        rw [hcm] at cm1 cm2 cm3
        have hA1 := f2.1
        have h61 := p61 (σ 0 0) (by omega)
        rw [Nat.zero_add] at f3
        obtain ⟨η, e1, e2⟩ := ih (x + 1) n ζ g1 (by omega) (by omega)
        refine ⟨η, ?_, e2⟩
        have hsg := sg_pc (σ 0 0) (by omega) x (by omega) (by omega)
        have hpc := (pc_b x (by omega)).1
        have hv : vlS σ l all (σ 0 0) 0 0 1 x = sg (σ 0 0) x * ((all / q.2 : Nat) : Int) := by unfold vlS; rw [hch]
        rw [sumF, hv, hsg] at e1
        rw [f1']
        simp only [bind_p]
        rw [if_pos (by rw [cmp_ge, L0, T_leL (by omega) (by omega)]; trivial), cm1]
        simp only [bind_p]
        rw [dvL_n (by omega) cm3 (by omega)]
        simp only [bind_p]
        rw [bc6 (by omega)]
        simp only [bind_p]
        rw [K2, rmI_n (by omega) (by omega) (by omega)]
        simp only [bind_p]
        rcases b01 (pcN x) with hp | hp
        · rw [hp, if_pos rfl, Int.one_mul] at e1
          rw [hp, if_pos (show nI 0 = 0 from rfl), f_X7_odds_122]
          unfold f_X7_odds_125
          simp only [bind_p]
          rw [hnx, lN_jL (all / q.2), jL_add]
          exact e1
        · rw [hp, if_neg (by decide), Int.neg_mul, Int.one_mul] at e1
          rw [hp, if_neg (by decide), f_X7_odds_122]
          unfold f_X7_odds_125
          simp only [bind_p]
          rw [hnx, lN_jL (all / q.2), jL_neg, jL_add]
          exact e1
    · rw [if_neg hmask]
      refine skip ?_ ξ hs
      have hbr : ∀ j, j < 6 → x / 2 ^ j % 2 = 1 → whN σ (σ 0 0) / 2 ^ j % 2 = 0 → chG σ l (σ 0 0) 0 0 1 x = none := fun j hj h1 h2 => by
        have hjE : j < σ 0 0 := by
          refine Nat.lt_of_not_le (fun hle => ?_)
          have : 2 ^ σ 0 0 ≤ 2 ^ j := Nat.pow_le_pow_right (by omega) hle
          rw [Nat.div_eq_of_lt (by omega)] at h1
          omega
        have hb := whN_i (σ := σ) (e := j) (σ 0 0) h6 hjE
        have h5 : σ 5 j = 1 := by
          have := (ho.2.2 j hjE).1.1.2.2.2.2.2
          by_cases h0 : σ 5 j = 0
          · rw [if_pos h0] at hb; omega
          · omega
        exact ch_none _ 0 0 1 x j hjE h1 (by rw [Nat.zero_add]; exact h5)
      unfold vlS
      rcases mask_b x (by omega) (whN σ (σ 0 0)) (by omega) with h | h
      · exact absurd h hmask
      · obtain ⟨j, j1, j2, j3⟩ := msk_e h
        rw [hbr j j1 j2 j3]
theorem s_odds {T : PT} {μ : Mem} (hR : RR T μ) (a : Int32) : Same T μ (fun μ => f_X6_odds μ a) (fun μ => f_X7_odds μ a) := by
  obtain ⟨⟨x1, _⟩, ⟨m1, _⟩, o1, _⟩ := id hR
  have hE := o1.1.1
  have hD := o1.1.2.2.1
  rcases arg a (lo := 0) (hi := 1) (A := 0) (B := 1) (C := 0) (D := 1) rfl rfl rfl rfl with ⟨p, _, hp, _, rfl, hax, ham⟩ | ⟨_, hax, ham⟩
  · obtain ⟨ν, e1, e2, e3, e4, e5, e6, e7, e8⟩ := rk100 hR
    obtain ⟨hH, hl⟩ := holdM e6 e4 o1.1.2.2.2
    have hwb := whN_b (T.1 0) (T.1 0 0 0)
    have h64 := pow6 hE
    obtain ⟨cm1, cm2, cm3⟩ := com7 (set := whN (T.1 0) (T.1 0 0 0)) e4 o1.dy (by omega)
    have hrd := cm_rd (σ := T.1 0) hE (T.1 0 0 0) 0 1 (by omega)
    rw [Nat.pow_zero, Nat.div_one] at hrd
    rw [hrd] at cm1 cm2 cm3
    obtain ⟨all, hall⟩ : ∃ all, all = rdG (T.1 0) (T.1 0 0 0) 0 1 := ⟨_, rfl⟩
    obtain ⟨d1, d2⟩ := rdG_d (σ := T.1 0) (T.1 0 0 0) 0 1
    have hrnd := round_l (S := 100) e3 e7 o1.dy (T.1 0 0 0) 0 FU 1 (by omega) (FU_p _ (by omega)) (by omega) (by omega)
    rw [← hall] at cm1 cm2 cm3 d1 d2 hrnd
    have hqu := quiet6 (S := 100) (all := all) e3 e7 o1.dy cm2 (T.1 0 0 0) 0 8 0 1 (by omega) (by omega) (by omega) (by omega) (by omega)
    have hcn := qu_cnt (all := all) (W := 0) (st := 0) (l := clF T.2.2 (T.1 0)) (σ := T.1 0) (fun e he => o1.e he) (T.1 0 0 0) 0 0 1 (by omega) (by omega) d1 (fun i h1 h2 h3 => d2 i h1 (by omega) h3)
    have hcl := cnt_le (qp (T.1 0) (clF T.2.2 (T.1 0)) (T.1 0 0 0) 0 0 1) all
    obtain ⟨c, hc⟩ : ∃ c, c = cnt (qp (T.1 0) (clF T.2.2 (T.1 0)) (T.1 0 0 0) 0 0 1) all := ⟨_, rfl⟩
    rw [← hc] at hcn hcl
    rw [hcn, ← lN_jL] at hqu
    obtain ⟨ζ, g1, g2⟩ := ods_l (p := nI p) e4 hH hl o1.dy (by omega) cm2 (2 ^ (T.1 0 0 0)) 0 FU ν (Sk.rfl' _) (by omega) (FU_p _ (by omega))
    rw [sum_qu, hcn, ← lN_jL] at g1
    have hod := odw_l (p := nI p) e4 o1.dy cm1 (T.1 0 0 0) 0 FU (by omega) (FU_p _ (by omega))
    obtain ⟨r, hr⟩ : ∃ r, ptF c all (nI p) (Nat.gcd c all) = some r := by
      unfold ptF
      split
      · exact ⟨_, rfl⟩
      · exact ⟨_, rfl⟩
    refine same_rk (r := r) hR e2 e3 e4 ?_ ?_ g2
    · show f_X6_odds μ _ = _
      unfold f_X6_odds
      rw [hax, e1]
      simp only [bind_p]
      have hrnd' : f_X2_round ν 100 = some (lN all) := hrnd
      have hqu' : f_X2_quietDays ν 100 (lN all) 0 0 1 = some (lN c) := hqu
      rw [if_neg (by decide), hrnd']
      simp only [bind_p]
      rw [hqu']
      simp only [bind_p]
      rw [part6 (by omega) (by omega) cm3, hr]
      rfl
    · show f_X7_odds ν _ = _
      unfold f_X7_odds
      rw [ham]
      simp only [bind_p]
      rw [if_neg (by decide)]
      have hod' : f_X7_odds_17 FU ν (nI p) 0 0 = f_X7_odds_58 FU ν (nI p) (nI (whN (T.1 0) (T.1 0 0 0))) (lN all) 0 0 := hod
      have g1' : f_X7_odds_58 FU ν (nI p) (nI (whN (T.1 0) (T.1 0 0 0))) (lN all) 0 0 = (f_X7_part ζ (lN c) (lN all) (nI p)).bind (fun v => some (v, ζ)) := g1
      rw [hod', g1', part7 (by omega) (by omega) cm3, hr]
      rfl
  · refine same_q (r := -9223372036854775808) hR ?_ ?_
    · show f_X6_odds μ a = _
      unfold f_X6_odds; rw [hax]; rfl
    · show f_X7_odds μ a = _
      unfold f_X7_odds; rw [ham]; rfl
theorem s_mean {T : PT} {μ : Mem} (hR : RR T μ) (a b : Int32) : Same T μ (fun μ => f_X6_mean μ a b) (fun μ => f_X7_mean μ a b) := by
  obtain ⟨⟨x1, _⟩, ⟨m1, _⟩, o1, _⟩ := id hR
  have hE := o1.1.1
  have hD := o1.1.2.2.1
  rcases arg a (lo := 0) (hi := 60) (A := 0) (B := 60) (C := 0) (D := 60) rfl rfl rfl rfl with ⟨n, _, hn, _, rfl, hax, ham⟩ | ⟨_, hax, ham⟩
  · rcases arg b (lo := 0) (hi := 1) (A := 0) (B := 1) (C := 0) (D := 1) rfl rfl rfl rfl with ⟨p, _, hp, _, rfl, hbx, hbm⟩ | ⟨_, hbx, hbm⟩
    · by_cases h0 : T.1 0 0 0 = 0
      · have x0 := x1.1.1
        have m0 := m1.1.1
        rw [h0] at x0 m0
        refine same_q (r := -9223372036854775808) hR ?_ ?_
        · show f_X6_mean μ _ _ = _
          unfold f_X6_mean; rw [hax, hbx]
          simp only [bind_p]
          rw [if_neg (by decide), if_neg (by decide), x0, if_pos (show nI 0 = 0 from rfl)]
        · show f_X7_mean μ _ _ = _
          unfold f_X7_mean; rw [ham, hbm]
          simp only [bind_p]
          rw [if_neg (by decide), if_neg (by decide), m0, if_pos (show nI 0 = 0 from rfl)]
      · obtain ⟨ν, t1, t2, t3, t4⟩ := try6 hR hn
        obtain ⟨ξ, k1, k2, k3, k4, k5⟩ := back7 hR t2
        obtain ⟨k, ζ, g1, g2, g3⟩ := mean_l (b := nI p) (N := n) n 0 FU ξ (T.1 0) 9999 99999 (by omega) (FU_p _ (by omega)) (by omega) k3 k4 o1.dy rfl (by omega) (by omega)
        have hok := dyN_okB (l := clF T.2.2 (T.1 0)) n _ _ _ (by omega) o1.dy
        have h00 : dyN 2147483647 (clF T.2.2 (T.1 0)) n (T.1 0) 0 0 = T.1 0 0 0 := dyN_o (by omega) (by omega) (by omega) _ _
        obtain ⟨τ, hτ⟩ : ∃ τ, τ = dyN 2147483647 (clF T.2.2 (T.1 0)) n (T.1 0) := ⟨_, rfl⟩
        rw [← hτ] at t3 g2 hok h00
        have h6 := hok.1.1
        have hsb := suE_b hok (f := 6) (.inl rfl) (τ 0 0) (Nat.le_refl _)
        have hsu : suE τ 6 (τ 0 0) ≤ 100000 := Nat.le_trans hsb (Nat.le_trans (Nat.mul_le_mul_right (9999 + n) h6) (by omega))
        clear hsb
        obtain ⟨η, a1, a2, a3⟩ := k5 ζ g3
        obtain ⟨r, hr⟩ : ∃ r, ptF (suE τ 6 (τ 0 0)) (T.1 0 0 0) (nI p) (Nat.gcd (suE τ 6 (τ 0 0)) (T.1 0 0 0)) = some r := by
          unfold ptF
          split
          · exact ⟨_, rfl⟩
          · exact ⟨_, rfl⟩
        refine same_try (r := r) hR t2 ?_ ?_ a2 a3
        · show f_X6_mean μ _ _ = _
          unfold f_X6_mean
          rw [hax, hbx]
          simp only [bind_p]
          rw [if_neg (by decide), if_neg (by decide), x1.1.1, if_neg (nI_ne0 (by omega) (by omega)), t1]
          simp only [bind_p]
          have htot : f_X2_total ν 300 (nI 5) = some (nI (suE τ 6 (τ 0 0))) := tot6 h6 t3 (by omega)
          rw [show (5 : Int32) = nI 5 from rfl, htot, t2.1 100 (by omega), x1.1.1]
          simp only [bind_p]
          rw [nI_lE (by omega), nI_lE (by omega), part6 (by omega) (by omega) (by omega), hr]
          rfl
        · show f_X7_mean ν _ _ = _
          unfold f_X7_mean
          rw [ham, hbm, t2.1 2000 (by omega), m1.1.1]
          simp only [bind_p]
          rw [if_neg (by decide), if_neg (by decide), if_neg (nI_ne0 (by omega) (by omega)), k1]
          simp only [bind_p]
          rw [show (0 : Int32) = nI 0 from rfl, g1, f_X7_mean_40, if_pos (nI_le (by omega) (by omega)), aw7 h6 g2]
          simp only [bind_p]
          rw [a1]
          simp only [bind_p]
          rw [a3.1.1, nI_lE (by omega), nI_lE (by omega), part7 (by omega) (by omega) (by omega), hr]
          rfl
    · refine same_q (r := -9223372036854775808) hR ?_ ?_
      · show f_X6_mean μ _ b = _
        unfold f_X6_mean; rw [hax, hbx]; rfl
      · show f_X7_mean μ _ b = _
        unfold f_X7_mean; rw [ham, hbm]; rfl
  · refine same_q (r := -9223372036854775808) hR ?_ ?_
    · show f_X6_mean μ a b = _
      unfold f_X6_mean; rw [hax]; rfl
    · show f_X7_mean μ a b = _
      unfold f_X7_mean; rw [ham]; rfl
