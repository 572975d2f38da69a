/-! bits -/
theorem sh31 : ∀ n, n < 32 → ((nI n &&& 31).toBitVec.smod 32).toNat = n := by decide +kernel
theorem bitI {m p : Nat} (hm : m < 2 ^ 31) (hp : p < 32) : ((nI m >>> (nI p &&& 31)) &&& (1 : Int32)) = nI (m / 2 ^ p % 2) := by
  rw [pk_shrN hm _ p (sh31 p hp), show (1 : Int32) = nI (2 ^ 1 - 1) from rfl, fa_mask]
theorem bit1 {m p : Nat} (hm : m < 2 ^ 31) (hp : p < 32) : (((nI m >>> (nI p &&& 31)) &&& (1 : Int32)) = (1 : Int32)) = (m / 2 ^ p % 2 = 1) := by
  rw [bitI hm hp]
  exact nI_lit 1 (by decide) (by omega)
theorem shl1 {k : Nat} (hk : k < 31) : (1 : Int32) <<< (nI k &&& 31) = nI (2 ^ k) := by
  have h := pk_shlN (n := 1) (nI k &&& 31) k (sh31 k (by omega)) (by have : 2 ^ k < 2 ^ 32 := Nat.pow_lt_pow_right (by decide) (by omega); omega)
  rw [Nat.one_mul] at h
  exact h
theorem or2 {m k : Nat} (hm : m < 2 ^ k) : nI m ||| nI (2 ^ k) = nI (m + 2 ^ k) := by
  rw [fa_or, Nat.or_comm]
  have h := Nat.two_pow_add_eq_or_of_lt hm 1
  rw [Nat.mul_one] at h
  rw [← h, Nat.add_comm]
def mkN (b : Nat → Bool) : Nat → Nat
  | 0 => 0
  | k + 1 => mkN b k + (if b k = true then 2 ^ k else 0)
theorem mkN_lt (b : Nat → Bool) : ∀ k, mkN b k < 2 ^ k
  | 0 => by show 0 < 1; decide
  | k + 1 => by
    have ih := mkN_lt b k
    show mkN b k + (if b k = true then 2 ^ k else 0) < 2 ^ (k + 1)
    rw [Nat.pow_succ]
    split <;> omega
theorem mkN_bit (b : Nat → Bool) : ∀ (k i : Nat), (mkN b k / 2 ^ i % 2 = 1) = (i < k ∧ b i = true)
  | 0, i => by
    show (0 / 2 ^ i % 2 = 1) = _
    rw [Nat.zero_div]
    exact propext ⟨fun h => by omega, fun h => by omega⟩
  | k + 1, i => by
    have ih := mkN_bit b k i
    have hl := mkN_lt b k
    show ((mkN b k + (if b k = true then 2 ^ k else 0)) / 2 ^ i % 2 = 1) = _
    rcases Nat.lt_trichotomy i k with q | q | q
    · have e : (mkN b k + (if b k = true then 2 ^ k else 0)) / 2 ^ i % 2 = mkN b k / 2 ^ i % 2 := by
        split
        · have e2 : 2 ^ k = (2 ^ (k - i - 1) * 2) * 2 ^ i := by rw [← Nat.pow_succ, ← Nat.pow_add]; congr 1; omega
          rw [e2, Nat.add_mul_div_right _ _ (Nat.pow_pos (by decide)), Nat.add_mul_mod_self_right]
        · rfl
      rw [e, ih]
      exact propext ⟨fun h => ⟨by omega, h.2⟩, fun h => ⟨q, h.2⟩⟩
    · subst q
      split
      · rename_i hb
        have e : (mkN b i + 2 ^ i) / 2 ^ i % 2 = 1 := by
          have e1 := Nat.add_mul_div_right (mkN b i) 1 (Nat.pow_pos (n := i) (show 0 < 2 by decide))
          rw [Nat.one_mul] at e1
          rw [e1, Nat.div_eq_of_lt hl]
        exact propext ⟨fun _ => ⟨by omega, hb⟩, fun _ => e⟩
      · rename_i hb
        rw [Nat.add_zero, Nat.div_eq_of_lt hl]
        exact propext ⟨fun h => by omega, fun h => absurd h.2 hb⟩
    · have h2 : mkN b (k + 1) < 2 ^ (k + 1) := mkN_lt b (k + 1)
      have h3 : 2 ^ (k + 1) ≤ 2 ^ i := Nat.pow_le_pow_right (by decide) (by omega)
      have e : (mkN b k + (if b k = true then 2 ^ k else 0)) / 2 ^ i = 0 := Nat.div_eq_of_lt (Nat.lt_of_lt_of_le h2 h3)
      rw [e]
      exact propext ⟨fun h => by omega, fun h => by omega⟩
theorem bc_all : ∀ m, m < 1024 → pJ6_bitCount_0f7a4 (nI m) = some (nI (fb_ct (fun i => decide (m / 2 ^ i % 2 = 1)) 10)) := by decide +kernel
theorem ct_trunc (b : Nat → Bool) (n : Nat) : ∀ e, fb_ct (fun p => decide (p < n ∧ b p = true)) (n + e) = fb_ct b n
  | 0 => fb_ct_cong (fun k hk => by have : k < n := hk; cases hb : b k <;> simp [this])
  | e + 1 => by
    rw [← Nat.add_assoc, fb_ct_succ, ct_trunc b n e]
    have : ¬ n + e < n := by omega
    simp [this]
theorem bc_mk {b : Nat → Bool} {n : Nat} (hn : n ≤ 10) : pJ6_bitCount_0f7a4 (nI (mkN b n)) = some (nI (fb_ct b n)) := by
  have h1 : mkN b n < 1024 := Nat.lt_of_lt_of_le (mkN_lt b n) (show 2 ^ n ≤ 2 ^ 10 from Nat.pow_le_pow_right (by decide) hn)
  rw [bc_all _ h1]
  congr 2
  have e : (fun i => decide (mkN b n / 2 ^ i % 2 = 1)) = fun i => decide (i < n ∧ b i = true) := by
    funext i
    exact decide_eq_decide.mpr (by rw [mkN_bit])
  rw [e]
  have h := ct_trunc b n (10 - n)
  rw [show n + (10 - n) = 10 by omega] at h
  exact h
/-! parts that are had -/
def paB (N : tN) (s p : Nat) : Bool := decide (¬ p = s) && decide (N (8 + 3 * s + 1) / 2 ^ p % 2 = 1)
def hdB (N : tN) (w : Nat → Nat) (h s p : Nat) : Bool := paB N s p && decide (0 < w (10 * h + p))
theorem isPart_eq {u : tU} {v : tV} {N : tN} (ok : okN N) (hM : CR (u 4) N 1114) {s p : Nat} (hs : s < N 0) (hp : p < 32) : pX11_isPart u v (nI s) (nI p) = some (b2i (paB N s p)) := by
  have hc := ok.2.1.1
  unfold pX11_isPart paB
  rw [productAt_eq (b := 1) (i := s) (j := 1) hM rfl rfl (by omega)]
  simp only [Option.bind_some, bit1 (ok.1 (8 + 3 * s + 1)) hp, nI_lit s (show s < 2 ^ 31 by omega) (show p < 2 ^ 31 by omega)]
  by_cases h1 : p = s
  · rw [if_pos h1]; simp [h1, b2i]
  · rw [if_neg h1]
    by_cases h2 : N (8 + 3 * s + 1) / 2 ^ p % 2 = 1
    · rw [if_pos h2]; simp [h1, h2, b2i]
    · rw [if_neg h2]; simp [h2, b2i]
theorem xHad {u : tU} {v : tV} {N : tN} {w : Nat → Nat} (ok : okN N) (hX : xB u v 10 1 N) (hw : CR (u 1) w 80) (hl : ∀ j, w j < 2 ^ 31) {h s : Nat} (hh : h < N 2) (hs : s < N 0) (hk : N (8 + 3 * s) = 1 ∨ N (8 + 3 * s) = 3) : pX2_hadParts u v (nI h) (nI s) = some (nI (mkN (hdB N w h s) (N 0))) := by
  have hc := ok.2.1.1
  have hc2 := ok.2.1.2.2.1
  have hc0 : u 10 0 = nI (N 0) := hX.1 0 (by decide)
  have hp12 : u 12 s = nI (N (8 + 3 * s + 1)) := ((hX.2.1 s hs).2 hk).1
  have key : ∀ (e k n : Nat), k + e = N 0 → e < n → pX2_hadParts_L6 u v (nI h) (nI s) n (nI (mkN (hdB N w h s) k)) (nI k) = some (nI (mkN (hdB N w h s) (N 0))) := by
    intro e
    induction e with
    | zero =>
      intro k n hk hn
      obtain ⟨n, rfl⟩ : ∃ n', n = n' + 1 := ⟨n - 1, by omega⟩
      obtain rfl : k = N 0 := by omega
      rw [pX2_hadParts_L6, hc0, if_pos (nI_le (Nat.le_refl _) (by omega))]
    | succ e ih =>
      intro k n hk hn
      obtain ⟨n, rfl⟩ : ∃ n', n = n' + 1 := ⟨n - 1, by omega⟩
      have ihk := ih (k + 1) n (by omega) (by omega)
      have hlt := mkN_lt (hdB N w h s) k
      rw [pX2_hadParts_L6, hc0, if_neg (nI_ge (by omega) (by omega)), gd_ok (j := s) (n := 10) (by omega) (by decide), cl (j := s) (by omega), hp12, verAt_eq hw (by omega) (by omega), shl1 (by omega), or2 hlt, nI_1]
      simp only [Option.bind_some, bit1 (ok.1 (8 + 3 * s + 1)) (show k < 32 by omega), nI_lit s (show s < 2 ^ 31 by omega) (show k < 2 ^ 31 by omega)]
      rw [mkN] at ihk
      unfold hdB paB at ihk ⊢
      by_cases h1 : k = s
      · rw [if_pos h1]
        rw [if_neg (by simp [h1])] at ihk
        exact ihk
      · rw [if_neg h1]
        by_cases h2 : N (8 + 3 * s + 1) / 2 ^ k % 2 = 1
        · rw [if_pos h2]
          by_cases h3 : 0 < w (10 * h + k)
          · rw [if_neg (show ¬ nI (w (10 * h + k)) ≤ (0 : Int32) from nI_nle h3 (hl _))]
            rw [if_pos (by simp [h1, h2, h3])] at ihk
            exact ihk
          · rw [if_pos (show nI (w (10 * h + k)) ≤ (0 : Int32) from nI_le (a := w (10 * h + k)) (b := 0) (by omega) (by decide))]
            rw [if_neg (by simp [h3])] at ihk
            exact ihk
        · rw [if_neg h2]
          rw [if_neg (by simp [h2])] at ihk
          exact ihk
  unfold pX2_hadParts
  have h' : pX2_hadParts_L6 u v (nI h) (nI s) fuel 0 0 = some (nI (mkN (hdB N w h s) (N 0))) := key (N 0) 0 fuel (by omega) (by unfold fuel; omega)
  rw [h']; rfl
/-! a suite is made -/
def mx (b : Nat → Bool) (w : Nat → Nat) (h : Nat) : Nat → Nat
  | 0 => 0
  | k + 1 => if b k = true then max (mx b w h k) (w (10 * h + k)) else mx b w h k
theorem mx_le {b : Nat → Bool} {w : Nat → Nat} {h c : Nat} (hw : ∀ j, w j ≤ c) : ∀ k, mx b w h k ≤ c
  | 0 => Nat.zero_le _
  | k + 1 => by
    have ih := mx_le (b := b) (h := h) hw k
    have := hw (10 * h + k)
    rw [mx]
    split <;> omega
theorem mx_hd {N : tN} {w : Nat → Nat} {h s : Nat} : ∀ k, mx (hdB N w h s) w h k = mx (paB N s) w h k
  | 0 => rfl
  | k + 1 => by
    rw [mx, mx, mx_hd k]
    unfold hdB
    by_cases h1 : paB N s k = true
    · by_cases h2 : 0 < w (10 * h + k)
      · rw [if_pos (by simp [h1, h2]), if_pos h1]
      · rw [if_neg (by simp [h2]), if_pos h1, show w (10 * h + k) = 0 by omega, Nat.max_zero]
    · rw [if_neg (by simp [h1]), if_neg h1]
def suW (b : Nat → Bool) (w : Nat → Nat) (h s : Nat) (st : Bool) (k j : Nat) : Nat := if j = 10 * h + s then max (w j) (mx b w h k) else if st = false ∧ j / 10 = h ∧ j % 10 < k ∧ b (j % 10) = true then 0 else w j
theorem suW_0 {b : Nat → Bool} {w : Nat → Nat} {h s : Nat} {st : Bool} {j : Nat} : suW b w h s st 0 j = w j := by
  unfold suW
  split
  · exact Nat.max_eq_left (Nat.zero_le _)
  · rw [if_neg (by omega)]
theorem suW_no {b : Nat → Bool} {w : Nat → Nat} {h s : Nat} {st : Bool} {k j : Nat} (hb : ¬ b k = true) : suW b w h s st (k + 1) j = suW b w h s st k j := by
  unfold suW
  rw [mx, if_neg hb]
  by_cases e : j % 10 = k
  · rw [if_neg (c := st = false ∧ j / 10 = h ∧ j % 10 < k + 1 ∧ b (j % 10) = true) (fun q => hb (by rw [← e]; exact q.2.2.2)), if_neg (c := st = false ∧ j / 10 = h ∧ j % 10 < k ∧ b (j % 10) = true) (fun q => by omega)]
  · have e2 : (st = false ∧ j / 10 = h ∧ j % 10 < k + 1 ∧ b (j % 10) = true) = (st = false ∧ j / 10 = h ∧ j % 10 < k ∧ b (j % 10) = true) := propext ⟨fun q => ⟨q.1, q.2.1, by omega, q.2.2.2⟩, fun q => ⟨q.1, q.2.1, by omega, q.2.2.2⟩⟩
    simp only [e2]
theorem suW_yes {b : Nat → Bool} {w : Nat → Nat} {h s : Nat} {k j : Nat} (hb : b k = true) (hs : b s = false) (hk : k < 10) (hs10 : s < 10) : suW b w h s true (k + 1) j = va_up (suW b w h s true k) (10 * h + s) (max (suW b w h s true k (10 * h + s)) (w (10 * h + k))) j := by
  unfold va_up
  by_cases e : j = 10 * h + s
  · subst e
    rw [if_pos rfl]
    unfold suW
    rw [if_pos rfl, if_pos rfl, mx, if_pos hb]
    omega
  · rw [if_neg e]
    unfold suW
    rw [if_neg e, if_neg e, if_neg (fun q => absurd q.1 (by decide)), if_neg (fun q => absurd q.1 (by decide))]
theorem suW_yes0 {b : Nat → Bool} {w : Nat → Nat} {h s : Nat} {k j : Nat} (hb : b k = true) (hs : b s = false) (hk : k < 10) (hs10 : s < 10) : suW b w h s false (k + 1) j = va_up (va_up (suW b w h s false k) (10 * h + s) (max (suW b w h s false k (10 * h + s)) (w (10 * h + k)))) (10 * h + k) 0 j := by
  have hne : k ≠ s := fun e => by rw [e, hs] at hb; cases hb
  unfold va_up
  by_cases e1 : j = 10 * h + k
  · subst e1
    rw [if_pos rfl]
    unfold suW
    rw [if_neg (by omega), if_pos ⟨rfl, by omega, by omega, by rw [show (10 * h + k) % 10 = k by omega]; exact hb⟩]
  · rw [if_neg e1]
    by_cases e : j = 10 * h + s
    · subst e
      rw [if_pos rfl]
      unfold suW
      rw [if_pos rfl, if_pos rfl, mx, if_pos hb]
      omega
    · rw [if_neg e]
      unfold suW
      rw [if_neg e, if_neg e]
      have e2 : (j / 10 = h ∧ j % 10 < k + 1 ∧ b (j % 10) = true) = (j / 10 = h ∧ j % 10 < k ∧ b (j % 10) = true) := propext ⟨fun q => ⟨q.1, by omega, q.2.2⟩, fun q => ⟨q.1, by omega, q.2.2⟩⟩
      simp only [e2]
theorem suW_at {b : Nat → Bool} {w : Nat → Nat} {h s : Nat} {st : Bool} {k : Nat} (hb : b k = true) (hs : b s = false) (hk : k < 10) (hs10 : s < 10) : suW b w h s st k (10 * h + k) = w (10 * h + k) := by
  have hne : k ≠ s := fun e => by rw [e, hs] at hb; cases hb
  unfold suW
  rw [if_neg (by omega), if_neg (by omega)]
theorem suW_lt {b : Nat → Bool} {w : Nat → Nat} {h s : Nat} {st : Bool} {k c : Nat} (hw : ∀ j, w j ≤ c) (j : Nat) : suW b w h s st k j ≤ c := by
  unfold suW
  have := hw j
  have := mx_le (b := b) (h := h) hw k
  split
  · omega
  · split <;> omega
theorem xMake_L {u : tU} {v : tV} {N : tN} {w : Nat → Nat} {b : Nat → Bool} (ok : okN N) (hX : xB u v 10 1 N) (hw : CR (u 1) w 80) (hl : ∀ j, w j ≤ 9) {h s : Nat} (hh : h < N 2) (hs : s < N 0) (hb : b s = false) (st : Bool) : ∃ u', pX2_makeSuite_L44 (nI h) (nI s) (nI (mkN b (N 0))) (b2i st) fuel 0 u v = some (u', v) ∧ EX 1 u u' ∧ CR (u' 1) (suW b w h s st (N 0)) 80 := by
  have hc := ok.2.1.1
  have hc2 := ok.2.1.2.2.1
  have hmk : mkN b (N 0) < 2 ^ 31 := Nat.lt_of_lt_of_le (mkN_lt b (N 0)) (Nat.pow_le_pow_right (by decide) (by omega))
  obtain ⟨u', ⟨h1, h2⟩, h3⟩ := stL (L := pX2_makeSuite_L44 (nI h) (nI s) (nI (mkN b (N 0))) (b2i st)) (E := N 0) (I := fun k u' => EX 1 u u' ∧ CR (u' 1) (suW b w h s st k) 80) (v := v)
    (fun n u1 hi => by
      have hX1 := xB_EX (by decide) hi.1 hX
      rw [pX2_makeSuite_L44, hX1.1 0 (by decide), if_pos (nI_le (Nat.le_refl _) (by omega))])
    (fun n u1 k hk hi => by
      have hX1 := xB_EX (by decide) hi.1 hX
      rw [pX2_makeSuite_L44, hX1.1 0 (by decide), if_neg (nI_ge hk (by omega)), verAt_eq hi.2 (by omega) (by omega), cell_eq, nI_1]
      simp only [Option.bind_some, bit1 hmk (show k < 32 by omega), mkN_bit]
      by_cases hbk : b k = true
      · rw [if_pos ⟨hk, hbk⟩, suW_at hbk hb (by omega) (by omega)]
        obtain ⟨u2, r1, r2, r3⟩ := raise_eq (v := v) (h := h) (p := s) (x := w (10 * h + k)) hi.2 (fun j => by have := suW_lt (b := b) (h := h) (s := s) (st := st) (k := k) hl j; omega) (by have := hl (10 * h + k); omega) (by omega) (by omega)
        rw [r1]
        simp only [Option.bind_some]
        cases st with
        | true =>
          refine ⟨u2, ⟨EX_tr hi.1 r2, cr_same r3 (fun j _ => (suW_yes hbk hb (by omega) (by omega)).symm)⟩, ?_⟩
          rw [if_neg (show ¬ b2i true = (0 : Int32) from by decide)]
        | false =>
          refine ⟨sU u2 1 (10 * h + k) (nI 0), ⟨EX_sU (EX_tr hi.1 r2), cr_same (cr_sU r3) (fun j _ => (suW_yes0 hbk hb (by omega) (by omega)).symm)⟩, ?_⟩
          rw [if_pos (show b2i false = (0 : Int32) from rfl), gd_ok (by omega) (by decide), cl (by omega)]
          rfl
      · rw [if_neg (fun q => hbk q.2)]
        exact ⟨u1, ⟨hi.1, cr_same hi.2 (fun j _ => (suW_no hbk).symm)⟩, rfl⟩)
    fuel u (by unfold fuel; omega) ⟨EX_rf, cr_same hw (fun j _ => suW_0.symm)⟩
  exact ⟨u', h3, h1, h2⟩
def mkW (N : tN) (w : Nat → Nat) (h s j : Nat) : Nat := if fb_ct (hdB N w h s) (N 0) < N (8 + 3 * s + 2) then w j else suW (hdB N w h s) w h s (decide (N (8 + 3 * s) = 3)) (N 0) j
theorem mkW_le {N : tN} {w : Nat → Nat} {h s c : Nat} (hw : ∀ j, w j ≤ c) (j : Nat) : mkW N w h s j ≤ c := by
  unfold mkW
  split
  · exact hw j
  · exact suW_lt hw j
theorem hdB_s {N : tN} {w : Nat → Nat} {h s : Nat} : hdB N w h s s = false := by unfold hdB paB; simp
theorem xMake {u : tU} {v : tV} {N : tN} {w : Nat → Nat} (ok : okN N) (hX : xB u v 10 1 N) (hw : CR (u 1) w 80) (hl : ∀ j, w j ≤ 9) {h s : Nat} (hh : h < N 2) (hs : s < N 0) (hk : N (8 + 3 * s) = 1 ∨ N (8 + 3 * s) = 3) : ∃ u', pX2_makeSuite u v (nI h) (nI s) = some (u', v) ∧ EX 1 u u' ∧ CR (u' 1) (mkW N w h s) 80 := by
  have hc := ok.2.1.1
  have hx1 := hX.2.1 s hs
  have hct : fb_ct (hdB N w h s) (N 0) ≤ N 0 := fb_ct_le _ _
  unfold pX2_makeSuite
  rw [xHad ok hX hw (fun j => by have := hl j; omega) hh hs hk, Option.bind_some, bc_mk (by omega), Option.bind_some]
  rw [gd_ok (j := s) (n := 10) (by omega) (by decide), gd_ok (j := s) (n := 10) (by omega) (by decide), cl (j := s) (by omega), (hx1.2 hk).2, hx1.1]
  simp only [leI (ok.1 (8 + 3 * s + 2)) (show fb_ct (hdB N w h s) (N 0) < 2 ^ 31 by omega), show (3 : Int32) = nI 3 from rfl, nI_lit 3 (by decide) (ok.1 (8 + 3 * s))]
  by_cases h1 : N (8 + 3 * s + 2) ≤ fb_ct (hdB N w h s) (N 0)
  · rw [if_pos h1]
    have e : ∀ (st : Bool), decide (N (8 + 3 * s) = 3) = st → ∀ (u' : tU), CR (u' 1) (suW (hdB N w h s) w h s st (N 0)) 80 → CR (u' 1) (mkW N w h s) 80 := fun st he u' hcr => cr_same hcr (fun j _ => by unfold mkW; rw [if_neg (by omega), he])
    by_cases h2 : N (8 + 3 * s) = 3
    · rw [if_pos h2]
      obtain ⟨u', r1, r2, r3⟩ := xMake_L ok hX hw hl hh hs (b := hdB N w h s) hdB_s true
      rw [show b2i true = (1 : Int32) from rfl] at r1
      rw [r1]
      exact ⟨u', rfl, r2, e true (decide_eq_true h2) u' r3⟩
    · rw [if_neg h2]
      obtain ⟨u', r1, r2, r3⟩ := xMake_L ok hX hw hl hh hs (b := hdB N w h s) hdB_s false
      rw [show b2i false = (0 : Int32) from rfl] at r1
      rw [r1]
      exact ⟨u', rfl, r2, e false (decide_eq_false h2) u' r3⟩
  · rw [if_neg h1]
    exact ⟨u, rfl, EX_rf, cr_same hw (fun j _ => by unfold mkW; rw [if_pos (by omega)])⟩
