/-! the reference's book, as numbers, is as it should be -/
def okC (N : tN) : Prop := N 0 ≤ 10 ∧ N 1 ≤ 16 ∧ N 2 ≤ 8 ∧ N 3 ≤ 40 ∧ N 4 ≤ 30 ∧ N 5 ≤ 10 ∧ N 6 ≤ 9999 ∧ N 7 ≤ 999
def okP (N : tN) : Prop := ∀ p, p < N 0 → N (8 + 3 * p) ≤ 3 ∧ N (8 + 3 * p + 1) ≤ 1023 ∧ N (8 + 3 * p + 2) ≤ 10 ∧ ((N (8 + 3 * p) = 1 ∨ N (8 + 3 * p) = 3) → 1 ≤ N (8 + 3 * p + 2))
def okR (N : tN) : Prop := ∀ r, r < N 1 → N (38 + 15 * r) ≤ 9 ∧ N (38 + 15 * r + 1) < N 0 ∧ N (38 + 15 * r + 2) ≤ 12 ∧ (∀ k, k < N (38 + 15 * r + 2) → 1 ≤ N (38 + 15 * r + (3 + k)) ∧ N (38 + 15 * r + (3 + k)) ≤ 28) ∧ ∀ k, k + 1 < N (38 + 15 * r + 2) → N (38 + 15 * r + (3 + k)) ≠ 28
def okH (N : tN) : Prop := ∀ h, h < N 2 → 1 ≤ N (278 + 2 * h) ∧ N (278 + 2 * h) ≤ 64 ∧ N (278 + 2 * h + 1) ≤ 9
def okF (N : tN) : Prop := ∀ f, f < N 3 → N (294 + 16 * f) < N 2 ∧ N (294 + 16 * f + 1) ≤ 9999 ∧ 1 ≤ N (294 + 16 * f + 2) ∧ N (294 + 16 * f + 2) ≤ 9 ∧ N (294 + 16 * f + 3) ≤ 12 ∧ ∀ k, k < N (294 + 16 * f + 3) → 1 ≤ N (294 + 16 * f + (4 + k)) ∧ N (294 + 16 * f + (4 + k)) ≤ 26
def okU (N : tN) : Prop := ∀ i, i < N 4 → N (934 + 4 * i) ≤ 9 ∧ N (934 + 4 * i + 1) < N 0 ∧ N (934 + 4 * i + 2) < N (934 + 4 * i + 3) ∧ N (934 + 4 * i + 3) ≤ 999
def okG (N : tN) : Prop := ∀ g, g < N 5 → N (1054 + 6 * g) < N 0 ∧ 1 ≤ N (1054 + 6 * g + 1) ∧ N (1054 + 6 * g + 1) ≤ 9 ∧ N (1054 + 6 * g + 2) ≤ 40 ∧ N (1054 + 6 * g + 3) ≤ 1000 ∧ N (1054 + 6 * g + 4) ≤ N (1054 + 6 * g + 5) ∧ N (1054 + 6 * g + 5) ≤ 9999
def bN (N : tN) : Prop := ∀ k, N k < 2 ^ 31
def okN (N : tN) : Prop := bN N ∧ okC N ∧ okP N ∧ okR N ∧ okH N ∧ okF N ∧ okU N ∧ okG N
/-! the class's rows hold the same numbers -/
def xP (u : tU) (s : Nat) (N : tN) : Prop := ∀ p, p < N 0 → u (s + 1) p = nI (N (8 + 3 * p)) ∧ ((N (8 + 3 * p) = 1 ∨ N (8 + 3 * p) = 3) → u (s + 2) p = nI (N (8 + 3 * p + 1)) ∧ u (s + 3) p = nI (N (8 + 3 * p + 2)))
def xR (u : tU) (v : tV) (s lr : Nat) (N : tN) : Prop := ∀ r, r < N 1 → u (s + 4) r = nI (N (38 + 15 * r)) ∧ u (s + 5) r = nI (N (38 + 15 * r + 1)) ∧ v lr r = lN (enc (fun k => N (38 + 15 * r + (3 + k))) (N (38 + 15 * r + 2)))
def xH (u : tU) (s : Nat) (N : tN) : Prop := ∀ h, h < N 2 → u (s + 6) h = nI (N (278 + 2 * h)) ∧ u (s + 7) h = nI (N (278 + 2 * h + 1))
def xF (u : tU) (v : tV) (s lr : Nat) (N : tN) : Prop := ∀ f, f < N 3 → u (s + 8) f = nI (N (294 + 16 * f)) ∧ u (s + 9) f = nI (N (294 + 16 * f + 1)) ∧ u (s + 10) f = nI (N (294 + 16 * f + 2)) ∧ v (lr + 1) f = lN (enc (fun k => N (294 + 16 * f + (4 + k))) (N (294 + 16 * f + 3)))
def xU (u : tU) (s : Nat) (N : tN) : Prop := ∀ i, i < N 4 → u (s + 11) i = nI (N (934 + 4 * i)) ∧ u (s + 12) i = nI (N (934 + 4 * i + 1)) ∧ u (s + 13) i = nI (N (934 + 4 * i + 2)) ∧ u (s + 14) i = nI (N (934 + 4 * i + 3))
def xG (u : tU) (s : Nat) (N : tN) : Prop := ∀ g, g < N 5 → u (s + 15) g = nI (N (1054 + 6 * g)) ∧ u (s + 16) g = nI (N (1054 + 6 * g + 1)) ∧ u (s + 17) g = nI (N (1054 + 6 * g + 2)) ∧ u (s + 18) g = nI (N (1054 + 6 * g + 3)) ∧ u (s + 19) g = nI (N (1054 + 6 * g + 4)) ∧ u (s + 20) g = nI (N (1054 + 6 * g + 5))
def xB (u : tU) (v : tV) (s lr : Nat) (N : tN) : Prop := CR (u s) N 8 ∧ xP u s N ∧ xR u v s lr N ∧ xH u s N ∧ xF u v s lr N ∧ xU u s N ∧ xG u s N
/-! reading the reference's book -/
theorem productAt_eq {u : tU} {v : tV} {N : tN} {a b : Int32} {i j : Nat} (hM : CR (u 4) N 1114) (ha : a = nI i) (hb : b = nI j) (h : 8 + 3 * i + j < 1114) : pX11_productAt u v a b = some (nI (N (8 + 3 * i + j))) := by
  subst ha; subst hb
  unfold pX11_productAt
  rw [show (8 : Int32) = nI 8 from rfl, show (3 : Int32) = nI 3 from rfl, pk_mul, nI_add, nI_add, gd_ok h (by decide), cl (by omega), hM _ h]
theorem ruleAt_eq {u : tU} {v : tV} {N : tN} {a b : Int32} {i j : Nat} (hM : CR (u 4) N 1114) (ha : a = nI i) (hb : b = nI j) (h : 38 + 15 * i + j < 1114) : pX11_ruleAt u v a b = some (nI (N (38 + 15 * i + j))) := by
  subst ha; subst hb
  unfold pX11_ruleAt
  rw [show (38 : Int32) = nI 38 from rfl, show (15 : Int32) = nI 15 from rfl, pk_mul, nI_add, nI_add, gd_ok h (by decide), cl (by omega), hM _ h]
theorem findAt_eq {u : tU} {v : tV} {N : tN} {a b : Int32} {i j : Nat} (hM : CR (u 4) N 1114) (ha : a = nI i) (hb : b = nI j) (h : 294 + 16 * i + j < 1114) : pX11_findAt u v a b = some (nI (N (294 + 16 * i + j))) := by
  subst ha; subst hb
  unfold pX11_findAt
  rw [show (294 : Int32) = nI 294 from rfl, show (16 : Int32) = nI 16 from rfl, pk_mul, nI_add, nI_add, gd_ok h (by decide), cl (by omega), hM _ h]
theorem hostAt_eq {u : tU} {v : tV} {N : tN} {a b : Int32} {i j : Nat} (hM : CR (u 4) N 1114) (ha : a = nI i) (hb : b = nI j) (h : 278 + 2 * i + j < 1114) : pX11_hostAt u v a b = some (nI (N (278 + 2 * i + j))) := by
  subst ha; subst hb
  unfold pX11_hostAt
  rw [show (278 : Int32) = nI 278 from rfl, show (2 : Int32) = nI 2 from rfl, pk_mul, nI_add, nI_add, gd_ok h (by decide), cl (by omega), hM _ h]
theorem useAt_eq {u : tU} {v : tV} {N : tN} {a b : Int32} {i j : Nat} (hM : CR (u 4) N 1114) (ha : a = nI i) (hb : b = nI j) (h : 934 + 4 * i + j < 1114) : pX11_useAt u v a b = some (nI (N (934 + 4 * i + j))) := by
  subst ha; subst hb
  unfold pX11_useAt
  rw [show (934 : Int32) = nI 934 from rfl, show (4 : Int32) = nI 4 from rfl, pk_mul, nI_add, nI_add, gd_ok h (by decide), cl (by omega), hM _ h]
theorem rightAt_eq {u : tU} {v : tV} {N : tN} {a b : Int32} {i j : Nat} (hM : CR (u 4) N 1114) (ha : a = nI i) (hb : b = nI j) (h : 1054 + 6 * i + j < 1114) : pX11_rightAt u v a b = some (nI (N (1054 + 6 * i + j))) := by
  subst ha; subst hb
  unfold pX11_rightAt
  rw [show (1054 : Int32) = nI 1054 from rfl, show (6 : Int32) = nI 6 from rfl, pk_mul, nI_add, nI_add, gd_ok h (by decide), cl (by omega), hM _ h]
theorem isProduct_eq {u : tU} {v : tV} {N : tN} {a : Int32} (hM : CR (u 4) N 1114) : pX11_isProduct u v a = some (if 0 ≤ a ∧ a < nI (N 0) then 1 else 0) := by unfold pX11_isProduct; rw [hM 0 (by decide)]; exact one_eq
theorem isRule_eq {u : tU} {v : tV} {N : tN} {a : Int32} (hM : CR (u 4) N 1114) : pX11_isRule u v a = some (if 0 ≤ a ∧ a < nI (N 1) then 1 else 0) := by unfold pX11_isRule; rw [hM 1 (by decide)]; exact one_eq
theorem isHost_eq {u : tU} {v : tV} {N : tN} {a : Int32} (hM : CR (u 4) N 1114) : pX11_isHost u v a = some (if 0 ≤ a ∧ a < nI (N 2) then 1 else 0) := by unfold pX11_isHost; rw [hM 2 (by decide)]; exact one_eq
theorem isFind_eq {u : tU} {v : tV} {N : tN} {a : Int32} (hM : CR (u 4) N 1114) : pX11_isFind u v a = some (if 0 ≤ a ∧ a < nI (N 3) then 1 else 0) := by unfold pX11_isFind; rw [hM 3 (by decide)]; exact one_eq
theorem isRight_eq {u : tU} {v : tV} {N : tN} {a : Int32} (hM : CR (u 4) N 1114) : pX11_isRight u v a = some (if 0 ≤ a ∧ a < nI (N 5) then 1 else 0) := by unfold pX11_isRight; rw [hM 5 (by decide)]; exact one_eq
theorem xProduct_eq {u : tU} {v : tV} {N : tN} {a : Int32} (hX : CR (u 10) N 8) : pX6_isOne u v a = some (if 0 ≤ a ∧ a < nI (N 0) then 1 else 0) := by unfold pX6_isOne; rw [hX 0 (by decide)]; exact one_eq
theorem xRule_eq {u : tU} {v : tV} {N : tN} {a : Int32} (hX : CR (u 10) N 8) : pX8_isOne u v a = some (if 0 ≤ a ∧ a < nI (N 1) then 1 else 0) := by unfold pX8_isOne; rw [hX 1 (by decide)]; exact one_eq
theorem xHost_eq {u : tU} {v : tV} {N : tN} {a : Int32} (hX : CR (u 10) N 8) : pX3_isOne u v a = some (if 0 ≤ a ∧ a < nI (N 2) then 1 else 0) := by unfold pX3_isOne; rw [hX 2 (by decide)]; exact one_eq
theorem xFind_eq {u : tU} {v : tV} {N : tN} {a : Int32} (hX : CR (u 10) N 8) : pX1_isOne u v a = some (if 0 ≤ a ∧ a < nI (N 3) then 1 else 0) := by unfold pX1_isOne; rw [hX 3 (by decide)]; exact one_eq
theorem xRight_eq {u : tU} {v : tV} {N : tN} {a : Int32} (hX : CR (u 10) N 8) : pX7_isOne u v a = some (if 0 ≤ a ∧ a < nI (N 5) then 1 else 0) := by unfold pX7_isOne; rw [hX 5 (by decide)]; exact one_eq
/-! signs in a long -/
theorem enc_lt {c : Nat → Nat} : ∀ {n : Nat}, (∀ k, k < n → c k < 32) → enc c n < 32 ^ n
  | 0, _ => by show 0 < 1; decide
  | n + 1, h => by
    have h1 := enc_lt (c := c) (n := n) (fun k hk => h k (by omega))
    have h2 := h n (by omega)
    have h3 : c n * 32 ^ n ≤ 31 * 32 ^ n := Nat.mul_le_mul_right _ (by omega)
    show enc c n + c n * 32 ^ n < 32 ^ (n + 1)
    rw [Nat.pow_succ]
    omega
theorem enc_at {c : Nat → Nat} : ∀ {n : Nat}, (∀ k, k < n → c k < 32) → ∀ k, enc c n / 32 ^ k % 32 = if k < n then c k else 0
  | 0, _, k => by simp [enc]
  | n + 1, h, k => by
    have ih := enc_at (c := c) (n := n) (fun k hk => h k (by omega)) k
    have hl := enc_lt (c := c) (n := n) (fun k hk => h k (by omega))
    have hc := h n (by omega)
    show (enc c n + c n * 32 ^ n) / 32 ^ k % 32 = _
    rcases Nat.lt_trichotomy k n with q | q | q
    · rw [if_pos (by omega)]
      rw [if_pos q] at ih
      have e : c n * 32 ^ n = (c n * 32 ^ (n - k - 1) * 32) * 32 ^ k := by
        have : 32 ^ n = 32 ^ (n - k - 1) * 32 * 32 ^ k := by rw [← Nat.pow_succ, ← Nat.pow_add]; congr 1; omega
        rw [this]; simp only [Nat.mul_assoc]
      rw [e, Nat.add_mul_div_right _ _ (Nat.pow_pos (by decide)), Nat.add_mul_mod_self_right]
      exact ih
    · subst q
      rw [if_pos (by omega), Nat.add_mul_div_right _ _ (Nat.pow_pos (by decide)), Nat.div_eq_of_lt hl, Nat.zero_add]
      exact Nat.mod_eq_of_lt hc
    · rw [if_neg (by omega)]
      have h1 : enc c (n + 1) < 32 ^ (n + 1) := enc_lt h
      have h2 : 32 ^ (n + 1) ≤ 32 ^ k := Nat.pow_le_pow_right (by decide) (by omega)
      show enc c (n + 1) / 32 ^ k % 32 = 0
      rw [Nat.div_eq_of_lt (Nat.lt_of_lt_of_le h1 h2)]
theorem p32 (k : Nat) : 2 ^ (5 * k) = 32 ^ k := by rw [Nat.pow_mul]
theorem signAt_eq {c : Nat → Nat} {n k : Nat} (hn : n ≤ 12) (hc : ∀ k, k < n → c k < 32) (hk : k ≤ 12) : pX10_signAt (lN (enc c n)) (nI k) = some (nI (if k < n then c k else 0)) := by
  unfold pX10_signAt
  have hl : enc c n < 2 ^ 64 := by
    have h1 := enc_lt hc
    have h2 : 32 ^ n ≤ 32 ^ 12 := Nat.pow_le_pow_right (by decide) hn
    have h3 : (32 : Nat) ^ 12 < 2 ^ 64 := by decide
    omega
  rw [show (5 : Int32) = nI 5 from rfl, pk_mul, wb_shr hl (by omega), lN_i, show (31 : Int32) = nI (2 ^ 5 - 1) from rfl, fa_mask, p32]
  rw [show (2 : Nat) ^ 5 = 32 from rfl, enc_at hc]
theorem enc_cong {c d : Nat → Nat} : ∀ {n : Nat}, (∀ k, k < n → c k = d k) → enc c n = enc d n
  | 0, _ => rfl
  | n + 1, h => by
    show enc c n + c n * 32 ^ n = enc d n + d n * 32 ^ n
    rw [enc_cong (fun k hk => h k (by omega)), h n (by omega)]
