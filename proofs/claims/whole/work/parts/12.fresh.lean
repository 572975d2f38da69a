/-! a loop that sums up -/
theorem sumL {L : Nat → Int32 → Int32 → Option Int32} {E : Nat} {g : Nat → Nat} (he : ∀ n s, L (n + 1) s (nI E) = some s) (hs : ∀ n s k, k < E → L (n + 1) s (nI k) = L n (s + nI (g k)) (nI (k + 1))) : ∀ n, E < n → L n 0 0 = some (nI (fb_sm g E)) := by
  have key : ∀ (e k n : Nat), k + e = E → e < n → L n (nI (fb_sm g k)) (nI k) = some (nI (fb_sm g E)) := by
    intro e
    induction e with
    | zero =>
      intro k n hk hn
      obtain ⟨n, rfl⟩ : ∃ n', n = n' + 1 := ⟨n - 1, by omega⟩
      obtain rfl : k = E := by omega
      exact he n _
    | succ e ih =>
      intro k n hk hn
      obtain ⟨n, rfl⟩ : ∃ n', n = n' + 1 := ⟨n - 1, by omega⟩
      rw [hs n _ k (by omega), nI_add, ← fb_sm_succ]
      exact ih (k + 1) n (by omega) (by omega)
  intro n hn
  exact key E 0 n (by omega) hn
def bn (b : Bool) : Nat := if b then 1 else 0
theorem nI_z (s : Int32) : s + nI 0 = s := by rw [fa_eq]; show (s + 0).toInt = s.toInt; simp
/-! a find that is not too old, and counts -/
def inT (N : tN) (f : Nat) : Bool := decide (N 6 ≤ N (294 + 16 * f + 1) + N 7) && decide (N (294 + 16 * f + 1) ≤ N 6)
def frB (N : tN) (f : Nat) : Bool := !decide (goN N f < 0) && inT N f
theorem subLe {a b c : Nat} (ha : a < 2 ^ 30) (hb : b < 2 ^ 30) (hc : c < 2 ^ 30) : (nI a - nI b ≤ nI c) = (a ≤ c + b) := by
  rw [fa_le, pk_sub_toInt ha hb, nI_toInt (by omega)]
  exact propext ⟨fun h => by omega, fun h => by omega⟩
theorem ltSub {a b c : Nat} (ha : a < 2 ^ 30) (hb : b < 2 ^ 30) (hc : c < 2 ^ 30) : (nI c < nI a - nI b) = (c + b < a) := by
  rw [fa_lt, pk_sub_toInt ha hb, nI_toInt (by omega)]
  exact propext ⟨fun h => by omega, fun h => by omega⟩
theorem leI {a b : Nat} (ha : a < 2 ^ 31) (hb : b < 2 ^ 31) : (nI a ≤ nI b) = (a ≤ b) := propext (nI_leI ha hb)
theorem ltI {a b : Nat} (ha : a < 2 ^ 31) (hb : b < 2 ^ 31) : (nI a < nI b) = (a < b) := propext (nI_ltI ha hb)
theorem xInT {u : tU} {v : tV} {N : tN} (ok : okN N) (hX : xB u v 10 1 N) {f : Nat} (hf : f < N 3) : pX0_isInTime u v (nI f) = some (b2i (inT N f)) := by
  have hC := ok.2.1
  have h2 : f < 40 := by have := hC.2.2.2.1; omega
  have h3 := (ok.2.2.2.2.2.1 f hf).2.1
  unfold pX0_isInTime
  rw [gd_ok h2 (by decide), cl (by omega), (hX.2.2.2.2.1 f hf).2.1, hX.1 6 (by decide), hX.1 7 (by decide), within_eq]
  simp only [Option.bind_some, gb_ok]
  unfold inT b2i
  simp only [subLe (show N 6 < 2 ^ 30 by have := hC.2.2.2.2.2.2.1; omega) (show N 7 < 2 ^ 30 by have := hC.2.2.2.2.2.2.2; omega) (show N (294 + 16 * f + 1) < 2 ^ 30 by omega), leI (ok.1 (294 + 16 * f + 1)) (ok.1 6), Bool.and_eq_true, decide_eq_true_eq]
theorem xFresh {u : tU} {v : tV} {N : tN} (ok : okN N) (hX : xB u v 10 1 N) {f : Nat} (hf : f < N 3) : pX0_isCounted u v (nI f) = some (b2i (frB N f)) := by
  unfold pX0_isCounted frB
  rw [xInT ok hX hf, xGoal ok hX hf]
  simp only [Option.bind_some, b2i_0]
  by_cases h1 : inT N f = true
  · rw [if_neg (by simp [h1]), h1, Bool.and_true]
    by_cases h2 : goN N f < 0
    · rw [if_pos h2]; simp [h2, b2i]
    · rw [if_neg h2]; simp [h2, b2i]
  · rw [if_pos (by simpa using h1)]; simp [h1, b2i]
theorem mFresh {u : tU} {v : tV} {N : tN} (ok : okN N) (hM : CR (u 4) N 1114) {f : Nat} (hf : f < N 3) : pX11_isFresh u v (nI f) = some (b2i (frB N f)) := by
  have hC := ok.2.1
  have h2 : f < 40 := by have := hC.2.2.2.1; omega
  have h3 := (ok.2.2.2.2.2.1 f hf).2.1
  unfold pX11_isFresh frB inT
  rw [findAt_eq (b := 1) (i := f) (j := 1) hM rfl rfl (by omega), mGoal ok hM hf, hM 6 (by decide), hM 7 (by decide)]
  simp only [Option.bind_some, ltSub (show N 6 < 2 ^ 30 by have := hC.2.2.2.2.2.2.1; omega) (show N 7 < 2 ^ 30 by have := hC.2.2.2.2.2.2.2; omega) (show N (294 + 16 * f + 1) < 2 ^ 30 by omega), ltI (ok.1 6) (ok.1 (294 + 16 * f + 1))]
  by_cases h1 : goN N f < 0
  · rw [if_pos h1]; simp [h1, b2i]
  · rw [if_neg h1]
    by_cases h4 : N 6 < N (294 + 16 * f + 1)
    · rw [if_pos h4, decide_eq_false (p := N (294 + 16 * f + 1) ≤ N 6) (by omega)]; simp [b2i]
    · rw [if_neg h4, decide_eq_true (p := N (294 + 16 * f + 1) ≤ N 6) (by omega)]
      by_cases h5 : N (294 + 16 * f + 1) + N 7 < N 6
      · rw [if_pos h5, decide_eq_false (p := N 6 ≤ N (294 + 16 * f + 1) + N 7) (by omega)]; simp [b2i]
      · rw [if_neg h5, decide_eq_true (p := N 6 ≤ N (294 + 16 * f + 1) + N 7) (by omega)]; simp [b2i, h1]
/-! how many finds of a sort -/
def soB (N : tN) (w f : Nat) : Bool := if w = 0 then !decide (goN N f < 0) else if w = 1 then decide (goN N f = -5) else if w = 2 then decide (goN N f = -6) else frB N f
theorem leNot {x : Int32} : ((0 : Int32) ≤ x) = ¬ x < 0 := by rw [fa_le, fa_lt]; exact propext ⟨fun h => by omega, fun h => by omega⟩
theorem xSort {u : tU} {v : tV} {N : tN} (ok : okN N) (hX : xB u v 10 1 N) {f w : Nat} (hf : f < N 3) (hw : w ≤ 3) : pX0_isOfSort u v (nI f) (nI w) = some (b2i (soB N w f)) := by
  unfold pX0_isOfSort soB
  rw [xGoal ok hX hf, xFresh ok hX hf]
  simp only [Option.bind_some]
  obtain rfl | rfl | rfl | rfl : w = 0 ∨ w = 1 ∨ w = 2 ∨ w = 3 := by omega
  · rw [if_pos (show nI 0 = (0 : Int32) from rfl), if_pos rfl]
    by_cases h : goN N f < 0
    · rw [if_pos h]; simp [h, b2i]
    · rw [if_neg h]; simp [h, b2i]
  · rw [if_neg (show ¬ nI 1 = (0 : Int32) from by decide), if_pos (show nI 1 = (1 : Int32) from rfl)]
    by_cases h : goN N f = -5
    · rw [if_pos h]; simp [h, b2i]
    · rw [if_neg h]; simp [h, b2i]
  · rw [if_neg (show ¬ nI 2 = (0 : Int32) from by decide), if_neg (show ¬ nI 2 = (1 : Int32) from by decide), if_pos (show nI 2 = (2 : Int32) from rfl)]
    by_cases h : goN N f = -6
    · rw [if_pos h]; simp [h, b2i]
    · rw [if_neg h]; simp [h, b2i]
  · rw [if_neg (show ¬ nI 3 = (0 : Int32) from by decide), if_neg (show ¬ nI 3 = (1 : Int32) from by decide), if_neg (show ¬ nI 3 = (2 : Int32) from by decide), if_neg (by decide), if_neg (by decide), if_neg (by decide), gb_b]
theorem xFinds {u : tU} {v : tV} {N : tN} (ok : okN N) (hX : xB u v 10 1 N) {w : Nat} (hw : w ≤ 3) : pX10_finds_L19 u v (nI w) fuel 0 0 = some (nI (fb_sm (fun f => bn (soB N w f)) (N 3))) := by
  have hN : N 3 ≤ 40 := ok.2.1.2.2.2.1
  refine sumL (L := pX10_finds_L19 u v (nI w)) (fun n s => ?_) (fun n s k hk => ?_) fuel (by unfold fuel; omega)
  · rw [pX10_finds_L19, hX.1 3 (by decide), if_pos (nI_le (Nat.le_refl _) (by omega))]
  · rw [pX10_finds_L19, hX.1 3 (by decide), if_neg (nI_ge hk (by omega)), xSort ok hX hk hw]
    simp only [Option.bind_some, b2i_0, nI_1]
    by_cases h : soB N w k = true
    · rw [if_neg (by simp [h]), h]; rfl
    · rw [if_pos (by simpa using h), show soB N w k = false by simpa using h, show nI (bn false) = nI 0 from rfl, nI_z]
theorem mFinds {u : tU} {v : tV} {N : tN} (ok : okN N) (hM : CR (u 4) N 1114) {w : Nat} (hw : w ≤ 3) : pX11_finds_L19 u v (nI w) fuel 0 0 = some (nI (fb_sm (fun f => bn (soB N w f)) (N 3))) := by
  have hN : N 3 ≤ 40 := ok.2.1.2.2.2.1
  refine sumL (L := pX11_finds_L19 u v (nI w)) (fun n s => ?_) (fun n s k hk => ?_) fuel (by unfold fuel; omega)
  · rw [pX11_finds_L19, hM 3 (by decide), if_pos (nI_le (Nat.le_refl _) (by omega))]
  · rw [pX11_finds_L19, hM 3 (by decide), if_neg (nI_ge hk (by omega)), mGoal ok hM hk, mFresh ok hM hk]
    simp only [Option.bind_some, b2i_0, nI_1, leNot]
    have z : s + (0 : Int32) = s := nI_z s
    rw [z]
    unfold soB
    obtain rfl | rfl | rfl | rfl : w = 0 ∨ w = 1 ∨ w = 2 ∨ w = 3 := by omega
    · simp only [if_pos (show nI 0 = (0 : Int32) from rfl), if_neg (show ¬ nI 0 = (1 : Int32) from by decide), if_neg (show ¬ nI 0 = (2 : Int32) from by decide), if_neg (show ¬ nI 0 = (3 : Int32) from by decide)]
      by_cases h : goN N k < 0
      · simp [h, bn, nI_z]
      · simp [h, bn]; rfl
    · simp only [if_neg (show ¬ nI 1 = (0 : Int32) from by decide), if_pos (show nI 1 = (1 : Int32) from rfl), if_neg (show ¬ nI 1 = (2 : Int32) from by decide), if_neg (show ¬ nI 1 = (3 : Int32) from by decide)]
      by_cases h : goN N k = -5
      · simp [h, bn]; rfl
      · simp [h, bn, nI_z]
    · simp only [if_neg (show ¬ nI 2 = (0 : Int32) from by decide), if_neg (show ¬ nI 2 = (1 : Int32) from by decide), if_pos (show nI 2 = (2 : Int32) from rfl), if_neg (show ¬ nI 2 = (3 : Int32) from by decide)]
      by_cases h : goN N k = -6
      · simp [h, bn]; rfl
      · simp [h, bn, nI_z]
    · simp only [if_neg (show ¬ nI 3 = (0 : Int32) from by decide), if_neg (show ¬ nI 3 = (1 : Int32) from by decide), if_neg (show ¬ nI 3 = (2 : Int32) from by decide), if_pos (show nI 3 = (3 : Int32) from rfl)]
      by_cases h : frB N k = true
      · simp [h, bn]; rfl
      · simp [h, bn, nI_z]
