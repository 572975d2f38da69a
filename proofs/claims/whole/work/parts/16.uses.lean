/-! uses at a tick -/
def usB (N : tN) (p t i : Nat) : Bool := decide (N (934 + 4 * i + 1) = p) && decide (N (934 + 4 * i + 2) ≤ t) && decide (t < N (934 + 4 * i + 3))
def caN (N : tN) (p t : Nat) : Nat := fb_sm (fun i => bn (usB N p t i)) (N 4)
theorem bn_le (b : Bool) : bn b ≤ 1 := by cases b <;> decide
theorem caN_le (N : tN) (p t : Nat) : caN N p t ≤ N 4 := by
  have h := fb_sm_bound (f := fun i => bn (usB N p t i)) (c := 1) (n := N 4) (fun k _ => bn_le _)
  unfold caN; omega
theorem xAt {u : tU} {v : tV} {N : tN} (ok : okN N) (hX : xB u v 10 1 N) {p t : Nat} (hp : p < 2 ^ 31) (ht : t < 2 ^ 31) : pX9_howManyAt u v (nI p) (nI t) = some (nI (caN N p t)) := by
  have hN : N 4 ≤ 30 := ok.2.1.2.2.2.2.1
  have h : pX9_howManyAt_L5 u v (nI p) (nI t) fuel 0 0 = some (nI (caN N p t)) := by
    refine sumL (L := pX9_howManyAt_L5 u v (nI p) (nI t)) (fun n s => ?_) (fun n s k hk => ?_) fuel (by unfold fuel; omega)
    · rw [pX9_howManyAt_L5, hX.1 4 (by decide), if_pos (nI_le (Nat.le_refl _) (by omega))]
    · have hk30 : k < 30 := by omega
      obtain ⟨-, x1, x2, x3⟩ := hX.2.2.2.2.2.1 k hk
      rw [pX9_howManyAt_L5, hX.1 4 (by decide), if_neg (nI_ge hk (by omega)), gd_ok hk30 (by decide), gd_ok hk30 (by decide), gd_ok hk30 (by decide), cl (by omega), x1, x2, x3, nI_1]
      simp only [nI_lit p hp (ok.1 (934 + 4 * k + 1)), ltI ht (ok.1 (934 + 4 * k + 2)), leI (ok.1 (934 + 4 * k + 3)) ht]
      unfold usB
      by_cases h1 : N (934 + 4 * k + 1) = p
      · rw [if_pos h1, decide_eq_true h1, Bool.true_and]
        by_cases h2 : t < N (934 + 4 * k + 2)
        · rw [if_pos h2, decide_eq_false (p := N (934 + 4 * k + 2) ≤ t) (by omega), Bool.false_and, show nI (bn false) = nI 0 from rfl, nI_z]
        · rw [if_neg h2, decide_eq_true (p := N (934 + 4 * k + 2) ≤ t) (by omega), Bool.true_and]
          by_cases h3 : N (934 + 4 * k + 3) ≤ t
          · rw [if_pos h3, decide_eq_false (p := t < N (934 + 4 * k + 3)) (by omega), show nI (bn false) = nI 0 from rfl, nI_z]
          · rw [if_neg h3, decide_eq_true (p := t < N (934 + 4 * k + 3)) (by omega)]; rfl
      · rw [if_neg h1, decide_eq_false h1, Bool.false_and, Bool.false_and, show nI (bn false) = nI 0 from rfl, nI_z]
  unfold pX9_howManyAt
  rw [h]; rfl
theorem mAt {u : tU} {v : tV} {N : tN} (ok : okN N) (hM : CR (u 4) N 1114) {p t : Nat} (hp : p < 2 ^ 31) (ht : t < 2 ^ 31) : pX11_usesAt u v (nI p) (nI t) = some (nI (caN N p t)) := by
  have hN : N 4 ≤ 30 := ok.2.1.2.2.2.2.1
  have h : pX11_usesAt_L5 u v (nI p) (nI t) fuel 0 0 = some (nI (caN N p t)) := by
    refine sumL (L := pX11_usesAt_L5 u v (nI p) (nI t)) (fun n s => ?_) (fun n s k hk => ?_) fuel (by unfold fuel; omega)
    · rw [pX11_usesAt_L5, hM 4 (by decide), if_pos (nI_le (Nat.le_refl _) (by omega))]
    · rw [pX11_usesAt_L5, hM 4 (by decide), if_neg (nI_ge hk (by omega)), useAt_eq (b := 1) (i := k) (j := 1) hM rfl rfl (by omega), useAt_eq (b := 2) (i := k) (j := 2) hM rfl rfl (by omega), useAt_eq (b := 3) (i := k) (j := 3) hM rfl rfl (by omega), nI_1]
      simp only [Option.bind_some, zI0, nI_lit p hp (ok.1 (934 + 4 * k + 1)), ltI ht (ok.1 (934 + 4 * k + 2)), leI (ok.1 (934 + 4 * k + 3)) ht]
      unfold usB
      by_cases h1 : N (934 + 4 * k + 1) = p
      · rw [if_pos h1, decide_eq_true h1, Bool.true_and]
        by_cases h2 : t < N (934 + 4 * k + 2)
        · rw [if_pos h2, decide_eq_false (p := N (934 + 4 * k + 2) ≤ t) (by omega), Bool.false_and, show nI (bn false) = nI 0 from rfl, nI_z]
        · rw [if_neg h2, decide_eq_true (p := N (934 + 4 * k + 2) ≤ t) (by omega), Bool.true_and]
          by_cases h3 : N (934 + 4 * k + 3) ≤ t
          · rw [if_pos h3, decide_eq_false (p := t < N (934 + 4 * k + 3)) (by omega), show nI (bn false) = nI 0 from rfl, nI_z]
          · rw [if_neg h3, decide_eq_true (p := t < N (934 + 4 * k + 3)) (by omega)]; rfl
      · rw [if_neg h1, decide_eq_false h1, Bool.false_and, Bool.false_and, show nI (bn false) = nI 0 from rfl, nI_z]
  unfold pX11_usesAt
  rw [h]; rfl
/-! the most of them -/
def moN (N : tN) (p : Nat) : Nat → Nat
  | 0 => 0
  | k + 1 => max (moN N p k) (caN N p k)
theorem moN_ge (N : tN) (p : Nat) : ∀ {k t : Nat}, t < k → caN N p t ≤ moN N p k
  | k + 1, t, h => by
    rw [moN]
    rcases Nat.lt_or_eq_of_le (Nat.le_of_lt_succ h) with q | q
    · have := moN_ge N p q; omega
    · subst q; omega
theorem moN_at (N : tN) (p : Nat) : ∀ k, moN N p k = 0 ∨ ∃ t, t < k ∧ caN N p t = moN N p k
  | 0 => Or.inl rfl
  | k + 1 => by
    rw [moN]
    by_cases h : caN N p k ≤ moN N p k
    · rw [Nat.max_eq_left h]
      rcases moN_at N p k with q | ⟨t, q1, q2⟩
      · exact Or.inl q
      · exact Or.inr ⟨t, by omega, q2⟩
    · rw [Nat.max_eq_right (by omega)]
      exact Or.inr ⟨k, by omega, rfl⟩
theorem moN_le (N : tN) (p : Nat) : ∀ k, moN N p k ≤ N 4
  | 0 => Nat.zero_le _
  | k + 1 => by rw [moN]; have := moN_le N p k; have := caN_le N p k; omega
theorem mMost {u : tU} {v : tV} {N : tN} (ok : okN N) (hM : CR (u 4) N 1114) {p : Nat} (hp : p < 2 ^ 31) : pX11_mostUses u v (nI p) = some (nI (moN N p 1000)) := by
  have hN : N 4 ≤ 30 := ok.2.1.2.2.2.2.1
  have key : ∀ (e k n : Nat), k + e = 1000 → e < n → pX11_mostUses_L4 u v (nI p) n (nI (moN N p k)) (nI k) = some (nI (moN N p 1000)) := by
    intro e
    induction e with
    | zero =>
      intro k n hk hn
      obtain ⟨n, rfl⟩ : ∃ n', n = n' + 1 := ⟨n - 1, by omega⟩
      obtain rfl : k = 1000 := by omega
      rw [pX11_mostUses_L4, if_pos (show (1000 : Int32) ≤ nI 1000 from by decide)]
    | succ e ih =>
      intro k n hk hn
      obtain ⟨n, rfl⟩ : ∃ n', n = n' + 1 := ⟨n - 1, by omega⟩
      have ihk := ih (k + 1) n (by omega) (by omega)
      have h1 := moN_le N p k
      have h2 := caN_le N p k
      rw [pX11_mostUses_L4, if_neg (show ¬ (1000 : Int32) ≤ nI k from nI_ge (a := k) (b := 1000) (by omega) (by decide)), mAt ok hM hp (by omega), Option.bind_some, nI_1]
      rw [moN] at ihk
      by_cases h : caN N p k ≤ moN N p k
      · rw [if_pos (nI_le h (by omega))]
        rw [Nat.max_eq_left h] at ihk
        exact ihk
      · rw [if_neg (nI_ge (by omega) (by omega))]
        rw [Nat.max_eq_right (by omega)] at ihk
        exact ihk
  have h' : pX11_mostUses_L4 u v (nI p) fuel 0 0 = some (nI (moN N p 1000)) := key 1000 0 fuel (by omega) (by unfold fuel; omega)
  unfold pX11_mostUses
  rw [h']; rfl
/-! a tick where a use starts has as many as any behind it -/
theorem caN_start (N : tN) (p : Nat) : ∀ t, 0 < caN N p t → ∃ j, j < N 4 ∧ N (934 + 4 * j + 1) = p ∧ N (934 + 4 * j + 2) ≤ t ∧ caN N p t ≤ caN N p (N (934 + 4 * j + 2)) := by
  intro t
  induction t with
  | zero =>
    intro h
    rcases Classical.em (∃ j, j < N 4 ∧ N (934 + 4 * j + 1) = p ∧ N (934 + 4 * j + 2) = 0) with ⟨j, h1, h2, h3⟩ | q
    · exact ⟨j, h1, h2, by omega, by rw [h3]; exact Nat.le_refl _⟩
    · exfalso
      have : caN N p 0 = 0 := by
        unfold caN
        have h0 := fb_sm_bound (f := fun i => bn (usB N p 0 i)) (c := 0) (n := N 4) (fun k hk => by
          have : usB N p 0 k = false := by
            unfold usB
            by_cases e1 : N (934 + 4 * k + 1) = p
            · by_cases e2 : N (934 + 4 * k + 2) ≤ 0
              · exact absurd ⟨k, hk, e1, by omega⟩ q
              · simp [e2]
            · simp [e1]
          rw [this]; exact Nat.le_refl _)
        omega
      omega
  | succ t ih =>
    intro h
    rcases Classical.em (∃ j, j < N 4 ∧ N (934 + 4 * j + 1) = p ∧ N (934 + 4 * j + 2) = t + 1) with ⟨j, h1, h2, h3⟩ | q
    · exact ⟨j, h1, h2, by omega, by rw [h3]; exact Nat.le_refl _⟩
    · have hle : caN N p (t + 1) ≤ caN N p t := by
        unfold caN
        refine fb_sm_le (fun k hk => ?_)
        unfold usB
        by_cases e1 : N (934 + 4 * k + 1) = p
        · by_cases e2 : N (934 + 4 * k + 2) ≤ t + 1
          · have e3 : N (934 + 4 * k + 2) ≤ t := by
              rcases Nat.lt_or_ge t (N (934 + 4 * k + 2)) with w | w
              · exact absurd ⟨k, hk, e1, by omega⟩ q
              · exact w
            by_cases e4 : t + 1 < N (934 + 4 * k + 3)
            · rw [decide_eq_true e1, decide_eq_true e2, decide_eq_true e3, decide_eq_true e4, decide_eq_true (show t < N (934 + 4 * k + 3) by omega)]
              exact Nat.le_refl _
            · rw [decide_eq_false e4, Bool.and_false]; exact Nat.zero_le _
          · rw [decide_eq_false e2, Bool.and_false, Bool.false_and]; exact Nat.zero_le _
        · rw [decide_eq_false e1, Bool.false_and, Bool.false_and]; exact Nat.zero_le _
      obtain ⟨j, h1, h2, h3, h4⟩ := ih (by omega)
      exact ⟨j, h1, h2, by omega, by omega⟩
theorem caN_pos {N : tN} (ok : okN N) {p j : Nat} (hj : j < N 4) (hp : N (934 + 4 * j + 1) = p) : 0 < caN N p (N (934 + 4 * j + 2)) := by
  have h3 := (ok.2.2.2.2.2.2.1 j hj).2.2.1
  have h := fb_sm_part (fun i => bn (usB N p (N (934 + 4 * j + 2)) i)) hj
  have e : bn (usB N p (N (934 + 4 * j + 2)) j) = 1 := by
    unfold usB
    rw [decide_eq_true hp, decide_eq_true (Nat.le_refl _), decide_eq_true h3]; rfl
  rw [e] at h
  unfold caN
  omega
/-- t is the first tick with the most uses -/
def pkT (N : tN) (p t : Nat) : Prop := t < 1000 ∧ 0 < caN N p t ∧ (∀ q, q < 1000 → caN N p q ≤ caN N p t) ∧ ∀ q, q < t → caN N p q < caN N p t
def pkI (N : tN) (p k : Nat) (a b : Int32) : Prop := (a = -2 ∧ b = 0 ∧ ∀ j, j < k → N (934 + 4 * j + 1) ≠ p) ∨ ∃ i, i < k ∧ N (934 + 4 * i + 1) = p ∧ a = nI (N (934 + 4 * i + 2)) ∧ b = nI (caN N p (N (934 + 4 * i + 2))) ∧ ∀ j, j < k → N (934 + 4 * j + 1) = p → caN N p (N (934 + 4 * j + 2)) < caN N p (N (934 + 4 * i + 2)) ∨ (caN N p (N (934 + 4 * j + 2)) = caN N p (N (934 + 4 * i + 2)) ∧ N (934 + 4 * i + 2) ≤ N (934 + 4 * j + 2))
theorem xPeak_L {u : tU} {v : tV} {N : tN} (ok : okN N) (hX : xB u v 10 1 N) {p : Nat} (hp : p < 2 ^ 31) : ∀ (e k n : Nat) (a b : Int32), k + e = N 4 → e < n → pkI N p k a b → ∃ a' b', pX9_peakTick_L8 u v (nI p) n a b (nI k) = some a' ∧ pkI N p (N 4) a' b' := by
  have hN : N 4 ≤ 30 := ok.2.1.2.2.2.2.1
  intro e
  induction e with
  | zero =>
    intro k n a b hk hn hi
    obtain ⟨n, rfl⟩ : ∃ n', n = n' + 1 := ⟨n - 1, by omega⟩
    obtain rfl : k = N 4 := by omega
    exact ⟨a, b, by rw [pX9_peakTick_L8, hX.1 4 (by decide), if_pos (nI_le (Nat.le_refl _) (by omega))], hi⟩
  | succ e ih =>
    intro k n a b hk hn hi
    obtain ⟨n, rfl⟩ : ∃ n', n = n' + 1 := ⟨n - 1, by omega⟩
    have hkN : k < N 4 := by omega
    have hk30 : k < 30 := by omega
    obtain ⟨-, x1, x2, x3⟩ := hX.2.2.2.2.2.1 k hkN
    have hst := ok.2.2.2.2.2.2.1 k hkN
    have hca := caN_le N p (N (934 + 4 * k + 2))
    rw [pX9_peakTick_L8, hX.1 4 (by decide), if_neg (nI_ge hkN (by omega)), gd_ok hk30 (by decide), gd_ok hk30 (by decide), cl (by omega), x1, x2, xAt ok hX hp (ok.1 _), Option.bind_some, gd_ok hk30 (by decide), gd_ok hk30 (by decide), nI_1]
    simp only [nI_lit p hp (ok.1 (934 + 4 * k + 1))]
    by_cases h1 : N (934 + 4 * k + 1) = p
    · rw [if_pos h1]
      rcases hi with ⟨ha, hb, hno⟩ | ⟨i, hi1, hi2, ha, hb, hall⟩
      · have hpos := caN_pos ok hkN h1
        rw [hb, if_pos (show (0 : Int32) < nI (caN N p (N (934 + 4 * k + 2))) from nI_lt (a := 0) hpos (by omega))]
        exact ih (k + 1) n _ _ (by omega) (by omega) (Or.inr ⟨k, by omega, h1, rfl, rfl, fun j hj hjp => by
          rcases Nat.lt_or_eq_of_le (Nat.le_of_lt_succ hj) with q | q
          · exact absurd hjp (hno j q)
          · subst q; exact Or.inr ⟨rfl, Nat.le_refl _⟩⟩)
      · have hca2 := caN_le N p (N (934 + 4 * i + 2))
        rw [hb, ha]
        simp only [ltI (show caN N p (N (934 + 4 * i + 2)) < 2 ^ 31 by omega) (show caN N p (N (934 + 4 * k + 2)) < 2 ^ 31 by omega), nI_lit (caN N p (N (934 + 4 * i + 2))) (by omega) (show caN N p (N (934 + 4 * k + 2)) < 2 ^ 31 by omega), leI (ok.1 (934 + 4 * i + 2)) (ok.1 (934 + 4 * k + 2))]
        have newk : (∀ j, j < k → N (934 + 4 * j + 1) = p → caN N p (N (934 + 4 * j + 2)) < caN N p (N (934 + 4 * k + 2)) ∨ (caN N p (N (934 + 4 * j + 2)) = caN N p (N (934 + 4 * k + 2)) ∧ N (934 + 4 * k + 2) ≤ N (934 + 4 * j + 2))) → pkI N p (k + 1) (nI (N (934 + 4 * k + 2))) (nI (caN N p (N (934 + 4 * k + 2)))) := fun hh => Or.inr ⟨k, by omega, h1, rfl, rfl, fun j hj hjp => by
          rcases Nat.lt_or_eq_of_le (Nat.le_of_lt_succ hj) with q | q
          · exact hh j q hjp
          · subst q; exact Or.inr ⟨rfl, Nat.le_refl _⟩⟩
        have oldi : (caN N p (N (934 + 4 * k + 2)) < caN N p (N (934 + 4 * i + 2)) ∨ (caN N p (N (934 + 4 * k + 2)) = caN N p (N (934 + 4 * i + 2)) ∧ N (934 + 4 * i + 2) ≤ N (934 + 4 * k + 2))) → pkI N p (k + 1) (nI (N (934 + 4 * i + 2))) (nI (caN N p (N (934 + 4 * i + 2)))) := fun hh => Or.inr ⟨i, by omega, hi2, rfl, rfl, fun j hj hjp => by
          rcases Nat.lt_or_eq_of_le (Nat.le_of_lt_succ hj) with q | q
          · exact hall j q hjp
          · subst q; exact hh⟩
        by_cases h2 : caN N p (N (934 + 4 * i + 2)) < caN N p (N (934 + 4 * k + 2))
        · rw [if_pos h2]
          exact ih (k + 1) n _ _ (by omega) (by omega) (newk (fun j hj hjp => by have := hall j hj hjp; omega))
        · rw [if_neg h2]
          by_cases h3 : caN N p (N (934 + 4 * k + 2)) = caN N p (N (934 + 4 * i + 2))
          · rw [if_pos h3]
            by_cases h4 : N (934 + 4 * i + 2) ≤ N (934 + 4 * k + 2)
            · rw [if_pos h4]
              exact ih (k + 1) n _ _ (by omega) (by omega) (oldi (Or.inr ⟨h3, h4⟩))
            · rw [if_neg h4]
              exact ih (k + 1) n _ _ (by omega) (by omega) (newk (fun j hj hjp => by have := hall j hj hjp; omega))
          · rw [if_neg h3]
            exact ih (k + 1) n _ _ (by omega) (by omega) (oldi (Or.inl (by omega)))
    · rw [if_neg h1]
      refine ih (k + 1) n a b (by omega) (by omega) ?_
      rcases hi with ⟨ha, hb, hno⟩ | ⟨i, hi1, hi2, ha, hb, hall⟩
      · exact Or.inl ⟨ha, hb, fun j hj => by
          rcases Nat.lt_or_eq_of_le (Nat.le_of_lt_succ hj) with q | q
          · exact hno j q
          · subst q; exact h1⟩
      · exact Or.inr ⟨i, by omega, hi2, ha, hb, fun j hj hjp => by
          rcases Nat.lt_or_eq_of_le (Nat.le_of_lt_succ hj) with q | q
          · exact hall j q hjp
          · subst q; exact absurd hjp h1⟩
theorem xPeak {u : tU} {v : tV} {N : tN} (ok : okN N) (hX : xB u v 10 1 N) {p : Nat} (hp : p < 2 ^ 31) : (pX9_peakTick u v (nI p) = some (-2) ∧ moN N p 1000 = 0) ∨ ∃ t, pX9_peakTick u v (nI p) = some (nI t) ∧ pkT N p t ∧ caN N p t = moN N p 1000 := by
  have hN : N 4 ≤ 30 := ok.2.1.2.2.2.2.1
  obtain ⟨a, b, h1, h2⟩ := xPeak_L ok hX hp (N 4) 0 fuel (-2) 0 (by omega) (by unfold fuel; omega) (Or.inl ⟨rfl, rfl, fun j hj => absurd hj (Nat.not_lt_zero j)⟩)
  have e : pX9_peakTick u v (nI p) = some a := by
    unfold pX9_peakTick
    have h1' : pX9_peakTick_L8 u v (nI p) fuel (-2) 0 0 = some a := h1
    rw [h1']; rfl
  rcases h2 with ⟨ha, -, hno⟩ | ⟨i, hi1, hi2, ha, -, hall⟩
  · refine Or.inl ⟨by rw [e, ha], ?_⟩
    rcases moN_at N p 1000 with q | ⟨t, q1, q2⟩
    · exact q
    · rcases Nat.eq_zero_or_pos (caN N p t) with z | z
      · omega
      · obtain ⟨j, j1, j2, -, -⟩ := caN_start N p t z
        exact absurd j2 (hno j j1)
  · have hst := ok.2.2.2.2.2.2.1 i hi1
    have hpos := caN_pos ok hi1 hi2
    have all1 : ∀ q, caN N p q ≤ caN N p (N (934 + 4 * i + 2)) := by
      intro q
      rcases Nat.eq_zero_or_pos (caN N p q) with z | z
      · omega
      · obtain ⟨j, j1, j2, j3, j4⟩ := caN_start N p q z
        have := hall j j1 j2
        omega
    refine Or.inr ⟨N (934 + 4 * i + 2), by rw [e, ha], ⟨by omega, hpos, fun q _ => all1 q, fun q hq => ?_⟩, ?_⟩
    · rcases Nat.eq_zero_or_pos (caN N p q) with z | z
      · omega
      · obtain ⟨j, j1, j2, j3, j4⟩ := caN_start N p q z
        have := hall j j1 j2
        have := all1 q
        omega
    · have h5 := moN_ge N p (show N (934 + 4 * i + 2) < 1000 by omega)
      rcases moN_at N p 1000 with q | ⟨t, q1, q2⟩
      · omega
      · have := all1 t; omega
theorem xMost {u : tU} {v : tV} {N : tN} (ok : okN N) (hX : xB u v 10 1 N) {p : Nat} (hp : p < 2 ^ 31) : pX9_most u v (nI p) = some (nI (moN N p 1000)) := by
  unfold pX9_most
  rcases xPeak ok hX hp with ⟨h1, h2⟩ | ⟨t, h1, h2, h3⟩
  · rw [h1, Option.bind_some, if_neg (show ¬ (0 : Int32) ≤ -2 from by decide), h2]; rfl
  · rw [h1, Option.bind_some, if_pos (nI_pos' (n := t) (by have := h2.1; omega)), xAt ok hX hp (by have := h2.1; omega), h3]; rfl
theorem mPeak_L {u : tU} {v : tV} {N : tN} (ok : okN N) (hM : CR (u 4) N 1114) {p t : Nat} (hp : p < 2 ^ 31) (h : pkT N p t) (hm : caN N p t = moN N p 1000) : pX11_peak_L33 u v (nI p) (nI (moN N p 1000)) fuel 0 = some (nI t) := by
  have hN : N 4 ≤ 30 := ok.2.1.2.2.2.2.1
  obtain ⟨h1, h2, h3, h4⟩ := h
  have key : ∀ (e k n : Nat), k + e = t → e < n → pX11_peak_L33 u v (nI p) (nI (moN N p 1000)) n (nI k) = some (nI t) := by
    intro e
    induction e with
    | zero =>
      intro k n hk hn
      obtain ⟨n, rfl⟩ : ∃ n', n = n' + 1 := ⟨n - 1, by omega⟩
      obtain rfl : k = t := by omega
      rw [pX11_peak_L33, mAt ok hM hp (by omega), Option.bind_some, if_pos (by rw [hm])]
    | succ e ih =>
      intro k n hk hn
      obtain ⟨n, rfl⟩ : ∃ n', n = n' + 1 := ⟨n - 1, by omega⟩
      have h5 := h4 k (by omega)
      have h6 := caN_le N p t
      rw [pX11_peak_L33, mAt ok hM hp (by omega), Option.bind_some, if_neg (by rw [nI_lit _ (by omega) (by omega)]; omega), nI_1]
      exact ih (k + 1) n (by omega) (by omega)
  exact key t 0 fuel (by omega) (by unfold fuel; omega)
