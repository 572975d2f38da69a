theorem n0 : nI 0 = (0 : Int32) := rfl
theorem n1 : nI 1 = (1 : Int32) := rfl
theorem fitB_open {c d : Nat → Nat} {n m : Nat} (h : 0 < n ∧ c (n - 1) = 28) : fitB c n d m = (decide (n - 1 ≤ m) && okK c d (n - 1)) := if_pos h
theorem fitB_shut {c d : Nat → Nat} {n m : Nat} (h : ¬ (0 < n ∧ c (n - 1) = 28)) : fitB c n d m = (decide (m = n) && okK c d n) := if_neg h
theorem xFit {u : tU} {v : tV} {N : tN} (ok : okN N) (hX : xB u v 10 1 N) {r f : Nat} (hr : r < N 1) (hf : f < N 3) : pX0_isFitting u v (nI r) (nI f) = some (b2i (fitN N r f)) := by
  obtain ⟨hb, hC, -, hR, -, hF, -, -⟩ := ok
  have h1 : r < 16 := by have := hC.2.1; omega
  have h2 : f < 40 := by have := hC.2.2.2.1; omega
  obtain ⟨-, -, r3, r4, r5⟩ := hR r hr
  obtain ⟨-, -, -, -, f5, f6⟩ := hF f hf
  unfold pX0_isFitting
  rw [gd_ok h1 (by decide), gd_ok h2 (by decide), cl (by omega), cl (by omega), (hX.2.2.1 r hr).2.2, (hX.2.2.2.2.1 f hf).2.2.2]
  have hh := fitX u v r3 f5 r4 r5 f6 12 0 fuel rfl (by decide) (fun j hj => absurd hj (Nat.not_lt_zero j))
  rw [n0] at hh
  exact hh
theorem mFit {u : tU} {v : tV} {N : tN} (ok : okN N) (hM : CR (u 4) N 1114) {r f : Nat} (hr : r < N 1) (hf : f < N 3) : pX11_fitsOf u v (nI r) (nI f) = some (b2i (fitN N r f)) := by
  obtain ⟨hb, hC, -, hR, -, hF, -, -⟩ := ok
  have h1 : r < 16 := by have := hC.2.1; omega
  have h2 : f < 40 := by have := hC.2.2.2.1; omega
  obtain ⟨-, -, r3, -, -⟩ := hR r hr
  obtain ⟨-, -, -, -, f5, -⟩ := hF f hf
  have hfu : fuel = 1199 + 1 := rfl
  have hL : ∀ sg, sg ≤ 12 → pX11_fitsOf_L90 u v (nI r) (nI f) (nI sg) fuel 1 0 = some (b2i (okK (fun k => N (38 + 15 * r + (3 + k))) (fun k => N (294 + 16 * f + (4 + k))) sg)) := fun sg hs => fitM_L (sg := sg) hM h1 h2 hs sg 0 fuel (by omega) (by unfold fuel; omega) rfl hb
  have hZ : ∀ a : Int32, pX11_fitsOf_L90 u v (nI r) (nI f) a fuel 0 0 = some 0 := fun a => by rw [hfu]; exact fitM_Z
  unfold pX11_fitsOf
  rw [ruleAt_eq (b := 2) (i := r) (j := 2) hM rfl rfl (by omega), findAt_eq (b := 3) (i := f) (j := 3) hM rfl rfl (by omega)]
  simp only [Option.bind_some]
  unfold fitN
  generalize hn : N (38 + 15 * r + 2) = n at *
  generalize hm : N (294 + 16 * f + 3) = m at *
  have l0 : (nI n ≤ (0 : Int32)) = (n ≤ 0) := propext (nI_leI (b := 0) (by omega) (by decide))
  have l1 : (nI m = nI n) = (m = n) := nI_lit n (by omega) (by omega)
  simp only [l0, l1]
  by_cases h0 : n ≤ 0
  · rw [if_pos h0, fitB_shut (by omega)]
    by_cases e : m = n
    · rw [if_pos e, hL n (by omega), decide_eq_true e, Bool.true_and]
      simp only [Option.bind_some]
      rw [gb_b]
    · rw [if_neg e, hZ, decide_eq_false e]
      rfl
  · rw [if_neg h0, ruleAt_eq (b := 2 + nI n) (i := r) (j := 2 + n) hM rfl (nI_add 2 n) (by omega)]
    simp only [Option.bind_some]
    have e3 : N (38 + 15 * r + (2 + n)) = N (38 + 15 * r + (3 + (n - 1))) := by congr 1; omega
    have l2 : nI n - (1 : Int32) = nI (n - 1) := pk_sub (b := 1) (by omega)
    have l3 : (nI (N (38 + 15 * r + (3 + (n - 1)))) = (28 : Int32)) = (N (38 + 15 * r + (3 + (n - 1))) = 28) := nI_lit 28 (by decide) (hb _)
    have l4 : (nI m < nI (n - 1)) = (m < n - 1) := propext (nI_ltI (by omega) (by omega))
    rw [e3, l2]
    simp only [l3, l4]
    by_cases e28 : N (38 + 15 * r + (3 + (n - 1))) = 28
    · rw [if_pos e28, fitB_open ⟨by omega, e28⟩]
      by_cases e : m < n - 1
      · rw [if_pos e, hZ, decide_eq_false (by omega)]
        rfl
      · rw [if_neg e, hL (n - 1) (by omega), decide_eq_true (by omega), Bool.true_and]
        simp only [Option.bind_some]
        rw [gb_b]
    · rw [if_neg e28, fitB_shut (fun h => e28 h.2)]
      by_cases e : m = n
      · rw [if_pos e, hL n (by omega), decide_eq_true e, Bool.true_and]
        simp only [Option.bind_some]
        rw [gb_b]
      · rw [if_neg e, hZ, decide_eq_false e]
        rfl
/-! the first rule of the least rank that fits -/
def frN (N : tN) (f : Nat) : Nat → Option Nat
  | 0 => none
  | k + 1 => match frN N f k with
    | none => if fitN N k f = true then some k else none
    | some j => if fitN N k f = true ∧ N (38 + 15 * k) < N (38 + 15 * j) then some k else some j
def en (d : Int32) : Option Nat → Int32
  | none => d
  | some j => nI j
theorem frN_lt {N : tN} {f : Nat} : ∀ {k j : Nat}, frN N f k = some j → j < k
  | 0, j, h => by cases h
  | k + 1, j, h => by
    rw [frN] at h
    cases hk : frN N f k with
    | none =>
      rw [hk] at h
      dsimp only at h
      split at h
      · cases h; omega
      · cases h
    | some i =>
      rw [hk] at h
      have := frN_lt hk
      dsimp only at h
      split at h
      · cases h; omega
      · cases h; omega
theorem xFirst_L {u : tU} {v : tV} {N : tN} (ok : okN N) (hX : xB u v 10 1 N) {f : Nat} (hf : f < N 3) :
    ∀ (e k i : Nat), k + e = N 1 → e < i → pX0_firstRuleOf_L5 u v (nI f) i (en (-6) (frN N f k)) (nI k) = some (en (-6) (frN N f (N 1))) := by
  have hN1 : N 1 ≤ 16 := ok.2.1.2.1
  have hc : u 10 1 = nI (N 1) := hX.1 1 (by decide)
  intro e
  induction e with
  | zero =>
    intro k i hk hi
    obtain ⟨i, rfl⟩ : ∃ i', i = i' + 1 := ⟨i - 1, by omega⟩
    obtain rfl : k = N 1 := by omega
    rw [pX0_firstRuleOf_L5, hc, if_pos (nI_le (Nat.le_refl _) (by omega))]
  | succ e ih =>
    intro k i hk hi
    obtain ⟨i, rfl⟩ : ∃ i', i = i' + 1 := ⟨i - 1, by omega⟩
    have hkN : k < N 1 := by omega
    have ihk := ih (k + 1) i (by omega) (by omega)
    rw [frN] at ihk
    cases hfr : frN N f k with
    | none =>
      rw [hfr] at ihk
      dsimp only at ihk
      show pX0_firstRuleOf_L5 u v (nI f) (i + 1) (-6) (nI k) = _
      rw [pX0_firstRuleOf_L5, hc, if_neg (nI_ge hkN (by omega)), nI_1, xFit ok hX hkN hf, if_pos (show (-6 : Int32) < (0 : Int32) from by decide)]
      simp only [Option.bind_some, b2i_0]
      by_cases hfit : fitN N k f = true
      · rw [if_neg (by simp [hfit])]
        rw [if_pos hfit] at ihk
        exact ihk
      · rw [if_pos (by simpa using hfit)]
        rw [if_neg hfit] at ihk
        exact ihk
    | some j =>
      have hj := frN_lt hfr
      rw [hfr] at ihk
      dsimp only at ihk
      show pX0_firstRuleOf_L5 u v (nI f) (i + 1) (nI j) (nI k) = _
      rw [pX0_firstRuleOf_L5, hc, if_neg (nI_ge hkN (by omega)), nI_1, xFit ok hX hkN hf, if_neg (nI_pos (n := j) (by omega)), gd_ok (j := k) (n := 16) (by omega) (by decide), gd_ok (j := j) (n := 16) (by omega) (by decide), cl (j := k) (by omega), cl (j := j) (by omega), (hX.2.2.1 k hkN).1, (hX.2.2.1 j (by omega)).1]
      simp only [Option.bind_some, b2i_0]
      by_cases hr : N (38 + 15 * k) < N (38 + 15 * j)
      · rw [if_neg (nI_ge hr (ok.1 _))]
        by_cases hfit : fitN N k f = true
        · rw [if_neg (by simp [hfit])]
          rw [if_pos ⟨hfit, hr⟩] at ihk
          exact ihk
        · rw [if_pos (by simpa using hfit)]
          rw [if_neg (fun h => hfit h.1)] at ihk
          exact ihk
      · rw [if_pos (nI_le (by omega) (ok.1 _))]
        rw [if_neg (fun h => hr h.2)] at ihk
        exact ihk
theorem mFirst_L {u : tU} {v : tV} {N : tN} (ok : okN N) (hM : CR (u 4) N 1114) {f : Nat} (hf : f < N 3) :
    ∀ (e k i : Nat), k + e = N 1 → e < i → pX11_firstRule_L4 u v (nI f) i (en (-1) (frN N f k)) (nI k) = some (en (-1) (frN N f (N 1))) := by
  have hN1 : N 1 ≤ 16 := ok.2.1.2.1
  have hc : u 4 1 = nI (N 1) := hM 1 (by decide)
  intro e
  induction e with
  | zero =>
    intro k i hk hi
    obtain ⟨i, rfl⟩ : ∃ i', i = i' + 1 := ⟨i - 1, by omega⟩
    obtain rfl : k = N 1 := by omega
    rw [pX11_firstRule_L4, hc, if_pos (nI_le (Nat.le_refl _) (by omega))]
  | succ e ih =>
    intro k i hk hi
    obtain ⟨i, rfl⟩ : ∃ i', i = i' + 1 := ⟨i - 1, by omega⟩
    have hkN : k < N 1 := by omega
    have ihk := ih (k + 1) i (by omega) (by omega)
    rw [frN] at ihk
    cases hfr : frN N f k with
    | none =>
      rw [hfr] at ihk
      dsimp only at ihk
      show pX11_firstRule_L4 u v (nI f) (i + 1) (-1) (nI k) = _
      rw [pX11_firstRule_L4, hc, if_neg (nI_ge hkN (by omega)), nI_1, mFit ok hM hkN hf]
      simp only [Option.bind_some, b2i_0]
      by_cases hfit : fitN N k f = true
      · rw [if_neg (by simp [hfit]), if_pos (show (-1 : Int32) < (0 : Int32) from by decide)]
        rw [if_pos hfit] at ihk
        exact ihk
      · rw [if_pos (by simpa using hfit)]
        rw [if_neg hfit] at ihk
        exact ihk
    | some j =>
      have hj := frN_lt hfr
      rw [hfr] at ihk
      dsimp only at ihk
      show pX11_firstRule_L4 u v (nI f) (i + 1) (nI j) (nI k) = _
      rw [pX11_firstRule_L4, hc, if_neg (nI_ge hkN (by omega)), nI_1, mFit ok hM hkN hf]
      simp only [Option.bind_some, b2i_0]
      by_cases hfit : fitN N k f = true
      · rw [if_neg (by simp [hfit]), if_neg (nI_pos (n := j) (by omega)), ruleAt_eq (b := 0) (i := k) (j := 0) hM rfl rfl (by omega), ruleAt_eq (b := 0) (i := j) (j := 0) hM rfl rfl (by omega)]
        simp only [Option.bind_some, Nat.add_zero]
        by_cases hr : N (38 + 15 * k) < N (38 + 15 * j)
        · rw [if_neg (nI_ge hr (ok.1 _))]
          rw [if_pos ⟨hfit, hr⟩] at ihk
          exact ihk
        · rw [if_pos (nI_le (by omega) (ok.1 _))]
          rw [if_neg (fun h => hr h.2)] at ihk
          exact ihk
      · rw [if_pos (by simpa using hfit)]
        rw [if_neg (fun h => hfit h.1)] at ihk
        exact ihk
theorem xFirst {u : tU} {v : tV} {N : tN} (ok : okN N) (hX : xB u v 10 1 N) {f : Nat} (hf : f < N 3) : pX0_firstRuleOf u v (nI f) = some (en (-6) (frN N f (N 1))) := by
  unfold pX0_firstRuleOf
  have h : pX0_firstRuleOf_L5 u v (nI f) fuel (-6) 0 = _ := xFirst_L ok hX hf (N 1) 0 fuel (by omega) (by have := ok.2.1.2.1; unfold fuel; omega)
  rw [h]
  rfl
theorem mFirst {u : tU} {v : tV} {N : tN} (ok : okN N) (hM : CR (u 4) N 1114) {f : Nat} (hf : f < N 3) : pX11_firstRule u v (nI f) = some (en (-1) (frN N f (N 1))) := by
  unfold pX11_firstRule
  have h : pX11_firstRule_L4 u v (nI f) fuel (-1) 0 = _ := mFirst_L ok hM hf (N 1) 0 fuel (by omega) (by have := ok.2.1.2.1; unfold fuel; omega)
  rw [h]
  rfl
/-! where a name goes -/
def cfN (N : tN) (f j k : Nat) : Bool := fitN N k f && decide (N (38 + 15 * k) = N (38 + 15 * j)) && !decide (N (38 + 15 * k + 1) = N (38 + 15 * j + 1))
def quN (N : tN) (f j : Nat) : Nat → Nat → Bool
  | 0, _ => false
  | e + 1, k => cfN N f j k || quN N f j e (k + 1)
def goN (N : tN) (f : Nat) : Int32 := match frN N f (N 1) with
  | none => -6
  | some j => if quN N f j (N 1 - (j + 1)) (j + 1) = true then -5 else nI (N (38 + 15 * j + 1))
theorem xGoal_L {u : tU} {v : tV} {N : tN} (ok : okN N) (hX : xB u v 10 1 N) {f j : Nat} (hf : f < N 3) (hj : j < N 1) :
    ∀ (e k i : Nat), k + e = N 1 → e < i → pX0_goalOf_L17 u v (nI f) (nI j) i (nI k) = some (if quN N f j e k = true then .inl (-5) else .inr ()) := by
  have hN1 : N 1 ≤ 16 := ok.2.1.2.1
  have hc : u 10 1 = nI (N 1) := hX.1 1 (by decide)
  intro e
  induction e with
  | zero =>
    intro k i hk hi
    obtain ⟨i, rfl⟩ : ∃ i', i = i' + 1 := ⟨i - 1, by omega⟩
    obtain rfl : k = N 1 := by omega
    rw [pX0_goalOf_L17, hc, if_pos (nI_le (Nat.le_refl _) (by omega))]
    rfl
  | succ e ih =>
    intro k i hk hi
    obtain ⟨i, rfl⟩ : ∃ i', i = i' + 1 := ⟨i - 1, by omega⟩
    have hkN : k < N 1 := by omega
    have ihk := ih (k + 1) i (by omega) (by omega)
    rw [pX0_goalOf_L17, hc, if_neg (nI_ge hkN (by omega)), nI_1, xFit ok hX hkN hf, gd_ok (by omega) (by decide), gd_ok (by omega) (by decide), gd_ok (by omega) (by decide), gd_ok (by omega) (by decide), cl (by omega), cl (by omega), (hX.2.2.1 k hkN).1, (hX.2.2.1 j hj).1, (hX.2.2.1 k hkN).2.1, (hX.2.2.1 j hj).2.1]
    simp only [Option.bind_some, b2i_0, nI_lit _ (ok.1 _) (ok.1 _)]
    rw [ihk, quN, cfN]
    by_cases h1 : N (38 + 15 * k) = N (38 + 15 * j)
    · rw [if_pos h1]
      by_cases h2 : N (38 + 15 * k + 1) = N (38 + 15 * j + 1)
      · rw [if_pos h2]; simp [h2]
      · rw [if_neg h2]
        by_cases h3 : fitN N k f = true
        · rw [if_neg (by simp [h3])]; simp [h1, h2, h3]
        · rw [if_pos (by simpa using h3)]; simp [h3]
    · rw [if_neg h1]; simp [h1]
theorem mGoal_L {u : tU} {v : tV} {N : tN} (ok : okN N) (hM : CR (u 4) N 1114) {f j : Nat} (hf : f < N 3) (hj : j < N 1) :
    ∀ (e k i : Nat), k + e = N 1 → e < i → pX11_goesTo_L25 u v (nI f) (nI j) (nI (N (38 + 15 * j + 1))) i (nI k) = some (if quN N f j e k = true then .inl (-5) else .inr ()) := by
  have hN1 : N 1 ≤ 16 := ok.2.1.2.1
  have hc : u 4 1 = nI (N 1) := hM 1 (by decide)
  intro e
  induction e with
  | zero =>
    intro k i hk hi
    obtain ⟨i, rfl⟩ : ∃ i', i = i' + 1 := ⟨i - 1, by omega⟩
    obtain rfl : k = N 1 := by omega
    rw [pX11_goesTo_L25, hc, if_pos (nI_le (Nat.le_refl _) (by omega))]
    rfl
  | succ e ih =>
    intro k i hk hi
    obtain ⟨i, rfl⟩ : ∃ i', i = i' + 1 := ⟨i - 1, by omega⟩
    have hkN : k < N 1 := by omega
    have ihk := ih (k + 1) i (by omega) (by omega)
    rw [pX11_goesTo_L25, hc, if_neg (nI_ge hkN (by omega)), nI_1, mFit ok hM hkN hf, ruleAt_eq (b := 0) (i := k) (j := 0) hM rfl rfl (by omega), ruleAt_eq (b := 0) (i := j) (j := 0) hM rfl rfl (by omega), ruleAt_eq (b := 1) (i := k) (j := 1) hM rfl rfl (by omega)]
    simp only [Option.bind_some, b2i_0, nI_lit _ (ok.1 _) (ok.1 _), Nat.add_zero]
    rw [ihk, quN, cfN]
    by_cases h3 : fitN N k f = true
    · rw [if_neg (by simp [h3])]
      by_cases h1 : N (38 + 15 * k) = N (38 + 15 * j)
      · rw [if_pos h1]
        by_cases h2 : N (38 + 15 * k + 1) = N (38 + 15 * j + 1)
        · rw [if_pos h2]; simp [h2]
        · rw [if_neg h2]; simp [h1, h2, h3]
      · rw [if_neg h1]; simp [h1]
    · rw [if_pos (by simpa using h3)]; simp [h3]
theorem xGoal {u : tU} {v : tV} {N : tN} (ok : okN N) (hX : xB u v 10 1 N) {f : Nat} (hf : f < N 3) : pX0_goalOf u v (nI f) = some (goN N f) := by
  have hN1 : N 1 ≤ 16 := ok.2.1.2.1
  unfold pX0_goalOf goN
  rw [xFirst ok hX hf]
  simp only [Option.bind_some]
  cases hfr : frN N f (N 1) with
  | none => rfl
  | some j =>
    have hj := frN_lt hfr
    show (if (0 : Int32) ≤ nI j then _ else _) = _
    rw [if_pos (nI_pos' (n := j) (by omega))]
    simp only [en]
    rw [nI_1, xGoal_L ok hX hf hj (N 1 - (j + 1)) (j + 1) fuel (by omega) (by unfold fuel; omega), gd_ok (j := j) (n := 16) (by omega) (by decide), cl (j := j) (by omega), (hX.2.2.1 j hj).2.1]
    simp only [Option.bind_some]
    by_cases hq : quN N f j (N 1 - (j + 1)) (j + 1) = true
    · simp only [if_pos hq]
    · simp only [if_neg hq]
theorem mGoal {u : tU} {v : tV} {N : tN} (ok : okN N) (hM : CR (u 4) N 1114) {f : Nat} (hf : f < N 3) : pX11_goesTo u v (nI f) = some (goN N f) := by
  have hN1 : N 1 ≤ 16 := ok.2.1.2.1
  unfold pX11_goesTo goN
  rw [mFirst ok hM hf]
  simp only [Option.bind_some]
  cases hfr : frN N f (N 1) with
  | none => rfl
  | some j =>
    have hj := frN_lt hfr
    show (if (0 : Int32) ≤ nI j then _ else _) = _
    rw [if_pos (nI_pos' (n := j) (by omega))]
    simp only [en]
    rw [ruleAt_eq (b := 1) (i := j) (j := 1) hM rfl rfl (by omega)]
    simp only [Option.bind_some]
    rw [nI_1, mGoal_L ok hM hf hj (N 1 - (j + 1)) (j + 1) fuel (by omega) (by unfold fuel; omega)]
    simp only [Option.bind_some]
    by_cases hq : quN N f j (N 1 - (j + 1)) (j + 1) = true
    · simp only [if_pos hq]
    · simp only [if_neg hq]
theorem goN_pos {N : tN} (ok : okN N) {f : Nat} (h : ¬ goN N f < 0) : ∃ p, p < N 0 ∧ goN N f = nI p := by
  unfold goN at *
  cases hfr : frN N f (N 1) with
  | none => rw [hfr] at h; exact absurd (show (-6 : Int32) < 0 from by decide) h
  | some j =>
    rw [hfr] at h
    dsimp only at h ⊢
    split at h
    · exact absurd (show (-5 : Int32) < 0 from by decide) h
    · rename_i hq
      rw [if_neg hq]
      exact ⟨_, (ok.2.2.2.1 j (frN_lt hfr)).2.1, rfl⟩
