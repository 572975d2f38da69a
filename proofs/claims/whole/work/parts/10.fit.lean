/-! does a pattern fit a name -/
def b2i (b : Bool) : Int32 := if b then 1 else 0
theorem b2i_0 {b : Bool} : (b2i b = 0) = (b = false) := by cases b <;> simp [b2i]
theorem gb_b {b : Bool} : gb (b2i b) (some (b2i b)) = some (b2i b) := by cases b <;> rfl
def okK (c d : Nat → Nat) : Nat → Bool
  | 0 => true
  | k + 1 => okK c d k && (c k == 27 || c k == d k)
theorem okK_iff (c d : Nat → Nat) : ∀ n, okK c d n = true ↔ ∀ k, k < n → (c k = 27 ∨ c k = d k)
  | 0 => ⟨fun _ k h => absurd h (Nat.not_lt_zero k), fun _ => rfl⟩
  | n + 1 => by
    have ih := okK_iff c d n
    show (okK c d n && (c n == 27 || c n == d n)) = true ↔ _
    rw [Bool.and_eq_true, ih]
    constructor
    · intro h k hk
      rcases Nat.lt_or_eq_of_le (Nat.le_of_lt_succ hk) with q | q
      · exact h.1 k q
      · subst q; simpa using h.2
    · intro h
      exact ⟨fun k hk => h k (by omega), by simpa using h n (by omega)⟩
def fitB (c : Nat → Nat) (n : Nat) (d : Nat → Nat) (m : Nat) : Bool := if 0 < n ∧ c (n - 1) = 28 then decide (n - 1 ≤ m) && okK c d (n - 1) else decide (m = n) && okK c d n
def fitN (N : tN) (r f : Nat) : Bool := fitB (fun k => N (38 + 15 * r + (3 + k))) (N (38 + 15 * r + 2)) (fun k => N (294 + 16 * f + (4 + k))) (N (294 + 16 * f + 3))
theorem nI_lit (n : Nat) (h : n < 2 ^ 31) {a : Nat} (ha : a < 2 ^ 31) : (nI a = nI n) = (a = n) := propext (nI_eq ha h)
/-- what isFitting answers where its loop comes to an end: behind the last place it is true -/
def fitO (x : Option (Int32 ⊕ Unit)) : Option Int32 := x.bind fun o => match o with
  | .inl rr => some rr
  | .inr () => some (1 : Int32)
theorem fitX {c d : Nat → Nat} {n m : Nat} (u : tU) (v : tV) (hn : n ≤ 12) (hm : m ≤ 12) (hc : ∀ k, k < n → 1 ≤ c k ∧ c k ≤ 28) (hl : ∀ k, k + 1 < n → c k ≠ 28) (hd : ∀ k, k < m → 1 ≤ d k ∧ d k ≤ 26) :
    ∀ (e k i : Nat), k + e = 12 → e < i → (∀ j, j < k → j < n ∧ c j ≠ 28 ∧ j < m ∧ (c j = 27 ∨ c j = d j)) → fitO (pX0_isFitting_L24 u v (lN (enc c n)) (lN (enc d m)) i (nI k)) = some (b2i (fitB c n d m)) := by
  intro e
  induction e with
  | zero =>
    intro k i hk hi hj
    obtain ⟨i, rfl⟩ : ∃ i', i = i' + 1 := ⟨i - 1, by omega⟩
    obtain rfl : k = 12 := by omega
    have q11 := hj 11 (by decide)
    obtain rfl : n = 12 := by omega
    obtain rfl : m = 12 := by omega
    have e1 : fitB c 12 d 12 = true := by
      unfold fitB
      rw [if_neg (fun h => q11.2.1 h.2), Bool.and_eq_true, okK_iff]
      exact ⟨decide_eq_true rfl, fun j hjn => (hj j hjn).2.2.2⟩
    rw [pX0_isFitting_L24, if_pos (by decide), e1]; rfl
  | succ e ih =>
    intro k i hk hi hj
    obtain ⟨i, rfl⟩ : ∃ i', i = i' + 1 := ⟨i - 1, by omega⟩
    rw [pX0_isFitting_L24, if_neg (by rw [show (12 : Int32) = nI 12 from rfl]; exact nI_ge (by omega) (by omega)), signAt_eq hn (fun k hk => by have := hc k hk; omega) (by omega), signAt_eq hm (fun k hk => by have := hd k hk; omega) (by omega)]
    simp only [Option.bind_some]
    have hs : (if k < n then c k else 0) < 2 ^ 31 := by
      split
      · have := hc k (by assumption); omega
      · decide
    have ht : (if k < m then d k else 0) < 2 ^ 31 := by
      split
      · have := hd k (by assumption); omega
      · decide
    simp only [show (28 : Int32) = nI 28 from rfl, show (0 : Int32) = nI 0 from rfl, show (27 : Int32) = nI 27 from rfl, nI_lit 28 (by decide) hs, nI_lit 0 (by decide) hs, nI_lit 0 (by decide) ht, nI_lit 27 (by decide) hs, nI_lit _ ht hs]
    by_cases hkn : k < n
    · have hck := hc k hkn
      simp only [if_pos hkn]
      by_cases h28 : c k = 28
      · rw [if_pos h28]
        have hk1 : k + 1 = n := by rcases Nat.lt_or_ge (k + 1) n with q | q; exact absurd h28 (hl k q); omega
        have e1 : fitB c n d m = true := by
          have hop : 0 < n ∧ c (n - 1) = 28 := ⟨by omega, by rw [show n - 1 = k by omega]; exact h28⟩
          unfold fitB
          rw [if_pos hop, Bool.and_eq_true, okK_iff]
          refine ⟨?_, fun j hjj => (hj j (by omega)).2.2.2⟩
          rw [decide_eq_true_eq]
          rcases Nat.eq_zero_or_pos k with q | q
          · omega
          · have := (hj (k - 1) (by omega)).2.2.1; omega
        rw [e1]; rfl
      · rw [if_neg h28, if_neg (by omega)]
        by_cases hkm : k < m
        · have hdk := hd k hkm
          simp only [if_pos hkm]
          rw [if_neg (by omega)]
          by_cases h27 : c k = 27
          · rw [if_pos h27, nI_1]
            exact ih (k + 1) i (by omega) (by omega) (fun j hjk => by
              rcases Nat.lt_or_eq_of_le (Nat.le_of_lt_succ hjk) with q | q
              · exact hj j q
              · subst q; exact ⟨hkn, h28, hkm, Or.inl h27⟩)
          · rw [if_neg h27]
            by_cases he : c k = d k
            · rw [if_pos he, nI_1]
              exact ih (k + 1) i (by omega) (by omega) (fun j hjk => by
                rcases Nat.lt_or_eq_of_le (Nat.le_of_lt_succ hjk) with q | q
                · exact hj j q
                · subst q; exact ⟨hkn, h28, hkm, Or.inr he⟩)
            · rw [if_neg he]
              have e1 : fitB c n d m = false := by
                unfold fitB
                by_cases hop : 0 < n ∧ c (n - 1) = 28
                · rw [if_pos hop]
                  have hk2 : k < n - 1 := by
                    rcases Nat.lt_or_ge k (n - 1) with q | q
                    · exact q
                    · exact absurd (by rw [show k = n - 1 by omega]; exact hop.2) h28
                  have : okK c d (n - 1) = false := by
                    cases ho : okK c d (n - 1) with
                    | false => rfl
                    | true => have := (okK_iff c d (n - 1)).mp ho k hk2; omega
                  rw [this, Bool.and_false]
                · rw [if_neg hop]
                  have : okK c d n = false := by
                    cases ho : okK c d n with
                    | false => rfl
                    | true => have := (okK_iff c d n).mp ho k hkn; omega
                  rw [this, Bool.and_false]
              rw [e1]; rfl
        · simp only [if_neg hkm]
          rw [if_pos trivial, if_neg (by omega)]
          have e1 : fitB c n d m = false := by
            unfold fitB
            by_cases hop : 0 < n ∧ c (n - 1) = 28
            · rw [if_pos hop]
              have hk2 : k < n - 1 := by
                rcases Nat.lt_or_ge k (n - 1) with q | q
                · exact q
                · exact absurd (by rw [show k = n - 1 by omega]; exact hop.2) h28
              rw [show decide (n - 1 ≤ m) = false from decide_eq_false (by omega), Bool.false_and]
            · rw [if_neg hop, show decide (m = n) = false from decide_eq_false (by omega), Bool.false_and]
          rw [e1]; rfl
    · have hkn2 : k = n := by
        rcases Nat.eq_zero_or_pos k with q | q
        · omega
        · have := (hj (k - 1) (by omega)).1; omega
      have hnop : ¬ (0 < n ∧ c (n - 1) = 28) := fun h => (hj (n - 1) (by omega)).2.1 h.2
      simp only [if_neg hkn]
      rw [if_neg (by decide), if_pos trivial]
      have hnm : n ≤ m := by
        rcases Nat.eq_zero_or_pos k with q | q
        · omega
        · have := (hj (k - 1) (by omega)).2.2.1; omega
      have ho : okK c d n = true := (okK_iff c d n).mpr (fun j hjn => (hj j (by omega)).2.2.2)
      have e1 : fitB c n d m = decide (m = n) := by unfold fitB; rw [if_neg hnop, ho, Bool.and_true]
      rw [e1]
      by_cases hkm : k < m
      · have hdk := hd k hkm
        simp only [if_pos hkm]
        rw [if_neg (by omega), decide_eq_false (by omega)]; rfl
      · simp only [if_neg hkm]
        rw [if_pos trivial, decide_eq_true (by omega)]; rfl
theorem fitM_L {u : tU} {v : tV} {N : tN} {r f sg : Nat} (hM : CR (u 4) N 1114) (hr : r < 16) (hf : f < 40) (hs : sg ≤ 12) :
    ∀ (e k i : Nat), k + e = sg → e < i → okK (fun k => N (38 + 15 * r + (3 + k))) (fun k => N (294 + 16 * f + (4 + k))) k = true → (∀ k, N k < 2 ^ 31) →
      pX11_fitsOf_L90 u v (nI r) (nI f) (nI sg) i 1 (nI k) = some (b2i (okK (fun k => N (38 + 15 * r + (3 + k))) (fun k => N (294 + 16 * f + (4 + k))) sg)) := by
  intro e
  induction e with
  | zero =>
    intro k i hk hi ho hb
    obtain ⟨i, rfl⟩ : ∃ i', i = i' + 1 := ⟨i - 1, by omega⟩
    obtain rfl : k = sg := by omega
    rw [pX11_fitsOf_L90, if_pos (nI_le (Nat.le_refl _) (by omega)), ho]; rfl
  | succ e ih =>
    intro k i hk hi ho hb
    obtain ⟨i, rfl⟩ : ∃ i', i = i' + 1 := ⟨i - 1, by omega⟩
    rw [pX11_fitsOf_L90, if_neg (nI_ge (by omega) (by omega)), if_neg (by decide), ruleAt_eq (b := 3 + nI k) (i := r) (j := 3 + k) hM rfl (nI_add 3 k) (by omega), findAt_eq (b := 4 + nI k) (i := f) (j := 4 + k) hM rfl (nI_add 4 k) (by omega)]
    simp only [Option.bind_some]
    simp only [show (27 : Int32) = nI 27 from rfl, nI_lit _ (hb _) (hb _), nI_lit 27 (by decide) (hb _)]
    have hz : ∀ (k' i' : Nat), pX11_fitsOf_L90 u v (nI r) (nI f) (nI sg) (i' + 1) 0 (nI k') = some 0 := by
      intro k' i'
      rw [pX11_fitsOf_L90]
      split <;> rfl
    have step : okK (fun k => N (38 + 15 * r + (3 + k))) (fun k => N (294 + 16 * f + (4 + k))) (k + 1) = (N (38 + 15 * r + (3 + k)) == 27 || N (38 + 15 * r + (3 + k)) == N (294 + 16 * f + (4 + k))) := by
      rw [okK, ho, Bool.true_and]
    by_cases h27 : N (38 + 15 * r + (3 + k)) = 27
    · rw [if_pos h27, nI_1]
      exact ih (k + 1) i (by omega) (by omega) (by rw [step]; simp [h27]) hb
    · rw [if_neg h27]
      by_cases he : N (38 + 15 * r + (3 + k)) = N (294 + 16 * f + (4 + k))
      · rw [if_pos he, nI_1]
        exact ih (k + 1) i (by omega) (by omega) (by rw [step]; simp [he]) hb
      · rw [if_neg he, nI_1]
        obtain ⟨i, rfl⟩ : ∃ i', i = i' + 1 := ⟨i - 1, by omega⟩
        rw [hz]
        have : okK (fun k => N (38 + 15 * r + (3 + k))) (fun k => N (294 + 16 * f + (4 + k))) sg = false := by
          cases hq : okK (fun k => N (38 + 15 * r + (3 + k))) (fun k => N (294 + 16 * f + (4 + k))) sg with
          | false => rfl
          | true => have := (okK_iff _ _ sg).mp hq k (by omega); omega
        rw [this]; rfl
theorem fitM_Z {u : tU} {v : tV} {a b c : Int32} {i : Nat} {k : Int32} : pX11_fitsOf_L90 u v a b c (i + 1) 0 k = some 0 := by
  rw [pX11_fitsOf_L90]
  split <;> rfl
