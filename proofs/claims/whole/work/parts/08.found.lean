/-! own words on numbers -/
theorem bw {α : Type} {c : Prop} [Decidable c] {A B : Option α} : ((some (if c then (1 : Int32) else (0 : Int32))).bind fun r => if r = (0 : Int32) then A else B) = if c then B else A := by
  by_cases h : c
  · simp only [if_pos h, Option.bind_some]; exact if_neg (by decide)
  · simp only [if_neg h, Option.bind_some]; exact if_pos trivial
theorem gb_ok {c : Prop} [Decidable c] : (gb (if c then (1 : Int32) else (0 : Int32)) (some (if c then (1 : Int32) else (0 : Int32)))) = some (if c then (1 : Int32) else (0 : Int32)) := by
  by_cases h : c
  · simp only [if_pos h]; rfl
  · simp only [if_neg h]; rfl
theorem within_eq (a lo hi : Int32) : pX10_isWithin a lo hi = some (if lo ≤ a ∧ a ≤ hi then 1 else 0) := by
  unfold pX10_isWithin
  by_cases h1 : a < lo
  · rw [if_pos h1, if_neg (by rw [fa_lt] at h1; rw [fa_le, fa_le]; omega)]
  · rw [if_neg h1]
    by_cases h2 : hi < a
    · rw [if_pos h2, if_neg (by rw [fa_lt] at h2; rw [fa_le, fa_le]; omega)]
    · rw [if_neg h2, if_pos (by rw [fa_lt] at h1 h2; rw [fa_le, fa_le]; omega)]
theorem isIn_eq (a lo hi : Int32) : pX11_isIn a lo hi = some (if lo ≤ a ∧ a ≤ hi then 1 else 0) := by
  rw [← within_eq]; rfl
/-- which calls name one of n things -/
def isN (a : Int32) (n : Nat) : Prop := ∃ j, j < n ∧ a = nI j
theorem one_eq {a b : Int32} : (if a < (0 : Int32) then some (0 : Int32) else if b ≤ a then some (0 : Int32) else some (1 : Int32)) = some (if 0 ≤ a ∧ a < b then 1 else 0) := by
  by_cases h1 : a < 0
  · rw [if_pos h1, if_neg (by rw [fa_lt] at h1; rw [fa_le, fa_lt]; omega)]
  · rw [if_neg h1]
    by_cases h2 : b ≤ a
    · rw [if_pos h2, if_neg (by rw [fa_le] at h2; rw [fa_le, fa_lt]; omega)]
    · rw [if_neg h2, if_pos (by rw [fa_lt] at h1; rw [fa_le] at h2; rw [fa_le, fa_lt]; omega)]
theorem rg {a : Int32} {n : Nat} (hn : n < 2 ^ 31) (h : 0 ≤ a ∧ a < nI n) : ∃ j, j < n ∧ a = nI j := by
  obtain ⟨j, hj, e⟩ := nI_of (x := a) (fun h0 => by rw [fa_lt] at h0; have := (fa_le _ _).mp h.1; omega)
  refine ⟨j, ?_, e⟩
  have h2 := h.2
  rw [e] at h2
  exact (nI_ltI hj hn).mp h2
theorem rl {a : Int32} {n : Nat} (hn : n < 2 ^ 31) (h : 0 ≤ a ∧ a ≤ nI n) : ∃ j, j ≤ n ∧ a = nI j := by
  obtain ⟨j, hj, e⟩ := nI_of (x := a) (fun h0 => by rw [fa_lt] at h0; have := (fa_le _ _).mp h.1; omega)
  refine ⟨j, ?_, e⟩
  have h2 := h.2
  rw [e] at h2
  exact (nI_leI hj hn).mp h2
theorem rm {a : Int32} {m n : Nat} (hm : m < 2 ^ 31) (hn : n < 2 ^ 31) (h : nI m ≤ a ∧ a ≤ nI n) : ∃ j, m ≤ j ∧ j ≤ n ∧ a = nI j := by
  have h0 : 0 ≤ a := by have h1 := (fa_le _ _).mp h.1; rw [nI_toInt hm] at h1; rw [fa_le]; show (0 : Int) ≤ a.toInt; omega
  obtain ⟨j, hj, e⟩ := rl hn ⟨h0, h.2⟩
  refine ⟨j, ?_, hj, e⟩
  have h2 := h.1
  rw [e] at h2
  exact (nI_leI hm (by omega)).mp h2
theorem gd_ok {α : Type} {j n : Nat} {k : Option α} (h : j < n) (hn : n < 2 ^ 31) : gd (nI j) n k = k := by
  unfold gd
  rw [if_neg (nI_in h hn)]
theorem cl {j : Nat} (h : j < 2 ^ 31) : (nI j).toNatClampNeg = j := nI_clamp h
theorem sU_s {u : tU} {r c : Nat} {x : Int32} : sU u r c x r c = x := by simp [sU, va_up, upd]
theorem sU_c {u : tU} {r c c' : Nat} {x : Int32} (h : c' ≠ c) : sU u r c x r c' = u r c' := by simp [sU, va_up, upd, h]
theorem sU_r {u : tU} {r r' c : Nat} {x : Int32} (h : r' ≠ r) : sU u r c x r' = u r' := by simp [sU, va_up, h]
theorem sU_rc {u : tU} {r r' c c' : Nat} {x : Int32} (h : r' ≠ r ∨ c' ≠ c) : sU u r c x r' c' = u r' c' := by
  by_cases e : r' = r
  · subst e
    exact sU_c (by omega)
  · rw [sU_r e]
theorem sV_s {u : tV} {r c : Nat} {x : Int64} : sV u r c x r c = x := by simp [sV, va_up, vp_updL]
theorem sV_r {u : tV} {r r' c : Nat} {x : Int64} (h : r' ≠ r) : sV u r c x r' = u r' := by simp [sV, va_up, h]
theorem sV_c {u : tV} {r c c' : Nat} {x : Int64} (h : c' ≠ c) : sV u r c x r c' = u r c' := by simp [sV, va_up, vp_updL, h]
/-! the book as numbers: N k stands at place k of the reference's book -/
abbrev tN : Type := Nat → Nat
/-- signs, five bits each -/
def enc (c : Nat → Nat) : Nat → Nat
  | 0 => 0
  | n + 1 => enc c n + c n * 32 ^ n
/-- a row of ints holds numbers -/
def CR (f : Nat → Int32) (g : Nat → Nat) (n : Nat) : Prop := ∀ k, k < n → f k = nI (g k)
theorem cr_upd {f : Nat → Int32} {g : Nat → Nat} {n i x : Nat} (h : CR f g n) : CR (upd f i (nI x)) (va_up g i x) n := by
  intro k hk
  by_cases e : k = i
  · subst e; simp [upd, va_up]
  · simp [upd, va_up, e]; exact h k hk
theorem cr_sU {u : tU} {r i x n : Nat} {g : Nat → Nat} (h : CR (u r) g n) : CR (sU u r i (nI x) r) (va_up g i x) n := by
  have e : sU u r i (nI x) r = upd (u r) i (nI x) := by simp [sU, va_up]
  rw [e]
  exact cr_upd h
