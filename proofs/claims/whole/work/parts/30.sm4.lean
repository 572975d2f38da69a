/-- a row copied onto another -/
def cp {α : Type} (w : Nat → Nat → α) (r r2 n : Nat) : Nat → Nat → α := va_up w r2 (va_cpy (w r) (w r2) 0 0 n)
theorem cp_o {α : Type} {w : Nat → Nat → α} {r r2 n q : Nat} (h : q ≠ r2) : cp w r r2 n q = w q := vn h
theorem cp_i {α : Type} {w : Nat → Nat → α} {r r2 n k : Nat} (h : k < n) : cp w r r2 n r2 k = w r k := by
  unfold cp
  rw [vs]
  simp [va_cpy, h]
def cUSP (u : tU) : tU := (cp (cp (cp (sU u 40 0 (u 10 0)) 11 41 10) 12 42 10) 13 43 10)
theorem cESP {u : tU} {v : tV} : pX6_copyFrom_S u v = some (cUSP u, v) := rfl
theorem cOSP {u : tU} {q : Nat} (h0 : q ≠ 40) (h : q < 41 ∨ 43 < q) : cUSP u q = u q := by unfold cUSP; rw [cp_o (by omega), cp_o (by omega), cp_o (by omega), sU_r h0]
theorem cCSP {u : tU} {k : Nat} : cUSP u 40 k = if k = 0 then u 10 0 else u 40 k := by
  unfold cUSP; rw [cp_o (by decide), cp_o (by decide), cp_o (by decide)]
  by_cases e : k = 0
  · subst e; rw [sU_s, if_pos rfl]
  · rw [sU_c e, if_neg e]
theorem cRS1 {u : tU} {k : Nat} (h : k < 10) : cUSP u 41 k = u 11 k := by unfold cUSP; rw [cp_o (by decide), cp_o (by decide), cp_i h, sU_r (by decide)]
theorem cRS2 {u : tU} {k : Nat} (h : k < 10) : cUSP u 42 k = u 12 k := by unfold cUSP; rw [cp_o (by decide), cp_i h, cp_o (by decide), sU_r (by decide)]
theorem cRS3 {u : tU} {k : Nat} (h : k < 10) : cUSP u 43 k = u 13 k := by unfold cUSP; rw [cp_i h, cp_o (by decide), cp_o (by decide), sU_r (by decide)]
def cUSR (u : tU) : tU := (cp (cp (sU u 40 1 (u 10 1)) 14 44 16) 15 45 16)
theorem cESR {u : tU} {v : tV} : pX8_copyFrom_S u v = some (cUSR u, (cp v 1 11 16)) := rfl
theorem cOSR {u : tU} {q : Nat} (h0 : q ≠ 40) (h : q < 44 ∨ 45 < q) : cUSR u q = u q := by unfold cUSR; rw [cp_o (by omega), cp_o (by omega), sU_r h0]
theorem cCSR {u : tU} {k : Nat} : cUSR u 40 k = if k = 1 then u 10 1 else u 40 k := by
  unfold cUSR; rw [cp_o (by decide), cp_o (by decide)]
  by_cases e : k = 1
  · subst e; rw [sU_s, if_pos rfl]
  · rw [sU_c e, if_neg e]
theorem cRS4 {u : tU} {k : Nat} (h : k < 16) : cUSR u 44 k = u 14 k := by unfold cUSR; rw [cp_o (by decide), cp_i h, sU_r (by decide)]
theorem cRS5 {u : tU} {k : Nat} (h : k < 16) : cUSR u 45 k = u 15 k := by unfold cUSR; rw [cp_i h, cp_o (by decide), sU_r (by decide)]
def cUSH (u : tU) : tU := (cp (cp (sU u 40 2 (u 10 2)) 16 46 8) 17 47 8)
theorem cESH {u : tU} {v : tV} : pX3_copyFrom_S u v = some (cUSH u, v) := rfl
theorem cOSH {u : tU} {q : Nat} (h0 : q ≠ 40) (h : q < 46 ∨ 47 < q) : cUSH u q = u q := by unfold cUSH; rw [cp_o (by omega), cp_o (by omega), sU_r h0]
theorem cCSH {u : tU} {k : Nat} : cUSH u 40 k = if k = 2 then u 10 2 else u 40 k := by
  unfold cUSH; rw [cp_o (by decide), cp_o (by decide)]
  by_cases e : k = 2
  · subst e; rw [sU_s, if_pos rfl]
  · rw [sU_c e, if_neg e]
theorem cRS6 {u : tU} {k : Nat} (h : k < 8) : cUSH u 46 k = u 16 k := by unfold cUSH; rw [cp_o (by decide), cp_i h, sU_r (by decide)]
theorem cRS7 {u : tU} {k : Nat} (h : k < 8) : cUSH u 47 k = u 17 k := by unfold cUSH; rw [cp_i h, cp_o (by decide), sU_r (by decide)]
def cUSF (u : tU) : tU := (cp (cp (cp (sU u 40 3 (u 10 3)) 18 48 40) 19 49 40) 20 50 40)
theorem cESF {u : tU} {v : tV} : pX1_copyFrom_S u v = some (cUSF u, (cp v 2 12 40)) := rfl
theorem cOSF {u : tU} {q : Nat} (h0 : q ≠ 40) (h : q < 48 ∨ 50 < q) : cUSF u q = u q := by unfold cUSF; rw [cp_o (by omega), cp_o (by omega), cp_o (by omega), sU_r h0]
theorem cCSF {u : tU} {k : Nat} : cUSF u 40 k = if k = 3 then u 10 3 else u 40 k := by
  unfold cUSF; rw [cp_o (by decide), cp_o (by decide), cp_o (by decide)]
  by_cases e : k = 3
  · subst e; rw [sU_s, if_pos rfl]
  · rw [sU_c e, if_neg e]
theorem cRS8 {u : tU} {k : Nat} (h : k < 40) : cUSF u 48 k = u 18 k := by unfold cUSF; rw [cp_o (by decide), cp_o (by decide), cp_i h, sU_r (by decide)]
theorem cRS9 {u : tU} {k : Nat} (h : k < 40) : cUSF u 49 k = u 19 k := by unfold cUSF; rw [cp_o (by decide), cp_i h, cp_o (by decide), sU_r (by decide)]
theorem cRS10 {u : tU} {k : Nat} (h : k < 40) : cUSF u 50 k = u 20 k := by unfold cUSF; rw [cp_i h, cp_o (by decide), cp_o (by decide), sU_r (by decide)]
def cUSU (u : tU) : tU := (cp (cp (cp (cp (sU u 40 4 (u 10 4)) 21 51 30) 22 52 30) 23 53 30) 24 54 30)
theorem cESU {u : tU} {v : tV} : pX9_copyFrom_S u v = some (cUSU u, v) := rfl
theorem cOSU {u : tU} {q : Nat} (h0 : q ≠ 40) (h : q < 51 ∨ 54 < q) : cUSU u q = u q := by unfold cUSU; rw [cp_o (by omega), cp_o (by omega), cp_o (by omega), cp_o (by omega), sU_r h0]
theorem cCSU {u : tU} {k : Nat} : cUSU u 40 k = if k = 4 then u 10 4 else u 40 k := by
  unfold cUSU; rw [cp_o (by decide), cp_o (by decide), cp_o (by decide), cp_o (by decide)]
  by_cases e : k = 4
  · subst e; rw [sU_s, if_pos rfl]
  · rw [sU_c e, if_neg e]
theorem cRS11 {u : tU} {k : Nat} (h : k < 30) : cUSU u 51 k = u 21 k := by unfold cUSU; rw [cp_o (by decide), cp_o (by decide), cp_o (by decide), cp_i h, sU_r (by decide)]
theorem cRS12 {u : tU} {k : Nat} (h : k < 30) : cUSU u 52 k = u 22 k := by unfold cUSU; rw [cp_o (by decide), cp_o (by decide), cp_i h, cp_o (by decide), sU_r (by decide)]
theorem cRS13 {u : tU} {k : Nat} (h : k < 30) : cUSU u 53 k = u 23 k := by unfold cUSU; rw [cp_o (by decide), cp_i h, cp_o (by decide), cp_o (by decide), sU_r (by decide)]
theorem cRS14 {u : tU} {k : Nat} (h : k < 30) : cUSU u 54 k = u 24 k := by unfold cUSU; rw [cp_i h, cp_o (by decide), cp_o (by decide), cp_o (by decide), sU_r (by decide)]
def cUSG (u : tU) : tU := (cp (cp (cp (cp (cp (cp (sU u 40 5 (u 10 5)) 25 55 10) 26 56 10) 27 57 10) 28 58 10) 29 59 10) 30 60 10)
theorem cESG {u : tU} {v : tV} : pX7_copyFrom_S u v = some (cUSG u, v) := rfl
theorem cOSG {u : tU} {q : Nat} (h0 : q ≠ 40) (h : q < 55 ∨ 60 < q) : cUSG u q = u q := by unfold cUSG; rw [cp_o (by omega), cp_o (by omega), cp_o (by omega), cp_o (by omega), cp_o (by omega), cp_o (by omega), sU_r h0]
theorem cCSG {u : tU} {k : Nat} : cUSG u 40 k = if k = 5 then u 10 5 else u 40 k := by
  unfold cUSG; rw [cp_o (by decide), cp_o (by decide), cp_o (by decide), cp_o (by decide), cp_o (by decide), cp_o (by decide)]
  by_cases e : k = 5
  · subst e; rw [sU_s, if_pos rfl]
  · rw [sU_c e, if_neg e]
theorem cRS15 {u : tU} {k : Nat} (h : k < 10) : cUSG u 55 k = u 25 k := by unfold cUSG; rw [cp_o (by decide), cp_o (by decide), cp_o (by decide), cp_o (by decide), cp_o (by decide), cp_i h, sU_r (by decide)]
theorem cRS16 {u : tU} {k : Nat} (h : k < 10) : cUSG u 56 k = u 26 k := by unfold cUSG; rw [cp_o (by decide), cp_o (by decide), cp_o (by decide), cp_o (by decide), cp_i h, cp_o (by decide), sU_r (by decide)]
theorem cRS17 {u : tU} {k : Nat} (h : k < 10) : cUSG u 57 k = u 27 k := by unfold cUSG; rw [cp_o (by decide), cp_o (by decide), cp_o (by decide), cp_i h, cp_o (by decide), cp_o (by decide), sU_r (by decide)]
theorem cRS18 {u : tU} {k : Nat} (h : k < 10) : cUSG u 58 k = u 28 k := by unfold cUSG; rw [cp_o (by decide), cp_o (by decide), cp_i h, cp_o (by decide), cp_o (by decide), cp_o (by decide), sU_r (by decide)]
theorem cRS19 {u : tU} {k : Nat} (h : k < 10) : cUSG u 59 k = u 29 k := by unfold cUSG; rw [cp_o (by decide), cp_i h, cp_o (by decide), cp_o (by decide), cp_o (by decide), cp_o (by decide), sU_r (by decide)]
theorem cRS20 {u : tU} {k : Nat} (h : k < 10) : cUSG u 60 k = u 30 k := by unfold cUSG; rw [cp_i h, cp_o (by decide), cp_o (by decide), cp_o (by decide), cp_o (by decide), cp_o (by decide), sU_r (by decide)]
def cWS (u : tU) : tU := sU (sU (cUSG (cUSU (cUSF (cUSH (cUSR (cUSP u)))))) 40 6 ((cUSG (cUSU (cUSF (cUSH (cUSR (cUSP u)))))) 10 6)) 40 7 ((sU (cUSG (cUSU (cUSF (cUSH (cUSR (cUSP u)))))) 40 6 ((cUSG (cUSU (cUSF (cUSH (cUSR (cUSP u)))))) 10 6)) 10 7)
theorem cWES {u : tU} {v : tV} : pX0_copyFrom_S u v = some (cWS u, cp (cp v 1 11 16) 2 12 40) := by
  unfold pX0_copyFrom_S cWS
  rw [cESP, Option.bind_some]
  dsimp only
  rw [cESR, Option.bind_some]
  dsimp only
  rw [cESH, Option.bind_some]
  dsimp only
  rw [cESF, Option.bind_some]
  dsimp only
  rw [cESU, Option.bind_some]
  dsimp only
  rw [cESG, Option.bind_some]
theorem cWOS {u : tU} {q : Nat} (h : q < 40 ∨ 60 < q) : cWS u q = u q := by unfold cWS; rw [sU_r (by omega), sU_r (by omega), cOSG (by omega) (by omega), cOSU (by omega) (by omega), cOSF (by omega) (by omega), cOSH (by omega) (by omega), cOSR (by omega) (by omega), cOSP (by omega) (by omega)]
theorem cWCS {u : tU} {k : Nat} (hk : k < 8) : cWS u 40 k = u 10 k := by
  have fr0 : ∀ w : tU, cUSP w 10 = w 10 ∧ cUSR w 10 = w 10 ∧ cUSH w 10 = w 10 ∧ cUSF w 10 = w 10 ∧ cUSU w 10 = w 10 ∧ cUSG w 10 = w 10 := fun w => ⟨cOSP (by omega) (by omega), cOSR (by omega) (by omega), cOSH (by omega) (by omega), cOSF (by omega) (by omega), cOSU (by omega) (by omega), cOSG (by omega) (by omega)⟩
  unfold cWS
  by_cases e7 : k = 7
  · subst e7; rw [sU_s, sU_r (by decide), (fr0 _).2.2.2.2.2, (fr0 _).2.2.2.2.1, (fr0 _).2.2.2.1, (fr0 _).2.2.1, (fr0 _).2.1, (fr0 _).1]
  · rw [sU_c e7]
    by_cases e6 : k = 6
    · subst e6; rw [sU_s, (fr0 _).2.2.2.2.2, (fr0 _).2.2.2.2.1, (fr0 _).2.2.2.1, (fr0 _).2.2.1, (fr0 _).2.1, (fr0 _).1]
    · rw [sU_c e6, cCSG, cCSU, cCSF, cCSH, cCSR, cCSP]
      rw [(fr0 _).2.2.2.2.1, (fr0 _).2.2.2.1, (fr0 _).2.2.1, (fr0 _).2.1, (fr0 _).1]
      repeat' split
      all_goals first | (subst_vars; rfl) | (exfalso; omega)
theorem cWRS1 {u : tU} {k : Nat} (h : k < 10) : cWS u 41 k = u 11 k := by unfold cWS; rw [sU_r (by decide), sU_r (by decide), cOSG (by decide) (by decide), cOSU (by decide) (by decide), cOSF (by decide) (by decide), cOSH (by decide) (by decide), cOSR (by decide) (by decide), cRS1 h]
theorem cWRS2 {u : tU} {k : Nat} (h : k < 10) : cWS u 42 k = u 12 k := by unfold cWS; rw [sU_r (by decide), sU_r (by decide), cOSG (by decide) (by decide), cOSU (by decide) (by decide), cOSF (by decide) (by decide), cOSH (by decide) (by decide), cOSR (by decide) (by decide), cRS2 h]
theorem cWRS3 {u : tU} {k : Nat} (h : k < 10) : cWS u 43 k = u 13 k := by unfold cWS; rw [sU_r (by decide), sU_r (by decide), cOSG (by decide) (by decide), cOSU (by decide) (by decide), cOSF (by decide) (by decide), cOSH (by decide) (by decide), cOSR (by decide) (by decide), cRS3 h]
theorem cWRS4 {u : tU} {k : Nat} (h : k < 16) : cWS u 44 k = u 14 k := by unfold cWS; rw [sU_r (by decide), sU_r (by decide), cOSG (by decide) (by decide), cOSU (by decide) (by decide), cOSF (by decide) (by decide), cOSH (by decide) (by decide), cRS4 h, cOSP (by decide) (by decide)]
theorem cWRS5 {u : tU} {k : Nat} (h : k < 16) : cWS u 45 k = u 15 k := by unfold cWS; rw [sU_r (by decide), sU_r (by decide), cOSG (by decide) (by decide), cOSU (by decide) (by decide), cOSF (by decide) (by decide), cOSH (by decide) (by decide), cRS5 h, cOSP (by decide) (by decide)]
theorem cWRS6 {u : tU} {k : Nat} (h : k < 8) : cWS u 46 k = u 16 k := by unfold cWS; rw [sU_r (by decide), sU_r (by decide), cOSG (by decide) (by decide), cOSU (by decide) (by decide), cOSF (by decide) (by decide), cRS6 h, cOSR (by decide) (by decide), cOSP (by decide) (by decide)]
theorem cWRS7 {u : tU} {k : Nat} (h : k < 8) : cWS u 47 k = u 17 k := by unfold cWS; rw [sU_r (by decide), sU_r (by decide), cOSG (by decide) (by decide), cOSU (by decide) (by decide), cOSF (by decide) (by decide), cRS7 h, cOSR (by decide) (by decide), cOSP (by decide) (by decide)]
theorem cWRS8 {u : tU} {k : Nat} (h : k < 40) : cWS u 48 k = u 18 k := by unfold cWS; rw [sU_r (by decide), sU_r (by decide), cOSG (by decide) (by decide), cOSU (by decide) (by decide), cRS8 h, cOSH (by decide) (by decide), cOSR (by decide) (by decide), cOSP (by decide) (by decide)]
theorem cWRS9 {u : tU} {k : Nat} (h : k < 40) : cWS u 49 k = u 19 k := by unfold cWS; rw [sU_r (by decide), sU_r (by decide), cOSG (by decide) (by decide), cOSU (by decide) (by decide), cRS9 h, cOSH (by decide) (by decide), cOSR (by decide) (by decide), cOSP (by decide) (by decide)]
theorem cWRS10 {u : tU} {k : Nat} (h : k < 40) : cWS u 50 k = u 20 k := by unfold cWS; rw [sU_r (by decide), sU_r (by decide), cOSG (by decide) (by decide), cOSU (by decide) (by decide), cRS10 h, cOSH (by decide) (by decide), cOSR (by decide) (by decide), cOSP (by decide) (by decide)]
theorem cWRS11 {u : tU} {k : Nat} (h : k < 30) : cWS u 51 k = u 21 k := by unfold cWS; rw [sU_r (by decide), sU_r (by decide), cOSG (by decide) (by decide), cRS11 h, cOSF (by decide) (by decide), cOSH (by decide) (by decide), cOSR (by decide) (by decide), cOSP (by decide) (by decide)]
theorem cWRS12 {u : tU} {k : Nat} (h : k < 30) : cWS u 52 k = u 22 k := by unfold cWS; rw [sU_r (by decide), sU_r (by decide), cOSG (by decide) (by decide), cRS12 h, cOSF (by decide) (by decide), cOSH (by decide) (by decide), cOSR (by decide) (by decide), cOSP (by decide) (by decide)]
theorem cWRS13 {u : tU} {k : Nat} (h : k < 30) : cWS u 53 k = u 23 k := by unfold cWS; rw [sU_r (by decide), sU_r (by decide), cOSG (by decide) (by decide), cRS13 h, cOSF (by decide) (by decide), cOSH (by decide) (by decide), cOSR (by decide) (by decide), cOSP (by decide) (by decide)]
theorem cWRS14 {u : tU} {k : Nat} (h : k < 30) : cWS u 54 k = u 24 k := by unfold cWS; rw [sU_r (by decide), sU_r (by decide), cOSG (by decide) (by decide), cRS14 h, cOSF (by decide) (by decide), cOSH (by decide) (by decide), cOSR (by decide) (by decide), cOSP (by decide) (by decide)]
theorem cWRS15 {u : tU} {k : Nat} (h : k < 10) : cWS u 55 k = u 25 k := by unfold cWS; rw [sU_r (by decide), sU_r (by decide), cRS15 h, cOSU (by decide) (by decide), cOSF (by decide) (by decide), cOSH (by decide) (by decide), cOSR (by decide) (by decide), cOSP (by decide) (by decide)]
theorem cWRS16 {u : tU} {k : Nat} (h : k < 10) : cWS u 56 k = u 26 k := by unfold cWS; rw [sU_r (by decide), sU_r (by decide), cRS16 h, cOSU (by decide) (by decide), cOSF (by decide) (by decide), cOSH (by decide) (by decide), cOSR (by decide) (by decide), cOSP (by decide) (by decide)]
theorem cWRS17 {u : tU} {k : Nat} (h : k < 10) : cWS u 57 k = u 27 k := by unfold cWS; rw [sU_r (by decide), sU_r (by decide), cRS17 h, cOSU (by decide) (by decide), cOSF (by decide) (by decide), cOSH (by decide) (by decide), cOSR (by decide) (by decide), cOSP (by decide) (by decide)]
theorem cWRS18 {u : tU} {k : Nat} (h : k < 10) : cWS u 58 k = u 28 k := by unfold cWS; rw [sU_r (by decide), sU_r (by decide), cRS18 h, cOSU (by decide) (by decide), cOSF (by decide) (by decide), cOSH (by decide) (by decide), cOSR (by decide) (by decide), cOSP (by decide) (by decide)]
theorem cWRS19 {u : tU} {k : Nat} (h : k < 10) : cWS u 59 k = u 29 k := by unfold cWS; rw [sU_r (by decide), sU_r (by decide), cRS19 h, cOSU (by decide) (by decide), cOSF (by decide) (by decide), cOSH (by decide) (by decide), cOSR (by decide) (by decide), cOSP (by decide) (by decide)]
theorem cWRS20 {u : tU} {k : Nat} (h : k < 10) : cWS u 60 k = u 30 k := by unfold cWS; rw [sU_r (by decide), sU_r (by decide), cRS20 h, cOSU (by decide) (by decide), cOSF (by decide) (by decide), cOSH (by decide) (by decide), cOSR (by decide) (by decide), cOSP (by decide) (by decide)]
theorem xBS {u : tU} {v : tV} {N : tN} (ok : okN N) (h : xB u v 10 1 N) : xB (cWS u) (cp (cp v 1 11 16) 2 12 40) 40 11 N := by
  obtain ⟨k1, ⟨c0, c1, c2, c3, c4, c5, c6, c7⟩, k3, k4, k5, k6, k7, k8⟩ := ok
  obtain ⟨x0, x1, x2, x3, x4, x5, x6⟩ := h
  refine ⟨fun k hk => by rw [cWCS hk]; exact x0 k hk, fun p hp => ?_, fun p hp => ?_, fun p hp => ?_, fun p hp => ?_, fun p hp => ?_, fun p hp => ?_⟩
  · rw [show cWS u (40 + 1) p = u (10 + 1) p from cWRS1 (by omega), show cWS u (40 + 2) p = u (10 + 2) p from cWRS2 (by omega), show cWS u (40 + 3) p = u (10 + 3) p from cWRS3 (by omega)]; exact x1 p hp
  · rw [show cWS u (40 + 4) p = u (10 + 4) p from cWRS4 (by omega), show cWS u (40 + 5) p = u (10 + 5) p from cWRS5 (by omega), show cp (cp v 1 11 16) 2 12 40 11 p = v 1 p from by rw [cp_o (by decide), cp_i (by omega)]]; exact x2 p hp
  · rw [show cWS u (40 + 6) p = u (10 + 6) p from cWRS6 (by omega), show cWS u (40 + 7) p = u (10 + 7) p from cWRS7 (by omega)]; exact x3 p hp
  · rw [show cWS u (40 + 8) p = u (10 + 8) p from cWRS8 (by omega), show cWS u (40 + 9) p = u (10 + 9) p from cWRS9 (by omega), show cWS u (40 + 10) p = u (10 + 10) p from cWRS10 (by omega), show cp (cp v 1 11 16) 2 12 40 (11 + 1) p = v (1 + 1) p from by rw [cp_i (by omega), cp_o (by decide)]]; exact x4 p hp
  · rw [show cWS u (40 + 11) p = u (10 + 11) p from cWRS11 (by omega), show cWS u (40 + 12) p = u (10 + 12) p from cWRS12 (by omega), show cWS u (40 + 13) p = u (10 + 13) p from cWRS13 (by omega), show cWS u (40 + 14) p = u (10 + 14) p from cWRS14 (by omega)]; exact x5 p hp
  · rw [show cWS u (40 + 15) p = u (10 + 15) p from cWRS15 (by omega), show cWS u (40 + 16) p = u (10 + 16) p from cWRS16 (by omega), show cWS u (40 + 17) p = u (10 + 17) p from cWRS17 (by omega), show cWS u (40 + 18) p = u (10 + 18) p from cWRS18 (by omega), show cWS u (40 + 19) p = u (10 + 19) p from cWRS19 (by omega), show cWS u (40 + 20) p = u (10 + 20) p from cWRS20 (by omega)]; exact x6 p hp
def cUBP (u : tU) : tU := (cp (cp (cp (sU u 10 0 (u 40 0)) 41 11 10) 42 12 10) 43 13 10)
theorem cEBP {u : tU} {v : tV} : pX6_copyFrom_B u v = some (cUBP u, v) := rfl
theorem cOBP {u : tU} {q : Nat} (h0 : q ≠ 10) (h : q < 11 ∨ 13 < q) : cUBP u q = u q := by unfold cUBP; rw [cp_o (by omega), cp_o (by omega), cp_o (by omega), sU_r h0]
theorem cCBP {u : tU} {k : Nat} : cUBP u 10 k = if k = 0 then u 40 0 else u 10 k := by
  unfold cUBP; rw [cp_o (by decide), cp_o (by decide), cp_o (by decide)]
  by_cases e : k = 0
  · subst e; rw [sU_s, if_pos rfl]
  · rw [sU_c e, if_neg e]
theorem cRB1 {u : tU} {k : Nat} (h : k < 10) : cUBP u 11 k = u 41 k := by unfold cUBP; rw [cp_o (by decide), cp_o (by decide), cp_i h, sU_r (by decide)]
theorem cRB2 {u : tU} {k : Nat} (h : k < 10) : cUBP u 12 k = u 42 k := by unfold cUBP; rw [cp_o (by decide), cp_i h, cp_o (by decide), sU_r (by decide)]
theorem cRB3 {u : tU} {k : Nat} (h : k < 10) : cUBP u 13 k = u 43 k := by unfold cUBP; rw [cp_i h, cp_o (by decide), cp_o (by decide), sU_r (by decide)]
def cUBR (u : tU) : tU := (cp (cp (sU u 10 1 (u 40 1)) 44 14 16) 45 15 16)
theorem cEBR {u : tU} {v : tV} : pX8_copyFrom_B u v = some (cUBR u, (cp v 11 1 16)) := rfl
theorem cOBR {u : tU} {q : Nat} (h0 : q ≠ 10) (h : q < 14 ∨ 15 < q) : cUBR u q = u q := by unfold cUBR; rw [cp_o (by omega), cp_o (by omega), sU_r h0]
theorem cCBR {u : tU} {k : Nat} : cUBR u 10 k = if k = 1 then u 40 1 else u 10 k := by
  unfold cUBR; rw [cp_o (by decide), cp_o (by decide)]
  by_cases e : k = 1
  · subst e; rw [sU_s, if_pos rfl]
  · rw [sU_c e, if_neg e]
theorem cRB4 {u : tU} {k : Nat} (h : k < 16) : cUBR u 14 k = u 44 k := by unfold cUBR; rw [cp_o (by decide), cp_i h, sU_r (by decide)]
theorem cRB5 {u : tU} {k : Nat} (h : k < 16) : cUBR u 15 k = u 45 k := by unfold cUBR; rw [cp_i h, cp_o (by decide), sU_r (by decide)]
def cUBH (u : tU) : tU := (cp (cp (sU u 10 2 (u 40 2)) 46 16 8) 47 17 8)
theorem cEBH {u : tU} {v : tV} : pX3_copyFrom_B u v = some (cUBH u, v) := rfl
theorem cOBH {u : tU} {q : Nat} (h0 : q ≠ 10) (h : q < 16 ∨ 17 < q) : cUBH u q = u q := by unfold cUBH; rw [cp_o (by omega), cp_o (by omega), sU_r h0]
theorem cCBH {u : tU} {k : Nat} : cUBH u 10 k = if k = 2 then u 40 2 else u 10 k := by
  unfold cUBH; rw [cp_o (by decide), cp_o (by decide)]
  by_cases e : k = 2
  · subst e; rw [sU_s, if_pos rfl]
  · rw [sU_c e, if_neg e]
theorem cRB6 {u : tU} {k : Nat} (h : k < 8) : cUBH u 16 k = u 46 k := by unfold cUBH; rw [cp_o (by decide), cp_i h, sU_r (by decide)]
theorem cRB7 {u : tU} {k : Nat} (h : k < 8) : cUBH u 17 k = u 47 k := by unfold cUBH; rw [cp_i h, cp_o (by decide), sU_r (by decide)]
def cUBF (u : tU) : tU := (cp (cp (cp (sU u 10 3 (u 40 3)) 48 18 40) 49 19 40) 50 20 40)
theorem cEBF {u : tU} {v : tV} : pX1_copyFrom_B u v = some (cUBF u, (cp v 12 2 40)) := rfl
theorem cOBF {u : tU} {q : Nat} (h0 : q ≠ 10) (h : q < 18 ∨ 20 < q) : cUBF u q = u q := by unfold cUBF; rw [cp_o (by omega), cp_o (by omega), cp_o (by omega), sU_r h0]
theorem cCBF {u : tU} {k : Nat} : cUBF u 10 k = if k = 3 then u 40 3 else u 10 k := by
  unfold cUBF; rw [cp_o (by decide), cp_o (by decide), cp_o (by decide)]
  by_cases e : k = 3
  · subst e; rw [sU_s, if_pos rfl]
  · rw [sU_c e, if_neg e]
theorem cRB8 {u : tU} {k : Nat} (h : k < 40) : cUBF u 18 k = u 48 k := by unfold cUBF; rw [cp_o (by decide), cp_o (by decide), cp_i h, sU_r (by decide)]
theorem cRB9 {u : tU} {k : Nat} (h : k < 40) : cUBF u 19 k = u 49 k := by unfold cUBF; rw [cp_o (by decide), cp_i h, cp_o (by decide), sU_r (by decide)]
theorem cRB10 {u : tU} {k : Nat} (h : k < 40) : cUBF u 20 k = u 50 k := by unfold cUBF; rw [cp_i h, cp_o (by decide), cp_o (by decide), sU_r (by decide)]
def cUBU (u : tU) : tU := (cp (cp (cp (cp (sU u 10 4 (u 40 4)) 51 21 30) 52 22 30) 53 23 30) 54 24 30)
theorem cEBU {u : tU} {v : tV} : pX9_copyFrom_B u v = some (cUBU u, v) := rfl
theorem cOBU {u : tU} {q : Nat} (h0 : q ≠ 10) (h : q < 21 ∨ 24 < q) : cUBU u q = u q := by unfold cUBU; rw [cp_o (by omega), cp_o (by omega), cp_o (by omega), cp_o (by omega), sU_r h0]
theorem cCBU {u : tU} {k : Nat} : cUBU u 10 k = if k = 4 then u 40 4 else u 10 k := by
  unfold cUBU; rw [cp_o (by decide), cp_o (by decide), cp_o (by decide), cp_o (by decide)]
  by_cases e : k = 4
  · subst e; rw [sU_s, if_pos rfl]
  · rw [sU_c e, if_neg e]
theorem cRB11 {u : tU} {k : Nat} (h : k < 30) : cUBU u 21 k = u 51 k := by unfold cUBU; rw [cp_o (by decide), cp_o (by decide), cp_o (by decide), cp_i h, sU_r (by decide)]
theorem cRB12 {u : tU} {k : Nat} (h : k < 30) : cUBU u 22 k = u 52 k := by unfold cUBU; rw [cp_o (by decide), cp_o (by decide), cp_i h, cp_o (by decide), sU_r (by decide)]
theorem cRB13 {u : tU} {k : Nat} (h : k < 30) : cUBU u 23 k = u 53 k := by unfold cUBU; rw [cp_o (by decide), cp_i h, cp_o (by decide), cp_o (by decide), sU_r (by decide)]
theorem cRB14 {u : tU} {k : Nat} (h : k < 30) : cUBU u 24 k = u 54 k := by unfold cUBU; rw [cp_i h, cp_o (by decide), cp_o (by decide), cp_o (by decide), sU_r (by decide)]
def cUBG (u : tU) : tU := (cp (cp (cp (cp (cp (cp (sU u 10 5 (u 40 5)) 55 25 10) 56 26 10) 57 27 10) 58 28 10) 59 29 10) 60 30 10)
theorem cEBG {u : tU} {v : tV} : pX7_copyFrom_B u v = some (cUBG u, v) := rfl
theorem cOBG {u : tU} {q : Nat} (h0 : q ≠ 10) (h : q < 25 ∨ 30 < q) : cUBG u q = u q := by unfold cUBG; rw [cp_o (by omega), cp_o (by omega), cp_o (by omega), cp_o (by omega), cp_o (by omega), cp_o (by omega), sU_r h0]
theorem cCBG {u : tU} {k : Nat} : cUBG u 10 k = if k = 5 then u 40 5 else u 10 k := by
  unfold cUBG; rw [cp_o (by decide), cp_o (by decide), cp_o (by decide), cp_o (by decide), cp_o (by decide), cp_o (by decide)]
  by_cases e : k = 5
  · subst e; rw [sU_s, if_pos rfl]
  · rw [sU_c e, if_neg e]
theorem cRB15 {u : tU} {k : Nat} (h : k < 10) : cUBG u 25 k = u 55 k := by unfold cUBG; rw [cp_o (by decide), cp_o (by decide), cp_o (by decide), cp_o (by decide), cp_o (by decide), cp_i h, sU_r (by decide)]
theorem cRB16 {u : tU} {k : Nat} (h : k < 10) : cUBG u 26 k = u 56 k := by unfold cUBG; rw [cp_o (by decide), cp_o (by decide), cp_o (by decide), cp_o (by decide), cp_i h, cp_o (by decide), sU_r (by decide)]
theorem cRB17 {u : tU} {k : Nat} (h : k < 10) : cUBG u 27 k = u 57 k := by unfold cUBG; rw [cp_o (by decide), cp_o (by decide), cp_o (by decide), cp_i h, cp_o (by decide), cp_o (by decide), sU_r (by decide)]
theorem cRB18 {u : tU} {k : Nat} (h : k < 10) : cUBG u 28 k = u 58 k := by unfold cUBG; rw [cp_o (by decide), cp_o (by decide), cp_i h, cp_o (by decide), cp_o (by decide), cp_o (by decide), sU_r (by decide)]
theorem cRB19 {u : tU} {k : Nat} (h : k < 10) : cUBG u 29 k = u 59 k := by unfold cUBG; rw [cp_o (by decide), cp_i h, cp_o (by decide), cp_o (by decide), cp_o (by decide), cp_o (by decide), sU_r (by decide)]
theorem cRB20 {u : tU} {k : Nat} (h : k < 10) : cUBG u 30 k = u 60 k := by unfold cUBG; rw [cp_i h, cp_o (by decide), cp_o (by decide), cp_o (by decide), cp_o (by decide), cp_o (by decide), sU_r (by decide)]
def cWB (u : tU) : tU := sU (sU (cUBG (cUBU (cUBF (cUBH (cUBR (cUBP u)))))) 10 6 ((cUBG (cUBU (cUBF (cUBH (cUBR (cUBP u)))))) 40 6)) 10 7 ((sU (cUBG (cUBU (cUBF (cUBH (cUBR (cUBP u)))))) 10 6 ((cUBG (cUBU (cUBF (cUBH (cUBR (cUBP u)))))) 40 6)) 40 7)
theorem cWEB {u : tU} {v : tV} : pX0_copyFrom_B u v = some (cWB u, cp (cp v 11 1 16) 12 2 40) := by
  unfold pX0_copyFrom_B cWB
  rw [cEBP, Option.bind_some]
  dsimp only
  rw [cEBR, Option.bind_some]
  dsimp only
  rw [cEBH, Option.bind_some]
  dsimp only
  rw [cEBF, Option.bind_some]
  dsimp only
  rw [cEBU, Option.bind_some]
  dsimp only
  rw [cEBG, Option.bind_some]
theorem cWOB {u : tU} {q : Nat} (h : q < 10 ∨ 30 < q) : cWB u q = u q := by unfold cWB; rw [sU_r (by omega), sU_r (by omega), cOBG (by omega) (by omega), cOBU (by omega) (by omega), cOBF (by omega) (by omega), cOBH (by omega) (by omega), cOBR (by omega) (by omega), cOBP (by omega) (by omega)]
theorem cWCB {u : tU} {k : Nat} (hk : k < 8) : cWB u 10 k = u 40 k := by
  have fr0 : ∀ w : tU, cUBP w 40 = w 40 ∧ cUBR w 40 = w 40 ∧ cUBH w 40 = w 40 ∧ cUBF w 40 = w 40 ∧ cUBU w 40 = w 40 ∧ cUBG w 40 = w 40 := fun w => ⟨cOBP (by omega) (by omega), cOBR (by omega) (by omega), cOBH (by omega) (by omega), cOBF (by omega) (by omega), cOBU (by omega) (by omega), cOBG (by omega) (by omega)⟩
  unfold cWB
  by_cases e7 : k = 7
  · subst e7; rw [sU_s, sU_r (by decide), (fr0 _).2.2.2.2.2, (fr0 _).2.2.2.2.1, (fr0 _).2.2.2.1, (fr0 _).2.2.1, (fr0 _).2.1, (fr0 _).1]
  · rw [sU_c e7]
    by_cases e6 : k = 6
    · subst e6; rw [sU_s, (fr0 _).2.2.2.2.2, (fr0 _).2.2.2.2.1, (fr0 _).2.2.2.1, (fr0 _).2.2.1, (fr0 _).2.1, (fr0 _).1]
    · rw [sU_c e6, cCBG, cCBU, cCBF, cCBH, cCBR, cCBP]
      rw [(fr0 _).2.2.2.2.1, (fr0 _).2.2.2.1, (fr0 _).2.2.1, (fr0 _).2.1, (fr0 _).1]
      repeat' split
      all_goals first | (subst_vars; rfl) | (exfalso; omega)
theorem cWRB1 {u : tU} {k : Nat} (h : k < 10) : cWB u 11 k = u 41 k := by unfold cWB; rw [sU_r (by decide), sU_r (by decide), cOBG (by decide) (by decide), cOBU (by decide) (by decide), cOBF (by decide) (by decide), cOBH (by decide) (by decide), cOBR (by decide) (by decide), cRB1 h]
theorem cWRB2 {u : tU} {k : Nat} (h : k < 10) : cWB u 12 k = u 42 k := by unfold cWB; rw [sU_r (by decide), sU_r (by decide), cOBG (by decide) (by decide), cOBU (by decide) (by decide), cOBF (by decide) (by decide), cOBH (by decide) (by decide), cOBR (by decide) (by decide), cRB2 h]
theorem cWRB3 {u : tU} {k : Nat} (h : k < 10) : cWB u 13 k = u 43 k := by unfold cWB; rw [sU_r (by decide), sU_r (by decide), cOBG (by decide) (by decide), cOBU (by decide) (by decide), cOBF (by decide) (by decide), cOBH (by decide) (by decide), cOBR (by decide) (by decide), cRB3 h]
theorem cWRB4 {u : tU} {k : Nat} (h : k < 16) : cWB u 14 k = u 44 k := by unfold cWB; rw [sU_r (by decide), sU_r (by decide), cOBG (by decide) (by decide), cOBU (by decide) (by decide), cOBF (by decide) (by decide), cOBH (by decide) (by decide), cRB4 h, cOBP (by decide) (by decide)]
theorem cWRB5 {u : tU} {k : Nat} (h : k < 16) : cWB u 15 k = u 45 k := by unfold cWB; rw [sU_r (by decide), sU_r (by decide), cOBG (by decide) (by decide), cOBU (by decide) (by decide), cOBF (by decide) (by decide), cOBH (by decide) (by decide), cRB5 h, cOBP (by decide) (by decide)]
theorem cWRB6 {u : tU} {k : Nat} (h : k < 8) : cWB u 16 k = u 46 k := by unfold cWB; rw [sU_r (by decide), sU_r (by decide), cOBG (by decide) (by decide), cOBU (by decide) (by decide), cOBF (by decide) (by decide), cRB6 h, cOBR (by decide) (by decide), cOBP (by decide) (by decide)]
theorem cWRB7 {u : tU} {k : Nat} (h : k < 8) : cWB u 17 k = u 47 k := by unfold cWB; rw [sU_r (by decide), sU_r (by decide), cOBG (by decide) (by decide), cOBU (by decide) (by decide), cOBF (by decide) (by decide), cRB7 h, cOBR (by decide) (by decide), cOBP (by decide) (by decide)]
theorem cWRB8 {u : tU} {k : Nat} (h : k < 40) : cWB u 18 k = u 48 k := by unfold cWB; rw [sU_r (by decide), sU_r (by decide), cOBG (by decide) (by decide), cOBU (by decide) (by decide), cRB8 h, cOBH (by decide) (by decide), cOBR (by decide) (by decide), cOBP (by decide) (by decide)]
theorem cWRB9 {u : tU} {k : Nat} (h : k < 40) : cWB u 19 k = u 49 k := by unfold cWB; rw [sU_r (by decide), sU_r (by decide), cOBG (by decide) (by decide), cOBU (by decide) (by decide), cRB9 h, cOBH (by decide) (by decide), cOBR (by decide) (by decide), cOBP (by decide) (by decide)]
theorem cWRB10 {u : tU} {k : Nat} (h : k < 40) : cWB u 20 k = u 50 k := by unfold cWB; rw [sU_r (by decide), sU_r (by decide), cOBG (by decide) (by decide), cOBU (by decide) (by decide), cRB10 h, cOBH (by decide) (by decide), cOBR (by decide) (by decide), cOBP (by decide) (by decide)]
theorem cWRB11 {u : tU} {k : Nat} (h : k < 30) : cWB u 21 k = u 51 k := by unfold cWB; rw [sU_r (by decide), sU_r (by decide), cOBG (by decide) (by decide), cRB11 h, cOBF (by decide) (by decide), cOBH (by decide) (by decide), cOBR (by decide) (by decide), cOBP (by decide) (by decide)]
theorem cWRB12 {u : tU} {k : Nat} (h : k < 30) : cWB u 22 k = u 52 k := by unfold cWB; rw [sU_r (by decide), sU_r (by decide), cOBG (by decide) (by decide), cRB12 h, cOBF (by decide) (by decide), cOBH (by decide) (by decide), cOBR (by decide) (by decide), cOBP (by decide) (by decide)]
theorem cWRB13 {u : tU} {k : Nat} (h : k < 30) : cWB u 23 k = u 53 k := by unfold cWB; rw [sU_r (by decide), sU_r (by decide), cOBG (by decide) (by decide), cRB13 h, cOBF (by decide) (by decide), cOBH (by decide) (by decide), cOBR (by decide) (by decide), cOBP (by decide) (by decide)]
theorem cWRB14 {u : tU} {k : Nat} (h : k < 30) : cWB u 24 k = u 54 k := by unfold cWB; rw [sU_r (by decide), sU_r (by decide), cOBG (by decide) (by decide), cRB14 h, cOBF (by decide) (by decide), cOBH (by decide) (by decide), cOBR (by decide) (by decide), cOBP (by decide) (by decide)]
theorem cWRB15 {u : tU} {k : Nat} (h : k < 10) : cWB u 25 k = u 55 k := by unfold cWB; rw [sU_r (by decide), sU_r (by decide), cRB15 h, cOBU (by decide) (by decide), cOBF (by decide) (by decide), cOBH (by decide) (by decide), cOBR (by decide) (by decide), cOBP (by decide) (by decide)]
theorem cWRB16 {u : tU} {k : Nat} (h : k < 10) : cWB u 26 k = u 56 k := by unfold cWB; rw [sU_r (by decide), sU_r (by decide), cRB16 h, cOBU (by decide) (by decide), cOBF (by decide) (by decide), cOBH (by decide) (by decide), cOBR (by decide) (by decide), cOBP (by decide) (by decide)]
theorem cWRB17 {u : tU} {k : Nat} (h : k < 10) : cWB u 27 k = u 57 k := by unfold cWB; rw [sU_r (by decide), sU_r (by decide), cRB17 h, cOBU (by decide) (by decide), cOBF (by decide) (by decide), cOBH (by decide) (by decide), cOBR (by decide) (by decide), cOBP (by decide) (by decide)]
theorem cWRB18 {u : tU} {k : Nat} (h : k < 10) : cWB u 28 k = u 58 k := by unfold cWB; rw [sU_r (by decide), sU_r (by decide), cRB18 h, cOBU (by decide) (by decide), cOBF (by decide) (by decide), cOBH (by decide) (by decide), cOBR (by decide) (by decide), cOBP (by decide) (by decide)]
theorem cWRB19 {u : tU} {k : Nat} (h : k < 10) : cWB u 29 k = u 59 k := by unfold cWB; rw [sU_r (by decide), sU_r (by decide), cRB19 h, cOBU (by decide) (by decide), cOBF (by decide) (by decide), cOBH (by decide) (by decide), cOBR (by decide) (by decide), cOBP (by decide) (by decide)]
theorem cWRB20 {u : tU} {k : Nat} (h : k < 10) : cWB u 30 k = u 60 k := by unfold cWB; rw [sU_r (by decide), sU_r (by decide), cRB20 h, cOBU (by decide) (by decide), cOBF (by decide) (by decide), cOBH (by decide) (by decide), cOBR (by decide) (by decide), cOBP (by decide) (by decide)]
theorem xBB {u : tU} {v : tV} {N : tN} (ok : okN N) (h : xB u v 40 11 N) : xB (cWB u) (cp (cp v 11 1 16) 12 2 40) 10 1 N := by
  obtain ⟨k1, ⟨c0, c1, c2, c3, c4, c5, c6, c7⟩, k3, k4, k5, k6, k7, k8⟩ := ok
  obtain ⟨x0, x1, x2, x3, x4, x5, x6⟩ := h
  refine ⟨fun k hk => by rw [cWCB hk]; exact x0 k hk, fun p hp => ?_, fun p hp => ?_, fun p hp => ?_, fun p hp => ?_, fun p hp => ?_, fun p hp => ?_⟩
  · rw [show cWB u (10 + 1) p = u (40 + 1) p from cWRB1 (by omega), show cWB u (10 + 2) p = u (40 + 2) p from cWRB2 (by omega), show cWB u (10 + 3) p = u (40 + 3) p from cWRB3 (by omega)]; exact x1 p hp
  · rw [show cWB u (10 + 4) p = u (40 + 4) p from cWRB4 (by omega), show cWB u (10 + 5) p = u (40 + 5) p from cWRB5 (by omega), show cp (cp v 11 1 16) 12 2 40 1 p = v 11 p from by rw [cp_o (by decide), cp_i (by omega)]]; exact x2 p hp
  · rw [show cWB u (10 + 6) p = u (40 + 6) p from cWRB6 (by omega), show cWB u (10 + 7) p = u (40 + 7) p from cWRB7 (by omega)]; exact x3 p hp
  · rw [show cWB u (10 + 8) p = u (40 + 8) p from cWRB8 (by omega), show cWB u (10 + 9) p = u (40 + 9) p from cWRB9 (by omega), show cWB u (10 + 10) p = u (40 + 10) p from cWRB10 (by omega), show cp (cp v 11 1 16) 12 2 40 (1 + 1) p = v (11 + 1) p from by rw [cp_i (by omega), cp_o (by decide)]]; exact x4 p hp
  · rw [show cWB u (10 + 11) p = u (40 + 11) p from cWRB11 (by omega), show cWB u (10 + 12) p = u (40 + 12) p from cWRB12 (by omega), show cWB u (10 + 13) p = u (40 + 13) p from cWRB13 (by omega), show cWB u (10 + 14) p = u (40 + 14) p from cWRB14 (by omega)]; exact x5 p hp
  · rw [show cWB u (10 + 15) p = u (40 + 15) p from cWRB15 (by omega), show cWB u (10 + 16) p = u (40 + 16) p from cWRB16 (by omega), show cWB u (10 + 17) p = u (40 + 17) p from cWRB17 (by omega), show cWB u (10 + 18) p = u (40 + 18) p from cWRB18 (by omega), show cWB u (10 + 19) p = u (40 + 19) p from cWRB19 (by omega), show cWB u (10 + 20) p = u (40 + 20) p from cWRB20 (by omega)]; exact x6 p hp
theorem mKeep {u : tU} {v : tV} : ∃ u', pX11_keep_L2 fuel 0 u v = some (u', v) ∧ EX 5 u u' ∧ ∀ j, j < 1114 → u' 5 j = u 4 j := by
  obtain ⟨u', ⟨h1, h2⟩, h3⟩ := stL (L := pX11_keep_L2) (E := 1114) (I := fun k u' => EX 5 u u' ∧ ∀ j, j < k → u' 5 j = u 4 j) (v := v)
    (fun n u1 hi => by rw [pX11_keep_L2, if_pos (show (1114 : Int32) ≤ nI 1114 from by decide)])
    (fun n u1 k hk hi => by
      refine ⟨sU u1 5 k (u1 4 k), ⟨EX_sU hi.1, fun j hj => ?_⟩, ?_⟩
      · by_cases e : j = k
        · subst e; rw [sU_s, hi.1 4 (by decide)]
        · rw [sU_c e]; exact hi.2 j (by omega)
      · rw [pX11_keep_L2, if_neg (show ¬ (1114 : Int32) ≤ nI k from nI_ge hk (by decide)), gd_ok hk (by decide), gd_ok hk (by decide), cl (by omega), nI_1])
    fuel u (by unfold fuel; omega) ⟨EX_rf, fun j hj => absurd hj (Nat.not_lt_zero j)⟩
  exact ⟨u', h3, h1, h2⟩
theorem mBack {u : tU} {v : tV} : ∃ u', pX11_back_L16 fuel 0 u v = some (u', v) ∧ EX 4 u u' ∧ ∀ j, j < 1114 → u' 4 j = u 5 j := by
  obtain ⟨u', ⟨h1, h2⟩, h3⟩ := stL (L := pX11_back_L16) (E := 1114) (I := fun k u' => EX 4 u u' ∧ ∀ j, j < k → u' 4 j = u 5 j) (v := v)
    (fun n u1 hi => by rw [pX11_back_L16, if_pos (show (1114 : Int32) ≤ nI 1114 from by decide)])
    (fun n u1 k hk hi => by
      refine ⟨sU u1 4 k (u1 5 k), ⟨EX_sU hi.1, fun j hj => ?_⟩, ?_⟩
      · by_cases e : j = k
        · subst e; rw [sU_s, hi.1 5 (by decide)]
        · rw [sU_c e]; exact hi.2 j (by omega)
      · rw [pX11_back_L16, if_neg (show ¬ (1114 : Int32) ≤ nI k from nI_ge hk (by decide)), gd_ok hk (by decide), gd_ok hk (by decide), cl (by omega), nI_1])
    fuel u (by unfold fuel; omega) ⟨EX_rf, fun j hj => absurd hj (Nat.not_lt_zero j)⟩
  exact ⟨u', h3, h1, h2⟩
section SM4
variable {N : tN} {n : Nat} {c : Nat → Nat} {K : Option tN}
theorem sm_keep (ok : OKS N n c K) (f : Int32) : SM (fun u v => pX10_keep u v) (fun u v => pX11_keep u v) N n c K f := by
  refine ⟨nI (N 3), N, n, c, some N, f, ⟨ok.1, ok.2.1, ok.2.2.1, fun N' e => by injection e with e; subst e; exact ok.1⟩, fun u v h => ?_, fun u v h => ?_⟩
  · show GX (pX10_keep u v) _ _ _ _ _ _ _
    unfold pX10_keep
    rw [cWES, Option.bind_some]
    dsimp only
    obtain ⟨h1, h2, h3, h4, h5⟩ := h
    have o : ∀ q, q < 40 → cWS u q = u q := fun q hq => cWOS (Or.inl hq)
    have o0 := o 0 (by decide)
    rw [sU_r (by decide), o 10 (by decide), h1.1 3 (by decide)]
    refine ⟨_, _, rfl, ⟨?_, by rw [sU_c (by decide), o0]; exact h2, ?_, by rw [sU_c (by decide), o0]; exact h4, Or.inr ⟨N, rfl, sU_s, ?_⟩⟩, by rw [sU_r (by decide), o 3 (by decide)], by rw [sU_r (by decide), o 4 (by decide)], by rw [sU_r (by decide), o 5 (by decide)], fun k hk => by rw [sU_c (by omega), o0]⟩
    · obtain ⟨d0, d1, d2, d3, d4, d5, d6⟩ := xB_rows (u' := sU (cWS u) 0 0 1) (fun j _ => by rw [sU_r (by omega), o _ (by omega)]) h1
      exact ⟨d0, d1, by unfold xR; rw [cp_o (by decide), cp_o (by decide)]; exact d2, d3, by unfold xF; rw [cp_o (by decide), cp_o (by decide)]; exact d4, d5, d6⟩
    · rw [cp_o (by decide), cp_o (by decide)]; exact h3
    · exact xB_rows (fun j _ => sU_r (by omega)) (xBS ok.1 h1)
  · show GM (pX11_keep u v) _ _ _ _ _ _ _ _
    unfold pX11_keep
    obtain ⟨u1, r1, r2, r3⟩ := mKeep (u := u) (v := v)
    rw [r1, Option.bind_some]
    dsimp only
    obtain ⟨h1, h2, h3, h4, h5⟩ := h
    have e0 := r2 0 (by decide)
    have e4 := r2 4 (by decide)
    have e3 := r2 3 (by decide)
    rw [sU_r (by decide), e4, h1 3 (by decide)]
    exact ⟨_, rfl, ⟨by rw [sU_r (by decide), e4]; exact h1, by rw [sU_c (by decide), e0]; exact h2, by rw [sU_r (by decide), e3]; exact h3, by rw [sU_c (by decide), e0]; exact h4, Or.inr ⟨N, rfl, sU_s, by rw [sU_r (by decide)]; exact fun k hk => by rw [r3 k hk]; exact h1 k hk⟩⟩, fun q hq => by rw [sU_r (by omega), r2 q (by omega)], fun k hk => by rw [sU_c (by omega), e0]⟩
theorem sm_back (ok : OKS N n c K) (f : Int32) : SM (fun u v => pX10_back u v) (fun u v => pX11_back u v) N n c K f := by
  cases hK : K with
  | none =>
    subst hK
    exact SM_neg (-2) ok (fun u v h => by
      show pX10_back u v = _
      unfold pX10_back
      have e : u 0 0 = 0 := by
        rcases h.2.2.2.2 with ⟨-, b⟩ | ⟨M, a, -⟩
        · exact b
        · exact absurd a (by simp)
      rw [if_pos e]) (fun u v h => by
      show pX11_back u v = _
      unfold pX11_back
      have e : u 0 6 = 0 := by
        rcases h.2.2.2.2 with ⟨-, b⟩ | ⟨M, a, -⟩
        · exact b
        · exact absurd a (by simp)
      rw [if_pos e])
  | some M =>
    subst hK
    have okM := ok.2.2.2 M rfl
    refine ⟨nI (M 3), M, n, c, some M, f, ⟨okM, ok.2⟩, fun u v h => ?_, fun u v h => ?_⟩
    · show GX (pX10_back u v) _ _ _ _ _ _ _
      unfold pX10_back
      obtain ⟨h1, h2, h3, h4, h5⟩ := h
      rcases h5 with ⟨a, -⟩ | ⟨M', a, b, d⟩
      · exact absurd a (by simp)
      injection a with a
      subst a
      have o : ∀ q, (q < 10 ∨ 30 < q) → cWB u q = u q := fun q hq => cWOB hq
      have o0 := o 0 (by decide)
      have hx := xBB okM d
      rw [if_neg (show ¬ u 0 0 = 0 from by rw [b]; decide), cWEB, Option.bind_some]
      dsimp only
      rw [hx.1 3 (by decide)]
      refine ⟨_, _, rfl, ⟨hx, by rw [o0]; exact h2, ?_, by rw [o0]; exact h4, Or.inr ⟨M, rfl, by rw [o0]; exact b, ?_⟩⟩, o 3 (by omega), o 4 (by omega), o 5 (by omega), fun k hk => by rw [o0]⟩
      · rw [cp_o (by decide), cp_o (by decide)]; exact h3
      · obtain ⟨d0, d1, d2, d3, d4, d5, d6⟩ := xB_rows (u' := cWB u) (fun j _ => o _ (by omega)) d
        exact ⟨d0, d1, by unfold xR; rw [cp_o (by decide), cp_o (by decide)]; exact d2, d3, by unfold xF; rw [cp_o (by decide), cp_o (by decide)]; exact d4, d5, d6⟩
    · show GM (pX11_back u v) _ _ _ _ _ _ _ _
      unfold pX11_back
      obtain ⟨h1, h2, h3, h4, h5⟩ := h
      rcases h5 with ⟨a, -⟩ | ⟨M', a, b, d⟩
      · exact absurd a (by simp)
      injection a with a
      subst a
      obtain ⟨u1, r1, r2, r3⟩ := mBack (u := u) (v := v)
      have e0 := r2 0 (by decide)
      have hM : CR (u1 4) M 1114 := fun k hk => by rw [r3 k hk]; exact d k hk
      rw [if_neg (show ¬ u 0 6 = 0 from by rw [b]; decide), r1, Option.bind_some]
      dsimp only
      rw [hM 3 (by decide)]
      exact ⟨_, rfl, ⟨hM, by rw [e0]; exact h2, by rw [r2 3 (by decide)]; exact h3, by rw [e0]; exact h4, Or.inr ⟨M, rfl, by rw [e0]; exact b, by rw [r2 5 (by decide)]; exact d⟩⟩, fun q hq => r2 q (by omega), fun k hk => by rw [e0]⟩
end SM4
