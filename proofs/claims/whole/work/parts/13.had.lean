/-! a loop that changes rows -/
theorem stL {L : Nat → Int32 → tU → tV → Option (tU × tV)} {E : Nat} {I : Nat → tU → Prop} {v : tV} (he : ∀ n u, I E u → L (n + 1) (nI E) u v = some (u, v)) (hs : ∀ n u k, k < E → I k u → ∃ u', I (k + 1) u' ∧ L (n + 1) (nI k) u v = L n (nI (k + 1)) u' v) : ∀ n u, E < n → I 0 u → ∃ u', I E u' ∧ L n 0 u v = some (u', v) := by
  have key : ∀ (e k n : Nat) (u : tU), k + e = E → e < n → I k u → ∃ u', I E u' ∧ L n (nI k) u v = some (u', v) := by
    intro e
    induction e with
    | zero =>
      intro k n u hk hn hi
      obtain ⟨n, rfl⟩ : ∃ n', n = n' + 1 := ⟨n - 1, by omega⟩
      obtain rfl : k = E := by omega
      exact ⟨u, hi, he n u hi⟩
    | succ e ih =>
      intro k n u hk hn hi
      obtain ⟨n, rfl⟩ : ∃ n', n = n' + 1 := ⟨n - 1, by omega⟩
      obtain ⟨u', h1, h2⟩ := hs n u k (by omega) hi
      rw [h2]
      exact ih (k + 1) n u' (by omega) (by omega) h1
  intro n u hn hi
  exact key E 0 n u (by omega) hn hi
/-- all rows but one are as they were -/
def EX (r : Nat) (u u' : tU) : Prop := ∀ q, q ≠ r → u' q = u q
theorem EX_rf {r : Nat} {u : tU} : EX r u u := fun _ _ => rfl
theorem EX_sU {r c : Nat} {x : Int32} {u u' : tU} (h : EX r u u') : EX r u (sU u' r c x) := fun q hq => by rw [sU_r hq]; exact h q hq
theorem EX_tr {r : Nat} {u u' u'' : tU} (h : EX r u u') (h' : EX r u' u'') : EX r u u'' := fun q hq => by rw [h' q hq]; exact h q hq
theorem xB_rows {u u' : tU} {v : tV} {s lr : Nat} {N : tN} (hr : ∀ j, j ≤ 20 → u' (s + j) = u (s + j)) (h : xB u v s lr N) : xB u' v s lr N := by
  obtain ⟨h0, h1, h2, h3, h4, h5, h6⟩ := h
  have r0 : u' s = u s := hr 0 (by decide)
  refine ⟨?_, ?_, ?_, ?_, ?_, ?_, ?_⟩
  · rw [r0]; exact h0
  · unfold xP; rw [hr 1 (by decide), hr 2 (by decide), hr 3 (by decide)]; exact h1
  · unfold xR; rw [hr 4 (by decide), hr 5 (by decide)]; exact h2
  · unfold xH; rw [hr 6 (by decide), hr 7 (by decide)]; exact h3
  · unfold xF; rw [hr 8 (by decide), hr 9 (by decide), hr 10 (by decide)]; exact h4
  · unfold xU; rw [hr 11 (by decide), hr 12 (by decide), hr 13 (by decide), hr 14 (by decide)]; exact h5
  · unfold xG; rw [hr 15 (by decide), hr 16 (by decide), hr 17 (by decide), hr 18 (by decide), hr 19 (by decide), hr 20 (by decide)]; exact h6
theorem xB_EX {r : Nat} {u u' : tU} {v : tV} {N : tN} (hr : r < 10) (e : EX r u u') (h : xB u v 10 1 N) : xB u' v 10 1 N := xB_rows (fun j _ => e _ (by omega)) h
theorem cr_same {f : Nat → Int32} {g g' : Nat → Nat} {n : Nat} (h : CR f g n) (e : ∀ k, k < n → g k = g' k) : CR f g' n := fun k hk => by rw [h k hk, e k hk]
/-! zeros -/
theorem xZero {u : tU} {v : tV} : ∃ u', pJ7_fill_53178 u v 0 = some (u', v) ∧ EX 1 u u' ∧ CR (u' 1) (fun _ => 0) 80 := by
  obtain ⟨u', ⟨h1, h2⟩, h3⟩ := stL (L := pJ7_fill_53178_L5 0 80) (E := 80) (I := fun k u' => EX 1 u u' ∧ ∀ j, j < k → u' 1 j = nI 0) (v := v)
    (fun n u1 hi => by rw [pJ7_fill_53178_L5, if_pos (show (80 : Int32) ≤ nI 80 from by decide)])
    (fun n u1 k hk hi => by
      refine ⟨sU u1 1 k 0, ⟨EX_sU hi.1, fun j hj => ?_⟩, ?_⟩
      · by_cases e : j = k
        · subst e; rw [sU_s]; rfl
        · rw [sU_c e]; exact hi.2 j (by omega)
      · rw [pJ7_fill_53178_L5, if_neg (show ¬ (80 : Int32) ≤ nI k from nI_ge hk (by decide)), gd_ok hk (by decide), cl (by omega), nI_1])
    fuel u (by decide) ⟨EX_rf, fun j hj => absurd hj (Nat.not_lt_zero j)⟩
  refine ⟨u', ?_, h1, h2⟩
  unfold pJ7_fill_53178
  rw [h3]; rfl
theorem mZero {u : tU} {v : tV} : ∃ u', pX11_tellHad_L2 fuel 0 u v = some (u', v) ∧ EX 6 u u' ∧ CR (u' 6) (fun _ => 0) 80 := by
  obtain ⟨u', ⟨h1, h2⟩, h3⟩ := stL (L := pX11_tellHad_L2) (E := 80) (I := fun k u' => EX 6 u u' ∧ ∀ j, j < k → u' 6 j = nI 0) (v := v)
    (fun n u1 hi => by rw [pX11_tellHad_L2, if_pos (show (80 : Int32) ≤ nI 80 from by decide)])
    (fun n u1 k hk hi => by
      refine ⟨sU u1 6 k 0, ⟨EX_sU hi.1, fun j hj => ?_⟩, ?_⟩
      · by_cases e : j = k
        · subst e; rw [sU_s]; rfl
        · rw [sU_c e]; exact hi.2 j (by omega)
      · rw [pX11_tellHad_L2, if_neg (show ¬ (80 : Int32) ≤ nI k from nI_ge hk (by decide)), gd_ok hk (by decide), cl (by omega), nI_1])
    fuel u (by decide) ⟨EX_rf, fun j hj => absurd hj (Nat.not_lt_zero j)⟩
  exact ⟨u', h3, h1, h2⟩
/-! the finds that count -/
def gP (N : tN) (f : Nat) : Nat := (goN N f).toNatClampNeg
def hfN (N : tN) : Nat → Nat → Nat
  | 0 => fun _ => 0
  | k + 1 => if frB N k = true then va_up (hfN N k) (10 * N (294 + 16 * k) + gP N k) (max (hfN N k (10 * N (294 + 16 * k) + gP N k)) (N (294 + 16 * k + 2))) else hfN N k
theorem frB_goal {N : tN} (ok : okN N) {f : Nat} (h : frB N f = true) : goN N f = nI (gP N f) ∧ gP N f < N 0 ∧ ¬ goN N f < 0 ∧ inT N f = true := by
  unfold frB at h
  rw [Bool.and_eq_true] at h
  have hn : ¬ goN N f < 0 := by simpa using h.1
  obtain ⟨p, hp, e⟩ := goN_pos ok hn
  have e2 : gP N f = p := by unfold gP; rw [e, cl (by have := ok.2.1.1; omega)]
  exact ⟨by rw [e2]; exact e, by rw [e2]; exact hp, hn, h.2⟩
theorem hfN_le {N : tN} (ok : okN N) : ∀ k, k ≤ N 3 → ∀ j, hfN N k j ≤ 9
  | 0, _, j => by show 0 ≤ 9; decide
  | k + 1, hk, j => by
    have ih := hfN_le ok k (by omega)
    rw [hfN]
    split
    · unfold va_up
      split
      · have := ih (10 * N (294 + 16 * k) + gP N k)
        have := (ok.2.2.2.2.2.1 k (by omega)).2.2.2.1
        omega
      · exact ih j
    · exact ih j
theorem maxI {a b : Nat} (ha : a < 2 ^ 31) (hb : b < 2 ^ 31) : (if nI a < nI b then nI b else nI a) = nI (max a b) := by
  by_cases h : a < b
  · rw [if_pos (nI_lt h hb)]; congr 1; omega
  · rw [if_neg (nI_nlt (by omega) (by omega))]; congr 1; omega
theorem cell_eq (h p : Nat) : pX2_cellOf (nI h) (nI p) = some (nI (10 * h + p)) := by
  unfold pX2_cellOf
  rw [show (10 : Int32) = nI 10 from rfl, pk_mul, nI_add, Nat.mul_comm]
theorem raise_eq {u : tU} {v : tV} {w : Nat → Nat} {h p x : Nat} (hw : CR (u 1) w 80) (hl : ∀ j, w j < 2 ^ 31) (hx : x < 2 ^ 31) (hh : h < 8) (hp : p < 10) : ∃ u', pX2_raise u v (nI h) (nI p) (nI x) = some (u', v) ∧ EX 1 u u' ∧ CR (u' 1) (va_up w (10 * h + p) (max (w (10 * h + p)) x)) 80 := by
  refine ⟨_, ?_, EX_sU EX_rf, cr_sU hw⟩
  unfold pX2_raise
  rw [cell_eq]
  simp only [Option.bind_some]
  rw [gd_ok (by omega) (by decide), gd_ok (by omega) (by decide), cl (by omega), hw _ (by omega), maxI (hl _) hx]
theorem verAt_eq {u : tU} {v : tV} {w : Nat → Nat} {h p : Nat} (hw : CR (u 1) w 80) (hh : h < 8) (hp : p < 10) : pX2_versionAt u v (nI h) (nI p) = some (nI (w (10 * h + p))) := by
  unfold pX2_versionAt
  rw [cell_eq]
  simp only [Option.bind_some]
  rw [gd_ok (by omega) (by decide), cl (by omega), hw _ (by omega)]
theorem xHadF {u : tU} {v : tV} {N : tN} (ok : okN N) (hX : xB u v 10 1 N) (h0 : CR (u 1) (fun _ => 0) 80) : ∃ u', pX2_fill_L10 fuel 0 u v = some (u', v) ∧ EX 1 u u' ∧ CR (u' 1) (hfN N (N 3)) 80 := by
  have hN3 : N 3 ≤ 40 := ok.2.1.2.2.2.1
  obtain ⟨u', ⟨h1, h2⟩, h3⟩ := stL (L := pX2_fill_L10) (E := N 3) (I := fun k u' => EX 1 u u' ∧ CR (u' 1) (hfN N k) 80) (v := v)
    (fun n u1 hi => by
      have hX1 := xB_EX (by decide) hi.1 hX
      rw [pX2_fill_L10, hX1.1 3 (by decide), if_pos (nI_le (Nat.le_refl _) (by omega))])
    (fun n u1 k hk hi => by
      have hX1 := xB_EX (by decide) hi.1 hX
      have hF := ok.2.2.2.2.2.1 k hk
      rw [pX2_fill_L10, hX1.1 3 (by decide), if_neg (nI_ge hk (by omega)), xInT ok hX1 hk, xGoal ok hX1 hk]
      simp only [Option.bind_some, b2i_0, nI_1]
      rw [hfN]
      by_cases hfr : frB N k = true
      · obtain ⟨e1, e2, e3, e4⟩ := frB_goal ok hfr
        obtain ⟨u2, r1, r2, r3⟩ := raise_eq (v := v) (h := N (294 + 16 * k)) (p := gP N k) (x := N (294 + 16 * k + 2)) hi.2 (fun j => by have := hfN_le ok k (by omega) j; omega) (ok.1 _) (by have := ok.2.1.2.2.1; omega) (by have := ok.2.1.1; omega)
        refine ⟨u2, ⟨EX_tr hi.1 r2, ?_⟩, ?_⟩
        · rw [if_pos hfr]; exact r3
        · rw [if_neg (by simp [e4]), if_neg e3, gd_ok (by omega) (by decide), gd_ok (by omega) (by decide), cl (by omega), (hX1.2.2.2.2.1 k hk).1, (hX1.2.2.2.2.1 k hk).2.2.1, e1, r1]
          rfl
      · refine ⟨u1, ⟨hi.1, ?_⟩, ?_⟩
        · rw [if_neg hfr]; exact hi.2
        · by_cases e4 : inT N k = true
          · rw [if_neg (by simp [e4])]
            have : goN N k < 0 := by
              rcases Decidable.em (goN N k < 0) with q | q
              · exact q
              · exact absurd (by unfold frB; simp [q, e4]) hfr
            rw [if_pos this]
          · rw [if_pos (by simpa using e4)])
    fuel u (by unfold fuel; omega) ⟨EX_rf, h0⟩
  exact ⟨u', h3, h1, h2⟩
theorem mHadF {u : tU} {v : tV} {N : tN} (ok : okN N) (hM : CR (u 4) N 1114) (h0 : CR (u 6) (fun _ => 0) 80) : ∃ u', pX11_tellHad_L23 fuel 0 u v = some (u', v) ∧ EX 6 u u' ∧ CR (u' 6) (hfN N (N 3)) 80 := by
  have hN3 : N 3 ≤ 40 := ok.2.1.2.2.2.1
  obtain ⟨u', ⟨h1, h2⟩, h3⟩ := stL (L := pX11_tellHad_L23) (E := N 3) (I := fun k u' => EX 6 u u' ∧ CR (u' 6) (hfN N k) 80) (v := v)
    (fun n u1 hi => by
      have hM1 : CR (u1 4) N 1114 := by rw [hi.1 4 (by decide)]; exact hM
      rw [pX11_tellHad_L23, hM1 3 (by decide), if_pos (nI_le (Nat.le_refl _) (by omega))])
    (fun n u1 k hk hi => by
      have hM1 : CR (u1 4) N 1114 := by rw [hi.1 4 (by decide)]; exact hM
      have hF := ok.2.2.2.2.2.1 k hk
      have hl := fun j => hfN_le ok k (by omega) j
      rw [pX11_tellHad_L23, hM1 3 (by decide), if_neg (nI_ge hk (by omega)), mFresh ok hM1 hk]
      simp only [Option.bind_some, b2i_0, nI_1]
      rw [hfN]
      by_cases hfr : frB N k = true
      · obtain ⟨e1, e2, e3, e4⟩ := frB_goal ok hfr
        have hc1 := ok.2.1.1
        have hc2 := ok.2.1.2.2.1
        have hi80 : 10 * N (294 + 16 * k) + gP N k < 80 := by omega
        rw [if_neg (show ¬ frB N k = false by simp [hfr]), findAt_eq (b := 0) (i := k) (j := 0) hM1 rfl rfl (by omega), mGoal ok hM1 hk, findAt_eq (b := 2) (i := k) (j := 2) hM1 rfl rfl (by omega), e1]
        simp only [Option.bind_some, Nat.add_zero]
        rw [show (10 : Int32) = nI 10 from rfl, pk_mul, nI_add, gd_ok hi80 (by decide), gd_ok hi80 (by decide), gd_ok hi80 (by decide), cl (by omega), hi.2 _ hi80, if_pos hfr]
        refine ⟨sU u1 6 (10 * N (294 + 16 * k) + gP N k) (nI (max (hfN N k (10 * N (294 + 16 * k) + gP N k)) (N (294 + 16 * k + 2)))), ⟨EX_sU hi.1, cr_sU hi.2⟩, ?_⟩
        have h9 := hl (10 * N (294 + 16 * k) + gP N k)
        by_cases hle : N (294 + 16 * k + 2) ≤ hfN N k (10 * N (294 + 16 * k) + gP N k)
        · rw [if_pos (nI_le hle (by omega)), Nat.max_eq_left hle]
        · rw [if_neg (nI_ge (by omega) (by omega)), Nat.max_eq_right (by omega), gd_ok hi80 (by decide)]
      · refine ⟨u1, ⟨hi.1, ?_⟩, ?_⟩
        · rw [if_neg hfr]; exact hi.2
        · rw [if_pos (by simpa using hfr)])
    fuel u (by unfold fuel; omega) ⟨EX_rf, h0⟩
  exact ⟨u', h3, h1, h2⟩
