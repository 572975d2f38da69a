/-! rights -/
def pdN (N : tN) (g : Nat) : Nat := N (1054 + 6 * g)
def vrN (N : tN) (g : Nat) : Nat := N (1054 + 6 * g + 1)
def prN (N : tN) (g : Nat) : Nat := N (1054 + 6 * g + 3)
def opB (N : tN) (d g : Nat) : Bool := decide (N (1054 + 6 * g + 4) ≤ d) && decide (d ≤ N (1054 + 6 * g + 5))
def c0N (N : tN) (d : Nat) (wo : Int32) (g : Nat) : Nat := if opB N d g = true ∧ ¬ nI g = wo then N (1054 + 6 * g + 2) else 0
def cpN (N : tN) (d : Nat) (wo : Int32) (p g : Nat) : Nat := if pdN N g = p then c0N N d wo g else 0
theorem c0N_le {N : tN} (ok : okN N) {d : Nat} {wo : Int32} {g : Nat} (hg : g < N 5) : c0N N d wo g ≤ 40 := by
  unfold c0N
  have := (ok.2.2.2.2.2.2.2 g hg).2.2.2.1
  split <;> omega
/-- rows 2 and 0, of that places 3 and 4, may have changed -/
def EM (u u' : tU) : Prop := (∀ q, q ≠ 0 → q ≠ 2 → u' q = u q) ∧ ∀ c, c ≠ 3 → c ≠ 4 → u' 0 c = u 0 c
theorem EM_rf {u : tU} : EM u u := ⟨fun _ _ _ => rfl, fun _ _ _ => rfl⟩
theorem EM_tr {u u' u'' : tU} (h : EM u u') (h' : EM u' u'') : EM u u'' := ⟨fun q a b => by rw [h'.1 q a b]; exact h.1 q a b, fun c a b => by rw [h'.2 c a b]; exact h.2 c a b⟩
theorem EM_2 {u u' : tU} {c : Nat} {x : Int32} (h : EM u u') : EM u (sU u' 2 c x) := ⟨fun q a b => by rw [sU_r b]; exact h.1 q a b, fun c a b => by rw [sU_r (by decide)]; exact h.2 c a b⟩
theorem EM_3 {u u' : tU} {x : Int32} (h : EM u u') : EM u (sU u' 0 3 x) := ⟨fun q a b => by rw [sU_r a]; exact h.1 q a b, fun c a b => by rw [sU_c a]; exact h.2 c a b⟩
theorem EM_4 {u u' : tU} {x : Int32} (h : EM u u') : EM u (sU u' 0 4 x) := ⟨fun q a b => by rw [sU_r a]; exact h.1 q a b, fun c a b => by rw [sU_c b]; exact h.2 c a b⟩
theorem xB_EM {u u' : tU} {v : tV} {N : tN} (e : EM u u') (h : xB u v 10 1 N) : xB u' v 10 1 N := xB_rows (fun j _ => e.1 _ (by omega) (by omega)) h
theorem cr_EM {u u' : tU} {g : Nat → Nat} {n : Nat} (e : EM u u') (h : CR (u 1) g n) : CR (u' 1) g n := by rw [e.1 1 (by decide) (by decide)]; exact h
theorem nneg {g : Nat} (h : g < 2 ^ 31) : ¬ nI g = -1 := fun z => by
  have := congrArg Int32.toInt z
  rw [nI_toInt h] at this
  have e2 : (-1 : Int32).toInt = -1 := by decide
  omega
theorem xBegin {u : tU} {v : tV} {N : tN} (ok : okN N) (hX : xB u v 10 1 N) {d : Nat} (hd : d < 2 ^ 31) : ∃ u', pX5_begin u v (nI d) = some (u', v) ∧ EM u u' ∧ CR (u' 2) (c0N N d (-1)) (N 5) ∧ u' 0 3 = nI 0 ∧ u' 0 4 = nI 0 := by
  have hG : N 5 ≤ 10 := ok.2.1.2.2.2.2.2.1
  have e0 : EM u (sU (sU u 0 3 0) 0 4 0) := EM_4 (EM_3 EM_rf)
  obtain ⟨u', ⟨h1, h2, h3, h4⟩, h5⟩ := stL (L := pX5_begin_L12 (nI d)) (E := N 5) (I := fun k u' => EM u u' ∧ CR (u' 2) (c0N N d (-1)) k ∧ u' 0 3 = nI 0 ∧ u' 0 4 = nI 0) (v := v)
    (fun n u1 hi => by
      have hX1 := xB_EM hi.1 hX
      rw [pX5_begin_L12, hX1.1 5 (by decide), if_pos (nI_le (Nat.le_refl _) (by omega))])
    (fun n u1 k hk hi => by
      have hX1 := xB_EM hi.1 hX
      have hk10 : k < 10 := by omega
      obtain ⟨-, -, x3, -, x5, x6⟩ := hX1.2.2.2.2.2.2 k hk
      obtain ⟨i1, i2, i3, i4⟩ := hi
      refine ⟨sU u1 2 k (nI (c0N N d (-1) k)), ⟨EM_2 i1, fun j hj => ?_, by rw [sU_r (by decide)]; exact i3, by rw [sU_r (by decide)]; exact i4⟩, ?_⟩
      · by_cases e : j = k
        · subst e; rw [sU_s]
        · rw [sU_c e]; exact i2 j (by omega)
      · rw [pX5_begin_L12, hX1.1 5 (by decide), if_neg (nI_ge hk (by omega)), gd_ok hk10 (by decide), gd_ok hk10 (by decide), cl (by omega), x5, x6, within_eq, bw, gd_ok hk10 (by decide), gd_ok hk10 (by decide), gd_ok hk10 (by decide), x3, nI_1]
        unfold c0N opB
        simp only [leI (ok.1 (1054 + 6 * k + 4)) hd, leI hd (ok.1 (1054 + 6 * k + 5))]
        by_cases q : N (1054 + 6 * k + 4) ≤ d ∧ d ≤ N (1054 + 6 * k + 5)
        · rw [if_pos q, if_pos ⟨by simp [q.1, q.2], nneg (by omega)⟩]
        · rw [if_neg q, if_neg (fun z => q (by have := z.1; rw [Bool.and_eq_true] at this; exact ⟨of_decide_eq_true this.1, of_decide_eq_true this.2⟩))]; rfl)
    fuel (sU (sU u 0 3 0) 0 4 0) (by unfold fuel; omega) ⟨e0, fun j hj => absurd hj (Nat.not_lt_zero j), by rw [sU_c (by decide), sU_s]; rfl, by rw [sU_s]; rfl⟩
  refine ⟨u', ?_, h1, h2, h3, h4⟩
  unfold pX5_begin
  rw [h5]; rfl
def elX (N : tN) (lf : Nat → Nat) (p V g : Nat) : Bool := decide (0 < lf g) && decide (pdN N g = p) && decide (V ≤ vrN N g)
theorem xCheap {u : tU} {v : tV} {N : tN} {lf : Nat → Nat} (ok : okN N) (hX : xB u v 10 1 N) (hf : CR (u 2) lf (N 5)) (hl : ∀ g, g < N 5 → lf g ≤ 40) {p V : Nat} (hp : p < 2 ^ 31) (hV : V < 2 ^ 31) : pX5_cheapest u v (nI p) (nI V) = some (en (-2) (bsF (elX N lf p V) (prN N) (N 5))) := by
  have hG : N 5 ≤ 10 := ok.2.1.2.2.2.2.2.1
  have key : ∀ (e k n : Nat), k + e = N 5 → e < n → pX5_cheapest_L7 u v (nI p) (nI V) n (en (-2) (bsF (elX N lf p V) (prN N) k)) (nI k) = some (en (-2) (bsF (elX N lf p V) (prN N) (N 5))) := by
    intro e
    induction e with
    | zero =>
      intro k n hk hn
      obtain ⟨n, rfl⟩ : ∃ n', n = n' + 1 := ⟨n - 1, by omega⟩
      obtain rfl : k = N 5 := by omega
      rw [pX5_cheapest_L7, hX.1 5 (by decide), if_pos (nI_le (Nat.le_refl _) (by omega))]
    | succ e ih =>
      intro k n hk hn
      obtain ⟨n, rfl⟩ : ∃ n', n = n' + 1 := ⟨n - 1, by omega⟩
      have ihk := ih (k + 1) n (by omega) (by omega)
      have hkG : k < N 5 := by omega
      have hk10 : k < 10 := by omega
      have hlk := hl k hkG
      obtain ⟨x1, x2, -, x4, -, -⟩ := hX.2.2.2.2.2.2 k hkG
      generalize hb : bsF (elX N lf p V) (prN N) k = bo at ihk ⊢
      have hu : pX5_cheapest_L7 u v (nI p) (nI V) (n + 1) (en (-2) bo) (nI k) = (if elX N lf p V k = true then (if en (-2) bo < 0 then pX5_cheapest_L7 u v (nI p) (nI V) n (nI k) (nI (k + 1)) else gd (en (-2) bo) 10 (if u 28 (en (-2) bo).toNatClampNeg ≤ u 28 k then pX5_cheapest_L7 u v (nI p) (nI V) n (en (-2) bo) (nI (k + 1)) else pX5_cheapest_L7 u v (nI p) (nI V) n (nI k) (nI (k + 1)))) else pX5_cheapest_L7 u v (nI p) (nI V) n (en (-2) bo) (nI (k + 1))) := by
        rw [pX5_cheapest_L7, hX.1 5 (by decide), if_neg (nI_ge hkG (by omega)), gd_ok hk10 (by decide), gd_ok hk10 (by decide), gd_ok hk10 (by decide), gd_ok hk10 (by decide), cl (by omega), hf k hkG, x1, x2, nI_1]
        simp only [le0 (show lf k < 2 ^ 31 by omega), nI_lit p hp (ok.1 (1054 + 6 * k)), ltI (ok.1 (1054 + 6 * k + 1)) hV]
        have hdef : (elX N lf p V k = true) = (0 < lf k ∧ N (1054 + 6 * k) = p ∧ V ≤ N (1054 + 6 * k + 1)) := by
          unfold elX pdN vrN
          rw [Bool.and_eq_true, Bool.and_eq_true, decide_eq_true_eq, decide_eq_true_eq, decide_eq_true_eq]
          exact propext ⟨fun z => ⟨z.1.1, z.1.2, z.2⟩, fun z => ⟨⟨z.1, z.2.1⟩, z.2.2⟩⟩
        simp only [hdef]
        by_cases q1 : 0 < lf k
        · rw [if_neg (show ¬ ¬ 0 < lf k from fun z => z q1)]
          by_cases q2 : N (1054 + 6 * k) = p
          · rw [if_pos q2]
            by_cases q3 : N (1054 + 6 * k + 1) < V
            · rw [if_pos q3, if_neg (c := 0 < lf k ∧ N (1054 + 6 * k) = p ∧ V ≤ N (1054 + 6 * k + 1)) (by omega)]
            · rw [if_neg q3, if_pos (c := 0 < lf k ∧ N (1054 + 6 * k) = p ∧ V ≤ N (1054 + 6 * k + 1)) ⟨q1, q2, by omega⟩]
          · rw [if_neg q2, if_neg (c := 0 < lf k ∧ N (1054 + 6 * k) = p ∧ V ≤ N (1054 + 6 * k + 1)) (fun z => q2 z.2.1)]
        · rw [if_pos q1, if_neg (c := 0 < lf k ∧ N (1054 + 6 * k) = p ∧ V ≤ N (1054 + 6 * k + 1)) (fun z => q1 z.1)]
      rw [hu]
      rw [bsF, hb] at ihk
      cases bo with
      | none =>
        dsimp only at ihk
        by_cases q : elX N lf p V k = true
        · rw [if_pos q, if_pos (show en (-2) none < (0 : Int32) from by decide)]
          rw [if_pos q] at ihk
          exact ihk
        · rw [if_neg q]
          rw [if_neg q] at ihk
          exact ihk
      | some j =>
        have hj : j < k := by
          rcases bsF_spec (elX N lf p V) (prN N) k with ⟨z, _⟩ | ⟨j', z, z2, _⟩
          · rw [hb] at z; cases z
          · rw [hb] at z; cases z; exact z2
        dsimp only at ihk
        have x4j := (hX.2.2.2.2.2.2 j (by omega)).2.2.2.1
        by_cases q : elX N lf p V k = true
        · rw [if_pos q, if_neg (show ¬ en (-2) (some j) < (0 : Int32) from nI_pos (n := j) (by omega))]
          have e1 : en (-2) (some j) = nI j := rfl
          rw [e1]
          rw [gd_ok (j := j) (n := 10) (by omega) (by decide), cl (j := j) (by omega), show u 28 j = nI (N (1054 + 6 * j + 3)) from x4j, show u 28 k = nI (N (1054 + 6 * k + 3)) from x4]
          by_cases q2 : prN N k < prN N j
          · rw [if_neg (nI_ge (show N (1054 + 6 * k + 3) < N (1054 + 6 * j + 3) from q2) (ok.1 _))]
            rw [if_pos ⟨q, q2⟩] at ihk
            exact ihk
          · rw [if_pos (nI_le (show N (1054 + 6 * j + 3) ≤ N (1054 + 6 * k + 3) from Nat.le_of_not_lt q2) (ok.1 _))]
            rw [if_neg (fun z => q2 z.2)] at ihk
            exact ihk
        · rw [if_neg q]
          rw [if_neg (fun z => q z.1)] at ihk
          exact ihk
  have h' : pX5_cheapest_L7 u v (nI p) (nI V) fuel (-2) 0 = some (en (-2) (bsF (elX N lf p V) (prN N) (N 5))) := key (N 5) 0 fuel (by omega) (by unfold fuel; omega)
  unfold pX5_cheapest
  rw [h']; rfl
