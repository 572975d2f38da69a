theorem sumLs {L : Nat → Int32 → Int32 → Option Int32} {E : Nat} {g : Nat → Nat} {s0 : Int32} (he : ∀ n s, L (n + 1) s (nI E) = some s) (hs : ∀ n s k, k < E → L (n + 1) s (nI k) = L n (s + nI (g k)) (nI (k + 1))) : ∀ n, E < n → L n s0 0 = some (s0 + nI (fb_sm g E)) := by
  have key : ∀ (e k n : Nat), k + e = E → e < n → L n (s0 + nI (fb_sm g k)) (nI k) = some (s0 + nI (fb_sm g E)) := by
    intro e
    induction e with
    | zero =>
      intro k n hk hn
      obtain ⟨n, rfl⟩ : ∃ n', n = n' + 1 := ⟨n - 1, by omega⟩
      obtain rfl : k = E := by omega
      exact he n _
    | succ e ih =>
      intro k n hk hn
      obtain ⟨n, rfl⟩ : ∃ n', n = n' + 1 := ⟨n - 1, by omega⟩
      rw [hs n _ k (by omega), Int32.add_assoc, nI_add, ← fb_sm_succ]
      exact ih (k + 1) n (by omega) (by omega)
  intro n hn
  have h := key E 0 n (by omega) hn
  rw [show s0 + nI (fb_sm g 0) = s0 from nI_z s0] at h
  exact h
noncomputable def cB (P : Prop) : Bool := @decide P (Classical.propDecidable P)
theorem cB_t {P : Prop} (h : P) : cB P = true := @decide_eq_true P (Classical.propDecidable P) h
theorem cB_f {P : Prop} (h : ¬ P) : cB P = false := @decide_eq_false P (Classical.propDecidable P) h
theorem cB_iff {P : Prop} : cB P = true ↔ P := ⟨fun h => @of_decide_eq_true P (Classical.propDecidable P) h, cB_t⟩
theorem mSumT {u : tU} {v : tV} {N : tN} {tk : Nat → Nat} (ok : okN N) (hM : CR (u 4) N 1114) (ht : CR (u 7) tk (N 5)) {p V : Nat} (hp : p < 2 ^ 31) (hV : V < 2 ^ 31) (hz : ∀ g, g < N 5 → pdN N g ≠ p → tk g = 0) (sp : Int32) : pX11_canTake_L48 u v (nI p) sp (nI V) fuel 1 0 = some (nI (1 + sV1 (vrN N) tk (N 5) V)) := by
  have hG : N 5 ≤ 10 := ok.2.1.2.2.2.2.2.1
  have h := sumLs (L := pX11_canTake_L48 u v (nI p) sp (nI V)) (E := N 5) (g := fun g => if decide (vrN N g ≤ V) = true then tk g else 0) (s0 := 1)
    (fun n s => by rw [pX11_canTake_L48, hM 5 (by decide), if_pos (nI_le (Nat.le_refl _) (by omega))])
    (fun n s k hk => by
      rw [pX11_canTake_L48, hM 5 (by decide), if_neg (nI_ge hk (by omega)), rightAt_eq (b := 0) (i := k) (j := 0) hM rfl rfl (by omega), rightAt_eq (b := 1) (i := k) (j := 1) hM rfl rfl (by omega), Option.bind_some, Option.bind_some, gd_ok (j := k) (n := 10) (by omega) (by decide), cl (j := k) (by omega), ht k hk, nI_1]
      simp only [zI0, Nat.add_zero, nI_lit p hp (ok.1 (1054 + 6 * k)), ltI hV (ok.1 (1054 + 6 * k + 1)), decide_eq_true_eq]
      unfold vrN
      by_cases q1 : N (1054 + 6 * k) = p
      · rw [if_pos q1]
        by_cases q2 : V < N (1054 + 6 * k + 1)
        · rw [if_pos q2, if_neg (by omega), nI_z]
        · rw [if_neg q2, if_pos (by omega)]
      · rw [if_neg q1, hz k hk q1]
        have : (if N (1054 + 6 * k + 1) ≤ V then 0 else 0) = 0 := by split <;> rfl
        rw [this, nI_z])
    fuel (by unfold fuel; omega)
  rw [h, show (1 : Int32) = nI 1 from rfl, nI_add]; rfl
theorem mCan_L {u : tU} {v : tV} {N : tN} {w tk : Nat → Nat} (ok : okN N) (hM : CR (u 4) N 1114) (hw : CR (u 6) w 80) (hl : ∀ j, w j ≤ 9) (ht : CR (u 7) tk (N 5)) {p : Nat} {sp : Int32} (hp : p < N 0) (hz : ∀ g, g < N 5 → pdN N g ≠ p → tk g = 0) (hs : ∀ V, V ≤ 9 → sV1 (vrN N) tk (N 5) V ≤ neN N w p V sp) :
    ∀ (e V i : Nat), V + e = 10 → e < i → pX11_canTake_L30 u v (nI p) sp i 1 (nI V) = some (b2i (cB (∀ v, V ≤ v → v ≤ 9 → sV1 (vrN N) tk (N 5) v < neN N w p v sp))) := by
  have hc := ok.2.1.1
  have hN : N 2 ≤ 8 := ok.2.1.2.2.1
  intro e
  induction e with
  | zero =>
    intro V i hV hi
    obtain ⟨i, rfl⟩ : ∃ i', i = i' + 1 := ⟨i - 1, by omega⟩
    obtain rfl : V = 10 := by omega
    rw [pX11_canTake_L30, if_pos (show (9 : Int32) < nI 10 from by decide), cB_t (fun v h1 h2 => by omega)]; rfl
  | succ e ih =>
    intro V i hV hi
    obtain ⟨i, rfl⟩ : ∃ i', i = i' + 1 := ⟨i - 1, by omega⟩
    have h1 := hs V (by omega)
    have h2 := neN_le N w p V sp
    rw [pX11_canTake_L30, if_neg (show ¬ (9 : Int32) < nI V from nI_nlt (a := 9) (b := V) (by omega) (by decide)), if_neg (show ¬ (1 : Int32) = 0 from by decide), mSumT ok hM ht (by omega) (by omega) hz sp, Option.bind_some, mNeeds ok hM hw hl hp (by omega) sp, Option.bind_some, nI_1]
    simp only [ltI (show neN N w p V sp < 2 ^ 31 by omega) (show 1 + sV1 (vrN N) tk (N 5) V < 2 ^ 31 by omega)]
    by_cases q : neN N w p V sp < 1 + sV1 (vrN N) tk (N 5) V
    · rw [if_pos q]
      have hz0 : ∀ (i : Nat) (x : Int32), pX11_canTake_L30 u v (nI p) sp (i + 1) 0 x = some 0 := fun i x => by
        rw [pX11_canTake_L30]; split <;> rfl
      obtain ⟨i, rfl⟩ : ∃ i', i = i' + 1 := ⟨i - 1, by omega⟩
      rw [hz0, cB_f (fun h => by have := h V (Nat.le_refl _) (by omega); omega)]; rfl
    · rw [if_neg q, ih (V + 1) i (by omega) (by omega)]
      have e2 : (∀ v, V + 1 ≤ v → v ≤ 9 → sV1 (vrN N) tk (N 5) v < neN N w p v sp) = (∀ v, V ≤ v → v ≤ 9 → sV1 (vrN N) tk (N 5) v < neN N w p v sp) := propext ⟨fun h v a b => by
          by_cases z : v = V
          · rw [z]; omega
          · exact h v (by omega) b, fun h v a b => h v (by omega) b⟩
      rw [e2]
theorem mCan {u : tU} {v : tV} {N : tN} {w tk : Nat → Nat} (ok : okN N) (hM : CR (u 4) N 1114) (hw : CR (u 6) w 80) (hl : ∀ j, w j ≤ 9) (ht : CR (u 7) tk (N 5)) {d p g : Nat} {wo sp : Int32} (hp : p < N 0) (hg : g < N 5) (hcp : cpN N d wo p g = N (1054 + 6 * g + 2)) (htk : ∀ g, g < N 5 → tk g ≤ 40) (hz : ∀ g, g < N 5 → pdN N g ≠ p → tk g = 0) (hs : ∀ V, V ≤ 9 → sV1 (vrN N) tk (N 5) V ≤ neN N w p V sp) :
    pX11_canTake u v (nI g) (nI p) sp = some (b2i (cB (canT (fun V => neN N w p V sp) (vrN N) (cpN N d wo p) tk (N 5) g))) := by
  have hG : N 5 ≤ 10 := ok.2.1.2.2.2.2.2.1
  have hgg := ok.2.2.2.2.2.2.2 g hg
  have htg := htk g hg
  unfold pX11_canTake
  rw [gd_ok (j := g) (n := 10) (by omega) (by decide), cl (j := g) (by omega), rightAt_eq (b := 2) (i := g) (j := 2) hM rfl rfl (by omega), rightAt_eq (b := 1) (i := g) (j := 1) hM rfl rfl (by omega), Option.bind_some, Option.bind_some, Option.bind_some, ht g hg]
  simp only [leI (ok.1 (1054 + 6 * g + 2)) (show tk g < 2 ^ 31 by omega)]
  by_cases q : N (1054 + 6 * g + 2) ≤ tk g
  · rw [if_pos q]
    have hz0 : ∀ x : Int32, pX11_canTake_L30 u v (nI p) sp fuel 0 x = some 0 := fun x => by
      rw [show fuel = 1199 + 1 from rfl, pX11_canTake_L30]; split <;> rfl
    rw [hz0, cB_f (fun h => by have := h.1; rw [hcp] at this; omega)]; rfl
  · rw [if_neg q, mCan_L ok hM hw hl ht hp hz hs (10 - N (1054 + 6 * g + 1)) (N (1054 + 6 * g + 1)) fuel (by omega) (by unfold fuel; omega), Option.bind_some, gb_b]
    have e : (∀ v, N (1054 + 6 * g + 1) ≤ v → v ≤ 9 → sV1 (vrN N) tk (N 5) v < neN N w p v sp) = canT (fun V => neN N w p V sp) (vrN N) (cpN N d wo p) tk (N 5) g := propext ⟨fun h => ⟨by rw [hcp]; omega, h⟩, fun h => h.2⟩
    rw [e]
theorem isOn_eq {u : tU} {v : tV} {N : tN} (ok : okN N) (hM : CR (u 4) N 1114) {d g : Nat} (hg : g < N 5) (hd : d < 2 ^ 31) : pX11_isOn u v (nI g) (nI d) = some (b2i (opB N d g)) := by
  have hG : N 5 ≤ 10 := ok.2.1.2.2.2.2.2.1
  unfold pX11_isOn opB
  rw [rightAt_eq (b := 4) (i := g) (j := 4) hM rfl rfl (by omega), rightAt_eq (b := 5) (i := g) (j := 5) hM rfl rfl (by omega), Option.bind_some, Option.bind_some]
  simp only [ltI hd (ok.1 (1054 + 6 * g + 4)), ltI (ok.1 (1054 + 6 * g + 5)) hd]
  by_cases q1 : d < N (1054 + 6 * g + 4)
  · rw [if_pos q1, decide_eq_false (p := N (1054 + 6 * g + 4) ≤ d) (by omega)]; rfl
  · rw [if_neg q1, decide_eq_true (p := N (1054 + 6 * g + 4) ≤ d) (by omega)]
    by_cases q2 : N (1054 + 6 * g + 5) < d
    · rw [if_pos q2, decide_eq_false (p := d ≤ N (1054 + 6 * g + 5)) (by omega)]; rfl
    · rw [if_neg q2, decide_eq_true (p := d ≤ N (1054 + 6 * g + 5)) (by omega)]; rfl
noncomputable def elM (N : tN) (w tk : Nat → Nat) (d : Nat) (wo sp : Int32) (p g : Nat) : Bool := cB (canT (fun V => neN N w p V sp) (vrN N) (cpN N d wo p) tk (N 5) g)
theorem mBest {u : tU} {v : tV} {N : tN} {w tk : Nat → Nat} (ok : okN N) (hM : CR (u 4) N 1114) (hw : CR (u 6) w 80) (hl : ∀ j, w j ≤ 9) (ht : CR (u 7) tk (N 5)) {d p : Nat} {wo sp : Int32} (hp : p < N 0) (hd : d < 2 ^ 31) (htk : ∀ g, g < N 5 → tk g ≤ 40) (hz : ∀ g, g < N 5 → pdN N g ≠ p → tk g = 0) (hs : ∀ V, V ≤ 9 → sV1 (vrN N) tk (N 5) V ≤ neN N w p V sp) (x5 : Int32) :
    pX11_match_L38 u v (nI p) (nI d) wo sp x5 fuel (-1) 0 = some (en (-1) (bsF (elM N w tk d wo sp p) (prN N) (N 5))) := by
  have hG : N 5 ≤ 10 := ok.2.1.2.2.2.2.2.1
  have hc := ok.2.1.1
  have key : ∀ (e k n : Nat), k + e = N 5 → e < n → pX11_match_L38 u v (nI p) (nI d) wo sp x5 n (en (-1) (bsF (elM N w tk d wo sp p) (prN N) k)) (nI k) = some (en (-1) (bsF (elM N w tk d wo sp p) (prN N) (N 5))) := by
    intro e
    induction e with
    | zero =>
      intro k n hk hn
      obtain ⟨n, rfl⟩ : ∃ n', n = n' + 1 := ⟨n - 1, by omega⟩
      obtain rfl : k = N 5 := by omega
      rw [pX11_match_L38, hM 5 (by decide), if_pos (nI_le (Nat.le_refl _) (by omega))]
    | succ e ih =>
      intro k n hk hn
      obtain ⟨n, rfl⟩ : ∃ n', n = n' + 1 := ⟨n - 1, by omega⟩
      have ihk := ih (k + 1) n (by omega) (by omega)
      have hkG : k < N 5 := by omega
      generalize hb : bsF (elM N w tk d wo sp p) (prN N) k = bo at ihk ⊢
      have hu : pX11_match_L38 u v (nI p) (nI d) wo sp x5 (n + 1) (en (-1) bo) (nI k) = (if elM N w tk d wo sp p k = true then (if en (-1) bo < 0 then pX11_match_L38 u v (nI p) (nI d) wo sp x5 n (nI k) (nI (k + 1)) else (pX11_rightAt u v (en (-1) bo) 3).bind fun r23 => if r23 ≤ nI (N (1054 + 6 * k + 3)) then pX11_match_L38 u v (nI p) (nI d) wo sp x5 n (en (-1) bo) (nI (k + 1)) else pX11_match_L38 u v (nI p) (nI d) wo sp x5 n (nI k) (nI (k + 1))) else pX11_match_L38 u v (nI p) (nI d) wo sp x5 n (en (-1) bo) (nI (k + 1))) := by
        rw [pX11_match_L38, hM 5 (by decide), if_neg (nI_ge hkG (by omega)), rightAt_eq (a := nI k) (b := 0) (i := k) (j := 0) hM rfl rfl (by omega), rightAt_eq (a := nI k) (b := 3) (i := k) (j := 3) hM rfl rfl (by omega), isOn_eq ok hM hkG hd, Option.bind_some, Option.bind_some, Option.bind_some, nI_1]
        simp only [Nat.add_zero, nI_lit p (show p < 2 ^ 31 by omega) (ok.1 (1054 + 6 * k)), b2i_0]
        have hno : cpN N d wo p k = 0 → ¬ elM N w tk d wo sp p k = true := fun h0 h => by
          have := (cB_iff.mp h).1; omega
        by_cases q1 : N (1054 + 6 * k) = p
        · rw [if_pos q1]
          by_cases q2 : nI k = wo
          · rw [if_pos q2, if_neg (hno (by unfold cpN c0N; split; rw [if_neg (fun z => z.2 q2)]; rfl))]
          · rw [if_neg q2]
            by_cases q3 : opB N d k = true
            · rw [if_neg (show ¬ opB N d k = false by simp [q3]), mCan (d := d) (wo := wo) ok hM hw hl ht hp hkG (by unfold cpN c0N pdN; rw [if_pos q1, if_pos ⟨q3, q2⟩]) htk hz hs, Option.bind_some]
              simp only [b2i_0]
              by_cases q4 : elM N w tk d wo sp p k = true
              · rw [if_pos q4, if_neg (show ¬ cB (canT (fun V => neN N w p V sp) (vrN N) (cpN N d wo p) tk (N 5) k) = false from fun z => by unfold elM at q4; rw [z] at q4; cases q4)]
              · rw [if_neg q4, if_pos (show cB (canT (fun V => neN N w p V sp) (vrN N) (cpN N d wo p) tk (N 5) k) = false by unfold elM at q4; simpa using q4)]
            · rw [if_pos (show opB N d k = false by simpa using q3), if_neg (hno (by unfold cpN c0N; split; rw [if_neg (fun z => q3 z.1)]; rfl))]
        · rw [if_neg q1, if_neg (hno (by unfold cpN pdN; rw [if_neg q1]))]
      rw [hu]
      rw [bsF, hb] at ihk
      cases bo with
      | none =>
        dsimp only at ihk
        by_cases q : elM N w tk d wo sp p k = true
        · rw [if_pos q, if_pos (show en (-1) none < (0 : Int32) from by decide)]
          rw [if_pos q] at ihk
          exact ihk
        · rw [if_neg q]
          rw [if_neg q] at ihk
          exact ihk
      | some j =>
        have hj : j < k := by
          rcases bsF_spec (elM N w tk d wo sp p) (prN N) k with ⟨z, _⟩ | ⟨j', z, z2, _⟩
          · rw [hb] at z; cases z
          · rw [hb] at z; cases z; exact z2
        dsimp only at ihk
        by_cases q : elM N w tk d wo sp p k = true
        · rw [if_pos q, if_neg (show ¬ en (-1) (some j) < (0 : Int32) from nI_pos (n := j) (by omega))]
          have e1 : en (-1) (some j) = nI j := rfl
          rw [e1, rightAt_eq (a := nI j) (b := 3) (i := j) (j := 3) hM rfl rfl (by omega), Option.bind_some]
          by_cases q2 : prN N k < prN N j
          · rw [if_neg (nI_ge (show N (1054 + 6 * k + 3) < N (1054 + 6 * j + 3) from q2) (ok.1 _))]
            rw [if_pos ⟨q, q2⟩] at ihk
            exact ihk
          · rw [if_pos (nI_le (show N (1054 + 6 * j + 3) ≤ N (1054 + 6 * k + 3) from Nat.le_of_not_lt q2) (ok.1 _))]
            rw [if_neg (fun z => q2 z.2)] at ihk
            exact ihk
        · rw [if_neg q]
          rw [if_neg (fun z => q z.1)] at ihk
          exact ihk
  exact key (N 5) 0 fuel (by omega) (by unfold fuel; omega)
/-- rows 7 and 0, of that places 8 and 9, may have changed -/
def EN (u u' : tU) : Prop := (∀ q, q ≠ 0 → q ≠ 7 → u' q = u q) ∧ ∀ c, c ≠ 8 → c ≠ 9 → u' 0 c = u 0 c
theorem EN_rf {u : tU} : EN u u := ⟨fun _ _ _ => rfl, fun _ _ _ => rfl⟩
theorem EN_tr {u u' u'' : tU} (h : EN u u') (h' : EN u' u'') : EN u u'' := ⟨fun q a b => by rw [h'.1 q a b]; exact h.1 q a b, fun c a b => by rw [h'.2 c a b]; exact h.2 c a b⟩
theorem EN_7 {u u' : tU} {c : Nat} {x : Int32} (h : EN u u') : EN u (sU u' 7 c x) := ⟨fun q a b => by rw [sU_r b]; exact h.1 q a b, fun c a b => by rw [sU_r (by decide)]; exact h.2 c a b⟩
theorem EN_8 {u u' : tU} {x : Int32} (h : EN u u') : EN u (sU u' 0 8 x) := ⟨fun q a b => by rw [sU_r a]; exact h.1 q a b, fun c a b => by rw [sU_c a]; exact h.2 c a b⟩
theorem EN_9 {u u' : tU} {x : Int32} (h : EN u u') : EN u (sU u' 0 9 x) := ⟨fun q a b => by rw [sU_r a]; exact h.1 q a b, fun c a b => by rw [sU_c b]; exact h.2 c a b⟩
theorem neN_0 (N : tN) (w : Nat → Nat) (p : Nat) (sp : Int32) : neN N w p 0 sp = 0 := by
  unfold neN
  refine Nat.le_zero.mp (Nat.le_trans (fb_sm_bound (c := 0) (fun h _ => ?_)) (by omega))
  unfold neB
  by_cases q : 0 < w (10 * h + p)
  · rw [decide_eq_false (p := w (10 * h + p) ≤ 0) (by omega), Bool.and_false, Bool.false_and]; exact Nat.le_refl _
  · rw [decide_eq_false q, Bool.and_false, Bool.false_and, Bool.false_and]; exact Nat.le_refl _
theorem cpN_le {N : tN} (ok : okN N) {d : Nat} {wo : Int32} {p g : Nat} (hg : g < N 5) : cpN N d wo p g ≤ 40 := by
  unfold cpN
  split
  · exact c0N_le ok hg
  · omega
theorem mLoop {u0 : tU} {v : tV} {N : tN} {w : Nat → Nat} (ok : okN N) (hM0 : CR (u0 4) N 1114) (hw0 : CR (u0 6) w 80) (hl : ∀ j, w j ≤ 9) {d p : Nat} {wo sp : Int32} (hp : p < N 0) (hd : d < 2 ^ 31) :
    ∀ (e i : Nat) (u : tU) (tk : Nat → Nat), tC (prN N) tk (N 5) 1000 + e = neN N w p 9 sp → e < i → EN u0 u → CR (u 7) tk (N 5) → u 0 9 = nI (fb_sm (fun g => tk g * prN N g) (N 5)) → gJ (fun V => neN N w p V sp) (prN N) (vrN N) (cpN N d wo p) tk (N 5) →
      ∃ u' tk', pX11_match_L32 (nI p) (nI d) wo sp i (nI (tC (prN N) tk (N 5) 1000)) u v = some (nI (tC (prN N) tk' (N 5) 1000), u', v) ∧ EN u0 u' ∧ u' 0 9 = nI (fb_sm (fun g => tk' g * prN N g) (N 5)) ∧ ∀ c, isR (fun V => neN N w p V sp) (aC (prN N) (vrN N) (cpN N d wo p) (N 5) c) (tC (prN N) tk' (N 5) c) := by
  have hG : N 5 ≤ 10 := ok.2.1.2.2.2.2.2.1
  have hpr : ∀ g, g < N 5 → prN N g ≤ 1000 := fun g hg => (ok.2.2.2.2.2.2.2 g hg).2.2.2.2.1
  intro e
  induction e with
  | zero =>
    intro i u tk he hi hE ht h9 hJ
    obtain ⟨i, rfl⟩ : ∃ i', i = i' + 1 := ⟨i - 1, by omega⟩
    have hM : CR (u 4) N 1114 := by rw [hE.1 4 (by decide) (by decide)]; exact hM0
    have hw : CR (u 6) w 80 := by rw [hE.1 6 (by decide) (by decide)]; exact hw0
    have hno : ∀ g, g < N 5 → ¬ canT (fun V => neN N w p V sp) (vrN N) (cpN N d wo p) tk (N 5) g := fun g hg hcan => by
      have hvr := (ok.2.2.2.2.2.2.2 g hg).2.2.1
      have h1 := hcan.2 9 hvr (by decide)
      have h2 : tC (prN N) tk (N 5) 1000 ≤ sV1 (vrN N) tk (N 5) 9 := sS_le (fun g hg _ => Or.inr ⟨decide_eq_true (ok.2.2.2.2.2.2.2 g hg).2.2.1, Nat.le_refl _⟩)
      dsimp only at h1
      omega
    rw [pX11_match_L32, mBest (d := d) (wo := wo) ok hM hw hl ht hp hd (fun g hg => Nat.le_trans (hJ.1 g hg) (cpN_le ok hg)) (fun g hg hne => by have := hJ.1 g hg; unfold cpN at this; rw [if_neg hne] at this; omega) hJ.2.1, Option.bind_some]
    rcases bsF_spec (elM N w tk d wo sp p) (prN N) (N 5) with ⟨e1, e2⟩ | ⟨j, e1, e2, e3, e4⟩
    · rw [e1, if_neg (show ¬ (0 : Int32) ≤ en (-1) none from by decide)]
      exact ⟨u, tk, rfl, hE, h9, gJ_end hJ hno (fun g hg => (ok.2.2.2.2.2.2.2 g hg).2.1) (neN_0 N w p sp)⟩
    · exact absurd (cB_iff.mp e3) (hno j e2)
  | succ e ih =>
    intro i u tk he hi hE ht h9 hJ
    obtain ⟨i, rfl⟩ : ∃ i', i = i' + 1 := ⟨i - 1, by omega⟩
    have hM : CR (u 4) N 1114 := by rw [hE.1 4 (by decide) (by decide)]; exact hM0
    have hw : CR (u 6) w 80 := by rw [hE.1 6 (by decide) (by decide)]; exact hw0
    rw [pX11_match_L32, mBest (d := d) (wo := wo) ok hM hw hl ht hp hd (fun g hg => Nat.le_trans (hJ.1 g hg) (cpN_le ok hg)) (fun g hg hne => by have := hJ.1 g hg; unfold cpN at this; rw [if_neg hne] at this; omega) hJ.2.1, Option.bind_some]
    rcases bsF_spec (elM N w tk d wo sp p) (prN N) (N 5) with ⟨e1, e2⟩ | ⟨j, e1, e2, e3, e4⟩
    · rw [e1, if_neg (show ¬ (0 : Int32) ≤ en (-1) none from by decide)]
      exact ⟨u, tk, rfl, hE, h9, gJ_end hJ (fun g hg hcan => e2 g hg (cB_t hcan)) (fun g hg => (ok.2.2.2.2.2.2.2 g hg).2.1) (neN_0 N w p sp)⟩
    · rw [e1]
      have e5 : en (-1) (some j) = nI j := rfl
      have hcan := cB_iff.mp e3
      have hT : tC (prN N) (va_up tk j (tk j + 1)) (N 5) 1000 = tC (prN N) tk (N 5) 1000 + 1 := by
        have e6 : tC (prN N) (va_up tk j (tk j + 1)) (N 5) 1000 = tC (prN N) tk (N 5) 1000 + (if decide (prN N j ≤ 1000) = true then 1 else 0) := sS_inc _ _ e2
        rw [e6, if_pos (decide_eq_true (hpr j e2))]
      have htj : CR (sU u 7 j (nI (tk j + 1)) 7) (va_up tk j (tk j + 1)) (N 5) := cr_sU ht
      have h7 : u 7 j + (1 : Int32) = nI (tk j + 1) := by rw [ht j e2, nI_1]
      rw [e5, if_pos (nI_pos' (n := j) (by omega)), gd_ok (j := j) (n := 10) (by omega) (by decide), gd_ok (j := j) (n := 10) (by omega) (by decide), cl (j := j) (by omega), h7, rightAt_eq (u := sU u 7 j (nI (tk j + 1))) (N := N) (a := nI j) (b := 3) (i := j) (j := 3) (by rw [sU_r (by decide)]; exact hM) rfl rfl (by omega), Option.bind_some, nI_1, ← hT]
      refine ih i _ (va_up tk j (tk j + 1)) (by omega) (by omega) (EN_9 (EN_7 hE)) (by rw [sU_r (by decide)]; exact htj) ?_ (gJ_step hJ e2 hcan (fun g hg hc2 => e4 g hg (cB_t hc2)))
      rw [sU_s, sU_r (by decide), h9, nI_add, smul_inc tk (prN N) e2]; rfl
theorem mMatch {u : tU} {v : tV} {N : tN} {w : Nat → Nat} (ok : okN N) (hM : CR (u 4) N 1114) (hw : CR (u 6) w 80) (hl : ∀ j, w j ≤ 9) {d p : Nat} {wo sp : Int32} (hp : p < N 0) (hd : d < 2 ^ 31) :
    ∃ u', pX11_match u v (nI p) (nI d) wo sp = some (u', v) ∧ EN u u' ∧ u' 0 8 = nI (lkN (fun V => neN N w p V sp) (fun c => aC (prN N) (vrN N) (cpN N d wo p) (N 5) c)) ∧ u' 0 9 = nI (csN (fun V => neN N w p V sp) (fun c => aC (prN N) (vrN N) (cpN N d wo p) (N 5) c)) := by
  have hG : N 5 ≤ 10 := ok.2.1.2.2.2.2.2.1
  have hpr : ∀ g, g < N 5 → prN N g ≤ 1000 := fun g hg => (ok.2.2.2.2.2.2.2 g hg).2.2.2.2.1
  obtain ⟨u1, ⟨a1, a2⟩, a3⟩ := stL (L := pX11_match_L3 (nI p) (nI d) wo sp) (E := 10) (I := fun k u' => EN u u' ∧ ∀ j, j < k → u' 7 j = nI 0) (v := v)
    (fun n u1 hi => by rw [pX11_match_L3, if_pos (show (10 : Int32) ≤ nI 10 from by decide)])
    (fun n u1 k hk hi => by
      refine ⟨sU u1 7 k 0, ⟨EN_7 hi.1, fun j hj => ?_⟩, ?_⟩
      · by_cases e : j = k
        · subst e; rw [sU_s]; rfl
        · rw [sU_c e]; exact hi.2 j (by omega)
      · rw [pX11_match_L3, if_neg (show ¬ (10 : Int32) ≤ nI k from nI_ge (b := 10) hk (by decide)), gd_ok hk (by decide), cl (by omega), nI_1])
    fuel u (by decide) ⟨EN_rf, fun j hj => absurd hj (Nat.not_lt_zero j)⟩
  have hT0 : tC (prN N) (fun _ => 0) (N 5) 1000 = 0 := sS_zero (fun _ _ _ => rfl)
  have hz0 : fb_sm (fun g => (fun _ => 0) g * prN N g) (N 5) = 0 := by
    refine Nat.le_zero.mp (Nat.le_trans (fb_sm_bound (c := 0) (fun g _ => ?_)) (by omega))
    simp
  have hn9 := neN_le N w p 9 sp
  have hN2 := ok.2.1.2.2.1
  obtain ⟨u2, tk, b1, b2, b3, b4⟩ := mLoop (u0 := u) (v := v) (d := d) (p := p) (wo := wo) (sp := sp) ok hM hw hl hp hd (neN N w p 9 sp) fuel (sU u1 0 9 0) (fun _ => 0) (by rw [hT0]; omega) (by unfold fuel; omega) (EN_9 a1) (fun j hj => by rw [sU_r (by decide)]; exact a2 j (by omega)) (by rw [sU_s, hz0]; rfl) gJ_0
  rw [hT0] at b1
  have hR : ∀ c, tC (prN N) tk (N 5) c = rkV (fun V => neN N w p V sp) (aC (prN N) (vrN N) (cpN N d wo p) (N 5) c) := fun c => rkV_eq (b4 c)
  have hle : tC (prN N) tk (N 5) 1000 ≤ neN N w p 9 sp := by
    have := (b4 1000).1 9 (by decide)
    rw [aC_9 ok] at this
    exact this
  have hM2 : CR (u2 4) N 1114 := by rw [b2.1 4 (by decide) (by decide)]; exact hM
  have hw2 : CR (u2 6) w 80 := by rw [b2.1 6 (by decide) (by decide)]; exact hw
  have h9 : pX11_needsUpTo u2 v (nI p) 9 sp = some (nI (neN N w p 9 sp)) := mNeeds ok hM2 hw2 hl hp (V := 9) (by decide) sp
  refine ⟨sU u2 0 8 (nI (neN N w p 9 sp) - nI (tC (prN N) tk (N 5) 1000)), ?_, EN_8 b2, ?_, ?_⟩
  · unfold pX11_match
    rw [a3, Option.bind_some]
    dsimp only
    rw [show (0 : Int32) = nI 0 from rfl] at *
    rw [b1, Option.bind_some]
    dsimp only
    rw [h9, Option.bind_some]
  · rw [sU_s, pk_sub hle]
    unfold lkN
    rw [← hR 1000]
  · rw [sU_c (by decide), b3, cost_sum hpr]
    unfold csN
    exact congrArg nI (fb_sm_cong (fun c _ => by rw [hR, hR]))
