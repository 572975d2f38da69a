/-! measures -/
def hoB (w : Nat → Nat) (p h : Nat) : Bool := decide (0 < w (10 * h + p))
def pmN (N : tN) (w : Nat → Nat) (p : Nat) : Nat → Nat
  | 0 => 0
  | h + 1 => if hoB w p h = true then pmN N w p h ||| 2 ^ N (278 + 2 * h + 1) else pmN N w p h
theorem pmN_lt {N : tN} (ok : okN N) {w : Nat → Nat} {p : Nat} : ∀ k, k ≤ N 2 → pmN N w p k < 2 ^ 10
  | 0, _ => by show 0 < 2 ^ 10; decide
  | k + 1, hk => by
    have ih := pmN_lt ok (w := w) (p := p) k (by omega)
    rw [pmN]
    split
    · exact Nat.or_lt_two_pow ih (Nat.pow_lt_pow_right (by decide) (by have := (ok.2.2.2.2.1 k (by omega)).2.2; omega))
    · exact ih
def hsN (N : tN) (w : Nat → Nat) (p : Nat) : Nat := fb_sm (fun h => bn (hoB w p h)) (N 2)
def coN (N : tN) (w : Nat → Nat) (p : Nat) : Nat := fb_sm (fun h => if hoB w p h = true then (N (278 + 2 * h) + 7) / 8 else 0) (N 2)
def meN (N : tN) (w : Nat → Nat) (p m : Nat) : Nat := if m = 0 then hsN N w p else if m = 1 then fb_ct (fun i => decide (pmN N w p (N 2) / 2 ^ i % 2 = 1)) 10 else if m = 2 then coN N w p else moN N p 1000
theorem le0 {x : Nat} (h : x < 2 ^ 31) : (nI x ≤ (0 : Int32)) = ¬ 0 < x := by
  rw [show (0 : Int32) = nI 0 from rfl, leI h (by decide)]
  exact propext ⟨fun q => by omega, fun q => by omega⟩
theorem xHosts {u : tU} {v : tV} {N : tN} {w : Nat → Nat} (ok : okN N) (hX : xB u v 10 1 N) (hw : CR (u 1) w 80) (hl : ∀ j, w j ≤ 9) {p : Nat} (hp : p < N 0) : pX2_howManyHosts u v (nI p) = some (nI (hsN N w p)) := by
  have hc := ok.2.1.1
  have hN : N 2 ≤ 8 := ok.2.1.2.2.1
  have h : pX2_howManyHosts_L5 u v (nI p) fuel 0 0 = some (nI (hsN N w p)) := by
    refine sumL (L := pX2_howManyHosts_L5 u v (nI p)) (fun n s => ?_) (fun n s k hk => ?_) fuel (by unfold fuel; omega)
    · rw [pX2_howManyHosts_L5, hX.1 2 (by decide), if_pos (nI_le (Nat.le_refl _) (by omega))]
    · rw [pX2_howManyHosts_L5, hX.1 2 (by decide), if_neg (nI_ge hk (by omega)), verAt_eq hw (by omega) (by omega), Option.bind_some, nI_1]
      simp only [le0 (show w (10 * k + p) < 2 ^ 31 by have := hl (10 * k + p); omega)]
      unfold hoB
      by_cases q : 0 < w (10 * k + p)
      · rw [if_neg (fun z => z q), decide_eq_true q]; rfl
      · rw [if_pos q, decide_eq_false q, show nI (bn false) = nI 0 from rfl, nI_z]
  unfold pX2_howManyHosts
  rw [h]; rfl
theorem div8 {c : Nat} (h : c ≤ 64) : (nI c + (7 : Int32)) / (8 : Int32) = nI ((c + 7) / 8) := by
  rw [show (7 : Int32) = nI 7 from rfl, show (8 : Int32) = nI 8 from rfl, nI_add]
  exact pk_div (by omega) (by decide) (by decide)
theorem xCores {u : tU} {v : tV} {N : tN} {w : Nat → Nat} (ok : okN N) (hX : xB u v 10 1 N) (hw : CR (u 1) w 80) (hl : ∀ j, w j ≤ 9) {p : Nat} (hp : p < N 0) : pX2_coresByEight u v (nI p) = some (nI (coN N w p)) := by
  have hc := ok.2.1.1
  have hN : N 2 ≤ 8 := ok.2.1.2.2.1
  have h : pX2_coresByEight_L5 u v (nI p) fuel 0 0 = some (nI (coN N w p)) := by
    refine sumL (L := pX2_coresByEight_L5 u v (nI p)) (fun n s => ?_) (fun n s k hk => ?_) fuel (by unfold fuel; omega)
    · rw [pX2_coresByEight_L5, hX.1 2 (by decide), if_pos (nI_le (Nat.le_refl _) (by omega))]
    · have hco := (ok.2.2.2.2.1 k hk).2.1
      rw [pX2_coresByEight_L5, hX.1 2 (by decide), if_neg (nI_ge hk (by omega)), verAt_eq hw (by omega) (by omega), Option.bind_some, gd_ok (j := k) (n := 8) (by omega) (by decide), cl (j := k) (by omega), (hX.2.2.2.1 k hk).1, nI_1]
      rw [show nI (N (278 + 2 * k)) + (8 : Int32) - (1 : Int32) = nI (N (278 + 2 * k)) + (7 : Int32) from by
        rw [show (8 : Int32) = nI 8 from rfl, show (1 : Int32) = nI 1 from rfl, show (7 : Int32) = nI 7 from rfl, nI_add, nI_add, pk_sub (by omega)]; rfl, div8 hco]
      simp only [le0 (show w (10 * k + p) < 2 ^ 31 by have := hl (10 * k + p); omega)]
      unfold hoB
      by_cases q : 0 < w (10 * k + p)
      · rw [if_neg (fun z => z q), decide_eq_true q, if_pos rfl]
      · rw [if_pos q, decide_eq_false q, if_neg (by decide), nI_z]
  unfold pX2_coresByEight
  rw [h]; rfl
theorem xPersons {u : tU} {v : tV} {N : tN} {w : Nat → Nat} (ok : okN N) (hX : xB u v 10 1 N) (hw : CR (u 1) w 80) (hl : ∀ j, w j ≤ 9) {p : Nat} (hp : p < N 0) : pX2_howManyPersons u v (nI p) = some (nI (fb_ct (fun i => decide (pmN N w p (N 2) / 2 ^ i % 2 = 1)) 10)) := by
  have hc := ok.2.1.1
  have hN : N 2 ≤ 8 := ok.2.1.2.2.1
  have key : ∀ (e k n : Nat), k + e = N 2 → e < n → pX2_howManyPersons_L5 u v (nI p) n (nI (pmN N w p k)) (nI k) = some (nI (pmN N w p (N 2))) := by
    intro e
    induction e with
    | zero =>
      intro k n hk hn
      obtain ⟨n, rfl⟩ : ∃ n', n = n' + 1 := ⟨n - 1, by omega⟩
      obtain rfl : k = N 2 := by omega
      rw [pX2_howManyPersons_L5, hX.1 2 (by decide), if_pos (nI_le (Nat.le_refl _) (by omega))]
    | succ e ih =>
      intro k n hk hn
      obtain ⟨n, rfl⟩ : ∃ n', n = n' + 1 := ⟨n - 1, by omega⟩
      have ihk := ih (k + 1) n (by omega) (by omega)
      have hkN : k < N 2 := by omega
      have hpe := (ok.2.2.2.2.1 k hkN).2.2
      rw [pX2_howManyPersons_L5, hX.1 2 (by decide), if_neg (nI_ge hkN (by omega)), verAt_eq hw (by omega) (by omega), Option.bind_some, gd_ok (j := k) (n := 8) (by omega) (by decide), cl (j := k) (by omega), (hX.2.2.2.1 k hkN).2, shl1 (by omega), fa_or, nI_1]
      simp only [le0 (show w (10 * k + p) < 2 ^ 31 by have := hl (10 * k + p); omega)]
      rw [pmN] at ihk
      unfold hoB at ihk
      by_cases q : 0 < w (10 * k + p)
      · rw [if_neg (fun z => z q)]
        rw [if_pos (decide_eq_true q)] at ihk
        exact ihk
      · rw [if_pos q]
        rw [if_neg (by simp [q])] at ihk
        exact ihk
  have h' : pX2_howManyPersons_L5 u v (nI p) fuel 0 0 = some (nI (pmN N w p (N 2))) := key (N 2) 0 fuel (by omega) (by unfold fuel; omega)
  unfold pX2_howManyPersons
  rw [h', Option.bind_some, bc_all _ (pmN_lt ok (N 2) (Nat.le_refl _))]
  rfl
theorem xMeasured {u : tU} {v : tV} {N : tN} {w : Nat → Nat} (ok : okN N) (hX : xB u v 10 1 N) (hw : CR (u 1) w 80) (hl : ∀ j, w j ≤ 9) {p m : Nat} (hp : p < N 0) (hm : m ≤ 3) : pX10_measured u v (nI p) (nI m) = some (nI (meN N w p m)) := by
  have hc := ok.2.1.1
  unfold pX10_measured meN
  rw [xHosts ok hX hw hl hp, xCores ok hX hw hl hp, xPersons ok hX hw hl hp, xMost ok hX (by omega)]
  obtain rfl | rfl | rfl | rfl : m = 0 ∨ m = 1 ∨ m = 2 ∨ m = 3 := by omega
  · rw [if_pos (show nI 0 = (0 : Int32) from rfl)]; rfl
  · rw [if_neg (show ¬ nI 1 = (0 : Int32) from by decide), if_pos (show nI 1 = (1 : Int32) from rfl)]; rfl
  · rw [if_neg (show ¬ nI 2 = (0 : Int32) from by decide), if_neg (show ¬ nI 2 = (1 : Int32) from by decide), if_pos (show nI 2 = (2 : Int32) from rfl)]; rfl
  · rw [if_neg (show ¬ nI 3 = (0 : Int32) from by decide), if_neg (show ¬ nI 3 = (1 : Int32) from by decide), if_neg (show ¬ nI 3 = (2 : Int32) from by decide), Option.bind_some, if_neg (show ¬ (3 : Nat) = 0 from by decide), if_neg (show ¬ (3 : Nat) = 1 from by decide), if_neg (show ¬ (3 : Nat) = 2 from by decide)]
theorem ct_sm (m : Nat) : ∀ k, fb_sm (fun i => m / 2 ^ i % 2) k = fb_ct (fun i => decide (m / 2 ^ i % 2 = 1)) k
  | 0 => rfl
  | k + 1 => by
    rw [fb_sm_succ, fb_ct_succ, ct_sm m k]
    by_cases q : m / 2 ^ k % 2 = 1
    · rw [q]; simp
    · have : m / 2 ^ k % 2 = 0 := by omega
      rw [this]; simp
theorem mMeasure_L {u : tU} {v : tV} {N : tN} {w : Nat → Nat} (ok : okN N) (hM : CR (u 4) N 1114) (hw : CR (u 6) w 80) (hl : ∀ j, w j ≤ 9) {p : Nat} (hp : p < N 0) (m : Int32) : pX11_measureOf_L11 u v (nI p) m fuel 0 0 0 0 = some (nI (hsN N w p), nI (coN N w p), nI (pmN N w p (N 2))) := by
  have hc := ok.2.1.1
  have hN : N 2 ≤ 8 := ok.2.1.2.2.1
  have key : ∀ (e k n : Nat), k + e = N 2 → e < n → pX11_measureOf_L11 u v (nI p) m n (nI (fb_sm (fun h => bn (hoB w p h)) k)) (nI (fb_sm (fun h => if hoB w p h = true then (N (278 + 2 * h) + 7) / 8 else 0) k)) (nI (pmN N w p k)) (nI k) = some (nI (hsN N w p), nI (coN N w p), nI (pmN N w p (N 2))) := by
    intro e
    induction e with
    | zero =>
      intro k n hk hn
      obtain ⟨n, rfl⟩ : ∃ n', n = n' + 1 := ⟨n - 1, by omega⟩
      obtain rfl : k = N 2 := by omega
      rw [pX11_measureOf_L11, hM 2 (by decide), if_pos (nI_le (Nat.le_refl _) (by omega))]; rfl
    | succ e ih =>
      intro k n hk hn
      obtain ⟨n, rfl⟩ : ∃ n', n = n' + 1 := ⟨n - 1, by omega⟩
      have ihk := ih (k + 1) n (by omega) (by omega)
      have hkN : k < N 2 := by omega
      have hpe := (ok.2.2.2.2.1 k hkN).2.2
      have hco := (ok.2.2.2.2.1 k hkN).2.1
      rw [pX11_measureOf_L11, hM 2 (by decide), if_neg (nI_ge hkN (by omega)), idx, gd_ok (by omega) (by decide), cl (by omega), hw _ (by omega), hostAt_eq (b := 0) (i := k) (j := 0) hM rfl rfl (by omega), hostAt_eq (b := 1) (i := k) (j := 1) hM rfl rfl (by omega), Option.bind_some, Option.bind_some]
      rw [Nat.add_zero, div8 hco, shl1 (by omega), fa_or, nI_add, nI_1, nI_1]
      simp only [le0 (show w (10 * k + p) < 2 ^ 31 by have := hl (10 * k + p); omega)]
      rw [pmN, fb_sm_succ, fb_sm_succ] at ihk
      unfold hoB at ihk ⊢
      by_cases q : 0 < w (10 * k + p)
      · rw [if_neg (fun z => z q)]
        rw [if_pos (decide_eq_true q), if_pos (decide_eq_true q), decide_eq_true q] at ihk
        exact ihk
      · rw [if_pos q]
        rw [if_neg (by simp [q]), if_neg (by simp [q]), decide_eq_false q] at ihk
        exact ihk
  exact key (N 2) 0 fuel (by omega) (by unfold fuel; omega)
theorem mMeasure {u : tU} {v : tV} {N : tN} {w : Nat → Nat} (ok : okN N) (hM : CR (u 4) N 1114) (hw : CR (u 6) w 80) (hl : ∀ j, w j ≤ 9) {p m : Nat} (hp : p < N 0) (hm : m ≤ 3) : pX11_measureOf u v (nI p) (nI m) = some (nI (meN N w p m)) := by
  have hc := ok.2.1.1
  have hpm := pmN_lt ok (w := w) (p := p) (N 2) (Nat.le_refl _)
  have hbits : pX11_measureOf_L89 u v (nI (pmN N w p (N 2))) fuel 0 0 = some (nI (fb_ct (fun i => decide (pmN N w p (N 2) / 2 ^ i % 2 = 1)) 10)) := by
    rw [← ct_sm]
    refine sumL (L := pX11_measureOf_L89 u v (nI (pmN N w p (N 2)))) (fun n s => ?_) (fun n s k hk => ?_) fuel (by unfold fuel; omega)
    · rw [pX11_measureOf_L89, if_pos (show (10 : Int32) ≤ nI 10 from by decide)]
    · rw [pX11_measureOf_L89, if_neg (show ¬ (10 : Int32) ≤ nI k from nI_ge (b := 10) hk (by decide)), bitI (by omega) (by omega), nI_1]
  unfold pX11_measureOf meN
  rw [mMeasure_L ok hM hw hl hp, Option.bind_some]
  dsimp only
  rw [hbits, mMost ok hM (by omega)]
  obtain rfl | rfl | rfl | rfl : m = 0 ∨ m = 1 ∨ m = 2 ∨ m = 3 := by omega
  · rw [if_neg (show ¬ nI 0 = (1 : Int32) from by decide), if_pos (show nI 0 = (0 : Int32) from rfl)]; rfl
  · rw [if_pos (show nI 1 = (1 : Int32) from rfl)]; rfl
  · rw [if_neg (show ¬ nI 2 = (1 : Int32) from by decide), if_neg (show ¬ nI 2 = (0 : Int32) from by decide), if_pos (show nI 2 = (2 : Int32) from rfl)]; rfl
  · rw [if_neg (show ¬ nI 3 = (1 : Int32) from by decide), if_neg (show ¬ nI 3 = (0 : Int32) from by decide), if_neg (show ¬ nI 3 = (2 : Int32) from by decide), Option.bind_some, if_neg (show ¬ (3 : Nat) = 0 from by decide), if_neg (show ¬ (3 : Nat) = 1 from by decide), if_neg (show ¬ (3 : Nat) = 2 from by decide)]
theorem xAll {u : tU} {v : tV} {N : tN} {w : Nat → Nat} (ok : okN N) (hX : xB u v 10 1 N) (hw : CR (u 1) w 80) (hl : ∀ j, w j ≤ 9) {m : Nat} (hm : m ≤ 3) : pX10_all_L28 u v (nI m) fuel 0 0 = some (nI (fb_sm (fun p => meN N w p m) (N 0))) := by
  have hc := ok.2.1.1
  refine sumL (L := pX10_all_L28 u v (nI m)) (fun n s => ?_) (fun n s k hk => ?_) fuel (by unfold fuel; omega)
  · rw [pX10_all_L28, hX.1 0 (by decide), if_pos (nI_le (Nat.le_refl _) (by omega))]
  · rw [pX10_all_L28, hX.1 0 (by decide), if_neg (nI_ge hk (by omega)), xMeasured ok hX hw hl hk hm, Option.bind_some, nI_1]
theorem mAll {u : tU} {v : tV} {N : tN} {w : Nat → Nat} (ok : okN N) (hM : CR (u 4) N 1114) (hw : CR (u 6) w 80) (hl : ∀ j, w j ≤ 9) {m : Nat} (hm : m ≤ 3) : pX11_all_L23 u v (nI m) fuel 0 0 = some (nI (fb_sm (fun p => meN N w p m) (N 0))) := by
  have hc := ok.2.1.1
  refine sumL (L := pX11_all_L23 u v (nI m)) (fun n s => ?_) (fun n s k hk => ?_) fuel (by unfold fuel; omega)
  · rw [pX11_all_L23, hM 0 (by decide), if_pos (nI_le (Nat.le_refl _) (by omega))]
  · rw [pX11_all_L23, hM 0 (by decide), if_neg (nI_ge hk (by omega)), mMeasure ok hM hw hl hk hm, Option.bind_some, nI_1]
/-! needs -/
def neB (N : tN) (w : Nat → Nat) (p V : Nat) (sp : Int32) (h : Nat) : Bool := !decide (nI h = sp) && decide (0 < w (10 * h + p)) && decide (w (10 * h + p) ≤ V) && !decide (N (8 + 3 * p) = 2)
def neN (N : tN) (w : Nat → Nat) (p V : Nat) (sp : Int32) : Nat := fb_sm (fun h => bn (neB N w p V sp h)) (N 2)
theorem neN_le (N : tN) (w : Nat → Nat) (p V : Nat) (sp : Int32) : neN N w p V sp ≤ N 2 := by
  have h := fb_sm_bound (f := fun h => bn (neB N w p V sp h)) (c := 1) (n := N 2) (fun k _ => bn_le _)
  unfold neN; omega
theorem mNeeds {u : tU} {v : tV} {N : tN} {w : Nat → Nat} (ok : okN N) (hM : CR (u 4) N 1114) (hw : CR (u 6) w 80) (hl : ∀ j, w j ≤ 9) {p V : Nat} (hp : p < N 0) (hV : V < 2 ^ 31) (sp : Int32) : pX11_needsUpTo u v (nI p) (nI V) sp = some (nI (neN N w p V sp)) := by
  have hc := ok.2.1.1
  have hN : N 2 ≤ 8 := ok.2.1.2.2.1
  have h : pX11_needsUpTo_L6 u v (nI p) (nI V) sp fuel 0 0 = some (nI (neN N w p V sp)) := by
    refine sumL (L := pX11_needsUpTo_L6 u v (nI p) (nI V) sp) (fun n s => ?_) (fun n s k hk => ?_) fuel (by unfold fuel; omega)
    · rw [pX11_needsUpTo_L6, hM 2 (by decide), if_pos (nI_le (Nat.le_refl _) (by omega))]
    · have hwk := hl (10 * k + p)
      rw [pX11_needsUpTo_L6, hM 2 (by decide), if_neg (nI_ge hk (by omega)), idx, gd_ok (by omega) (by decide), cl (by omega), hw _ (by omega), productAt_eq (b := 0) (i := p) (j := 0) hM rfl rfl (by omega), Option.bind_some, nI_1]
      simp only [zI0, Nat.add_zero, le0 (show w (10 * k + p) < 2 ^ 31 by omega), ltI hV (show w (10 * k + p) < 2 ^ 31 by omega), show (2 : Int32) = nI 2 from rfl, nI_lit 2 (by decide) (ok.1 (8 + 3 * p))]
      have ez : s + nI (bn false) = s := nI_z s
      unfold neB
      by_cases q1 : nI k = sp
      · rw [if_pos q1, decide_eq_true q1]; simp only [Bool.not_true, Bool.false_and]; rw [ez]
      · rw [if_neg q1, decide_eq_false q1]
        by_cases q2 : 0 < w (10 * k + p)
        · rw [if_neg (fun z => z q2), decide_eq_true q2]
          by_cases q3 : V < w (10 * k + p)
          · rw [if_pos q3, decide_eq_false (p := w (10 * k + p) ≤ V) (by omega)]; simp only [Bool.and_false, Bool.false_and]; rw [ez]
          · rw [if_neg q3, decide_eq_true (p := w (10 * k + p) ≤ V) (by omega)]
            by_cases q4 : N (8 + 3 * p) = 2
            · rw [if_pos q4, decide_eq_true q4]; simp only [Bool.not_true, Bool.and_false]; rw [ez]
            · rw [if_neg q4, decide_eq_false q4]; rfl
        · rw [if_pos q2, decide_eq_false q2]; simp only [Bool.and_false, Bool.false_and]; rw [ez]
  unfold pX11_needsUpTo
  rw [h]; rfl
theorem isFree_eq {u : tU} {v : tV} {N : tN} (ok : okN N) (hX : xB u v 10 1 N) {p : Nat} (hp : p < N 0) : pX6_isFree u v (nI p) = some (b2i (decide (N (8 + 3 * p) = 2))) := by
  have hc := ok.2.1.1
  unfold pX6_isFree
  rw [gd_ok (j := p) (n := 10) (by omega) (by decide), cl (j := p) (by omega), (hX.2.1 p hp).1]
  simp only [show (2 : Int32) = nI 2 from rfl, nI_lit 2 (by decide) (ok.1 (8 + 3 * p))]
  by_cases q : N (8 + 3 * p) = 2
  · rw [if_pos q, decide_eq_true q]; rfl
  · rw [if_neg q, decide_eq_false q]; rfl
theorem xNeeds {u : tU} {v : tV} {N : tN} {w : Nat → Nat} (ok : okN N) (hX : xB u v 10 1 N) (hw : CR (u 1) w 80) (hl : ∀ j, w j ≤ 9) : pX10_needs_L15 u v fuel 0 0 = some (nI (fb_sm (fun p => neN N w p 9 (-1)) (N 0))) := by
  have hc := ok.2.1.1
  have hN : N 2 ≤ 8 := ok.2.1.2.2.1
  refine sumL (L := pX10_needs_L15 u v) (fun n s => ?_) (fun n s k hk => ?_) fuel (by unfold fuel; omega)
  · rw [pX10_needs_L15, hX.1 0 (by decide), if_pos (nI_le (Nat.le_refl _) (by omega))]
  · have hme := xMeasured ok hX hw hl hk (m := 0) (by decide)
    have hme' : pX10_measured u v (nI k) 0 = some (nI (meN N w k 0)) := hme
    rw [pX10_needs_L15, hX.1 0 (by decide), if_neg (nI_ge hk (by omega)), isFree_eq ok hX hk, Option.bind_some, hme', Option.bind_some, nI_1]
    simp only [b2i_0, decide_eq_false_iff_not]
    by_cases q : N (8 + 3 * k) = 2
    · rw [if_neg (fun z => z q)]
      have : neN N w k 9 (-1) = 0 := by
        have h0 := fb_sm_bound (f := fun h => bn (neB N w k 9 (-1) h)) (c := 0) (n := N 2) (fun j _ => by unfold neB; rw [decide_eq_true q]; simp [bn])
        unfold neN; omega
      rw [this, nI_z]
    · rw [if_pos q]
      have : meN N w k 0 = neN N w k 9 (-1) := by
        show hsN N w k = _
        unfold hsN neN
        refine fb_sm_cong (fun j hj => ?_)
        have h9 := hl (10 * j + k)
        have e1 : ¬ nI j = -1 := fun z => by
          have := congrArg Int32.toInt z
          rw [nI_toInt (by omega)] at this
          have e2 : (-1 : Int32).toInt = -1 := by decide
          omega
        unfold neB hoB
        rw [decide_eq_false e1, decide_eq_true (p := w (10 * j + k) ≤ 9) h9, decide_eq_false q]
        simp
      rw [this]
theorem mNeedsAll {u : tU} {v : tV} {N : tN} {w : Nat → Nat} (ok : okN N) (hM : CR (u 4) N 1114) (hw : CR (u 6) w 80) (hl : ∀ j, w j ≤ 9) : pX11_needs_L8 u v fuel 0 0 = some (nI (fb_sm (fun p => neN N w p 9 (-1)) (N 0))) := by
  have hc := ok.2.1.1
  refine sumL (L := pX11_needs_L8 u v) (fun n s => ?_) (fun n s k hk => ?_) fuel (by unfold fuel; omega)
  · rw [pX11_needs_L8, hM 0 (by decide), if_pos (nI_le (Nat.le_refl _) (by omega))]
  · have h9 : pX11_needsUpTo u v (nI k) 9 (-1) = some (nI (neN N w k 9 (-1))) := mNeeds ok hM hw hl hk (V := 9) (by decide) (-1)
    rw [pX11_needs_L8, hM 0 (by decide), if_neg (nI_ge hk (by omega)), h9, Option.bind_some, nI_1]
