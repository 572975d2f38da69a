theorem idx {h p : Nat} : (10 : Int32) * nI h + nI p = nI (10 * h + p) := by rw [show (10 : Int32) = nI 10 from rfl, pk_mul, nI_add]
theorem zI0 (s : Int32) : s + (0 : Int32) = s := nI_z s
theorem mMake_L8 {u : tU} {v : tV} {N : tN} {w : Nat → Nat} (ok : okN N) (hM : CR (u 4) N 1114) (hw : CR (u 6) w 80) (hl : ∀ j, w j ≤ 9) {h s : Nat} (hh : h < N 2) (hs : s < N 0) : pX11_makeSuite_L8 u v (nI h) (nI s) fuel 0 0 0 = some (nI (fb_ct (hdB N w h s) (N 0)), nI (mx (paB N s) w h (N 0))) := by
  have hc := ok.2.1.1
  have hc2 := ok.2.1.2.2.1
  have key : ∀ (e k n : Nat), k + e = N 0 → e < n → pX11_makeSuite_L8 u v (nI h) (nI s) n (nI (fb_ct (hdB N w h s) k)) (nI (mx (paB N s) w h k)) (nI k) = some (nI (fb_ct (hdB N w h s) (N 0)), nI (mx (paB N s) w h (N 0))) := by
    intro e
    induction e with
    | zero =>
      intro k n hk hn
      obtain ⟨n, rfl⟩ : ∃ n', n = n' + 1 := ⟨n - 1, by omega⟩
      obtain rfl : k = N 0 := by omega
      rw [pX11_makeSuite_L8, hM 0 (by decide), if_pos (nI_le (Nat.le_refl _) (by omega))]
    | succ e ih =>
      intro k n hk hn
      obtain ⟨n, rfl⟩ : ∃ n', n = n' + 1 := ⟨n - 1, by omega⟩
      have ihk := ih (k + 1) n (by omega) (by omega)
      have hm := mx_le (b := paB N s) (h := h) hl k
      have hwk := hl (10 * h + k)
      have hct := fb_ct_le (hdB N w h s) k
      rw [pX11_makeSuite_L8, hM 0 (by decide), if_neg (nI_ge (by omega) (by omega)), isPart_eq ok hM hs (by omega), idx, gd_ok (by omega) (by decide), cl (by omega), hw _ (by omega), nI_1]
      simp only [Option.bind_some, b2i_0, zI0]
      rw [mx, fb_ct_succ] at ihk
      have hhd : hdB N w h s k = (paB N s k && decide (0 < w (10 * h + k))) := rfl
      rw [hhd] at ihk
      by_cases h1 : paB N s k = true
      · rw [if_neg (show ¬ paB N s k = false by simp [h1])]
        rw [if_pos h1, h1, Bool.true_and] at ihk
        by_cases h2 : 0 < w (10 * h + k)
        · rw [if_neg (show ¬ nI (w (10 * h + k)) ≤ (0 : Int32) from nI_nle h2 (by omega)), show (1 : Int32) = nI 1 from rfl, nI_add]
          rw [if_pos (by simp [h2])] at ihk
          by_cases h3 : w (10 * h + k) ≤ mx (paB N s) w h k
          · rw [if_pos (nI_le h3 (by omega))]
            rw [Nat.max_eq_left h3] at ihk
            exact ihk
          · rw [if_neg (nI_ge (by omega) (by omega))]
            rw [Nat.max_eq_right (by omega)] at ihk
            exact ihk
        · rw [if_pos (show nI (w (10 * h + k)) ≤ (0 : Int32) from nI_le (a := w (10 * h + k)) (b := 0) (by omega) (by decide)), if_pos (nI_le (show w (10 * h + k) ≤ mx (paB N s) w h k by omega) (by omega))]
          rw [if_neg (by simp [h2]), Nat.max_eq_left (by omega), Nat.add_zero] at ihk
          exact ihk
      · rw [if_pos (show paB N s k = false by simpa using h1), if_pos (nI_pos' (n := mx (paB N s) w h k) (by omega))]
        rw [if_neg h1, show paB N s k = false by simpa using h1, Bool.false_and, if_neg (by decide), Nat.add_zero] at ihk
        exact ihk
  exact key (N 0) 0 fuel (by omega) (by unfold fuel; omega)
def zeM (N : tN) (w : Nat → Nat) (h s k j : Nat) : Nat := if N (8 + 3 * s) = 1 ∧ j / 10 = h ∧ j % 10 < k ∧ paB N s (j % 10) = true then 0 else w j
theorem mMake_L {u : tU} {v : tV} {N : tN} {w : Nat → Nat} (ok : okN N) (hM : CR (u 4) N 1114) (hw : CR (u 6) w 80) {h s : Nat} (hh : h < N 2) (hs : s < N 0) : ∃ u', pX11_makeSuite_L135 (nI h) (nI s) fuel 0 u v = some (u', v) ∧ EX 6 u u' ∧ CR (u' 6) (zeM N w h s (N 0)) 80 := by
  have hc := ok.2.1.1
  have hc2 := ok.2.1.2.2.1
  obtain ⟨u', ⟨h1, h2⟩, h3⟩ := stL (L := pX11_makeSuite_L135 (nI h) (nI s)) (E := N 0) (I := fun k u' => EX 6 u u' ∧ CR (u' 6) (zeM N w h s k) 80) (v := v)
    (fun n u1 hi => by
      have hM1 : CR (u1 4) N 1114 := by rw [hi.1 4 (by decide)]; exact hM
      rw [pX11_makeSuite_L135, hM1 0 (by decide), if_pos (nI_le (Nat.le_refl _) (by omega))])
    (fun n u1 k hk hi => by
      have hM1 : CR (u1 4) N 1114 := by rw [hi.1 4 (by decide)]; exact hM
      rw [pX11_makeSuite_L135, hM1 0 (by decide), if_neg (nI_ge hk (by omega)), isPart_eq ok hM1 hs (by omega), productAt_eq (b := 0) (i := s) (j := 0) hM1 rfl rfl (by omega), idx, gd_ok (by omega) (by decide), cl (by omega), nI_1]
      simp only [Option.bind_some, b2i_0, Nat.add_zero, show (1 : Int32) = nI 1 from rfl, nI_lit 1 (by decide) (ok.1 (8 + 3 * s))]
      have same : (¬ (N (8 + 3 * s) = 1 ∧ paB N s k = true)) → ∀ j, zeM N w h s k j = zeM N w h s (k + 1) j := by
        intro hno j
        unfold zeM
        by_cases e : j % 10 = k
        · rw [if_neg (by omega), if_neg (fun q => hno ⟨q.1, by rw [← e]; exact q.2.2.2⟩)]
        · have e2 : (j % 10 < k) = (j % 10 < k + 1) := propext ⟨fun q => by omega, fun q => by omega⟩
          simp only [e2]
      by_cases h1 : paB N s k = true
      · rw [if_neg (show ¬ paB N s k = false by simp [h1])]
        by_cases h2 : N (8 + 3 * s) = 1
        · rw [if_pos h2]
          refine ⟨sU u1 6 (10 * h + k) (nI 0), ⟨EX_sU hi.1, cr_same (cr_sU hi.2) (fun j _ => ?_)⟩, rfl⟩
          unfold va_up zeM
          by_cases e : j = 10 * h + k
          · subst e
            rw [if_pos rfl, if_pos ⟨h2, by omega, by omega, by rw [show (10 * h + k) % 10 = k by omega]; exact h1⟩]
          · rw [if_neg e]
            have e2 : (N (8 + 3 * s) = 1 ∧ j / 10 = h ∧ j % 10 < k ∧ paB N s (j % 10) = true) = (N (8 + 3 * s) = 1 ∧ j / 10 = h ∧ j % 10 < k + 1 ∧ paB N s (j % 10) = true) := propext ⟨fun q => ⟨q.1, q.2.1, by omega, q.2.2.2⟩, fun q => ⟨q.1, q.2.1, by omega, q.2.2.2⟩⟩
            simp only [e2]
        · rw [if_neg h2]
          exact ⟨u1, ⟨hi.1, cr_same hi.2 (fun j _ => same (fun q => h2 q.1) j)⟩, rfl⟩
      · rw [if_pos (show paB N s k = false by simpa using h1)]
        exact ⟨u1, ⟨hi.1, cr_same hi.2 (fun j _ => same (fun q => h1 q.2) j)⟩, rfl⟩)
    fuel u (by unfold fuel; omega) ⟨EX_rf, cr_same hw (fun j _ => by unfold zeM; rw [if_neg (by omega)])⟩
  exact ⟨u', h3, h1, h2⟩
theorem mMake {u : tU} {v : tV} {N : tN} {w : Nat → Nat} (ok : okN N) (hM : CR (u 4) N 1114) (hw : CR (u 6) w 80) (hl : ∀ j, w j ≤ 9) {h s : Nat} (hh : h < N 2) (hs : s < N 0) (hk : N (8 + 3 * s) = 1 ∨ N (8 + 3 * s) = 3) : ∃ u', pX11_makeSuite u v (nI h) (nI s) = some (u', v) ∧ EX 6 u u' ∧ CR (u' 6) (mkW N w h s) 80 := by
  have hc := ok.2.1.1
  have hc2 := ok.2.1.2.2.1
  have hct : fb_ct (hdB N w h s) (N 0) ≤ N 0 := fb_ct_le _ _
  have hm := mx_le (b := paB N s) (h := h) hl (N 0)
  have hws := hl (10 * h + s)
  unfold pX11_makeSuite
  rw [mMake_L8 ok hM hw hl hh hs, Option.bind_some]
  dsimp only
  rw [productAt_eq (b := 2) (i := s) (j := 2) hM rfl rfl (by omega), Option.bind_some, idx, gd_ok (by omega) (by decide), gd_ok (by omega) (by decide), gd_ok (by omega) (by decide), cl (by omega), hw _ (by omega)]
  have fin : N (8 + 3 * s + 2) ≤ fb_ct (hdB N w h s) (N 0) → ∀ j, zeM N (va_up w (10 * h + s) (max (w (10 * h + s)) (mx (paB N s) w h (N 0)))) h s (N 0) j = mkW N w h s j := by
    intro hle j
    unfold mkW
    rw [if_neg (by omega)]
    unfold zeM suW va_up
    rw [mx_hd]
    by_cases e : j = 10 * h + s
    · subst e
      rw [if_pos rfl, if_pos rfl]
      have hps : paB N s s = false := by unfold paB; simp
      rw [if_neg (fun q => by have q4 := q.2.2.2; rw [show (10 * h + s) % 10 = s by omega, hps] at q4; cases q4)]
    · rw [if_neg e, if_neg e]
      by_cases hk1 : N (8 + 3 * s) = 1
      · rw [decide_eq_false (show ¬ N (8 + 3 * s) = 3 by omega)]
        by_cases q : j / 10 = h ∧ j % 10 < N 0 ∧ paB N s (j % 10) = true
        · rw [if_pos ⟨hk1, q⟩]
          by_cases q2 : 0 < w j
          · rw [if_pos ⟨rfl, q.1, q.2.1, by unfold hdB; rw [show 10 * h + j % 10 = j by omega]; simp [q.2.2, q2]⟩]
          · split <;> omega
        · rw [if_neg (fun q' => q q'.2), if_neg (fun q' => q ⟨q'.2.1, q'.2.2.1, by have q4 := q'.2.2.2; unfold hdB at q4; rw [Bool.and_eq_true] at q4; exact q4.1⟩)]
      · rw [decide_eq_true (show N (8 + 3 * s) = 3 by omega), if_neg (fun q => hk1 q.1), if_neg (fun q => by cases q.1)]
  by_cases hle : N (8 + 3 * s + 2) ≤ fb_ct (hdB N w h s) (N 0)
  · rw [if_pos (nI_le hle (by omega))]
    have st : ∀ x, x = max (w (10 * h + s)) (mx (paB N s) w h (N 0)) → ∃ u', (pX11_makeSuite_L135 (nI h) (nI s) fuel 0 (sU u 6 (10 * h + s) (nI x)) v) = some (u', v) ∧ EX 6 u u' ∧ CR (u' 6) (mkW N w h s) 80 := by
      intro x hx
      obtain ⟨u', r1, r2, r3⟩ := mMake_L (u := sU u 6 (10 * h + s) (nI x)) (v := v) ok (by rw [sU_r (by decide)]; exact hM) (cr_sU hw) hh hs
      exact ⟨u', r1, EX_tr (EX_sU EX_rf) r2, cr_same r3 (fun j _ => by rw [hx]; exact fin hle j)⟩
    by_cases h3 : mx (paB N s) w h (N 0) ≤ w (10 * h + s)
    · rw [if_pos (nI_le h3 (by omega))]
      obtain ⟨u', r1, r2, r3⟩ := st (w (10 * h + s)) (by omega)
      rw [r1]
      exact ⟨u', rfl, r2, r3⟩
    · rw [if_neg (nI_ge (by omega) (by omega)), gd_ok (by omega) (by decide)]
      obtain ⟨u', r1, r2, r3⟩ := st (mx (paB N s) w h (N 0)) (by omega)
      rw [r1]
      exact ⟨u', rfl, r2, r3⟩
  · rw [if_neg (nI_ge (by omega) (ok.1 _))]
    exact ⟨u, rfl, EX_rf, cr_same hw (fun j _ => by unfold mkW; rw [if_pos (by omega)])⟩
/-! what hosts have -/
def suS (N : tN) (w : Nat → Nat) (h : Nat) : Nat → Nat → Nat
  | 0 => w
  | k + 1 => if N (8 + 3 * k) = 1 ∨ N (8 + 3 * k) = 3 then mkW N (suS N w h k) h k else suS N w h k
theorem suS_le {N : tN} {w : Nat → Nat} {h c : Nat} (hw : ∀ j, w j ≤ c) : ∀ k j, suS N w h k j ≤ c
  | 0, j => hw j
  | k + 1, j => by
    rw [suS]
    split
    · exact mkW_le (suS_le hw k) j
    · exact suS_le hw k j
def suH (N : tN) (w : Nat → Nat) : Nat → Nat → Nat
  | 0 => w
  | h + 1 => suS N (suH N w h) h (N 0)
theorem suH_le {N : tN} {w : Nat → Nat} {c : Nat} (hw : ∀ j, w j ≤ c) : ∀ k j, suH N w k j ≤ c
  | 0, j => hw j
  | k + 1, j => suS_le (suH_le hw k) _ j
def haN (N : tN) : Nat → Nat := suH N (hfN N (N 3)) (N 2)
theorem haN_le {N : tN} (ok : okN N) (j : Nat) : haN N j ≤ 9 := suH_le (hfN_le ok (N 3) (Nat.le_refl _)) _ j
theorem isSuite_eq {u : tU} {v : tV} {N : tN} (ok : okN N) (hX : xB u v 10 1 N) {s : Nat} (hs : s < N 0) : pX6_isSuite u v (nI s) = some (b2i (decide (N (8 + 3 * s) = 1 ∨ N (8 + 3 * s) = 3))) := by
  have hc := ok.2.1.1
  unfold pX6_isSuite pX10_isUnder
  rw [gd_ok (j := s) (n := 10) (by omega) (by decide), cl (j := s) (by omega), (hX.2.1 s hs).1]
  rw [if_neg (show ¬ (1 : Int32) = (0 : Int32) from by decide), if_pos (show (1 : Int32) = (1 : Int32) from rfl)]
  simp only [show (1 : Int32) = nI 1 from rfl, show (3 : Int32) = nI 3 from rfl, nI_lit 1 (by decide) (ok.1 (8 + 3 * s)), nI_lit 3 (by decide) (ok.1 (8 + 3 * s))]
  by_cases h1 : N (8 + 3 * s) = 1
  · rw [if_pos h1]; simp [h1]; rfl
  · rw [if_neg h1]
    by_cases h3 : N (8 + 3 * s) = 3
    · rw [if_pos h3]; simp [h3]; rfl
    · rw [if_neg h3]; simp [h1, h3]; rfl
theorem xSuites {u : tU} {v : tV} {N : tN} {w : Nat → Nat} (ok : okN N) (hX : xB u v 10 1 N) (hw : CR (u 1) w 80) (hl : ∀ j, w j ≤ 9) {h : Nat} (hh : h < N 2) : ∃ u', pX2_makeSuites u v (nI h) = some (u', v) ∧ EX 1 u u' ∧ CR (u' 1) (suS N w h (N 0)) 80 := by
  have hc := ok.2.1.1
  obtain ⟨u', ⟨h1, h2⟩, h3⟩ := stL (L := pX2_makeSuites_L2 (nI h)) (E := N 0) (I := fun k u' => EX 1 u u' ∧ CR (u' 1) (suS N w h k) 80) (v := v)
    (fun n u1 hi => by
      have hX1 := xB_EX (by decide) hi.1 hX
      rw [pX2_makeSuites_L2, hX1.1 0 (by decide), if_pos (nI_le (Nat.le_refl _) (by omega))])
    (fun n u1 k hk hi => by
      have hX1 := xB_EX (by decide) hi.1 hX
      rw [pX2_makeSuites_L2, hX1.1 0 (by decide), if_neg (nI_ge hk (by omega)), isSuite_eq ok hX1 hk, Option.bind_some, nI_1]
      simp only [b2i_0, decide_eq_false_iff_not]
      rw [suS]
      by_cases hs : N (8 + 3 * k) = 1 ∨ N (8 + 3 * k) = 3
      · rw [if_neg (show ¬ ¬ (N (8 + 3 * k) = 1 ∨ N (8 + 3 * k) = 3) from fun q => q hs)]
        obtain ⟨u2, r1, r2, r3⟩ := xMake ok hX1 hi.2 (suS_le hl k) hh hk hs
        rw [r1, Option.bind_some]
        exact ⟨u2, ⟨EX_tr hi.1 r2, by rw [if_pos hs]; exact r3⟩, rfl⟩
      · rw [if_pos (show ¬ (N (8 + 3 * k) = 1 ∨ N (8 + 3 * k) = 3) from hs)]
        exact ⟨u1, ⟨hi.1, by rw [if_neg hs]; exact hi.2⟩, rfl⟩)
    fuel u (by unfold fuel; omega) ⟨EX_rf, hw⟩
  refine ⟨u', ?_, h1, h2⟩
  unfold pX2_makeSuites
  rw [h3]; rfl
theorem mSuites {u : tU} {v : tV} {N : tN} {w : Nat → Nat} (ok : okN N) (hM : CR (u 4) N 1114) (hw : CR (u 6) w 80) (hl : ∀ j, w j ≤ 9) {h : Nat} (hh : h < N 2) : ∃ u', pX11_tellHad_L113 (nI h) fuel 0 u v = some (u', v) ∧ EX 6 u u' ∧ CR (u' 6) (suS N w h (N 0)) 80 := by
  have hc := ok.2.1.1
  obtain ⟨u', ⟨h1, h2⟩, h3⟩ := stL (L := pX11_tellHad_L113 (nI h)) (E := N 0) (I := fun k u' => EX 6 u u' ∧ CR (u' 6) (suS N w h k) 80) (v := v)
    (fun n u1 hi => by
      have hM1 : CR (u1 4) N 1114 := by rw [hi.1 4 (by decide)]; exact hM
      rw [pX11_tellHad_L113, hM1 0 (by decide), if_pos (nI_le (Nat.le_refl _) (by omega))])
    (fun n u1 k hk hi => by
      have hM1 : CR (u1 4) N 1114 := by rw [hi.1 4 (by decide)]; exact hM
      rw [pX11_tellHad_L113, hM1 0 (by decide), if_neg (nI_ge hk (by omega)), productAt_eq (b := 0) (i := k) (j := 0) hM1 rfl rfl (by omega), Option.bind_some, Option.bind_some, nI_1]
      simp only [Nat.add_zero, show (1 : Int32) = nI 1 from rfl, show (3 : Int32) = nI 3 from rfl, nI_lit 1 (by decide) (ok.1 (8 + 3 * k)), nI_lit 3 (by decide) (ok.1 (8 + 3 * k))]
      rw [suS]
      by_cases hs : N (8 + 3 * k) = 1 ∨ N (8 + 3 * k) = 3
      · obtain ⟨u2, r1, r2, r3⟩ := mMake ok hM1 hi.2 (suS_le hl k) hh hk hs
        rw [r1, Option.bind_some]
        refine ⟨u2, ⟨EX_tr hi.1 r2, by rw [if_pos hs]; exact r3⟩, ?_⟩
        by_cases h1 : N (8 + 3 * k) = 1
        · rw [if_pos h1]
        · rw [if_neg h1, if_pos (by omega)]
      · refine ⟨u1, ⟨hi.1, by rw [if_neg hs]; exact hi.2⟩, ?_⟩
        rw [if_neg (fun q => hs (Or.inl q)), if_neg (fun q => hs (Or.inr q))])
    fuel u (by unfold fuel; omega) ⟨EX_rf, hw⟩
  exact ⟨u', h3, h1, h2⟩
theorem xFill {u : tU} {v : tV} {N : tN} (ok : okN N) (hX : xB u v 10 1 N) : ∃ u', pX2_fill u v = some (u', v) ∧ EX 1 u u' ∧ CR (u' 1) (haN N) 80 := by
  have hc := ok.2.1.2.2.1
  obtain ⟨u1, a1, a2, a3⟩ := xZero (u := u) (v := v)
  obtain ⟨u2, b1, b2, b3⟩ := xHadF ok (xB_EX (by decide) a2 hX) a3
  have hX2 := xB_EX (by decide) (EX_tr a2 b2) hX
  obtain ⟨u', ⟨h1, h2⟩, h3⟩ := stL (L := pX2_fill_L75) (E := N 2) (I := fun k u' => EX 1 u2 u' ∧ CR (u' 1) (suH N (hfN N (N 3)) k) 80) (v := v)
    (fun n u1 hi => by
      have hX1 := xB_EX (by decide) hi.1 hX2
      rw [pX2_fill_L75, hX1.1 2 (by decide), if_pos (nI_le (Nat.le_refl _) (by omega))])
    (fun n u1 k hk hi => by
      have hX1 := xB_EX (by decide) hi.1 hX2
      obtain ⟨u3, r1, r2, r3⟩ := xSuites ok hX1 hi.2 (suH_le (hfN_le ok (N 3) (Nat.le_refl _)) k) hk
      rw [pX2_fill_L75, hX1.1 2 (by decide), if_neg (nI_ge hk (by omega)), r1, Option.bind_some, nI_1]
      exact ⟨u3, ⟨EX_tr hi.1 r2, r3⟩, rfl⟩)
    fuel u2 (by unfold fuel; omega) ⟨EX_rf, b3⟩
  refine ⟨u', ?_, EX_tr (EX_tr a2 b2) h1, h2⟩
  unfold pX2_fill
  rw [a1, Option.bind_some]
  dsimp only
  rw [b1, Option.bind_some]
  dsimp only
  rw [h3]; rfl
theorem mTell {u : tU} {v : tV} {N : tN} (ok : okN N) (hM : CR (u 4) N 1114) : ∃ u', pX11_tellHad u v = some (u', v) ∧ EX 6 u u' ∧ CR (u' 6) (haN N) 80 := by
  have hc := ok.2.1.2.2.1
  obtain ⟨u1, a1, a2, a3⟩ := mZero (u := u) (v := v)
  obtain ⟨u2, b1, b2, b3⟩ := mHadF ok (by rw [a2 4 (by decide)]; exact hM) a3
  have hM2 : CR (u2 4) N 1114 := by rw [b2 4 (by decide), a2 4 (by decide)]; exact hM
  obtain ⟨u', ⟨h1, h2⟩, h3⟩ := stL (L := pX11_tellHad_L101) (E := N 2) (I := fun k u' => EX 6 u2 u' ∧ CR (u' 6) (suH N (hfN N (N 3)) k) 80) (v := v)
    (fun n u1 hi => by
      have hM1 : CR (u1 4) N 1114 := by rw [hi.1 4 (by decide)]; exact hM2
      rw [pX11_tellHad_L101, hM1 2 (by decide), if_pos (nI_le (Nat.le_refl _) (by omega))])
    (fun n u1 k hk hi => by
      have hM1 : CR (u1 4) N 1114 := by rw [hi.1 4 (by decide)]; exact hM2
      obtain ⟨u3, r1, r2, r3⟩ := mSuites ok hM1 hi.2 (suH_le (hfN_le ok (N 3) (Nat.le_refl _)) k) hk
      rw [pX11_tellHad_L101, hM1 2 (by decide), if_neg (nI_ge hk (by omega)), r1, Option.bind_some, nI_1]
      exact ⟨u3, ⟨EX_tr hi.1 r2, r3⟩, rfl⟩)
    fuel u2 (by unfold fuel; omega) ⟨EX_rf, b3⟩
  refine ⟨u', ?_, EX_tr (EX_tr a2 b2) h1, h2⟩
  unfold pX11_tellHad
  rw [a1, Option.bind_some]
  dsimp only
  rw [b1, Option.bind_some]
  dsimp only
  rw [h3]; rfl
