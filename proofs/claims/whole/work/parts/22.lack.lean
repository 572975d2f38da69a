theorem stS {L : Nat → Int32 → Int32 → tU → tV → Option (Int32 × tU × tV)} {E : Nat} {I : Nat → tU → Prop} {g : Nat → Nat} {v : tV} (he : ∀ n s u, I E u → L (n + 1) s (nI E) u v = some (s, u, v)) (hs : ∀ n s u k, k < E → I k u → ∃ u', I (k + 1) u' ∧ L (n + 1) s (nI k) u v = L n (s + nI (g k)) (nI (k + 1)) u' v) : ∀ n u, E < n → I 0 u → ∃ u', I E u' ∧ L n 0 0 u v = some (nI (fb_sm g E), u', v) := by
  have key : ∀ (e k n : Nat) (u : tU), k + e = E → e < n → I k u → ∃ u', I E u' ∧ L n (nI (fb_sm g k)) (nI k) u v = some (nI (fb_sm g E), u', v) := by
    intro e
    induction e with
    | zero =>
      intro k n u hk hn hi
      obtain ⟨n, rfl⟩ : ∃ n', n = n' + 1 := ⟨n - 1, by omega⟩
      obtain rfl : k = E := by omega
      exact ⟨u, hi, he n _ u hi⟩
    | succ e ih =>
      intro k n u hk hn hi
      obtain ⟨n, rfl⟩ : ∃ n', n = n' + 1 := ⟨n - 1, by omega⟩
      obtain ⟨u', h1, h2⟩ := hs n (nI (fb_sm g k)) u k (by omega) hi
      rw [h2, nI_add, ← fb_sm_succ]
      exact ih (k + 1) n u' (by omega) (by omega) h1
  intro n u hn hi
  exact key E 0 n u (by omega) hn hi
noncomputable def LK (N : tN) (w : Nat → Nat) (d : Nat) (wo sp : Int32) (p : Nat) : Nat := lkN (fun V => neN N w p V sp) (fun c => aC (prN N) (vrN N) (cpN N d wo p) (N 5) c)
noncomputable def CS (N : tN) (w : Nat → Nat) (d : Nat) (wo sp : Int32) (p : Nat) : Nat := csN (fun V => neN N w p V sp) (fun c => aC (prN N) (vrN N) (cpN N d wo p) (N 5) c)
noncomputable def LKs (N : tN) (w : Nat → Nat) (d : Nat) (wo sp : Int32) : Nat := fb_sm (fun p => LK N w d wo sp p) (N 0)
noncomputable def CSs (N : tN) (w : Nat → Nat) (d : Nat) (wo sp : Int32) : Nat := fb_sm (fun p => CS N w d wo sp p) (N 0)
/-- w' are the class's versions, w the reference's with a host spared -/
def HW (N : tN) (w w' : Nat → Nat) (sp : Int32) : Prop := ∀ p V, p < N 0 → V ≤ 9 → neN N w p V sp = if N (8 + 3 * p) = 2 then 0 else nX N w' p V
theorem HW_of {N : tN} {w w' : Nat → Nat} {sp : Int32} (h : ∀ p hh, p < N 0 → hh < N 2 → w' (10 * hh + p) = if nI hh = sp then 0 else w (10 * hh + p)) : HW N w w' sp := by
  intro p V hp hV
  split
  · rename_i q
    unfold neN
    refine Nat.le_zero.mp (Nat.le_trans (fb_sm_bound (c := 0) (fun j _ => ?_)) (by omega))
    unfold neB
    rw [decide_eq_true q]; simp [bn]
  · rename_i q
    unfold neN nX
    refine fb_sm_cong (fun j hj => ?_)
    unfold neB
    rw [h p j hp hj, decide_eq_false q]
    by_cases e : nI j = sp
    · rw [decide_eq_true e, if_pos e]; simp [bn]
    · rw [decide_eq_false e, if_neg e]; simp
theorem HW_rf {N : tN} (ok : okN N) {w : Nat → Nat} : HW N w w (-1) := HW_of (fun p hh _ h2 => by rw [if_neg (nneg (by have := ok.2.1.2.2.1; omega))])
theorem xServeAll {u : tU} {v : tV} {N : tN} {w w' : Nat → Nat} (ok : okN N) (hX : xB u v 10 1 N) (hw : CR (u 1) w' 80) (hl : ∀ j, w' j ≤ 9) {d : Nat} {wo sp : Int32} (hH : HW N w w' sp) (hf : CR (u 2) (c0N N d wo) (N 5)) (h3 : u 0 3 = nI 0) (h4 : u 0 4 = nI 0) : ∃ u', pX5_serveAll u v = some (u', v) ∧ EM u u' ∧ u' 0 3 = nI (LKs N w d wo sp) ∧ u' 0 4 = nI (CSs N w d wo sp) := by
  have hc := ok.2.1.1
  obtain ⟨u', ⟨lf, h1, -, -, h5, h6, h7⟩, h8⟩ := stL (L := pX5_serveAll_L2) (E := N 0) (I := fun k u' => ∃ lf : Nat → Nat, CR (u' 2) lf (N 5) ∧ (∀ g, g < N 5 → lf g ≤ c0N N d wo g) ∧ (∀ g, g < N 5 → k ≤ pdN N g → lf g = c0N N d wo g) ∧ EM u u' ∧ u' 0 3 = nI (fb_sm (fun p => LK N w d wo sp p) k) ∧ u' 0 4 = nI (fb_sm (fun p => CS N w d wo sp p) k)) (v := v)
    (fun n u1 hi => by
      obtain ⟨_, _, _, _, he, _⟩ := hi
      have hX1 := xB_EM he hX
      rw [pX5_serveAll_L2, hX1.1 0 (by decide), if_pos (nI_le (Nat.le_refl _) (by omega))])
    (fun n u1 k hk hi => by
      obtain ⟨lf, i1, i2, i3, he, i5, i6⟩ := hi
      have hX1 := xB_EM he hX
      obtain ⟨u2, lf2, r1, r2, r3, r4, r5, r6, r7⟩ := xProduct (d := d) (wo := wo) (n := fun V => neN N w k V sp) ok hX1 (cr_EM he hw) hl hk i1 i2 (fun g hg hp => i3 g hg (by omega)) i5 i6 (fun V hV => hH k V hk hV)
      rw [pX5_serveAll_L2, hX1.1 0 (by decide), if_neg (nI_ge hk (by omega)), r1, Option.bind_some, nI_1]
      exact ⟨u2, ⟨lf2, r3, r4, fun g hg hp => by rw [r5 g hg (by omega)]; exact i3 g hg (by omega), EM_tr he r2, by rw [r6, fb_sm_succ]; rfl, by rw [r7, fb_sm_succ]; rfl⟩, rfl⟩)
    fuel u (by unfold fuel; omega) ⟨c0N N d wo, hf, fun _ _ => Nat.le_refl _, fun _ _ _ => rfl, EM_rf, h3, h4⟩
  refine ⟨u', ?_, h5, h6, h7⟩
  unfold pX5_serveAll
  rw [h8]; rfl
theorem xLackOn {u : tU} {v : tV} {N : tN} {w w' : Nat → Nat} (ok : okN N) (hX : xB u v 10 1 N) (hw : CR (u 1) w' 80) (hl : ∀ j, w' j ≤ 9) {d : Nat} {sp : Int32} (hd : d < 2 ^ 31) (hH : HW N w w' sp) : ∃ u', pX10_lackOn u v (nI d) = some (nI (LKs N w d (-1) sp), u', v) ∧ EM u u' := by
  obtain ⟨u1, a1, a2, a3, a4, a5⟩ := xBegin ok hX hd
  obtain ⟨u2, b1, b2, b3, -⟩ := xServeAll ok (xB_EM a2 hX) (cr_EM a2 hw) hl hH a3 a4 a5
  refine ⟨u2, ?_, EM_tr a2 b2⟩
  unfold pX10_lackOn
  rw [a1, Option.bind_some]
  dsimp only
  rw [b1, Option.bind_some]
  dsimp only
  rw [b3]
theorem mLackOn {u : tU} {v : tV} {N : tN} {w : Nat → Nat} (ok : okN N) (hM : CR (u 4) N 1114) (hw : CR (u 6) w 80) (hl : ∀ j, w j ≤ 9) {d : Nat} {wo sp : Int32} (hd : d < 2 ^ 31) : ∃ u', pX11_lackOn u v (nI d) wo sp = some (nI (LKs N w d wo sp), u', v) ∧ EN u u' := by
  have hc := ok.2.1.1
  obtain ⟨u', h1, h2⟩ := stS (L := pX11_lackOn_L6 (nI d) wo sp) (E := N 0) (I := fun _ u' => EN u u') (g := fun p => LK N w d wo sp p) (v := v)
    (fun n s u1 hi => by
      have hM1 : CR (u1 4) N 1114 := by rw [hi.1 4 (by decide) (by decide)]; exact hM
      rw [pX11_lackOn_L6, hM1 0 (by decide), if_pos (nI_le (Nat.le_refl _) (by omega))])
    (fun n s u1 k hk hi => by
      have hM1 : CR (u1 4) N 1114 := by rw [hi.1 4 (by decide) (by decide)]; exact hM
      have hw1 : CR (u1 6) w 80 := by rw [hi.1 6 (by decide) (by decide)]; exact hw
      obtain ⟨u2, r1, r2, r3, -⟩ := mMatch (wo := wo) (sp := sp) ok hM1 hw1 hl hk hd
      rw [pX11_lackOn_L6, hM1 0 (by decide), if_neg (nI_ge hk (by omega)), r1, Option.bind_some, nI_1]
      refine ⟨u2, EN_tr hi r2, ?_⟩
      dsimp only
      rw [r3]; rfl)
    fuel u (by unfold fuel; omega) EN_rf
  refine ⟨u', ?_, h1⟩
  unfold pX11_lackOn
  rw [h2]; rfl
theorem mCostAll {u : tU} {v : tV} {N : tN} {w : Nat → Nat} (ok : okN N) (hM : CR (u 4) N 1114) (hw : CR (u 6) w 80) (hl : ∀ j, w j ≤ 9) : ∃ u', pX11_cost_L8 fuel 0 0 u v = some (nI (CSs N w (N 6) (-1) (-1)), u', v) ∧ EN u u' := by
  have hc := ok.2.1.1
  obtain ⟨u', h1, h2⟩ := stS (L := pX11_cost_L8) (E := N 0) (I := fun _ u' => EN u u') (g := fun p => CS N w (N 6) (-1) (-1) p) (v := v)
    (fun n s u1 hi => by
      have hM1 : CR (u1 4) N 1114 := by rw [hi.1 4 (by decide) (by decide)]; exact hM
      rw [pX11_cost_L8, hM1 0 (by decide), if_pos (nI_le (Nat.le_refl _) (by omega))])
    (fun n s u1 k hk hi => by
      have hM1 : CR (u1 4) N 1114 := by rw [hi.1 4 (by decide) (by decide)]; exact hM
      have hw1 : CR (u1 6) w 80 := by rw [hi.1 6 (by decide) (by decide)]; exact hw
      obtain ⟨u2, r1, r2, -, r3⟩ := mMatch (d := N 6) (wo := -1) (sp := -1) ok hM1 hw1 hl hk (ok.1 6)
      rw [pX11_cost_L8, hM1 0 (by decide), if_neg (nI_ge hk (by omega)), hM1 6 (by decide), r1, Option.bind_some, nI_1]
      refine ⟨u2, EN_tr hi r2, ?_⟩
      dsimp only
      rw [r3]; rfl)
    fuel u (by unfold fuel; omega) EN_rf
  exact ⟨u', h2, h1⟩
/-! more rights open, less lacks -/
theorem aC_cap {pr vr cp cp' : Nat → Nat} {G c v : Nat} (h : ∀ g, g < G → cp g ≤ cp' g) : aC pr vr cp G c v ≤ aC pr vr cp' G c v := sS_le (fun g hg hb => Or.inr ⟨hb, h g hg⟩)
theorem isR_mono {n A A' : Nat → Nat} {x y : Nat} (h : ∀ v, v ≤ 9 → A v ≤ A' v) (hx : isR n A x) (hy : isR n A' y) : x ≤ y := by
  obtain ⟨v, hv, e⟩ := hy.2
  have := hx.1 v hv
  have := h v hv
  omega
theorem isR_ex (n A : Nat → Nat) : ∃ x, isR n A x := by
  have key : ∀ k, ∃ v, v ≤ k ∧ ∀ u, u ≤ k → n v + A v ≤ n u + A u := by
    intro k
    induction k with
    | zero => exact ⟨0, Nat.le_refl _, fun u hu => by rw [show u = 0 by omega]; exact Nat.le_refl _⟩
    | succ k ih =>
      obtain ⟨v, h1, h2⟩ := ih
      by_cases q : n v + A v ≤ n (k + 1) + A (k + 1)
      · exact ⟨v, by omega, fun u hu => by
          rcases Nat.lt_or_eq_of_le hu with z | z
          · exact h2 u (by omega)
          · rw [z]; exact q⟩
      · exact ⟨k + 1, Nat.le_refl _, fun u hu => by
          rcases Nat.lt_or_eq_of_le hu with z | z
          · have := h2 u (by omega); omega
          · rw [z]; exact Nat.le_refl _⟩
  obtain ⟨v, h1, h2⟩ := key 9
  exact ⟨n v + A v, fun u hu => h2 u hu, v, h1, rfl⟩
theorem LK_mono {N : tN} {w : Nat → Nat} {d d' : Nat} {wo sp : Int32} {p : Nat} (h : ∀ g, g < N 5 → opB N d g = true → opB N d' g = true) : LK N w d' wo sp p ≤ LK N w d wo sp p := by
  unfold LK lkN
  obtain ⟨x, hx⟩ := isR_ex (fun V => neN N w p V sp) (aC (prN N) (vrN N) (cpN N d wo p) (N 5) 1000)
  obtain ⟨y, hy⟩ := isR_ex (fun V => neN N w p V sp) (aC (prN N) (vrN N) (cpN N d' wo p) (N 5) 1000)
  rw [← rkV_eq hx, ← rkV_eq hy]
  have : x ≤ y := isR_mono (fun v _ => aC_cap (fun g hg => by
    unfold cpN
    split
    · unfold c0N
      by_cases q : opB N d g = true ∧ ¬ nI g = wo
      · rw [if_pos q, if_pos ⟨h g hg q.1, q.2⟩]; exact Nat.le_refl _
      · rw [if_neg q]; exact Nat.zero_le _
    · exact Nat.le_refl _)) hx hy
  omega
theorem LKs_mono {N : tN} {w : Nat → Nat} {d d' : Nat} {wo sp : Int32} (h : ∀ g, g < N 5 → opB N d g = true → opB N d' g = true) : LKs N w d' wo sp ≤ LKs N w d wo sp := fb_sm_le (fun _ _ => LK_mono h)
theorem LK_le {N : tN} {w : Nat → Nat} {d : Nat} {wo sp : Int32} {p : Nat} : LK N w d wo sp p ≤ N 2 := by
  unfold LK lkN
  have := neN_le N w p 9 sp
  show neN N w p 9 sp - _ ≤ N 2
  omega
theorem LKs_le {N : tN} (ok : okN N) {w : Nat → Nat} {d : Nat} {wo sp : Int32} : LKs N w d wo sp ≤ 80 := by
  have h := fb_sm_bound (f := fun p => LK N w d wo sp p) (c := 8) (n := N 0) (fun p _ => Nat.le_trans LK_le ok.2.1.2.2.1)
  have := ok.2.1.1
  unfold LKs
  omega
/-! the first day with more lack -/
def ovN (N : tN) (g : Nat) : Nat := N (1054 + 6 * g + 5) + 1
def frD (N : tN) (g : Nat) : Nat := N (1054 + 6 * g + 4)
theorem quiet {N : tN} {w : Nat → Nat} {L t D : Nat} (h0 : LKs N w t (-1) (-1) ≤ L) (hD : ∀ g, g < N 5 → t < ovN N g → ovN N g < D → LKs N w (ovN N g) (-1) (-1) ≤ L) : ∀ d, t ≤ d → d < D → LKs N w d (-1) (-1) ≤ L := by
  intro d
  induction d with
  | zero => intro h1 h2; rw [show t = 0 by omega] at h0; exact h0
  | succ d ih =>
    intro h1 h2
    by_cases e : t = d + 1
    · rw [← e]; exact h0
    · have hd := ih (by omega) (by omega)
      rcases Classical.em (∃ g, g < N 5 ∧ ovN N g = d + 1) with ⟨g, hg, e2⟩ | q
      · rw [← e2]; exact hD g hg (by omega) (by omega)
      · refine Nat.le_trans (LKs_mono (fun g hg ho => ?_)) hd
        unfold opB at ho ⊢
        rw [Bool.and_eq_true] at ho ⊢
        have h3 := of_decide_eq_true ho.1
        have h4 := of_decide_eq_true ho.2
        refine ⟨decide_eq_true (by omega), decide_eq_true ?_⟩
        rcases Nat.lt_or_ge (N (1054 + 6 * g + 5)) (d + 1) with z | z
        · exact absurd ⟨g, hg, by unfold ovN; omega⟩ q
        · exact z
/-- D is the first day above L, or 10000 -/
def fdN (N : tN) (w : Nat → Nat) (L t D : Nat) : Prop := D ≤ 10000 ∧ t ≤ D ∧ (∀ d, t ≤ d → d < D → LKs N w d (-1) (-1) ≤ L) ∧ (D < 10000 → L < LKs N w D (-1) (-1) ∧ (D = t ∨ ∃ g, g < N 5 ∧ ovN N g = D))
theorem xFirstDay_L {u0 : tU} {v : tV} {N : tN} {w : Nat → Nat} (ok : okN N) (hX : xB u0 v 10 1 N) (hw : CR (u0 1) w 80) (hl : ∀ j, w j ≤ 9) {L : Nat} (hL : L < 2 ^ 31) :
    ∀ (e k i D : Nat) (u : tU), k + e = N 5 → e < i → EM u0 u → D ≤ 10000 → (D = 10000 ∨ (N 6 < D ∧ L < LKs N w D (-1) (-1) ∧ ∃ g, g < N 5 ∧ ovN N g = D)) → (∀ g, g < k → N 6 < ovN N g → ovN N g < D → LKs N w (ovN N g) (-1) (-1) ≤ L) →
      ∃ D' u', pX10_firstDayAbove_L29 (nI L) i (nI D) (nI k) u v = some (nI D', u', v) ∧ EM u0 u' ∧ D' ≤ 10000 ∧ (D' = 10000 ∨ (N 6 < D' ∧ L < LKs N w D' (-1) (-1) ∧ ∃ g, g < N 5 ∧ ovN N g = D')) ∧ ∀ g, g < N 5 → N 6 < ovN N g → ovN N g < D' → LKs N w (ovN N g) (-1) (-1) ≤ L := by
  have hG : N 5 ≤ 10 := ok.2.1.2.2.2.2.2.1
  have h6 : N 6 ≤ 9999 := ok.2.1.2.2.2.2.2.2.1
  intro e
  induction e with
  | zero =>
    intro k i D u hk hi hE hD h1 h2
    obtain ⟨i, rfl⟩ : ∃ i', i = i' + 1 := ⟨i - 1, by omega⟩
    obtain rfl : k = N 5 := by omega
    have hX1 := xB_EM hE hX
    exact ⟨D, u, by rw [pX10_firstDayAbove_L29, hX1.1 5 (by decide), if_pos (nI_le (Nat.le_refl _) (by omega))], hE, hD, h1, h2⟩
  | succ e ih =>
    intro k i D u hk hi hE hD h1 h2
    obtain ⟨i, rfl⟩ : ∃ i', i = i' + 1 := ⟨i - 1, by omega⟩
    have hkG : k < N 5 := by omega
    have hX1 := xB_EM hE hX
    have x6 : u 30 k = nI (N (1054 + 6 * k + 5)) := (hX1.2.2.2.2.2.2 k hkG).2.2.2.2.2
    have hov : ovN N k ≤ 10000 := by have := (ok.2.2.2.2.2.2.2 k hkG).2.2.2.2.2.2; unfold ovN; omega
    have eo : nI (N (1054 + 6 * k + 5)) + (1 : Int32) = nI (ovN N k) := nI_1 _
    obtain ⟨u2, r1, r2⟩ := xLackOn ok hX1 (cr_EM hE hw) hl (d := ovN N k) (by omega) (HW_rf ok (w := w))
    have hlk := LKs_le ok (w := w) (d := ovN N k) (wo := -1) (sp := -1)
    rw [pX10_firstDayAbove_L29, hX1.1 5 (by decide), if_neg (nI_ge hkG (by omega)), gd_ok (j := k) (n := 10) (by omega) (by decide), cl (j := k) (by omega), x6, eo, hX1.1 6 (by decide), r1, Option.bind_some, nI_1]
    dsimp only
    simp only [leI (show ovN N k < 2 ^ 31 by omega) (ok.1 6), leI (show D < 2 ^ 31 by omega) (show ovN N k < 2 ^ 31 by omega), leI (show LKs N w (ovN N k) (-1) (-1) < 2 ^ 31 by omega) hL]
    have ext : ∀ D1, (ovN N k ≤ N 6 ∨ D1 ≤ ovN N k ∨ LKs N w (ovN N k) (-1) (-1) ≤ L) → D1 ≤ D → ∀ g, g < k + 1 → N 6 < ovN N g → ovN N g < D1 → LKs N w (ovN N g) (-1) (-1) ≤ L := fun D1 hor hle g hg a b => by
      rcases Nat.lt_or_eq_of_le (Nat.le_of_lt_succ hg) with z | z
      · exact h2 g z a (by omega)
      · subst z
        rcases hor with y | y | y
        · omega
        · omega
        · exact y
    by_cases q1 : ovN N k ≤ N 6
    · rw [if_pos q1]
      exact ih (k + 1) i D u (by omega) (by omega) hE hD h1 (ext D (Or.inl q1) (Nat.le_refl _))
    · rw [if_neg q1]
      by_cases q2 : D ≤ ovN N k
      · rw [if_pos q2]
        exact ih (k + 1) i D u (by omega) (by omega) hE hD h1 (ext D (Or.inr (Or.inl q2)) (Nat.le_refl _))
      · rw [if_neg q2]
        by_cases q3 : LKs N w (ovN N k) (-1) (-1) ≤ L
        · rw [if_pos q3]
          exact ih (k + 1) i D u2 (by omega) (by omega) (EM_tr hE r2) hD h1 (ext D (Or.inr (Or.inr q3)) (Nat.le_refl _))
        · rw [if_neg q3]
          exact ih (k + 1) i (ovN N k) u2 (by omega) (by omega) (EM_tr hE r2) (by omega) (Or.inr ⟨by omega, by omega, k, hkG, rfl⟩) (ext (ovN N k) (Or.inr (Or.inl (Nat.le_refl _))) (by omega))
theorem xFirstDay {u : tU} {v : tV} {N : tN} {w : Nat → Nat} (ok : okN N) (hX : xB u v 10 1 N) (hw : CR (u 1) w 80) (hl : ∀ j, w j ≤ 9) {L : Nat} (hL : L < 2 ^ 31) : ∃ D u', pX10_firstDayAbove u v (nI L) = some (nI D, u', v) ∧ EM u u' ∧ fdN N w L (N 6) D := by
  have hG : N 5 ≤ 10 := ok.2.1.2.2.2.2.2.1
  have h6 : N 6 ≤ 9999 := ok.2.1.2.2.2.2.2.2.1
  obtain ⟨u1, a1, a2⟩ := xLackOn ok hX hw hl (d := N 6) (ok.1 6) (HW_rf ok (w := w))
  have hX1 := xB_EM a2 hX
  have hlk := LKs_le ok (w := w) (d := N 6) (wo := -1) (sp := -1)
  unfold pX10_firstDayAbove
  rw [hX.1 6 (by decide), a1, Option.bind_some]
  dsimp only
  simp only [leI (show LKs N w (N 6) (-1) (-1) < 2 ^ 31 by omega) hL]
  by_cases q : LKs N w (N 6) (-1) (-1) ≤ L
  · rw [if_pos q]
    obtain ⟨D, u2, b1, b2, b3, b4, b5⟩ := xFirstDay_L ok hX hw hl hL (N 5) 0 fuel 10000 u1 (by omega) (by unfold fuel; omega) a2 (Nat.le_refl _) (Or.inl rfl) (fun g hg => absurd hg (Nat.not_lt_zero g))
    have b1' : pX10_firstDayAbove_L29 (nI L) fuel 10000 0 u1 v = some (nI D, u2, v) := b1
    rw [b1', Option.bind_some]
    refine ⟨D, u2, rfl, b2, b3, by omega, quiet q (fun g hg h1 h2 => b5 g hg h1 h2), fun hD => ?_⟩
    rcases b4 with z | ⟨z1, z2, z3⟩
    · omega
    · exact ⟨z2, Or.inr z3⟩
  · rw [if_neg q, hX1.1 6 (by decide)]
    exact ⟨N 6, u1, rfl, a2, by omega, Nat.le_refl _, fun d h1 h2 => by omega, fun _ => ⟨by omega, Or.inl rfl⟩⟩
/-- the next day on which a right begins or is over -/
def nxP (N : tN) (d k x : Nat) : Prop := d < x ∧ x ≤ 10000 ∧ (x = 10000 ∨ ∃ g, g < N 5 ∧ (frD N g = x ∨ ovN N g = x)) ∧ ∀ g, g < k → (d < frD N g → x ≤ frD N g) ∧ (d < ovN N g → x ≤ ovN N g)
theorem mNext {u : tU} {v : tV} {N : tN} (ok : okN N) (hM : CR (u 4) N 1114) {d : Nat} (hd : d ≤ 9999) : ∃ x, pX11_nextDay u v (nI d) = some (nI x) ∧ nxP N d (N 5) x := by
  have hG : N 5 ≤ 10 := ok.2.1.2.2.2.2.2.1
  have key : ∀ (e k i x : Nat), k + e = N 5 → e < i → nxP N d k x → ∃ x', pX11_nextDay_L6 u v (nI d) i (nI x) (nI k) = some (nI x') ∧ nxP N d (N 5) x' := by
    intro e
    induction e with
    | zero =>
      intro k i x hk hi h
      obtain ⟨i, rfl⟩ : ∃ i', i = i' + 1 := ⟨i - 1, by omega⟩
      obtain rfl : k = N 5 := by omega
      exact ⟨x, by rw [pX11_nextDay_L6, hM 5 (by decide), if_pos (nI_le (Nat.le_refl _) (by omega))], h⟩
    | succ e ih =>
      intro k i x hk hi h
      obtain ⟨i, rfl⟩ : ∃ i', i = i' + 1 := ⟨i - 1, by omega⟩
      have hkG : k < N 5 := by omega
      obtain ⟨h1, h2, h3, h4⟩ := h
      have hgg := (ok.2.2.2.2.2.2.2 k hkG).2.2.2.2.2
      have hfr : frD N k ≤ 9999 := by unfold frD; omega
      have hov : ovN N k ≤ 10000 := by unfold ovN; omega
      have hfo : frD N k < ovN N k := by unfold frD ovN; omega
      have eo : nI (N (1054 + 6 * k + 5)) + (1 : Int32) = nI (ovN N k) := nI_1 _
      rw [pX11_nextDay_L6, hM 5 (by decide), if_neg (nI_ge hkG (by omega)), rightAt_eq (b := 4) (i := k) (j := 4) hM rfl rfl (by omega), rightAt_eq (b := 5) (i := k) (j := 5) hM rfl rfl (by omega), Option.bind_some, Option.bind_some, eo, show nI (N (1054 + 6 * k + 4)) = nI (frD N k) from rfl, nI_1]
      simp only [leI (show frD N k < 2 ^ 31 by omega) (show d < 2 ^ 31 by omega), leI (show ovN N k < 2 ^ 31 by omega) (show d < 2 ^ 31 by omega), leI (show x < 2 ^ 31 by omega) (show ovN N k < 2 ^ 31 by omega), leI (show x < 2 ^ 31 by omega) (show frD N k < 2 ^ 31 by omega), leI (show frD N k < 2 ^ 31 by omega) (show ovN N k < 2 ^ 31 by omega)]
      have go : ∀ y, d < y → y ≤ x → (y = x ∨ frD N k = y ∨ ovN N k = y) → (d < frD N k → y ≤ frD N k) → (d < ovN N k → y ≤ ovN N k) → nxP N d (k + 1) y := fun y y1 y2 y3 y4 y5 => by
        refine ⟨y1, by omega, ?_, fun g hg => ?_⟩
        · rcases y3 with z | z | z
          · rw [z]; exact h3
          · exact Or.inr ⟨k, hkG, Or.inl z⟩
          · exact Or.inr ⟨k, hkG, Or.inr z⟩
        · rcases Nat.lt_or_eq_of_le (Nat.le_of_lt_succ hg) with z | z
          · have := h4 g z
            exact ⟨fun a => by have := this.1 a; omega, fun a => by have := this.2 a; omega⟩
          · subst z; exact ⟨y4, y5⟩
      by_cases q1 : frD N k ≤ d
      · rw [if_pos q1]
        by_cases q2 : ovN N k ≤ d
        · rw [if_pos q2]
          exact ih (k + 1) i x (by omega) (by omega) (go x h1 (Nat.le_refl _) (Or.inl rfl) (fun z => by omega) (fun z => by omega))
        · rw [if_neg q2]
          by_cases q3 : x ≤ ovN N k
          · rw [if_pos q3]
            exact ih (k + 1) i x (by omega) (by omega) (go x h1 (Nat.le_refl _) (Or.inl rfl) (fun z => by omega) (fun z => by omega))
          · rw [if_neg q3]
            exact ih (k + 1) i (ovN N k) (by omega) (by omega) (go _ (by omega) (by omega) (Or.inr (Or.inr rfl)) (fun z => by omega) (fun z => by omega))
      · rw [if_neg q1]
        by_cases q2 : x ≤ frD N k
        · rw [if_pos q2, if_neg (show ¬ ovN N k ≤ d by omega), if_pos (show x ≤ ovN N k by omega)]
          exact ih (k + 1) i x (by omega) (by omega) (go x h1 (Nat.le_refl _) (Or.inl rfl) (fun z => by omega) (fun z => by omega))
        · rw [if_neg q2, if_neg (show ¬ ovN N k ≤ d by omega), if_pos (show frD N k ≤ ovN N k by omega)]
          exact ih (k + 1) i (frD N k) (by omega) (by omega) (go _ (by omega) (by omega) (Or.inr (Or.inl rfl)) (fun z => by omega) (fun z => by omega))
  obtain ⟨x, h1, h2⟩ := key (N 5) 0 fuel 10000 (by omega) (by unfold fuel; omega) ⟨by omega, Nat.le_refl _, Or.inl rfl, fun g hg => absurd hg (Nat.not_lt_zero g)⟩
  have h1' : pX11_nextDay_L6 u v (nI d) fuel 10000 0 = some (nI x) := h1
  refine ⟨x, ?_, h2⟩
  unfold pX11_nextDay
  rw [h1']; rfl
/-- how many beginnings and ends lie ahead -/
def evN (N : tN) (d : Nat) : Nat := fb_sm (fun g => bn (decide (d < frD N g))) (N 5) + fb_sm (fun g => bn (decide (d < ovN N g))) (N 5)
theorem bn_mono {a b : Bool} (h : a = true → b = true) : bn a ≤ bn b := by cases a <;> cases b <;> simp_all [bn]
theorem evN_lt {N : tN} {d x : Nat} (h : nxP N d (N 5) x) (hx : x ≠ 10000) : evN N x < evN N d := by
  obtain ⟨h1, h2, h3, h4⟩ := h
  have m1 : ∀ g, g < N 5 → bn (decide (x < frD N g)) ≤ bn (decide (d < frD N g)) := fun g _ => bn_mono (fun z => decide_eq_true (by have := of_decide_eq_true z; omega))
  have m2 : ∀ g, g < N 5 → bn (decide (x < ovN N g)) ≤ bn (decide (d < ovN N g)) := fun g _ => bn_mono (fun z => decide_eq_true (by have := of_decide_eq_true z; omega))
  have s1 : fb_sm (fun g => bn (decide (x < frD N g))) (N 5) ≤ fb_sm (fun g => bn (decide (d < frD N g))) (N 5) := fb_sm_le m1
  have s2 : fb_sm (fun g => bn (decide (x < ovN N g))) (N 5) ≤ fb_sm (fun g => bn (decide (d < ovN N g))) (N 5) := fb_sm_le m2
  unfold evN
  rcases h3 with z | ⟨g, hg, z | z⟩
  · exact absurd z hx
  · have : fb_sm (fun g => bn (decide (x < frD N g))) (N 5) < fb_sm (fun g => bn (decide (d < frD N g))) (N 5) := fb_lt m1 ⟨g, hg, by rw [decide_eq_false (p := x < frD N g) (by omega), decide_eq_true (p := d < frD N g) (by omega)]; decide⟩
    omega
  · have : fb_sm (fun g => bn (decide (x < ovN N g))) (N 5) < fb_sm (fun g => bn (decide (d < ovN N g))) (N 5) := fb_lt m2 ⟨g, hg, by rw [decide_eq_false (p := x < ovN N g) (by omega), decide_eq_true (p := d < ovN N g) (by omega)]; decide⟩
    omega
theorem mWhen_L {u0 : tU} {v : tV} {N : tN} {w : Nat → Nat} (ok : okN N) (hM : CR (u0 4) N 1114) (hw : CR (u0 6) w 80) (hl : ∀ j, w j ≤ 9) {L D : Nat} (hL : L < 2 ^ 31) (hD : fdN N w L (N 6) D) :
    ∀ (e i d : Nat) (u : tU), evN N d + 1 ≤ e → e < i → N 6 ≤ d → d ≤ D → EN u0 u → ∃ u', EN u0 u' ∧ pX11_when_L28 (nI L) i (nI d) u v = some (if D < 10000 then .inl (nI D, u', v) else .inr (u', v)) := by
  obtain ⟨D1, D2, D3, D4⟩ := hD
  intro e
  induction e with
  | zero => intro i d u he; omega
  | succ e ih =>
    intro i d u he hi hd1 hd2 hE
    obtain ⟨i, rfl⟩ : ∃ i', i = i' + 1 := ⟨i - 1, by omega⟩
    have hM1 : CR (u 4) N 1114 := by rw [hE.1 4 (by decide) (by decide)]; exact hM
    have hw1 : CR (u 6) w 80 := by rw [hE.1 6 (by decide) (by decide)]; exact hw
    rw [pX11_when_L28]
    by_cases q0 : 9999 < d
    · rw [if_pos (show (9999 : Int32) < nI d from nI_lt (a := 9999) q0 (by omega))]
      exact ⟨u, hE, by rw [if_neg (show ¬ D < 10000 by omega)]⟩
    · rw [if_neg (show ¬ (9999 : Int32) < nI d from nI_nlt (a := 9999) (b := d) (by omega) (by decide))]
      obtain ⟨u2, r1, r2⟩ := mLackOn (wo := -1) (sp := -1) ok hM1 hw1 hl (d := d) (by omega)
      have hlk := LKs_le ok (w := w) (d := d) (wo := -1) (sp := -1)
      rw [r1, Option.bind_some]
      dsimp only
      simp only [leI (show LKs N w d (-1) (-1) < 2 ^ 31 by omega) hL]
      by_cases q1 : d = D
      · subst q1
        have := (D4 (by omega)).1
        rw [if_neg (show ¬ LKs N w d (-1) (-1) ≤ L by omega)]
        exact ⟨u2, EN_tr hE r2, by rw [if_pos (show d < 10000 by omega)]⟩
      · have h5 := D3 d hd1 (by omega)
        rw [if_pos h5]
        have hM2 : CR (u2 4) N 1114 := by rw [r2.1 4 (by decide) (by decide)]; exact hM1
        obtain ⟨x, n1, n2⟩ := mNext (v := v) ok hM2 (d := d) (by omega)
        rw [n1, Option.bind_some]
        have hxD : x ≤ D := by
          rcases Nat.lt_or_ge D 10000 with z | z
          · rcases (D4 z).2 with y | ⟨g, hg, y⟩
            · omega
            · have := (n2.2.2.2 g hg).2 (by omega)
              omega
          · have := n2.2.1; omega
        by_cases q2 : x = 10000
        · subst q2
          have hi1 : 1 ≤ i := by omega
          obtain ⟨i, rfl⟩ : ∃ i', i = i' + 1 := ⟨i - 1, by omega⟩
          rw [pX11_when_L28, if_pos (show (9999 : Int32) < nI 10000 from by decide)]
          exact ⟨u2, EN_tr hE r2, by rw [if_neg (show ¬ D < 10000 by omega)]⟩
        · have := evN_lt n2 q2
          exact ih i x u2 (by omega) (by omega) (by have := n2.1; omega) hxD (EN_tr hE r2)
theorem evN_le {N : tN} (ok : okN N) (d : Nat) : evN N d ≤ 20 := by
  have h1 := fb_sm_bound (f := fun g => bn (decide (d < frD N g))) (c := 1) (n := N 5) (fun _ _ => bn_le _)
  have h2 := fb_sm_bound (f := fun g => bn (decide (d < ovN N g))) (c := 1) (n := N 5) (fun _ _ => bn_le _)
  have := ok.2.1.2.2.2.2.2.1
  unfold evN
  omega
theorem mWhen {u : tU} {v : tV} {N : tN} {w : Nat → Nat} (ok : okN N) (hM : CR (u 4) N 1114) (hw : CR (u 6) w 80) (hl : ∀ j, w j ≤ 9) {L D : Nat} (hL : L < 2 ^ 31) (hD : fdN N w L (N 6) D) : ∃ u', EN u u' ∧ pX11_when_L28 (nI L) fuel (nI (N 6)) u v = some (if D < 10000 then .inl (nI D, u', v) else .inr (u', v)) := by
  have := evN_le ok (N 6)
  exact mWhen_L ok hM hw hl hL hD (evN N (N 6) + 1) fuel (N 6) u (Nat.le_refl _) (by unfold fuel; omega) (Nat.le_refl _) hD.2.1 EN_rf
