def usX (N : tN) (d : Nat) (wo : Int32) (p : Nat) (lf : Nat → Nat) (g : Nat) : Nat := if pdN N g = p then c0N N d wo g - lf g else 0
theorem smul_inc (f pr : Nat → Nat) {j : Nat} : ∀ {G : Nat}, j < G → fb_sm (fun g => va_up f j (f j + 1) g * pr g) G = fb_sm (fun g => f g * pr g) G + pr j
  | 0, h => absurd h (Nat.not_lt_zero j)
  | G + 1, h => by
    rw [fb_sm_succ, fb_sm_succ]
    rcases Nat.lt_or_eq_of_le (Nat.le_of_lt_succ h) with q | q
    · rw [smul_inc f pr q]
      have e : va_up f j (f j + 1) G = f G := by unfold va_up; rw [if_neg (by omega)]
      rw [e]; omega
    · subst q
      have e : fb_sm (fun g => va_up f j (f j + 1) g * pr g) j = fb_sm (fun g => f g * pr g) j := fb_sm_cong (fun k hk => by
        have : va_up f j (f j + 1) k = f k := by unfold va_up; rw [if_neg (by omega)]
        rw [this])
      rw [e]
      have e2 : va_up f j (f j + 1) j = f j + 1 := by unfold va_up; rw [if_pos rfl]
      rw [e2, Nat.add_mul]; omega
def XI (N : tN) (d : Nat) (wo : Int32) (p : Nat) (lf0 : Nat → Nat) (u0 : tU) (la0 pa0 V x : Nat) (τ : Nat → Nat) (u' : tU) : Prop :=
  ∃ (lf : Nat → Nat) (la pa : Nat), CR (u' 2) lf (N 5) ∧ (∀ g, g < N 5 → lf g ≤ c0N N d wo g) ∧ (∀ g, g < N 5 → pdN N g = p → vrN N g < V → lf g = c0N N d wo g) ∧ (∀ g, g < N 5 → pdN N g ≠ p → lf g = lf0 g) ∧ EM u0 u' ∧ u' 0 3 = nI la ∧ u' 0 4 = nI pa ∧
    la + tC (prN N) (usX N d wo p lf) (N 5) 1000 = la0 + x ∧ pa = pa0 + fb_sm (fun g => usX N d wo p lf g * prN N g) (N 5) ∧ ∀ c, tC (prN N) (usX N d wo p lf) (N 5) c = τ c
theorem XI_cong {N : tN} {d : Nat} {wo : Int32} {p : Nat} {lf0 : Nat → Nat} {u0 u' : tU} {la0 pa0 V V' x x' : Nat} {τ τ' : Nat → Nat} (h : XI N d wo p lf0 u0 la0 pa0 V x τ u') (hV : V' ≤ V) (hx : x = x') (ht : ∀ c, τ c = τ' c) : XI N d wo p lf0 u0 la0 pa0 V' x' τ' u' := by
  obtain ⟨lf, la, pa, h1, h2, h3, h4, h5, h6, h7, h8, h9, h10⟩ := h
  subst hx
  exact ⟨lf, la, pa, h1, h2, fun g hg hp hv => h3 g hg hp (by omega), h4, h5, h6, h7, h8, h9, fun c => by rw [h10 c, ht c]⟩
theorem xServe {u u0 : tU} {v : tV} {N : tN} (ok : okN N) (hX0 : xB u0 v 10 1 N) {d p V x la0 pa0 : Nat} {wo : Int32} {lf0 τ : Nat → Nat} (hp : p < 2 ^ 31) (hV : 1 ≤ V) (hV9 : V ≤ 9) (h : XI N d wo p lf0 u0 la0 pa0 V x τ u) :
    ∃ u', pX5_serve u v (nI p) (nI V) = some (u', v) ∧ XI N d wo p lf0 u0 la0 pa0 V (x + 1) (fun c => min (τ c + 1) (aC (prN N) (vrN N) (cpN N d wo p) (N 5) c (V - 1))) u' := by
  have hG : N 5 ≤ 10 := ok.2.1.2.2.2.2.2.1
  obtain ⟨lf, la, pa, h1, h2, h3, h4, h5, h6, h7, h8, h9, h10⟩ := h
  have hX := xB_EM h5 hX0
  have hl : ∀ g, g < N 5 → lf g ≤ 40 := fun g hg => Nat.le_trans (h2 g hg) (c0N_le ok hg)
  have hle : ∀ g, g < N 5 → usX N d wo p lf g ≤ cpN N d wo p g := fun g hg => by unfold usX cpN; split <;> omega
  have hlow : ∀ g, g < N 5 → vrN N g < V → usX N d wo p lf g = 0 := fun g hg hv => by
    unfold usX
    split
    · rename_i e; rw [h3 g hg e hv]; omega
    · rfl
  have hlt : ∀ g, g < N 5 → usX N d wo p lf g < cpN N d wo p g → V ≤ vrN N g → elX N lf p V g = true := fun g hg hu hv => by
    unfold usX cpN at hu
    split at hu
    · rename_i e
      unfold elX
      rw [Bool.and_eq_true, Bool.and_eq_true]
      exact ⟨⟨decide_eq_true (by omega), decide_eq_true e⟩, decide_eq_true hv⟩
    · omega
  unfold pX5_serve
  rw [xCheap ok hX h1 hl hp (by omega), Option.bind_some]
  rcases bsF_spec (elX N lf p V) (prN N) (N 5) with ⟨e1, e2⟩ | ⟨j, e1, e2, e3, e4⟩
  · rw [e1]
    have hn : ∀ c, tC (prN N) (usX N d wo p lf) (N 5) c = aC (prN N) (vrN N) (cpN N d wo p) (N 5) c (V - 1) := fun c => gX_none hle hlow (fun g hg hu hv => e2 g hg (hlt g hg hu hv)) hV c
    refine ⟨sU u 0 3 (u 0 3 + 1), ?_, lf, la + 1, pa, ?_, h2, h3, h4, EM_3 h5, ?_, ?_, by omega, h9, fun c => ?_⟩
    · rw [if_neg (show ¬ (0 : Int32) ≤ en (-2) none from by decide)]
    · rw [sU_r (by decide)]; exact h1
    · rw [sU_s, h6, nI_1]
    · rw [sU_c (by decide)]; exact h7
    · have e7 := h10 c
      have e8 := hn c
      show _ = min (τ c + 1) _
      omega
  · rw [e1]
    unfold elX at e3
    rw [Bool.and_eq_true, Bool.and_eq_true] at e3
    have j1 : 0 < lf j := of_decide_eq_true e3.1.1
    have j2 : pdN N j = p := of_decide_eq_true e3.1.2
    have j3 : V ≤ vrN N j := of_decide_eq_true e3.2
    have j4 := h2 j e2
    have hpr : prN N j ≤ 1000 := (ok.2.2.2.2.2.2.2 j e2).2.2.2.2.1
    have hus : usX N d wo p (va_up lf j (lf j - 1)) = va_up (usX N d wo p lf) j (usX N d wo p lf j + 1) := by
      funext g
      unfold usX va_up
      by_cases e : g = j
      · subst e
        simp only [if_pos j2, if_true]
        omega
      · simp only [if_neg e]
    have hj1 : usX N d wo p lf j < cpN N d wo p j := by unfold usX cpN; rw [if_pos j2, if_pos j2]; omega
    have st := fun c => gX_some (pr := prN N) (vr := vrN N) hle hlow e2 hj1 j3 (fun g hg hu hv => e4 g hg (hlt g hg hu hv)) hV c
    have x4 : u 28 j = nI (N (1054 + 6 * j + 3)) := (hX.2.2.2.2.2.2 j e2).2.2.2.1
    have e5 : en (-2) (some j) = nI j := rfl
    rw [e5, if_pos (nI_pos' (n := j) (by omega)), gd_ok (j := j) (n := 10) (by omega) (by decide), gd_ok (j := j) (n := 10) (by omega) (by decide), gd_ok (j := j) (n := 10) (by omega) (by decide), cl (j := j) (by omega), h1 j e2, show (1 : Int32) = nI 1 from rfl, pk_sub (by omega)]
    refine ⟨_, rfl, va_up lf j (lf j - 1), la, pa + prN N j, ?_, fun g hg => ?_, fun g hg hpd hv => ?_, fun g hg hpd => ?_, EM_4 (EM_2 h5), ?_, ?_, ?_, ?_, fun c => ?_⟩
    · rw [sU_r (by decide)]; exact cr_sU h1
    · unfold va_up
      split
      · rename_i e; rw [e]; omega
      · exact h2 g hg
    · unfold va_up
      split
      · rename_i e; rw [e] at hv; omega
      · exact h3 g hg hpd hv
    · unfold va_up
      split
      · rename_i e; rw [e] at hpd; exact absurd j2 hpd
      · exact h4 g hg hpd
    · rw [sU_c (by decide), sU_r (by decide)]; exact h6
    · rw [sU_s, sU_r (by decide), sU_r (by decide), h7, x4, nI_add]; rfl
    · rw [hus]
      have e6 : tC (prN N) (va_up (usX N d wo p lf) j (usX N d wo p lf j + 1)) (N 5) 1000 = tC (prN N) (usX N d wo p lf) (N 5) 1000 + (if decide (prN N j ≤ 1000) = true then 1 else 0) := sS_inc _ _ e2
      rw [e6, if_pos (decide_eq_true hpr)]; omega
    · rw [hus, smul_inc _ _ e2, h9]; omega
    · rw [hus, (st c).2, h10 c]
def eqN (N : tN) (w : Nat → Nat) (p V k : Nat) : Nat := fb_sm (fun h => bn (decide (w (10 * h + p) = V))) k
theorem xServeV {u u0 : tU} {v : tV} {N : tN} {w : Nat → Nat} (ok : okN N) (hX0 : xB u0 v 10 1 N) (hw : CR (u0 1) w 80) (hl : ∀ j, w j ≤ 9) {d p V x la0 pa0 : Nat} {wo : Int32} {lf0 τ : Nat → Nat} (hp : p < N 0) (hV : 1 ≤ V) (hV9 : V ≤ 9) (h : XI N d wo p lf0 u0 la0 pa0 V x τ u) (ht : ∀ c, τ c ≤ aC (prN N) (vrN N) (cpN N d wo p) (N 5) c (V - 1)) :
    ∃ u', pX5_serveProduct_L25 (nI p) (nI V) fuel 0 u v = some (u', v) ∧ XI N d wo p lf0 u0 la0 pa0 V (x + eqN N w p V (N 2)) (fun c => min (τ c + eqN N w p V (N 2)) (aC (prN N) (vrN N) (cpN N d wo p) (N 5) c (V - 1))) u' := by
  have hc := ok.2.1.1
  have hN : N 2 ≤ 8 := ok.2.1.2.2.1
  obtain ⟨u', h1, h2⟩ := stL (L := pX5_serveProduct_L25 (nI p) (nI V)) (E := N 2) (I := fun k u' => XI N d wo p lf0 u0 la0 pa0 V (x + eqN N w p V k) (fun c => min (τ c + eqN N w p V k) (aC (prN N) (vrN N) (cpN N d wo p) (N 5) c (V - 1))) u') (v := v)
    (fun n u1 hi => by
      have he : EM u0 u1 := by obtain ⟨_, _, _, _, _, _, _, he, _⟩ := hi; exact he
      have hX1 := xB_EM he hX0
      rw [pX5_serveProduct_L25, hX1.1 2 (by decide), if_pos (nI_le (Nat.le_refl _) (by omega))])
    (fun n u1 k hk hi => by
      have he : EM u0 u1 := by obtain ⟨_, _, _, _, _, _, _, he, _⟩ := hi; exact he
      have hX1 := xB_EM he hX0
      have hw1 := cr_EM he hw
      have h9 := hl (10 * k + p)
      rw [pX5_serveProduct_L25, hX1.1 2 (by decide), if_neg (nI_ge hk (by omega)), verAt_eq hw1 (by omega) (by omega), Option.bind_some, nI_1]
      simp only [nI_lit V (show V < 2 ^ 31 by omega) (show w (10 * k + p) < 2 ^ 31 by omega)]
      have es : eqN N w p V (k + 1) = eqN N w p V k + bn (decide (w (10 * k + p) = V)) := rfl
      by_cases q : w (10 * k + p) = V
      · rw [if_pos q]
        obtain ⟨u2, r1, r2⟩ := xServe ok hX0 (by omega) hV hV9 hi
        rw [r1, Option.bind_some]
        refine ⟨u2, XI_cong r2 (Nat.le_refl _) ?_ (fun c => ?_), rfl⟩
        · rw [es, decide_eq_true q]; show _ = x + (_ + 1); omega
        · rw [es, decide_eq_true q]; show _ = min (τ c + (_ + 1)) _; omega
      · rw [if_neg q]
        refine ⟨u1, XI_cong hi (Nat.le_refl _) ?_ (fun c => ?_), rfl⟩
        · rw [es, decide_eq_false q]; rfl
        · rw [es, decide_eq_false q]; rfl)
    fuel u (by unfold fuel; omega) (XI_cong h (Nat.le_refl _) rfl (fun c => by have := ht c; show τ c = min (τ c + 0) _; omega))
  exact ⟨u', h2, h1⟩
def nX (N : tN) (w : Nat → Nat) (p V : Nat) : Nat := fb_sm (fun h => bn (decide (0 < w (10 * h + p)) && decide (w (10 * h + p) ≤ V))) (N 2)
theorem nX_0 (N : tN) (w : Nat → Nat) (p : Nat) : nX N w p 0 = 0 := by
  unfold nX
  refine Nat.le_zero.mp (Nat.le_trans (fb_sm_bound (c := 0) (fun h _ => ?_)) (by omega))
  by_cases q : 0 < w (10 * h + p)
  · rw [decide_eq_false (p := w (10 * h + p) ≤ 0) (by omega), Bool.and_false]; exact Nat.le_refl _
  · rw [decide_eq_false q, Bool.false_and]; exact Nat.le_refl _
theorem nX_s (N : tN) (w : Nat → Nat) (p V : Nat) : nX N w p (V + 1) = nX N w p V + eqN N w p (V + 1) (N 2) := by
  unfold nX eqN
  rw [← fb_sm_add]
  refine fb_sm_cong (fun h _ => ?_)
  rcases Nat.lt_trichotomy (w (10 * h + p)) (V + 1) with q | q | q
  · rw [decide_eq_true (p := w (10 * h + p) ≤ V + 1) (by omega), decide_eq_true (p := w (10 * h + p) ≤ V) (by omega), decide_eq_false (p := w (10 * h + p) = V + 1) (by omega)]; rfl
  · rw [decide_eq_true (p := w (10 * h + p) ≤ V + 1) (by omega), decide_eq_false (p := w (10 * h + p) ≤ V) (by omega), decide_eq_true (p := w (10 * h + p) = V + 1) q, decide_eq_true (p := 0 < w (10 * h + p)) (by omega)]; rfl
  · rw [decide_eq_false (p := w (10 * h + p) ≤ V + 1) (by omega), decide_eq_false (p := w (10 * h + p) ≤ V) (by omega), decide_eq_false (p := w (10 * h + p) = V + 1) (by omega)]; simp [bn]
theorem nX_mono (N : tN) (w : Nat → Nat) (p : Nat) : ∀ e V, nX N w p V ≤ nX N w p (V + e)
  | 0, V => Nat.le_refl _
  | e + 1, V => by have := nX_mono N w p e V; rw [← Nat.add_assoc, nX_s]; omega
theorem xVersions {u0 : tU} {v : tV} {N : tN} {w : Nat → Nat} (ok : okN N) (hX0 : xB u0 v 10 1 N) (hw : CR (u0 1) w 80) (hl : ∀ j, w j ≤ 9) {d p la0 pa0 : Nat} {wo : Int32} {lf0 : Nat → Nat} (hp : p < N 0) :
    ∀ (V i : Nat) (u : tU) (τ : Nat → Nat), V ≤ 9 → V < i → XI N d wo p lf0 u0 la0 pa0 (V + 1) (nX N w p 9 - nX N w p V) τ u → (∀ c, stR (nX N w p) (aC (prN N) (vrN N) (cpN N d wo p) (N 5) c) V (τ c)) →
      ∃ u' τ', pX5_serveProduct_L16 (nI p) i (nI V) u v = some (u', v) ∧ XI N d wo p lf0 u0 la0 pa0 1 (nX N w p 9) τ' u' ∧ ∀ c, isR (nX N w p) (aC (prN N) (vrN N) (cpN N d wo p) (N 5) c) (τ' c) := by
  intro V
  induction V with
  | zero =>
    intro i u τ _ hi hxi hst
    obtain ⟨i, rfl⟩ : ∃ i', i = i' + 1 := ⟨i - 1, by omega⟩
    refine ⟨u, τ, by rw [pX5_serveProduct_L16, if_pos (show nI 0 < (1 : Int32) from by decide)], XI_cong hxi (Nat.le_refl _) (by rw [nX_0]; omega) (fun _ => rfl), fun c => stR_0 (nX_0 N w p) (hst c)⟩
  | succ V ih =>
    intro i u τ hV hi hxi hst
    obtain ⟨i, rfl⟩ : ∃ i', i = i' + 1 := ⟨i - 1, by omega⟩
    have hmon : nX N w p (V + 1) ≤ nX N w p 9 := by have := nX_mono N w p (9 - (V + 1)) (V + 1); rw [show V + 1 + (9 - (V + 1)) = 9 by omega] at this; exact this
    have hns := nX_s N w p V
    have ht : ∀ c, τ c ≤ aC (prN N) (vrN N) (cpN N d wo p) (N 5) c (V + 1 - 1) := fun c => by
      have h1 := (hst c).1 (V + 1) (Nat.le_refl _) hV
      have h2 : aC (prN N) (vrN N) (cpN N d wo p) (N 5) c (V + 1) ≤ aC (prN N) (vrN N) (cpN N d wo p) (N 5) c (V + 1 - 1) := aC_mono (by omega)
      omega
    obtain ⟨u2, r1, r2⟩ := xServeV ok hX0 hw hl hp (by omega) hV (XI_cong hxi (by omega : V + 1 ≤ V + 1 + 1) rfl (fun _ => rfl)) ht
    rw [pX5_serveProduct_L16, if_neg (show ¬ nI (V + 1) < (1 : Int32) from nI_nlt (a := V + 1) (b := 1) (by omega) (by omega)), r1, Option.bind_some]
    dsimp only
    rw [pk_m1]
    exact ih i u2 _ (by omega) (by omega) (XI_cong r2 (Nat.le_refl _) (by omega) (fun _ => rfl)) (fun c => stR_step (V := V + 1) (by omega) hV hns (hst c))
noncomputable def rkV (n A : Nat → Nat) : Nat := Classical.epsilon (fun x => isR n A x)
theorem rkV_eq {n A : Nat → Nat} {x : Nat} (h : isR n A x) : x = rkV n A := isR_one h (Classical.epsilon_spec (p := fun x => isR n A x) ⟨x, h⟩)
noncomputable def lkN (n : Nat → Nat) (A : Nat → Nat → Nat) : Nat := n 9 - rkV n (A 1000)
noncomputable def csN (n : Nat → Nat) (A : Nat → Nat → Nat) : Nat := fb_sm (fun c => rkV n (A 1000) - rkV n (A c)) 1000
theorem aC_9 {N : tN} (ok : okN N) {d : Nat} {wo : Int32} {p c : Nat} : aC (prN N) (vrN N) (cpN N d wo p) (N 5) c 9 = 0 := sS_zero (fun g hg hb => by
  rw [Bool.and_eq_true] at hb
  have := of_decide_eq_true hb.2
  have := (ok.2.2.2.2.2.2.2 g hg).2.2.1
  unfold vrN at *
  omega)
theorem xProduct {u : tU} {v : tV} {N : tN} {w : Nat → Nat} (ok : okN N) (hX : xB u v 10 1 N) (hw : CR (u 1) w 80) (hl : ∀ j, w j ≤ 9) {d p la0 pa0 : Nat} {wo : Int32} {lf0 : Nat → Nat} {n : Nat → Nat} (hp : p < N 0) (hf : CR (u 2) lf0 (N 5)) (hle : ∀ g, g < N 5 → lf0 g ≤ c0N N d wo g) (heq : ∀ g, g < N 5 → pdN N g = p → lf0 g = c0N N d wo g) (h3 : u 0 3 = nI la0) (h4 : u 0 4 = nI pa0) (hn : ∀ V, V ≤ 9 → n V = if N (8 + 3 * p) = 2 then 0 else nX N w p V) :
    ∃ u' lf, pX5_serveProduct u v (nI p) = some (u', v) ∧ EM u u' ∧ CR (u' 2) lf (N 5) ∧ (∀ g, g < N 5 → lf g ≤ c0N N d wo g) ∧ (∀ g, g < N 5 → pdN N g ≠ p → lf g = lf0 g) ∧ u' 0 3 = nI (la0 + lkN n (fun c => aC (prN N) (vrN N) (cpN N d wo p) (N 5) c)) ∧ u' 0 4 = nI (pa0 + csN n (fun c => aC (prN N) (vrN N) (cpN N d wo p) (N 5) c)) := by
  have hpr : ∀ g, g < N 5 → prN N g ≤ 1000 := fun g hg => (ok.2.2.2.2.2.2.2 g hg).2.2.2.2.1
  unfold pX5_serveProduct
  rw [isFree_eq ok hX hp, Option.bind_some]
  simp only [b2i_0, decide_eq_false_iff_not]
  by_cases q : N (8 + 3 * p) = 2
  · rw [if_neg (show ¬ ¬ N (8 + 3 * p) = 2 from fun z => z q)]
    have hr : ∀ c, rkV n (aC (prN N) (vrN N) (cpN N d wo p) (N 5) c) = 0 := fun c => (rkV_eq ⟨fun v _ => Nat.zero_le _, 9, by decide, by rw [hn 9 (by decide), if_pos q, aC_9 ok]⟩).symm
    have e1 : lkN n (fun c => aC (prN N) (vrN N) (cpN N d wo p) (N 5) c) = 0 := by unfold lkN; rw [hn 9 (by decide), if_pos q]; omega
    have e2 : csN n (fun c => aC (prN N) (vrN N) (cpN N d wo p) (N 5) c) = 0 := by
      unfold csN
      refine Nat.le_zero.mp (Nat.le_trans (fb_sm_bound (c := 0) (fun c _ => ?_)) (by omega))
      rw [hr]; omega
    exact ⟨u, lf0, rfl, EM_rf, hf, hle, fun _ _ _ => rfl, by rw [e1]; exact h3, by rw [e2]; exact h4⟩
  · rw [if_pos q]
    have hn' : ∀ V, V ≤ 9 → nX N w p V = n V := fun V hV => by rw [hn V hV, if_neg q]
    have hus0 : ∀ g, g < N 5 → usX N d wo p lf0 g = 0 := fun g hg => by
      unfold usX
      split
      · rename_i e; rw [heq g hg e]; omega
      · rfl
    have ht0 : ∀ c, tC (prN N) (usX N d wo p lf0) (N 5) c = 0 := fun c => sS_zero (fun g hg _ => hus0 g hg)
    have hs0 : fb_sm (fun g => usX N d wo p lf0 g * prN N g) (N 5) = 0 := by
      refine Nat.le_zero.mp (Nat.le_trans (fb_sm_bound (c := 0) (fun g hg => ?_)) (by omega))
      rw [hus0 g hg]; omega
    have start : XI N d wo p lf0 u la0 pa0 (9 + 1) (nX N w p 9 - nX N w p 9) (fun _ => 0) u := ⟨lf0, la0, pa0, hf, hle, fun g hg hpd _ => heq g hg hpd, fun _ _ _ => rfl, EM_rf, h3, h4, by rw [ht0]; omega, by rw [hs0]; omega, ht0⟩
    have hst : ∀ c, stR (nX N w p) (aC (prN N) (vrN N) (cpN N d wo p) (N 5) c) 9 0 := fun c => ⟨fun v v1 v2 => by rw [show v = 9 by omega]; omega, 9, Nat.le_refl _, Nat.le_refl _, by rw [aC_9 ok]; omega⟩
    obtain ⟨u', τ, r1, ⟨lf, la, pa, a1, a2, a3, a4, a5, a6, a7, a8, a9, a10⟩, r3⟩ := xVersions ok hX hw hl hp 9 fuel u (fun _ => 0) (by decide) (by unfold fuel; omega) start hst
    have r1' : pX5_serveProduct_L16 (nI p) fuel 9 u v = some (u', v) := r1
    rw [r1', Option.bind_some]
    have hR : ∀ c, τ c = rkV n (aC (prN N) (vrN N) (cpN N d wo p) (N 5) c) := fun c => rkV_eq (by
      obtain ⟨b1, b2, b3, b4⟩ := r3 c
      exact ⟨fun v hv => by rw [← hn' v hv]; exact b1 v hv, b2, b3, by rw [← hn' b2 b3]; exact b4⟩)
    refine ⟨u', lf, rfl, a5, a1, a2, a4, ?_, ?_⟩
    · rw [a6]
      congr 1
      unfold lkN
      rw [← hR 1000, ← hn' 9 (by decide), ← a10 1000]
      have : tC (prN N) (usX N d wo p lf) (N 5) 1000 ≤ nX N w p 9 := by
        rw [a10 1000]
        have := (r3 1000).1 9 (by decide)
        rw [aC_9 ok] at this
        omega
      omega
    · rw [a7, a9]
      congr 2
      rw [cost_sum hpr]
      unfold csN
      exact fb_sm_cong (fun c _ => by rw [a10, a10, hR, hR])
