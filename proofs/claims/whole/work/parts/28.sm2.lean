section SM2
variable {N : tN} {n : Nat} {c : Nat → Nat} {K : Option tN}
theorem sm_use (ok : OKS N n c K) (f a b d e : Int32) : SM (fun u v => pX10_use u v a b d e) (fun u v => pX11_use u v a b d e) N n c K f := by
  have hc := ok.1.2.1.2.2.2.2.1
  have h0 := ok.1.2.1.1
  by_cases V : (0 ≤ a ∧ a ≤ 9) ∧ (0 ≤ b ∧ b < nI (N 0)) ∧ (0 ≤ d ∧ d ≤ 999) ∧ (0 ≤ e ∧ e ≤ 999) ∧ d < e
  · obtain ⟨q1, q2, q3, q4, q5⟩ := V
    have q5' : ¬ e ≤ d := (fa_of_lt q5).2.1
    by_cases q : N 4 < 30
    · obtain ⟨x, x1, rfl⟩ := rl (n := 9) (by decide) q1
      obtain ⟨y, y1, rfl⟩ := rg (by omega) q2
      obtain ⟨z, z1, rfl⟩ := rl (n := 999) (by decide) q3
      obtain ⟨t, t1, rfl⟩ := rl (n := 999) (by decide) q4
      have zt : z < t := (nI_ltI (by omega) (by omega)).mp q5
      refine ⟨nI (N 4), nU N x y z t, n, c, K, f, OKS_N ok (nU_ok ok.1 q x1 y1 zt t1), fun u v h => ?_, fun u v h => ?_⟩
      · show GX (pX10_use u v (nI x) (nI y) (nI z) (nI t)) _ _ _ _ _ _ _
        unfold pX10_use
        rw [tick_eq, bw, if_pos q3, tick_eq, bw, if_pos q4, if_neg q5', within_eq, bw, if_pos q1, xProduct_eq h.1.1, bw, if_pos q2, if_pos (show u 10 4 < (30 : Int32) from by rw [h.1.1 4 (by decide), lt_lit (L := 30) 30 rfl (by omega) (by decide)]; exact q), pX9_add_eq (h.1.1 4 (by decide)) q, Option.bind_some]
        exact GX_w h (nU_x ok.1 q h.1) (fun q hq => by rw [sU_r (by omega), sU_r (by omega), sU_r (by omega), sU_r (by omega), sU_r (by omega)]) ⟨rfl, rfl, rfl⟩
      · show GM (pX11_use u v (nI x) (nI y) (nI z) (nI t)) _ _ _ _ _ _ _ _
        unfold pX11_use
        rw [isIn_eq, bw, if_pos q1, isProduct_eq h.1, bw, if_pos q2, isIn_eq, bw, if_pos q3, isIn_eq, bw, if_pos q4, if_pos q5, h.1 4 (by decide), if_neg (show ¬ nI (N 4) = (30 : Int32) from by rw [eq_lit (L := 30) 30 rfl (by omega) (by decide)]; omega), ix0 (B := 934) (L := 4) 934 4 (N 4) rfl rfl, ixj (J := 1) (934 + 4 * N 4) 1 rfl, ixj (J := 2) (934 + 4 * N 4) 2 rfl, ixj (J := 3) (934 + 4 * N 4) 3 rfl, gd_ok (by omega) (by decide), gd_ok (by omega) (by decide), gd_ok (by omega) (by decide), gd_ok (by omega) (by decide), cl (by omega), cl (by omega), cl (by omega), cl (by omega), sU_c (by omega), sU_c (by omega), sU_c (by omega), sU_c (by omega), h.1 4 (by decide), nI_1]
        exact GM_w h (nU_m h.1) (fun q hq => by rw [sU_r hq, sU_r hq, sU_r hq, sU_r hq, sU_r hq])
    · exact SM_neg (-3) ok (fun u v h => by
        show pX10_use u v a b d e = _
        unfold pX10_use
        rw [tick_eq, bw, if_pos q3, tick_eq, bw, if_pos q4, if_neg q5', within_eq, bw, if_pos q1, xProduct_eq h.1.1, bw, if_pos q2, if_neg (show ¬ u 10 4 < (30 : Int32) from by rw [h.1.1 4 (by decide), lt_lit (L := 30) 30 rfl (by omega) (by decide)]; exact q)]) (fun u v h => by
        show pX11_use u v a b d e = _
        unfold pX11_use
        rw [isIn_eq, bw, if_pos q1, isProduct_eq h.1, bw, if_pos q2, isIn_eq, bw, if_pos q3, isIn_eq, bw, if_pos q4, if_pos q5, if_pos (show u 4 4 = (30 : Int32) from by rw [h.1 4 (by decide), eq_lit (L := 30) 30 rfl (by omega) (by decide)]; omega)])
  · exact SM_neg (-1) ok (fun u v h => by
      show pX10_use u v a b d e = _
      unfold pX10_use
      rw [tick_eq, tick_eq, within_eq, xProduct_eq h.1.1]
      simp only [bw]
      by_cases q1 : 0 ≤ a ∧ a ≤ 9
      · by_cases q2 : 0 ≤ b ∧ b < nI (N 0)
        · by_cases q3 : 0 ≤ d ∧ d ≤ 999
          · by_cases q4 : 0 ≤ e ∧ e ≤ 999
            · have q5 : e ≤ d := fa_of_nlt (fun y => V ⟨q1, q2, q3, q4, y⟩)
              simp only [if_pos q1, if_pos q2, if_pos q3, if_pos q4, if_pos q5]
            · simp only [if_pos q1, if_pos q2, if_pos q3, if_neg q4]
          · simp only [if_pos q1, if_pos q2, if_neg q3]
        · by_cases q3 : 0 ≤ d ∧ d ≤ 999
          · by_cases q4 : 0 ≤ e ∧ e ≤ 999
            · by_cases q5 : e ≤ d
              · simp only [if_pos q1, if_neg q2, if_pos q3, if_pos q4, if_pos q5]
              · simp only [if_pos q1, if_neg q2, if_pos q3, if_pos q4, if_neg q5]
            · simp only [if_pos q1, if_neg q2, if_pos q3, if_neg q4]
          · simp only [if_pos q1, if_neg q2, if_neg q3]
      · by_cases q3 : 0 ≤ d ∧ d ≤ 999
        · by_cases q4 : 0 ≤ e ∧ e ≤ 999
          · by_cases q5 : e ≤ d
            · simp only [if_neg q1, if_pos q3, if_pos q4, if_pos q5]
            · simp only [if_neg q1, if_pos q3, if_pos q4, if_neg q5]
          · simp only [if_neg q1, if_pos q3, if_neg q4]
        · simp only [if_neg q1, if_neg q3]) (fun u v h => by
      show pX11_use u v a b d e = _
      unfold pX11_use
      rw [isIn_eq, bw, isProduct_eq h.1, bw, isIn_eq, bw, isIn_eq, bw]
      by_cases q1 : 0 ≤ a ∧ a ≤ 9
      · rw [if_pos q1]
        by_cases q2 : 0 ≤ b ∧ b < nI (N 0)
        · rw [if_pos q2]
          by_cases q3 : 0 ≤ d ∧ d ≤ 999
          · rw [if_pos q3]
            by_cases q4 : 0 ≤ e ∧ e ≤ 999
            · rw [if_pos q4, if_neg (fun y => V ⟨q1, q2, q3, q4, y⟩)]
            · rw [if_neg q4]
          · rw [if_neg q3]
        · rw [if_neg q2]
      · rw [if_neg q1])
theorem sm_right (ok : OKS N n c K) (f a b d e g i : Int32) : SM (fun u v => pX10_right u v a b d e g i) (fun u v => pX11_right u v a b d e g i) N n c K f := by
  have hc := ok.1.2.1.2.2.2.2.2.1
  have h0 := ok.1.2.1.1
  by_cases V : (0 ≤ a ∧ a < nI (N 0)) ∧ (1 ≤ b ∧ b ≤ 9) ∧ (0 ≤ d ∧ d ≤ 40) ∧ (0 ≤ e ∧ e ≤ 1000) ∧ (0 ≤ g ∧ g ≤ 9999) ∧ (0 ≤ i ∧ i ≤ 9999) ∧ g ≤ i
  · obtain ⟨q1, q2, q3, q4, q5, q6, q7⟩ := V
    have q7' : ¬ i < g := fun y => (fa_of_lt y).2.1 q7
    by_cases q : N 5 < 10
    · obtain ⟨x, x1, rfl⟩ := rg (by omega) q1
      obtain ⟨y, y1, y2, rfl⟩ := rm (m := 1) (n := 9) (by decide) (by decide) q2
      obtain ⟨z, z1, rfl⟩ := rl (n := 40) (by decide) q3
      obtain ⟨t, t1, rfl⟩ := rl (n := 1000) (by decide) q4
      obtain ⟨a1, b1, rfl⟩ := rl (n := 9999) (by decide) q5
      obtain ⟨a2, b2, rfl⟩ := rl (n := 9999) (by decide) q6
      have zt : a1 ≤ a2 := (nI_leI (by omega) (by omega)).mp q7
      refine ⟨nI (N 5), nG N x y z t a1 a2, n, c, K, f, OKS_N ok (nG_ok ok.1 q x1 ⟨y1, y2⟩ z1 t1 zt b2), fun u v h => ?_, fun u v h => ?_⟩
      · show GX (pX10_right u v (nI x) (nI y) (nI z) (nI t) (nI a1) (nI a2)) _ _ _ _ _ _ _
        unfold pX10_right
        rw [day_eq, bw, if_pos q5, day_eq, bw, if_pos q6, if_neg q7', xProduct_eq h.1.1, bw, if_pos q1, vers_eq, bw, if_pos q2, within_eq, bw, if_pos q3, within_eq, bw, if_pos q4, if_pos (show u 10 5 < (10 : Int32) from by rw [h.1.1 5 (by decide), lt_lit (L := 10) 10 rfl (by omega) (by decide)]; exact q), pX7_add_eq (h.1.1 5 (by decide)) q, Option.bind_some]
        exact GX_w h (nG_x ok.1 q h.1) (fun q hq => by rw [sU_r (by omega), sU_r (by omega), sU_r (by omega), sU_r (by omega), sU_r (by omega), sU_r (by omega), sU_r (by omega)]) ⟨rfl, rfl, rfl⟩
      · show GM (pX11_right u v (nI x) (nI y) (nI z) (nI t) (nI a1) (nI a2)) _ _ _ _ _ _ _ _
        unfold pX11_right
        rw [isProduct_eq h.1, bw, if_pos q1, isIn_eq, bw, if_pos q2, isIn_eq, bw, if_pos q3, isIn_eq, bw, if_pos q4, isIn_eq, bw, if_pos q5, isIn_eq, bw, if_pos q6, if_pos q7, h.1 5 (by decide), if_neg (show ¬ nI (N 5) = (10 : Int32) from by rw [eq_lit (L := 10) 10 rfl (by omega) (by decide)]; omega), ix0 (B := 1054) (L := 6) 1054 6 (N 5) rfl rfl, ixj (J := 1) (1054 + 6 * N 5) 1 rfl, ixj (J := 2) (1054 + 6 * N 5) 2 rfl, ixj (J := 3) (1054 + 6 * N 5) 3 rfl, ixj (J := 4) (1054 + 6 * N 5) 4 rfl, ixj (J := 5) (1054 + 6 * N 5) 5 rfl, gd_ok (by omega) (by decide), gd_ok (by omega) (by decide), gd_ok (by omega) (by decide), gd_ok (by omega) (by decide), gd_ok (by omega) (by decide), gd_ok (by omega) (by decide), cl (by omega), cl (by omega), cl (by omega), cl (by omega), cl (by omega), cl (by omega), sU_c (by omega), sU_c (by omega), sU_c (by omega), sU_c (by omega), sU_c (by omega), sU_c (by omega), h.1 5 (by decide), nI_1]
        exact GM_w h (nG_m h.1) (fun q hq => by rw [sU_r hq, sU_r hq, sU_r hq, sU_r hq, sU_r hq, sU_r hq, sU_r hq])
    · exact SM_neg (-3) ok (fun u v h => by
        show pX10_right u v a b d e g i = _
        unfold pX10_right
        rw [day_eq, bw, if_pos q5, day_eq, bw, if_pos q6, if_neg q7', xProduct_eq h.1.1, bw, if_pos q1, vers_eq, bw, if_pos q2, within_eq, bw, if_pos q3, within_eq, bw, if_pos q4, if_neg (show ¬ u 10 5 < (10 : Int32) from by rw [h.1.1 5 (by decide), lt_lit (L := 10) 10 rfl (by omega) (by decide)]; exact q)]) (fun u v h => by
        show pX11_right u v a b d e g i = _
        unfold pX11_right
        rw [isProduct_eq h.1, bw, if_pos q1, isIn_eq, bw, if_pos q2, isIn_eq, bw, if_pos q3, isIn_eq, bw, if_pos q4, isIn_eq, bw, if_pos q5, isIn_eq, bw, if_pos q6, if_pos q7, if_pos (show u 4 5 = (10 : Int32) from by rw [h.1 5 (by decide), eq_lit (L := 10) 10 rfl (by omega) (by decide)]; omega)])
  · exact SM_neg (-1) ok (fun u v h => by
      show pX10_right u v a b d e g i = _
      unfold pX10_right
      rw [day_eq, day_eq, xProduct_eq h.1.1, vers_eq, within_eq, within_eq]
      simp only [bw]
      by_cases q1 : 0 ≤ a ∧ a < nI (N 0)
      · by_cases q2 : 1 ≤ b ∧ b ≤ 9
        · by_cases q5 : 0 ≤ g ∧ g ≤ 9999
          · by_cases q6 : 0 ≤ i ∧ i ≤ 9999
            · by_cases q7 : i < g
              · simp only [if_pos q5, if_pos q6, if_pos q7, if_pos q1, if_pos q2]
              · by_cases q3 : 0 ≤ d ∧ d ≤ 40
                · have q4 : ¬ (0 ≤ e ∧ e ≤ 1000) := fun y => V ⟨q1, q2, q3, y, q5, q6, fa_of_nlt q7⟩
                  simp only [if_pos q5, if_pos q6, if_neg q7, if_pos q1, if_pos q2, if_pos q3, if_neg q4]
                · simp only [if_pos q5, if_pos q6, if_neg q7, if_pos q1, if_pos q2, if_neg q3]
            · simp only [if_pos q5, if_neg q6, if_pos q1, if_pos q2]
          · simp only [if_neg q5, if_pos q1, if_pos q2]
        · by_cases q5 : 0 ≤ g ∧ g ≤ 9999
          · by_cases q6 : 0 ≤ i ∧ i ≤ 9999
            · by_cases q7 : i < g
              · simp only [if_pos q5, if_pos q6, if_pos q7, if_pos q1, if_neg q2]
              · simp only [if_pos q5, if_pos q6, if_neg q7, if_pos q1, if_neg q2]
            · simp only [if_pos q5, if_neg q6, if_pos q1, if_neg q2]
          · simp only [if_neg q5, if_pos q1, if_neg q2]
      · by_cases q5 : 0 ≤ g ∧ g ≤ 9999
        · by_cases q6 : 0 ≤ i ∧ i ≤ 9999
          · by_cases q7 : i < g
            · simp only [if_pos q5, if_pos q6, if_pos q7, if_neg q1]
            · simp only [if_pos q5, if_pos q6, if_neg q7, if_neg q1]
          · simp only [if_pos q5, if_neg q6, if_neg q1]
        · simp only [if_neg q5, if_neg q1]) (fun u v h => by
      show pX11_right u v a b d e g i = _
      unfold pX11_right
      rw [isProduct_eq h.1, bw, isIn_eq, bw, isIn_eq, bw, isIn_eq, bw, isIn_eq, bw, isIn_eq, bw]
      by_cases q1 : 0 ≤ a ∧ a < nI (N 0)
      · rw [if_pos q1]
        by_cases q2 : 1 ≤ b ∧ b ≤ 9
        · rw [if_pos q2]
          by_cases q3 : 0 ≤ d ∧ d ≤ 40
          · rw [if_pos q3]
            by_cases q4 : 0 ≤ e ∧ e ≤ 1000
            · rw [if_pos q4]
              by_cases q5 : 0 ≤ g ∧ g ≤ 9999
              · rw [if_pos q5]
                by_cases q6 : 0 ≤ i ∧ i ≤ 9999
                · rw [if_pos q6, if_neg (fun y => V ⟨q1, q2, q3, q4, q5, q6, y⟩)]
                · rw [if_neg q6]
              · rw [if_neg q5]
            · rw [if_neg q4]
          · rw [if_neg q3]
        · rw [if_neg q2]
      · rw [if_neg q1])
/-- one place of the book -/
theorem xB_8 {u : tU} {v : tV} {N : tN} {k x : Nat} (ok : okN N) (hk : k = 6 ∨ k = 7) (h : xB u v 10 1 N) : xB (sU u 10 k (nI x)) v 10 1 (va_up N k x) := by
  obtain ⟨k1, ⟨c0, c1, c2, c3, c4, c5, c6, c7⟩, k3, k4, k5, k6, k7, k8⟩ := ok
  obtain ⟨x0, x1, x2, x3, x4, x5, x6⟩ := h
  exact ⟨cr_sU x0, xP_c x1 c0 (vn (by omega)) (fun k a b => vn (by omega)) (fun j a b => sU_r (by omega)),
    xR_c (v := v) (v' := v) x2 c1 (vn (by omega)) (fun k a b => vn (by omega)) (fun j a b => sU_r (by omega)) rfl (fun r hr => (k4 r hr).2.2.1),
    xH_c x3 c2 (vn (by omega)) (fun k a b => vn (by omega)) (fun j a b => sU_r (by omega)),
    xF_c (v := v) (v' := v) x4 c3 (vn (by omega)) (fun k a b => vn (by omega)) (fun j a b => sU_r (by omega)) rfl (fun r hr => (k6 r hr).2.2.2.2.1),
    xU_c x5 c4 (vn (by omega)) (fun k a b => vn (by omega)) (fun j a b => sU_r (by omega)),
    xG_c x6 c5 (vn (by omega)) (fun k a b => vn (by omega)) (fun j a b => sU_r (by omega))⟩
theorem okN_8 {N : tN} {k x : Nat} (ok : okN N) (hk : (k = 6 ∧ x ≤ 9999) ∨ (k = 7 ∧ x ≤ 999)) : okN (va_up N k x) := by
  obtain ⟨k1, ⟨c0, c1, c2, c3, c4, c5, c6, c7⟩, k3, k4, k5, k6, k7, k8⟩ := ok
  refine ⟨bN_up k1 (by omega), ⟨by rw [vn (by omega)]; exact c0, by rw [vn (by omega)]; exact c1, by rw [vn (by omega)]; exact c2, by rw [vn (by omega)]; exact c3, by rw [vn (by omega)]; exact c4, by rw [vn (by omega)]; exact c5, ?_, ?_⟩, okP_c k3 c0 (vn (by omega)) (fun k a b => vn (by omega)), okR_c k4 c1 (vn (by omega)) (by rw [vn (by omega)]; exact Nat.le_refl _) (fun k a b => vn (by omega)), okH_c k5 c2 (vn (by omega)) (fun k a b => vn (by omega)), okF_c k6 c3 (vn (by omega)) (by rw [vn (by omega)]; exact Nat.le_refl _) (fun k a b => vn (by omega)), okU_c k7 c4 (vn (by omega)) (by rw [vn (by omega)]; exact Nat.le_refl _) (fun k a b => vn (by omega)), okG_c k8 c5 (vn (by omega)) (by rw [vn (by omega)]; exact Nat.le_refl _) (fun k a b => vn (by omega))⟩
  · rcases hk with ⟨rfl, h⟩ | ⟨rfl, h⟩
    · rw [vs]; exact h
    · rw [vn (by omega)]; exact c6
  · rcases hk with ⟨rfl, h⟩ | ⟨rfl, h⟩
    · rw [vn (by omega)]; exact c7
    · rw [vs]; exact h
theorem sm_today (ok : OKS N n c K) (f a : Int32) : SM (fun u v => pX10_today u v a) (fun u v => pX11_today u v a) N n c K f := by
  by_cases q : 0 ≤ a ∧ a ≤ 9999
  · obtain ⟨x, x1, rfl⟩ := rl (n := 9999) (by decide) q
    refine ⟨nI (N 6), va_up N 6 x, n, c, K, f, OKS_N ok (okN_8 ok.1 (Or.inl ⟨rfl, x1⟩)), fun u v h => ?_, fun u v h => ?_⟩
    · show GX (pX10_today u v (nI x)) _ _ _ _ _ _ _
      unfold pX10_today
      rw [day_eq, bw, if_pos q, h.1.1 6 (by decide)]
      exact GX_w h (xB_8 ok.1 (Or.inl rfl) h.1) (fun q hq => sU_r (by omega)) ⟨rfl, rfl, rfl⟩
    · show GM (pX11_today u v (nI x)) _ _ _ _ _ _ _ _
      unfold pX11_today
      rw [isIn_eq, bw, if_pos q, h.1 6 (by decide)]
      exact GM_w h (cr_sU h.1) (fun q hq => sU_r hq)
  · exact SM_neg (-1) ok (fun u v h => by
      show pX10_today u v a = _
      unfold pX10_today; rw [day_eq, bw, if_neg q]) (fun u v h => by
      show pX11_today u v a = _
      unfold pX11_today; rw [isIn_eq, bw, if_neg q])
theorem sm_kept (ok : OKS N n c K) (f a : Int32) : SM (fun u v => pX10_kept u v a) (fun u v => pX11_kept u v a) N n c K f := by
  by_cases q : 0 ≤ a ∧ a ≤ 999
  · obtain ⟨x, x1, rfl⟩ := rl (n := 999) (by decide) q
    refine ⟨nI (N 7), va_up N 7 x, n, c, K, f, OKS_N ok (okN_8 ok.1 (Or.inr ⟨rfl, x1⟩)), fun u v h => ?_, fun u v h => ?_⟩
    · show GX (pX10_kept u v (nI x)) _ _ _ _ _ _ _
      unfold pX10_kept
      rw [within_eq, bw, if_pos q, h.1.1 7 (by decide)]
      exact GX_w h (xB_8 ok.1 (Or.inr rfl) h.1) (fun q hq => sU_r (by omega)) ⟨rfl, rfl, rfl⟩
    · show GM (pX11_kept u v (nI x)) _ _ _ _ _ _ _ _
      unfold pX11_kept
      rw [isIn_eq, bw, if_pos q, h.1 7 (by decide)]
      exact GM_w h (cr_sU h.1) (fun q hq => sU_r hq)
  · exact SM_neg (-1) ok (fun u v h => by
      show pX10_kept u v a = _
      unfold pX10_kept; rw [within_eq, bw, if_neg q]) (fun u v h => by
      show pX11_kept u v a = _
      unfold pX11_kept; rw [isIn_eq, bw, if_neg q])
end SM2
