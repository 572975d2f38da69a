theorem mH_ok {N : tN} {i x : Nat} (ok : okN N) (hi : i < N 2) (hx : x ≤ 9) : okN (va_up N (278 + 2 * i + 1) x) := by
  obtain ⟨k1, ⟨c0, c1, c2, c3, c4, c5, c6, c7⟩, k3, k4, k5, k6, k7, k8⟩ := ok
  refine ⟨bN_up k1 (by omega), ⟨by rw [vn (by omega)]; exact c0, by rw [vn (by omega)]; exact c1, by rw [vn (by omega)]; exact c2, by rw [vn (by omega)]; exact c3, by rw [vn (by omega)]; exact c4, by rw [vn (by omega)]; exact c5, by rw [vn (by omega)]; exact c6, by rw [vn (by omega)]; exact c7⟩, ?_, ?_, ?_, ?_, ?_, ?_⟩
  · exact okP_c k3 c0 (vn (by omega)) (fun k a b => vn (by omega))
  · exact okR_c k4 c1 (vn (by omega)) (by rw [vn (by omega)]; exact Nat.le_refl _) (fun k a b => vn (by omega))
  · intro p hp
    rw [vn (by omega)] at hp
    have a := k5 p hp
    by_cases e : p = i
    · subst e; rw [vn (g := N) (k := 278 + 2 * p) (by omega), vs]; exact ⟨a.1, a.2.1, hx⟩
    · rw [vn (g := N) (k := 278 + 2 * p) (by omega), vn (g := N) (k := 278 + 2 * p + 1) (by omega)]; exact a
  · exact okF_c k6 c3 (vn (by omega)) (by rw [vn (by omega)]; exact Nat.le_refl _) (fun k a b => vn (by omega))
  · exact okU_c k7 c4 (vn (by omega)) (by rw [vn (by omega)]; exact Nat.le_refl _) (fun k a b => vn (by omega))
  · exact okG_c k8 c5 (vn (by omega)) (by rw [vn (by omega)]; exact Nat.le_refl _) (fun k a b => vn (by omega))
theorem mH_x {u : tU} {v : tV} {N : tN} {i x : Nat} (ok : okN N) (hi : i < N 2) (h : xB u v 10 1 N) : xB (sU u 17 i (nI x)) v 10 1 (va_up N (278 + 2 * i + 1) x) := by
  obtain ⟨k1, ⟨c0, c1, c2, c3, c4, c5, c6, c7⟩, k3, k4, k5, k6, k7, k8⟩ := ok
  obtain ⟨x0, x1, x2, x3, x4, x5, x6⟩ := h
  refine ⟨?_, ?_, ?_, ?_, ?_, ?_, ?_⟩
  · rw [sU_r (by decide)]; exact cr_same x0 (fun k hk => (vn (by omega)).symm)
  · exact xP_c x1 c0 (vn (by omega)) (fun k a b => vn (by omega)) (fun j a b => sU_r (by omega))
  · exact xR_c (v := v) (v' := v) x2 c1 (vn (by omega)) (fun k a b => vn (by omega)) (fun j a b => sU_r (by omega)) rfl (fun r hr => (k4 r hr).2.2.1)
  · intro p hp
    rw [vn (by omega)] at hp
    have a := x3 p hp
    rw [show sU u 17 i (nI x) (10 + 6) = u (10 + 6) from sU_r (by decide)]
    by_cases e : p = i
    · subst e; rw [vn (g := N) (k := 278 + 2 * p) (by omega), vs]
      exact ⟨a.1, sU_s⟩
    · rw [vn (g := N) (k := 278 + 2 * p) (by omega), vn (g := N) (k := 278 + 2 * p + 1) (by omega), show sU u 17 i (nI x) (10 + 7) p = u (10 + 7) p from sU_c e]; exact a
  · exact xF_c (v := v) (v' := v) x4 c3 (vn (by omega)) (fun k a b => vn (by omega)) (fun j a b => sU_r (by omega)) rfl (fun r hr => (k6 r hr).2.2.2.2.1)
  · exact xU_c x5 c4 (vn (by omega)) (fun k a b => vn (by omega)) (fun j a b => sU_r (by omega))
  · exact xG_c x6 c5 (vn (by omega)) (fun k a b => vn (by omega)) (fun j a b => sU_r (by omega))
theorem mG_ok {N : tN} {i x : Nat} (ok : okN N) (hi : i < N 5) (hx : x ≤ 40) : okN (va_up N (1054 + 6 * i + 2) x) := by
  obtain ⟨k1, ⟨c0, c1, c2, c3, c4, c5, c6, c7⟩, k3, k4, k5, k6, k7, k8⟩ := ok
  refine ⟨bN_up k1 (by omega), ⟨by rw [vn (by omega)]; exact c0, by rw [vn (by omega)]; exact c1, by rw [vn (by omega)]; exact c2, by rw [vn (by omega)]; exact c3, by rw [vn (by omega)]; exact c4, by rw [vn (by omega)]; exact c5, by rw [vn (by omega)]; exact c6, by rw [vn (by omega)]; exact c7⟩, ?_, ?_, ?_, ?_, ?_, ?_⟩
  · exact okP_c k3 c0 (vn (by omega)) (fun k a b => vn (by omega))
  · exact okR_c k4 c1 (vn (by omega)) (by rw [vn (by omega)]; exact Nat.le_refl _) (fun k a b => vn (by omega))
  · exact okH_c k5 c2 (vn (by omega)) (fun k a b => vn (by omega))
  · exact okF_c k6 c3 (vn (by omega)) (by rw [vn (by omega)]; exact Nat.le_refl _) (fun k a b => vn (by omega))
  · exact okU_c k7 c4 (vn (by omega)) (by rw [vn (by omega)]; exact Nat.le_refl _) (fun k a b => vn (by omega))
  · intro p hp
    rw [vn (by omega)] at hp
    have a := k8 p hp
    rw [vn (g := N) (k := 0) (by omega)]
    by_cases e : p = i
    · subst e; rw [vn (g := N) (k := 1054 + 6 * p) (by omega), vn (g := N) (k := 1054 + 6 * p + 1) (by omega), vs, vn (g := N) (k := 1054 + 6 * p + 3) (by omega), vn (g := N) (k := 1054 + 6 * p + 4) (by omega), vn (g := N) (k := 1054 + 6 * p + 5) (by omega)]; exact ⟨a.1, a.2.1, a.2.2.1, hx, a.2.2.2.2⟩
    · rw [vn (g := N) (k := 1054 + 6 * p) (by omega), vn (g := N) (k := 1054 + 6 * p + 1) (by omega), vn (g := N) (k := 1054 + 6 * p + 2) (by omega), vn (g := N) (k := 1054 + 6 * p + 3) (by omega), vn (g := N) (k := 1054 + 6 * p + 4) (by omega), vn (g := N) (k := 1054 + 6 * p + 5) (by omega)]; exact a
theorem mG_x {u : tU} {v : tV} {N : tN} {i x : Nat} (ok : okN N) (hi : i < N 5) (h : xB u v 10 1 N) : xB (sU u 27 i (nI x)) v 10 1 (va_up N (1054 + 6 * i + 2) x) := by
  obtain ⟨k1, ⟨c0, c1, c2, c3, c4, c5, c6, c7⟩, k3, k4, k5, k6, k7, k8⟩ := ok
  obtain ⟨x0, x1, x2, x3, x4, x5, x6⟩ := h
  refine ⟨?_, ?_, ?_, ?_, ?_, ?_, ?_⟩
  · rw [sU_r (by decide)]; exact cr_same x0 (fun k hk => (vn (by omega)).symm)
  · exact xP_c x1 c0 (vn (by omega)) (fun k a b => vn (by omega)) (fun j a b => sU_r (by omega))
  · exact xR_c (v := v) (v' := v) x2 c1 (vn (by omega)) (fun k a b => vn (by omega)) (fun j a b => sU_r (by omega)) rfl (fun r hr => (k4 r hr).2.2.1)
  · exact xH_c x3 c2 (vn (by omega)) (fun k a b => vn (by omega)) (fun j a b => sU_r (by omega))
  · exact xF_c (v := v) (v' := v) x4 c3 (vn (by omega)) (fun k a b => vn (by omega)) (fun j a b => sU_r (by omega)) rfl (fun r hr => (k6 r hr).2.2.2.2.1)
  · exact xU_c x5 c4 (vn (by omega)) (fun k a b => vn (by omega)) (fun j a b => sU_r (by omega))
  · intro p hp
    rw [vn (by omega)] at hp
    have a := x6 p hp
    rw [show sU u 27 i (nI x) (10 + 15) = u (10 + 15) from sU_r (by decide), show sU u 27 i (nI x) (10 + 16) = u (10 + 16) from sU_r (by decide), show sU u 27 i (nI x) (10 + 18) = u (10 + 18) from sU_r (by decide), show sU u 27 i (nI x) (10 + 19) = u (10 + 19) from sU_r (by decide), show sU u 27 i (nI x) (10 + 20) = u (10 + 20) from sU_r (by decide)]
    by_cases e : p = i
    · subst e; rw [vn (g := N) (k := 1054 + 6 * p) (by omega), vn (g := N) (k := 1054 + 6 * p + 1) (by omega), vs, vn (g := N) (k := 1054 + 6 * p + 3) (by omega), vn (g := N) (k := 1054 + 6 * p + 4) (by omega), vn (g := N) (k := 1054 + 6 * p + 5) (by omega)]
      exact ⟨a.1, a.2.1, sU_s, a.2.2.2.1, a.2.2.2.2.1, a.2.2.2.2.2⟩
    · rw [vn (g := N) (k := 1054 + 6 * p) (by omega), vn (g := N) (k := 1054 + 6 * p + 1) (by omega), vn (g := N) (k := 1054 + 6 * p + 2) (by omega), vn (g := N) (k := 1054 + 6 * p + 3) (by omega), vn (g := N) (k := 1054 + 6 * p + 4) (by omega), vn (g := N) (k := 1054 + 6 * p + 5) (by omega), show sU u 27 i (nI x) (10 + 17) p = u (10 + 17) p from sU_c e]; exact a
section SM3
variable {N : tN} {n : Nat} {c : Nat → Nat} {K : Option tN}
theorem sm_moved (ok : OKS N n c K) (f a b : Int32) : SM (fun u v => pX10_moved u v a b) (fun u v => pX11_moved u v a b) N n c K f := by
  have hc := ok.1.2.1.2.2.1
  by_cases q1 : 0 ≤ a ∧ a < nI (N 2)
  · by_cases q2 : 0 ≤ b ∧ b ≤ 9
    · obtain ⟨i, hi, rfl⟩ := rg (by omega) q1
      obtain ⟨x, hx, rfl⟩ := rl (n := 9) (by decide) q2
      refine ⟨nI (N (278 + 2 * i + 1)), va_up N (278 + 2 * i + 1) x, n, c, K, f, OKS_N ok (mH_ok ok.1 hi hx), fun u v h => ?_, fun u v h => ?_⟩
      · show GX (pX10_moved u v (nI i) (nI x)) _ _ _ _ _ _ _
        unfold pX10_moved
        rw [xHost_eq h.1.1, bw, if_pos q1, within_eq, bw, if_pos q2, gd_ok (by omega) (by decide), gd_ok (by omega) (by decide), cl (by omega), show u 17 i = nI (N (278 + 2 * i + 1)) from (h.1.2.2.2.1 i hi).2]
        exact GX_w h (mH_x ok.1 hi h.1) (fun q hq => sU_r (by omega)) ⟨rfl, rfl, rfl⟩
      · show GM (pX11_moved u v (nI i) (nI x)) _ _ _ _ _ _ _ _
        unfold pX11_moved
        rw [isHost_eq h.1, bw, if_pos q1, isIn_eq, bw, if_pos q2, hostAt_eq (b := 1) (i := i) (j := 1) h.1 rfl rfl (by omega), Option.bind_some, ix0 (B := 278) (L := 2) 278 2 i rfl rfl, ixj (J := 1) (278 + 2 * i) 1 rfl, gd_ok (by omega) (by decide), cl (by omega)]
        exact GM_w h (cr_sU h.1) (fun q hq => sU_r hq)
    · exact SM_neg (-1) ok (fun u v h => by
        show pX10_moved u v a b = _
        unfold pX10_moved; rw [xHost_eq h.1.1, bw, if_pos q1, within_eq, bw, if_neg q2]) (fun u v h => by
        show pX11_moved u v a b = _
        unfold pX11_moved; rw [isHost_eq h.1, bw, if_pos q1, isIn_eq, bw, if_neg q2])
  · exact SM_neg (-1) ok (fun u v h => by
      show pX10_moved u v a b = _
      unfold pX10_moved; rw [xHost_eq h.1.1, bw, if_neg q1]) (fun u v h => by
      show pX11_moved u v a b = _
      unfold pX11_moved; rw [isHost_eq h.1, bw, if_neg q1])
theorem sm_amount (ok : OKS N n c K) (f a b : Int32) : SM (fun u v => pX10_amount u v a b) (fun u v => pX11_amount u v a b) N n c K f := by
  have hc := ok.1.2.1.2.2.2.2.2.1
  by_cases q1 : 0 ≤ a ∧ a < nI (N 5)
  · by_cases q2 : 0 ≤ b ∧ b ≤ 40
    · obtain ⟨i, hi, rfl⟩ := rg (by omega) q1
      obtain ⟨x, hx, rfl⟩ := rl (n := 40) (by decide) q2
      refine ⟨nI (N (1054 + 6 * i + 2)), va_up N (1054 + 6 * i + 2) x, n, c, K, f, OKS_N ok (mG_ok ok.1 hi hx), fun u v h => ?_, fun u v h => ?_⟩
      · show GX (pX10_amount u v (nI i) (nI x)) _ _ _ _ _ _ _
        unfold pX10_amount
        rw [xRight_eq h.1.1, bw, if_pos q1, within_eq, bw, if_pos q2, gd_ok (by omega) (by decide), gd_ok (by omega) (by decide), cl (by omega), show u 27 i = nI (N (1054 + 6 * i + 2)) from (h.1.2.2.2.2.2.2 i hi).2.2.1]
        exact GX_w h (mG_x ok.1 hi h.1) (fun q hq => sU_r (by omega)) ⟨rfl, rfl, rfl⟩
      · show GM (pX11_amount u v (nI i) (nI x)) _ _ _ _ _ _ _ _
        unfold pX11_amount
        rw [isRight_eq h.1, bw, if_pos q1, isIn_eq, bw, if_pos q2, rightAt_eq (b := 2) (i := i) (j := 2) h.1 rfl rfl (by omega), Option.bind_some, ix0 (B := 1054) (L := 6) 1054 6 i rfl rfl, ixj (J := 2) (1054 + 6 * i) 2 rfl, gd_ok (by omega) (by decide), cl (by omega)]
        exact GM_w h (cr_sU h.1) (fun q hq => sU_r hq)
    · exact SM_neg (-1) ok (fun u v h => by
        show pX10_amount u v a b = _
        unfold pX10_amount; rw [xRight_eq h.1.1, bw, if_pos q1, within_eq, bw, if_neg q2]) (fun u v h => by
        show pX11_amount u v a b = _
        unfold pX11_amount; rw [isRight_eq h.1, bw, if_pos q1, isIn_eq, bw, if_neg q2])
  · exact SM_neg (-1) ok (fun u v h => by
      show pX10_amount u v a b = _
      unfold pX10_amount; rw [xRight_eq h.1.1, bw, if_neg q1]) (fun u v h => by
      show pX11_amount u v a b = _
      unfold pX11_amount; rw [isRight_eq h.1, bw, if_neg q1])
theorem enc_s {c : Nat → Nat} {n x : Nat} : enc (va_up c n x) (n + 1) = enc c n + x * 32 ^ n := by
  show enc (va_up c n x) n + va_up c n x n * 32 ^ n = _
  rw [vs, enc_cong (d := c) (fun k hk => vn (by omega))]
theorem sm_letter (ok : OKS N n c K) (f a : Int32) : SM (fun u v => pX10_letter u v a) (fun u v => pX11_letter u v a) N n c K f := by
  have hn := ok.2.1
  by_cases q1 : 1 ≤ a ∧ a ≤ 28
  · by_cases q2 : n < 12
    · obtain ⟨x, x1, x2, rfl⟩ := rm (m := 1) (n := 28) (by decide) (by decide) q1
      refine ⟨nI (n + 1), N, n + 1, va_up c n x, K, f, ⟨ok.1, by omega, fun k hk => ?_, ok.2.2.2⟩, fun u v h => ?_, fun u v h => ?_⟩
      · by_cases e : k = n
        · subst e; rw [vs]; exact ⟨x1, x2⟩
        · rw [vn e]; exact ok.2.2.1 k (by omega)
      · show GX (pX10_letter u v (nI x)) _ _ _ _ _ _ _
        unfold pX10_letter
        rw [within_eq, bw, if_pos q1, if_pos (show u 0 2 < (12 : Int32) from by rw [h.2.1, lt_lit (L := 12) 12 rfl (by omega) (by decide)]; exact q2)]
        unfold pX4_add
        have hl := enc_lt (c := c) (n := n) (fun k hk => by have := ok.2.2.1 k hk; omega)
        have hp : 32 ^ n * 32 ≤ 2 ^ 60 := by rw [← Nat.pow_succ, show (2 : Nat) ^ 60 = 32 ^ 12 from by decide]; exact Nat.pow_le_pow_right (by decide) (by omega)
        have hxl : x * 32 ^ n < 2 ^ 64 := by
          have : x * 32 ^ n ≤ 32 * 32 ^ n := Nat.mul_le_mul_right _ (by omega)
          have h60 : (2 : Nat) ^ 60 < 2 ^ 64 := by decide
          omega
        have hel : enc c n < 2 ^ 64 := by
          have h60 : (2 : Nat) ^ 60 < 2 ^ 64 := by decide
          omega
        have e1 : (v 0 0) ||| ((nI x).toInt64 <<< (((5 : Int32) * (u 0 2)).toInt64 &&& 63)) = lN (enc (va_up c n x) (n + 1)) := by
          rw [h.2.1, h.2.2.1, show (5 : Int32) = nI 5 from rfl, pk_mul, show (nI x).toInt64 = lN x from nI_l (by omega), wb_shl x (by omega), p32, wb_or hel hxl, enc_s]
          have h9 : enc c n ||| x * 32 ^ n = enc c n + x * 32 ^ n := by
            rw [← p32] at hl ⊢
            rw [Nat.or_comm, Nat.mul_comm x, ← Nat.two_pow_add_eq_or_of_lt hl, Nat.add_comm]
          rw [h9]
        rw [e1, Option.bind_some]
        dsimp only
        rw [sU_s, h.2.1, nI_1]
        obtain ⟨h1, h2, h3, h4, h5⟩ := h
        refine ⟨_, _, rfl, ⟨?_, sU_s, sV_s, by rw [sU_c (by decide)]; exact h4, ?_⟩, sU_r (by decide), sU_r (by decide), sU_r (by decide), fun k hk => sU_c (by omega)⟩
        · obtain ⟨d0, d1, d2, d3, d4, d5, d6⟩ := xB_rows (u' := sU u 0 2 (nI (n + 1))) (fun j _ => sU_r (by omega)) h1
          exact ⟨d0, d1, by unfold xR; rw [sV_r (by decide)]; exact d2, d3, by unfold xF; rw [sV_r (by decide)]; exact d4, d5, d6⟩
        · rcases h5 with ⟨a, b⟩ | ⟨M, a, b, d⟩
          · exact Or.inl ⟨a, by rw [sU_c (by decide)]; exact b⟩
          · refine Or.inr ⟨M, a, by rw [sU_c (by decide)]; exact b, ?_⟩
            obtain ⟨d0, d1, d2, d3, d4, d5, d6⟩ := xB_rows (u' := sU u 0 2 (nI (n + 1))) (fun j _ => sU_r (by omega)) d
            exact ⟨d0, d1, by unfold xR; rw [sV_r (by decide)]; exact d2, d3, by unfold xF; rw [sV_r (by decide)]; exact d4, d5, d6⟩
      · show GM (pX11_letter u v (nI x)) _ _ _ _ _ _ _ _
        unfold pX11_letter
        obtain ⟨h1, h2, h3, h4, h5⟩ := h
        rw [isIn_eq, bw, if_pos q1, h2, if_neg (show ¬ nI n = (12 : Int32) from by rw [eq_lit (L := 12) 12 rfl (by omega) (by decide)]; omega), gd_ok q2 (by decide), cl (by omega), sU_r (r' := 0) (r := 3) (by decide), h2, nI_1, sU_s]
        refine ⟨_, rfl, ⟨by rw [sU_r (by decide), sU_r (by decide)]; exact h1, sU_s, fun k hk => ?_, by rw [sU_c (by decide), sU_r (by decide)]; exact h4, ?_⟩, fun q hq => by rw [sU_r (by omega), sU_r (by omega)], fun k hk => by rw [sU_c (by omega), sU_r (by decide)]⟩
        · rw [sU_r (by decide)]
          by_cases e : k = n
          · subst e; rw [sU_s, vs]
          · rw [sU_c e, vn e]; exact h3 k (by omega)
        · rcases h5 with ⟨a, b⟩ | ⟨M, a, b, d⟩
          · exact Or.inl ⟨a, by rw [sU_c (by decide), sU_r (by decide)]; exact b⟩
          · exact Or.inr ⟨M, a, by rw [sU_c (by decide), sU_r (by decide)]; exact b, by rw [sU_r (by decide), sU_r (by decide)]; exact d⟩
    · exact SM_neg (-3) ok (fun u v h => by
        show pX10_letter u v a = _
        unfold pX10_letter
        rw [within_eq, bw, if_pos q1, if_neg (show ¬ u 0 2 < (12 : Int32) from by rw [h.2.1, lt_lit (L := 12) 12 rfl (by omega) (by decide)]; exact q2)]) (fun u v h => by
        show pX11_letter u v a = _
        unfold pX11_letter
        rw [isIn_eq, bw, if_pos q1, if_pos (show u 0 5 = (12 : Int32) from by rw [h.2.1, eq_lit (L := 12) 12 rfl (by omega) (by decide)]; omega)])
  · exact SM_neg (-1) ok (fun u v h => by
      show pX10_letter u v a = _
      unfold pX10_letter; rw [within_eq, bw, if_neg q1]) (fun u v h => by
      show pX11_letter u v a = _
      unfold pX11_letter; rw [isIn_eq, bw, if_neg q1])
end SM3
