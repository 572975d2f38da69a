section SM1
variable {N : tN} {n : Nat} {c : Nat → Nat} {K : Option tN}
theorem OKS_N (ok : OKS N n c K) {N' : tN} (h : okN N') : OKS N' n c K := ⟨h, ok.2⟩
theorem sm_host (ok : OKS N n c K) (f a b : Int32) : SM (fun u v => pX10_host u v a b) (fun u v => pX11_host u v a b) N n c K f := by
  have hc := ok.1.2.1.2.2.1
  by_cases q1 : 1 ≤ a ∧ a ≤ 64
  · by_cases q2 : 0 ≤ b ∧ b ≤ 9
    · by_cases q3 : N 2 < 8
      · obtain ⟨x, x1, x2, rfl⟩ := rm (m := 1) (n := 64) (by decide) (by decide) q1
        obtain ⟨y, y1, rfl⟩ := rl (n := 9) (by decide) q2
        refine ⟨nI (N 2), nH N x y, n, c, K, f, OKS_N ok (nH_ok ok.1 q3 ⟨x1, x2⟩ y1), fun u v h => ?_, fun u v h => ?_⟩
        · show GX (pX10_host u v (nI x) (nI y)) _ _ _ _ _ _ _
          unfold pX10_host
          rw [within_eq, bw, if_pos q1, within_eq, bw, if_pos q2, if_pos (show u 10 2 < (8 : Int32) from by rw [h.1.1 2 (by decide), lt_lit (L := 8) 8 rfl (by omega) (by decide)]; exact q3), pX3_add_eq (h.1.1 2 (by decide)) q3, Option.bind_some]
          exact GX_w h (nH_x ok.1 q3 h.1) (fun q hq => by rw [sU_r (by omega), sU_r (by omega), sU_r (by omega)]) ⟨rfl, rfl, rfl⟩
        · show GM (pX11_host u v (nI x) (nI y)) _ _ _ _ _ _ _ _
          unfold pX11_host
          rw [isIn_eq, bw, if_pos q1, isIn_eq, bw, if_pos q2, h.1 2 (by decide), if_neg (show ¬ nI (N 2) = (8 : Int32) from by rw [eq_lit (L := 8) 8 rfl (by omega) (by decide)]; omega), ix0 (B := 278) (L := 2) 278 2 (N 2) rfl rfl, ixj (J := 1) (278 + 2 * N 2) 1 rfl, gd_ok (by omega) (by decide), gd_ok (by omega) (by decide), cl (by omega), cl (by omega), sU_c (by omega), sU_c (by omega), h.1 2 (by decide), nI_1]
          exact GM_w h (nH_m h.1) (fun q hq => by rw [sU_r hq, sU_r hq, sU_r hq])
      · exact SM_neg (-3) ok (fun u v h => by
          show pX10_host u v a b = _
          unfold pX10_host
          rw [within_eq, bw, if_pos q1, within_eq, bw, if_pos q2, if_neg (show ¬ u 10 2 < (8 : Int32) from by rw [h.1.1 2 (by decide), lt_lit (L := 8) 8 rfl (by omega) (by decide)]; exact q3)]) (fun u v h => by
          show pX11_host u v a b = _
          unfold pX11_host
          rw [isIn_eq, bw, if_pos q1, isIn_eq, bw, if_pos q2, if_pos (show u 4 2 = (8 : Int32) from by rw [h.1 2 (by decide), eq_lit (L := 8) 8 rfl (by omega) (by decide)]; omega)])
    · exact SM_neg (-1) ok (fun u v h => by
        show pX10_host u v a b = _
        unfold pX10_host
        rw [within_eq, bw, if_pos q1, within_eq, bw, if_neg q2]) (fun u v h => by
        show pX11_host u v a b = _
        unfold pX11_host
        rw [isIn_eq, bw, if_pos q1, isIn_eq, bw, if_neg q2])
  · exact SM_neg (-1) ok (fun u v h => by
      show pX10_host u v a b = _
      unfold pX10_host
      rw [within_eq, bw, if_neg q1]) (fun u v h => by
      show pX11_host u v a b = _
      unfold pX11_host
      rw [isIn_eq, bw, if_neg q1])
theorem under_1 (a : Int32) : pX10_isUnder a 1 = some (if a = 1 ∨ a = 3 then 1 else 0) := by
  unfold pX10_isUnder
  by_cases h1 : a = 1
  · rw [if_pos h1, if_pos (Or.inl h1)]
  · rw [if_neg h1, if_neg (show ¬ (1 : Int32) = 0 from by decide), if_pos (show (1 : Int32) = 1 from rfl)]
    by_cases h3 : a = 3
    · rw [if_pos h3, if_pos (Or.inr h3)]
    · rw [if_neg h3, if_neg (fun y => y.elim h1 h3)]
theorem sm_product (ok : OKS N n c K) (f a b d : Int32) : SM (fun u v => pX10_product u v a b d) (fun u v => pX11_product u v a b d) N n c K f := by
  have hc := ok.1.2.1.1
  by_cases q1 : 0 ≤ a ∧ a ≤ 3
  · by_cases s : a = 1 ∨ a = 3
    · by_cases q2 : 0 ≤ b ∧ b ≤ 1023
      · by_cases q4 : 1 ≤ d ∧ d ≤ 10
        · by_cases q3 : N 0 < 10
          · obtain ⟨x, x1, rfl⟩ := rl (n := 3) (by decide) q1
            obtain ⟨y, y1, rfl⟩ := rl (n := 1023) (by decide) q2
            obtain ⟨z, z1, z2, rfl⟩ := rm (m := 1) (n := 10) (by decide) (by decide) q4
            refine ⟨nI (N 0), nP N x y z, n, c, K, f, OKS_N ok (nP_ok ok.1 q3 x1 y1 z2 (fun _ => z1)), fun u v h => ?_, fun u v h => ?_⟩
            · show GX (pX10_product u v (nI x) (nI y) (nI z)) _ _ _ _ _ _ _
              unfold pX10_product
              rw [kind_eq, bw, if_pos q1, under_1, bw, if_pos s, within_eq, bw, if_pos q2, within_eq, bw, if_pos q4, if_pos (show u 10 0 < (10 : Int32) from by rw [h.1.1 0 (by decide), lt_lit (L := 10) 10 rfl (by omega) (by decide)]; exact q3), pX6_add_eq (h.1.1 0 (by decide)) q3, Option.bind_some]
              exact GX_w h (nP_x ok.1 q3 (fun _ => ⟨rfl, rfl⟩) h.1) (fun q hq => by rw [sU_r (by omega), sU_r (by omega), sU_r (by omega), sU_r (by omega)]) ⟨rfl, rfl, rfl⟩
            · show GM (pX11_product u v (nI x) (nI y) (nI z)) _ _ _ _ _ _ _ _
              have fin : GM (if u 4 0 = (10 : Int32) then (pX11_finding u v (-3 : Int32)).bind fun o => (match o with | (r32, u29, v30) => some (r32, u29, v30)) else gd ((8 : Int32) + ((3 : Int32) * (u 4 0))) 1114 (gd (((8 : Int32) + ((3 : Int32) * (u 4 0))) + (1 : Int32)) 1114 (gd (((8 : Int32) + ((3 : Int32) * (u 4 0))) + (2 : Int32)) 1114 (some ((u 4 0), (sU (sU (sU (sU u 4 ((8 : Int32) + ((3 : Int32) * (u 4 0))).toNatClampNeg (nI x)) 4 (((8 : Int32) + ((3 : Int32) * (u 4 0))) + (1 : Int32)).toNatClampNeg (nI y)) 4 (((8 : Int32) + ((3 : Int32) * (u 4 0))) + (2 : Int32)).toNatClampNeg (nI z)) 4 0 (((sU (sU (sU u 4 ((8 : Int32) + ((3 : Int32) * (u 4 0))).toNatClampNeg (nI x)) 4 (((8 : Int32) + ((3 : Int32) * (u 4 0))) + (1 : Int32)).toNatClampNeg (nI y)) 4 (((8 : Int32) + ((3 : Int32) * (u 4 0))) + (2 : Int32)).toNatClampNeg (nI z)) 4 0) + (1 : Int32))), v))))) u v (nP N x y z) n c K f (nI (N 0)) := by
                rw [h.1 0 (by decide), if_neg (show ¬ nI (N 0) = (10 : Int32) from by rw [eq_lit (L := 10) 10 rfl (by omega) (by decide)]; omega), ix0 (B := 8) (L := 3) 8 3 (N 0) rfl rfl, ixj (J := 1) (8 + 3 * N 0) 1 rfl, ixj (J := 2) (8 + 3 * N 0) 2 rfl, gd_ok (by omega) (by decide), gd_ok (by omega) (by decide), gd_ok (by omega) (by decide), cl (by omega), cl (by omega), cl (by omega), sU_c (by omega), sU_c (by omega), sU_c (by omega), h.1 0 (by decide), nI_1]
                exact GM_w h (nP_m h.1) (fun q hq => by rw [sU_r hq, sU_r hq, sU_r hq, sU_r hq])
              unfold pX11_product
              by_cases s1 : nI x = 1
              · rw [if_pos s1, isIn_eq, bw, if_pos q1, isIn_eq, bw, if_pos q2, isIn_eq, bw, if_pos q4]; exact fin
              · rw [if_neg s1, if_pos (s.elim (fun y => absurd y s1) id), isIn_eq, bw, if_pos q1, isIn_eq, bw, if_pos q2, isIn_eq, bw, if_pos q4]; exact fin
          · exact SM_neg (-3) ok (fun u v h => by
              show pX10_product u v a b d = _
              unfold pX10_product
              rw [kind_eq, bw, if_pos q1, under_1, bw, if_pos s, within_eq, bw, if_pos q2, within_eq, bw, if_pos q4, if_neg (show ¬ u 10 0 < (10 : Int32) from by rw [h.1.1 0 (by decide), lt_lit (L := 10) 10 rfl (by omega) (by decide)]; exact q3)]) (fun u v h => by
              show pX11_product u v a b d = _
              have e := show u 4 0 = (10 : Int32) from by rw [h.1 0 (by decide), eq_lit (L := 10) 10 rfl (by omega) (by decide)]; omega
              unfold pX11_product
              by_cases s1 : a = 1
              · rw [if_pos s1, isIn_eq, bw, if_pos q1, isIn_eq, bw, if_pos q2, isIn_eq, bw, if_pos q4, if_pos e]
              · rw [if_neg s1, if_pos (s.elim (fun y => absurd y s1) id), isIn_eq, bw, if_pos q1, isIn_eq, bw, if_pos q2, isIn_eq, bw, if_pos q4, if_pos e])
        · exact SM_neg (-1) ok (fun u v h => by
            show pX10_product u v a b d = _
            unfold pX10_product
            rw [kind_eq, bw, if_pos q1, under_1, bw, if_pos s, within_eq, bw, if_pos q2, within_eq, bw, if_neg q4]) (fun u v h => by
            show pX11_product u v a b d = _
            unfold pX11_product
            by_cases s1 : a = 1
            · rw [if_pos s1, isIn_eq, bw, if_pos q1, isIn_eq, bw, if_pos q2, isIn_eq, bw, if_neg q4]
            · rw [if_neg s1, if_pos (s.elim (fun y => absurd y s1) id), isIn_eq, bw, if_pos q1, isIn_eq, bw, if_pos q2, isIn_eq, bw, if_neg q4])
      · exact SM_neg (-1) ok (fun u v h => by
          show pX10_product u v a b d = _
          unfold pX10_product
          rw [kind_eq, bw, if_pos q1, under_1, bw, if_pos s, within_eq, bw, if_neg q2]) (fun u v h => by
          show pX11_product u v a b d = _
          unfold pX11_product
          by_cases s1 : a = 1
          · rw [if_pos s1, isIn_eq, bw, if_pos q1, isIn_eq, bw, if_neg q2]
          · rw [if_neg s1, if_pos (s.elim (fun y => absurd y s1) id), isIn_eq, bw, if_pos q1, isIn_eq, bw, if_neg q2])
    · have s1 : ¬ a = 1 := fun y => s (Or.inl y)
      have s3 : ¬ a = 3 := fun y => s (Or.inr y)
      by_cases q3 : N 0 < 10
      · obtain ⟨x, x1, rfl⟩ := rl (n := 3) (by decide) q1
        have sx : ¬ (x = 1 ∨ x = 3) := fun y => y.elim (fun y => s1 (by rw [y]; rfl)) (fun y => s3 (by rw [y]; rfl))
        obtain ⟨y2, -, rfl⟩ := wb_of32 b
        obtain ⟨z2, -, rfl⟩ := wb_of32 d
        refine ⟨nI (N 0), nP N x 0 0, n, c, K, f, OKS_N ok (nP_ok ok.1 q3 x1 (by decide) (by decide) (fun y => absurd y sx)), fun u v h => ?_, fun u v h => ?_⟩
        · show GX (pX10_product u v (nI x) (nI y2) (nI z2)) _ _ _ _ _ _ _
          unfold pX10_product
          rw [kind_eq, bw, if_pos q1, under_1, bw, if_neg s, if_pos (show u 10 0 < (10 : Int32) from by rw [h.1.1 0 (by decide), lt_lit (L := 10) 10 rfl (by omega) (by decide)]; exact q3), pX6_add_eq (h.1.1 0 (by decide)) q3, Option.bind_some]
          exact GX_w h (nP_x ok.1 q3 (fun y => absurd y sx) h.1) (fun q hq => by rw [sU_r (by omega), sU_r (by omega), sU_r (by omega), sU_r (by omega)]) ⟨rfl, rfl, rfl⟩
        · show GM (pX11_product u v (nI x) (nI y2) (nI z2)) _ _ _ _ _ _ _ _
          unfold pX11_product
          rw [if_neg s1, if_neg s3, isIn_eq, bw, if_pos q1, h.1 0 (by decide), if_neg (show ¬ nI (N 0) = (10 : Int32) from by rw [eq_lit (L := 10) 10 rfl (by omega) (by decide)]; omega), ix0 (B := 8) (L := 3) 8 3 (N 0) rfl rfl, ixj (J := 1) (8 + 3 * N 0) 1 rfl, ixj (J := 2) (8 + 3 * N 0) 2 rfl, gd_ok (by omega) (by decide), gd_ok (by omega) (by decide), gd_ok (by omega) (by decide), cl (by omega), cl (by omega), cl (by omega), sU_c (by omega), sU_c (by omega), sU_c (by omega), h.1 0 (by decide), nI_1]
          exact GM_w h (nP_m (y := 0) (z := 0) h.1) (fun q hq => by rw [sU_r hq, sU_r hq, sU_r hq, sU_r hq])
      · exact SM_neg (-3) ok (fun u v h => by
          show pX10_product u v a b d = _
          unfold pX10_product
          rw [kind_eq, bw, if_pos q1, under_1, bw, if_neg s, if_neg (show ¬ u 10 0 < (10 : Int32) from by rw [h.1.1 0 (by decide), lt_lit (L := 10) 10 rfl (by omega) (by decide)]; exact q3)]) (fun u v h => by
          show pX11_product u v a b d = _
          unfold pX11_product
          rw [if_neg s1, if_neg s3, isIn_eq, bw, if_pos q1, if_pos (show u 4 0 = (10 : Int32) from by rw [h.1 0 (by decide), eq_lit (L := 10) 10 rfl (by omega) (by decide)]; omega)])
  · exact SM_neg (-1) ok (fun u v h => by
      show pX10_product u v a b d = _
      unfold pX10_product
      rw [kind_eq, bw, if_neg q1]) (fun u v h => by
      show pX11_product u v a b d = _
      unfold pX11_product
      by_cases s1 : a = 1
      · exact absurd (by subst s1; decide) q1
      · by_cases s3 : a = 3
        · exact absurd (by subst s3; decide) q1
        · rw [if_neg s1, if_neg s3, isIn_eq, bw, if_neg q1])
end SM1
