theorem sh_if {α : Type} {a r m : Nat} (h : r < m) (f : Nat → α) : (if a ≤ r ∧ r < m then f (r + 1) else f r) = f (if r < a then r else r + 1) := by
  by_cases z : r < a
  · rw [if_neg (by omega), if_pos z]
  · rw [if_pos (by omega), if_neg z]
def rmR (N : tN) (a : Nat) : tN := fun k => if 38 + 15 * a ≤ k ∧ k < 38 + 15 * (N 1 - 1) then N (k + 15) else if k = 1 then N 1 - 1 else N k
theorem rmR_i {N : tN} {a k : Nat} (h : 38 + 15 * a ≤ k ∧ k < 38 + 15 * (N 1 - 1)) : rmR N a k = N (k + 15) := by unfold rmR; rw [if_pos h]
theorem rmR_o {N : tN} {a k : Nat} (h : ¬ (38 + 15 * a ≤ k ∧ k < 38 + 15 * (N 1 - 1))) (h2 : k ≠ 1) : rmR N a k = N k := by unfold rmR; rw [if_neg h, if_neg h2]
theorem rmR_c {N : tN} {a : Nat} : rmR N a 1 = N 1 - 1 := by unfold rmR; rw [if_neg (by omega), if_pos rfl]
theorem rmR_e {N : tN} {a r j : Nat} (ha : a < N 1) (hr : r < N 1 - 1) (hj : j < 15) : rmR N a (38 + 15 * r + j) = N (38 + 15 * (if r < a then r else r + 1) + j) := by
  by_cases z : r < a
  · rw [rmR_o (by omega) (by omega), if_pos z]
  · rw [rmR_i (by omega), if_neg z]; congr 1; omega
theorem rmR_e0 {N : tN} {a r : Nat} (ha : a < N 1) (hr : r < N 1 - 1) : rmR N a (38 + 15 * r) = N (38 + 15 * (if r < a then r else r + 1)) := rmR_e (j := 0) ha hr (by omega)
theorem rmR_ok {N : tN} {a : Nat} (ok : okN N) (ha : a < N 1) : okN (rmR N a) := by
  obtain ⟨k1, ⟨c0, c1, c2, c3, c4, c5, c6, c7⟩, k3, k4, k5, k6, k7, k8⟩ := ok
  refine ⟨fun k => ?_, ⟨by rw [rmR_o (by omega) (by omega)]; exact c0, by rw [rmR_c]; omega, by rw [rmR_o (by omega) (by omega)]; exact c2, by rw [rmR_o (by omega) (by omega)]; exact c3, by rw [rmR_o (by omega) (by omega)]; exact c4, by rw [rmR_o (by omega) (by omega)]; exact c5, by rw [rmR_o (by omega) (by omega)]; exact c6, by rw [rmR_o (by omega) (by omega)]; exact c7⟩, ?_, ?_, ?_, ?_, ?_, ?_⟩
  · unfold rmR
    split
    · exact k1 _
    · split
      · have := k1 1; omega
      · exact k1 _
  · exact okP_c k3 c0 (rmR_o (by omega) (by omega)) (fun k a b => rmR_o (by omega) (by omega))
  · intro r hr
    rw [rmR_c] at hr
    have q := k4 (if r < a then r else r + 1) (by split <;> omega)
    rw [rmR_o (k := 0) (by omega) (by omega), rmR_e0 ha hr, rmR_e (j := 1) ha hr (by omega), rmR_e (j := 2) ha hr (by omega)]
    refine ⟨q.1, q.2.1, q.2.2.1, fun k hk => ?_, fun k hk => ?_⟩
    · have := q.2.2.1; rw [rmR_e (j := 3 + k) ha hr (by omega)]; exact q.2.2.2.1 k hk
    · have := q.2.2.1; rw [rmR_e (j := 3 + k) ha hr (by omega)]; exact q.2.2.2.2 k hk
  · exact okH_c k5 c2 (rmR_o (by omega) (by omega)) (fun k a b => rmR_o (by omega) (by omega))
  · exact okF_c k6 c3 (rmR_o (by omega) (by omega)) (by rw [rmR_o (by omega) (by omega)]; exact Nat.le_refl _) (fun k a b => rmR_o (by omega) (by omega))
  · exact okU_c k7 c4 (rmR_o (by omega) (by omega)) (by rw [rmR_o (by omega) (by omega)]; exact Nat.le_refl _) (fun k a b => rmR_o (by omega) (by omega))
  · exact okG_c k8 c5 (rmR_o (by omega) (by omega)) (by rw [rmR_o (by omega) (by omega)]; exact Nat.le_refl _) (fun k a b => rmR_o (by omega) (by omega))
def siR (u : tU) (v : tV) (a k : Nat) (u' : tU) (v' : tV) : Prop := (∀ q, q < 14 ∨ 15 < q → u' q = u q) ∧ (∀ q, q ≠ 1 → v' q = v q) ∧ (∀ j, v' 1 j = if a ≤ j ∧ j < k then v 1 (j + 1) else v 1 j) ∧ (∀ j, u' 14 j = if a ≤ j ∧ j < k then u 14 (j + 1) else u 14 j) ∧ (∀ j, u' 15 j = if a ≤ j ∧ j < k then u 15 (j + 1) else u 15 j)
theorem xRemR {u : tU} {v : tV} {a m : Nat} (hc : u 10 1 = nI (m + 1)) (hm : m < 16) (ha : a ≤ m) : ∃ u' v', pX8_remove_L2 fuel (nI a) u v = some (u', v') ∧ siR u v a m u' v' := by
  have key : ∀ (e k i : Nat) (u1 : tU) (v1 : tV), k + e = m → a ≤ k → e < i → siR u v a k u1 v1 → ∃ u' v', pX8_remove_L2 i (nI k) u1 v1 = some (u', v') ∧ siR u v a m u' v' := by
    intro e
    induction e with
    | zero =>
      intro k i u1 v1 hk hak hi h
      obtain ⟨i, rfl⟩ : ∃ i', i = i' + 1 := ⟨i - 1, by omega⟩
      obtain rfl : k = m := by omega
      exact ⟨u1, v1, by rw [pX8_remove_L2, h.1 10 (by omega), hc, nI_1, if_pos (nI_le (Nat.le_refl _) (by omega))], h⟩
    | succ e ih =>
      intro k i u1 v1 hk hak hi h
      obtain ⟨i, rfl⟩ : ∃ i', i = i' + 1 := ⟨i - 1, by omega⟩
      rw [pX8_remove_L2, h.1 10 (by omega), hc, nI_1, if_neg (nI_ge (by omega) (by omega))]
      rw [gd_ok (by omega) (by decide), gd_ok (by omega) (by decide), gd_ok (by omega) (by decide), gd_ok (by omega) (by decide), gd_ok (by omega) (by decide), gd_ok (by omega) (by decide), cl (by omega), cl (by omega)]
      refine ih (k + 1) i _ _ (by omega) (by omega) (by omega) ?_
      refine ⟨fun q hq => ?_, fun q hq => ?_, fun j => ?_, fun j => ?_, fun j => ?_⟩
      · rw [sU_r (by omega), sU_r (by omega)]; exact h.1 q hq
      · rw [sV_r hq]; exact h.2.1 q hq
      · by_cases z : j = k
        · subst z; rw [sV_s, h.2.2.1, if_neg (by omega), if_pos (by omega)]
        · rw [sV_c z, h.2.2.1]
          by_cases y : a ≤ j ∧ j < k
          · rw [if_pos y, if_pos (by omega)]
          · rw [if_neg y, if_neg (by omega)]
      · by_cases z : j = k
        · subst z; rw [sU_r (by decide), sU_s, h.2.2.2.1, if_neg (by omega), if_pos (by omega)]
        · rw [sU_r (by decide), sU_c z, h.2.2.2.1]
          by_cases y : a ≤ j ∧ j < k
          · rw [if_pos y, if_pos (by omega)]
          · rw [if_neg y, if_neg (by omega)]
      · by_cases z : j = k
        · subst z; rw [sU_s, sU_r (by decide), h.2.2.2.2, if_neg (by omega), if_pos (by omega)]
        · rw [sU_c z, sU_r (by decide), h.2.2.2.2]
          by_cases y : a ≤ j ∧ j < k
          · rw [if_pos y, if_pos (by omega)]
          · rw [if_neg y, if_neg (by omega)]
  exact key (m - a) a fuel u v (by omega) (Nat.le_refl _) (by unfold fuel; omega) ⟨fun _ _ => rfl, fun _ _ => rfl, fun j => by rw [if_neg (by omega)], fun j => by rw [if_neg (by omega)], fun j => by rw [if_neg (by omega)]⟩
theorem xRemR_x {u u' : tU} {v v' : tV} {N : tN} {a m : Nat} (ok : okN N) (hm : N 1 = m + 1) (ha : a ≤ m) (h : xB u v 10 1 N) (s : siR u v a m u' v') : xB (sU u' 10 1 (nI m)) v' 10 1 (rmR N a) := by
  obtain ⟨k1, ⟨c0, c1, c2, c3, c4, c5, c6, c7⟩, k3, k4, k5, k6, k7, k8⟩ := ok
  obtain ⟨x0, x1, x2, x3, x4, x5, x6⟩ := h
  refine ⟨fun k hk => ?_, ?_, ?_, ?_, ?_, ?_, ?_⟩
  · by_cases e : k = 1
    · subst e; rw [sU_s, rmR_c, hm]; rfl
    · rw [sU_c e, rmR_o (by omega) e, s.1 10 (by omega)]; exact x0 k hk
  · exact xP_c x1 c0 (rmR_o (by omega) (by omega)) (fun k a b => rmR_o (by omega) (by omega)) (fun j a b => by rw [sU_r (by omega), s.1 _ (by omega)])
  · intro r hr
    rw [rmR_c] at hr
    have ha' : a < N 1 := by omega
    have q := x2 (if r < a then r else r + 1) (by split <;> omega)
    have l12 := (k4 (if r < a then r else r + 1) (by split <;> omega)).2.2.1
    rw [show sU u' 10 1 (nI m) (10 + 4) r = u (10 + 4) (if r < a then r else r + 1) from by rw [sU_r (by decide), s.2.2.2.1]; exact sh_if (by omega) _, show sU u' 10 1 (nI m) (10 + 5) r = u (10 + 5) (if r < a then r else r + 1) from by rw [sU_r (by decide), s.2.2.2.2]; exact sh_if (by omega) _]
    rw [show v' 1 r = v 1 (if r < a then r else r + 1) from by rw [s.2.2.1]; exact sh_if (by omega) _]
    rw [rmR_e0 ha' hr, rmR_e (j := 1) ha' hr (by omega), rmR_e (j := 2) ha' hr (by omega)]
    rw [enc_cong (c := fun k => rmR N a (38 + 15 * r + (3 + k))) (d := fun k => N (38 + 15 * (if r < a then r else r + 1) + (3 + k))) (fun k hk => rmR_e (j := 3 + k) ha' hr (by omega))]
    exact q
  · exact xH_c x3 c2 (rmR_o (by omega) (by omega)) (fun k a b => rmR_o (by omega) (by omega)) (fun j a b => by rw [sU_r (by omega), s.1 _ (by omega)])
  · exact xF_c (v := v) (v' := v') x4 c3 (rmR_o (by omega) (by omega)) (fun k a b => rmR_o (by omega) (by omega)) (fun j a b => by rw [sU_r (by omega), s.1 _ (by omega)]) (s.2.1 _ (by decide)) (fun r hr => (k6 r hr).2.2.2.2.1)
  · exact xU_c x5 c4 (rmR_o (by omega) (by omega)) (fun k a b => rmR_o (by omega) (by omega)) (fun j a b => by rw [sU_r (by omega), s.1 _ (by omega)])
  · exact xG_c x6 c5 (rmR_o (by omega) (by omega)) (fun k a b => rmR_o (by omega) (by omega)) (fun j a b => by rw [sU_r (by omega), s.1 _ (by omega)])
theorem mRemR {u : tU} {v : tV} {N : tN} {a m : Nat} (ok : okN N) (hM : CR (u 4) N 1114) (hm : N 1 = m + 1) (ha : a ≤ m) : ∃ u', pX11_remove u v 38 15 (nI a) (nI (m + 1)) = some (u', v) ∧ EX 4 u u' ∧ CR (sU u' 4 1 (nI m) 4) (rmR N a) 1114 ∧ u' 4 1 = nI (m + 1) := by
  have hcap : N 1 ≤ 16 := ok.2.1.2.1
  have key : ∀ (e k i : Nat) (u1 : tU), k + e = 38 + 15 * m → 38 + 15 * a ≤ k → e < i → EX 4 u u1 ∧ (∀ j, u1 4 j = if 38 + 15 * a ≤ j ∧ j < k then u 4 (j + 15) else u 4 j) → ∃ u', pX11_remove_L7 (nI 38) (nI 15) (nI (m + 1)) i (nI k) u1 v = some (u', v) ∧ EX 4 u u' ∧ ∀ j, u' 4 j = if 38 + 15 * a ≤ j ∧ j < 38 + 15 * m then u 4 (j + 15) else u 4 j := by
    intro e
    induction e with
    | zero =>
      intro k i u1 hk hak hi h
      obtain ⟨i, rfl⟩ : ∃ i', i = i' + 1 := ⟨i - 1, by omega⟩
      obtain rfl : k = 38 + 15 * m := by omega
      exact ⟨u1, by rw [pX11_remove_L7, nI_s1, pk_mul, nI_add, if_pos (nI_le (Nat.le_refl _) (by omega))], h⟩
    | succ e ih =>
      intro k i u1 hk hak hi h
      obtain ⟨i, rfl⟩ : ∃ i', i = i' + 1 := ⟨i - 1, by omega⟩
      rw [pX11_remove_L7, nI_s1, pk_mul, nI_add, if_neg (nI_ge (by omega) (by omega)), nI_add, gd_ok (by omega) (by decide), gd_ok (by omega) (by decide), cl (by omega), cl (by omega), nI_1]
      refine ih (k + 1) i _ (by omega) (by omega) (by omega) ⟨EX_sU h.1, fun j => ?_⟩
      by_cases z : j = k
      · subst z; rw [sU_s, h.2, if_neg (by omega), if_pos (by omega)]
      · rw [sU_c z, h.2]
        by_cases y : 38 + 15 * a ≤ j ∧ j < k
        · rw [if_pos y, if_pos (by omega)]
        · rw [if_neg y, if_neg (by omega)]
  obtain ⟨u', r1, r2, r3⟩ := key (15 * m - 15 * a) (38 + 15 * a) fuel u (by omega) (Nat.le_refl _) (by unfold fuel; omega) ⟨EX_rf, fun j => by rw [if_neg (by omega)]⟩
  refine ⟨u', ?_, r2, fun k hk => ?_, by rw [r3, if_neg (by omega), hM 1 (by decide), hm]⟩
  · unfold pX11_remove
    rw [show (38 : Int32) = nI 38 from rfl, show (15 : Int32) = nI 15 from rfl, pk_mul, nI_add, r1]; rfl
  · by_cases e : k = 1
    · subst e; rw [sU_s, rmR_c, hm]; rfl
    · rw [sU_c e, r3]
      by_cases y : 38 + 15 * a ≤ k ∧ k < 38 + 15 * m
      · rw [if_pos y, rmR_i (by rw [hm]; omega), hM _ (by omega)]
      · rw [if_neg y, rmR_o (by rw [hm]; omega) e, hM _ hk]
theorem sm_unrule {N : tN} {n : Nat} {c : Nat → Nat} {K : Option tN} (ok : OKS N n c K) (f a : Int32) : SM (fun u v => pX10_unrule u v a) (fun u v => pX11_unrule u v a) N n c K f := by
  have hc : N 1 ≤ 16 := ok.1.2.1.2.1
  by_cases q : 0 ≤ a ∧ a < nI (N 1)
  · obtain ⟨i, hi, rfl⟩ := rg (by omega) q
    obtain ⟨m, hm⟩ : ∃ m, N 1 = m + 1 := ⟨N 1 - 1, by omega⟩
    refine ⟨nI m, rmR N i, n, c, K, f, OKS_N ok (rmR_ok ok.1 hi), fun u v h => ?_, fun u v h => ?_⟩
    · show GX (pX10_unrule u v (nI i)) _ _ _ _ _ _ _
      unfold pX10_unrule
      obtain ⟨u1, v1, r1, r2⟩ := xRemR (u := u) (v := v) (a := i) (m := m) (by rw [h.1.1 1 (by decide), hm]) (by omega) (by omega)
      rw [xRule_eq h.1.1, bw, if_pos q]
      unfold pX8_remove
      rw [r1, Option.bind_some]
      dsimp only
      rw [r2.1 10 (by omega), h.1.1 1 (by decide), hm, nI_s1, Option.bind_some]
      dsimp only
      rw [sU_s]
      exact GX_w h (xRemR_x ok.1 hm (by omega) h.1 r2) (fun q hq => by rw [sU_r (by omega), r2.1 q (by omega)]) ⟨r2.2.1 0 (by decide), r2.2.1 11 (by decide), r2.2.1 12 (by decide)⟩
    · show GM (pX11_unrule u v (nI i)) _ _ _ _ _ _ _ _
      unfold pX11_unrule
      obtain ⟨u1, r1, r2, r3, r4⟩ := mRemR (u := u) (v := v) (a := i) (m := m) ok.1 h.1 hm (by omega)
      rw [isRule_eq h.1, bw, if_pos q, h.1 1 (by decide), hm, r1, Option.bind_some]
      dsimp only
      rw [r4, nI_s1, sU_s]
      exact GM_w h r3 (fun q hq => by rw [sU_r hq, r2 q hq])
  · exact SM_neg (-1) ok (fun u v h => by
      show pX10_unrule u v a = _
      unfold pX10_unrule; rw [xRule_eq h.1.1, bw, if_neg q]) (fun u v h => by
      show pX11_unrule u v a = _
      unfold pX11_unrule; rw [isRule_eq h.1, bw, if_neg q])
def rmF (N : tN) (a : Nat) : tN := fun k => if 294 + 16 * a ≤ k ∧ k < 294 + 16 * (N 3 - 1) then N (k + 16) else if k = 3 then N 3 - 1 else N k
theorem rmF_i {N : tN} {a k : Nat} (h : 294 + 16 * a ≤ k ∧ k < 294 + 16 * (N 3 - 1)) : rmF N a k = N (k + 16) := by unfold rmF; rw [if_pos h]
theorem rmF_o {N : tN} {a k : Nat} (h : ¬ (294 + 16 * a ≤ k ∧ k < 294 + 16 * (N 3 - 1))) (h2 : k ≠ 3) : rmF N a k = N k := by unfold rmF; rw [if_neg h, if_neg h2]
theorem rmF_c {N : tN} {a : Nat} : rmF N a 3 = N 3 - 1 := by unfold rmF; rw [if_neg (by omega), if_pos rfl]
theorem rmF_e {N : tN} {a r j : Nat} (ha : a < N 3) (hr : r < N 3 - 1) (hj : j < 16) : rmF N a (294 + 16 * r + j) = N (294 + 16 * (if r < a then r else r + 1) + j) := by
  by_cases z : r < a
  · rw [rmF_o (by omega) (by omega), if_pos z]
  · rw [rmF_i (by omega), if_neg z]; congr 1; omega
theorem rmF_e0 {N : tN} {a r : Nat} (ha : a < N 3) (hr : r < N 3 - 1) : rmF N a (294 + 16 * r) = N (294 + 16 * (if r < a then r else r + 1)) := rmF_e (j := 0) ha hr (by omega)
theorem rmF_ok {N : tN} {a : Nat} (ok : okN N) (ha : a < N 3) : okN (rmF N a) := by
  obtain ⟨k1, ⟨c0, c1, c2, c3, c4, c5, c6, c7⟩, k3, k4, k5, k6, k7, k8⟩ := ok
  refine ⟨fun k => ?_, ⟨by rw [rmF_o (by omega) (by omega)]; exact c0, by rw [rmF_o (by omega) (by omega)]; exact c1, by rw [rmF_o (by omega) (by omega)]; exact c2, by rw [rmF_c]; omega, by rw [rmF_o (by omega) (by omega)]; exact c4, by rw [rmF_o (by omega) (by omega)]; exact c5, by rw [rmF_o (by omega) (by omega)]; exact c6, by rw [rmF_o (by omega) (by omega)]; exact c7⟩, ?_, ?_, ?_, ?_, ?_, ?_⟩
  · unfold rmF
    split
    · exact k1 _
    · split
      · have := k1 3; omega
      · exact k1 _
  · exact okP_c k3 c0 (rmF_o (by omega) (by omega)) (fun k a b => rmF_o (by omega) (by omega))
  · exact okR_c k4 c1 (rmF_o (by omega) (by omega)) (by rw [rmF_o (by omega) (by omega)]; exact Nat.le_refl _) (fun k a b => rmF_o (by omega) (by omega))
  · exact okH_c k5 c2 (rmF_o (by omega) (by omega)) (fun k a b => rmF_o (by omega) (by omega))
  · intro r hr
    rw [rmF_c] at hr
    have q := k6 (if r < a then r else r + 1) (by split <;> omega)
    rw [rmF_o (k := 2) (by omega) (by omega), rmF_e0 ha hr, rmF_e (j := 1) ha hr (by omega), rmF_e (j := 2) ha hr (by omega), rmF_e (j := 3) ha hr (by omega)]
    refine ⟨q.1, q.2.1, q.2.2.1, q.2.2.2.1, q.2.2.2.2.1, fun k hk => ?_⟩
    have := q.2.2.2.2.1; rw [rmF_e (j := 4 + k) ha hr (by omega)]; exact q.2.2.2.2.2 k hk
  · exact okU_c k7 c4 (rmF_o (by omega) (by omega)) (by rw [rmF_o (by omega) (by omega)]; exact Nat.le_refl _) (fun k a b => rmF_o (by omega) (by omega))
  · exact okG_c k8 c5 (rmF_o (by omega) (by omega)) (by rw [rmF_o (by omega) (by omega)]; exact Nat.le_refl _) (fun k a b => rmF_o (by omega) (by omega))
def siF (u : tU) (v : tV) (a k : Nat) (u' : tU) (v' : tV) : Prop := (∀ q, q < 18 ∨ 20 < q → u' q = u q) ∧ (∀ q, q ≠ 2 → v' q = v q) ∧ (∀ j, v' 2 j = if a ≤ j ∧ j < k then v 2 (j + 1) else v 2 j) ∧ (∀ j, u' 18 j = if a ≤ j ∧ j < k then u 18 (j + 1) else u 18 j) ∧ (∀ j, u' 19 j = if a ≤ j ∧ j < k then u 19 (j + 1) else u 19 j) ∧ (∀ j, u' 20 j = if a ≤ j ∧ j < k then u 20 (j + 1) else u 20 j)
theorem xRemF {u : tU} {v : tV} {a m : Nat} (hc : u 10 3 = nI (m + 1)) (hm : m < 40) (ha : a ≤ m) : ∃ u' v', pX1_remove_L2 fuel (nI a) u v = some (u', v') ∧ siF u v a m u' v' := by
  have key : ∀ (e k i : Nat) (u1 : tU) (v1 : tV), k + e = m → a ≤ k → e < i → siF u v a k u1 v1 → ∃ u' v', pX1_remove_L2 i (nI k) u1 v1 = some (u', v') ∧ siF u v a m u' v' := by
    intro e
    induction e with
    | zero =>
      intro k i u1 v1 hk hak hi h
      obtain ⟨i, rfl⟩ : ∃ i', i = i' + 1 := ⟨i - 1, by omega⟩
      obtain rfl : k = m := by omega
      exact ⟨u1, v1, by rw [pX1_remove_L2, h.1 10 (by omega), hc, nI_1, if_pos (nI_le (Nat.le_refl _) (by omega))], h⟩
    | succ e ih =>
      intro k i u1 v1 hk hak hi h
      obtain ⟨i, rfl⟩ : ∃ i', i = i' + 1 := ⟨i - 1, by omega⟩
      rw [pX1_remove_L2, h.1 10 (by omega), hc, nI_1, if_neg (nI_ge (by omega) (by omega))]
      rw [gd_ok (by omega) (by decide), gd_ok (by omega) (by decide), gd_ok (by omega) (by decide), gd_ok (by omega) (by decide), gd_ok (by omega) (by decide), gd_ok (by omega) (by decide), gd_ok (by omega) (by decide), gd_ok (by omega) (by decide), cl (by omega), cl (by omega)]
      refine ih (k + 1) i _ _ (by omega) (by omega) (by omega) ?_
      refine ⟨fun q hq => ?_, fun q hq => ?_, fun j => ?_, fun j => ?_, fun j => ?_, fun j => ?_⟩
      · rw [sU_r (by omega), sU_r (by omega), sU_r (by omega)]; exact h.1 q hq
      · rw [sV_r hq]; exact h.2.1 q hq
      · by_cases z : j = k
        · subst z; rw [sV_s, h.2.2.1, if_neg (by omega), if_pos (by omega)]
        · rw [sV_c z, h.2.2.1]
          by_cases y : a ≤ j ∧ j < k
          · rw [if_pos y, if_pos (by omega)]
          · rw [if_neg y, if_neg (by omega)]
      · by_cases z : j = k
        · subst z; rw [sU_r (by decide), sU_r (by decide), sU_s, h.2.2.2.1, if_neg (by omega), if_pos (by omega)]
        · rw [sU_r (by decide), sU_r (by decide), sU_c z, h.2.2.2.1]
          by_cases y : a ≤ j ∧ j < k
          · rw [if_pos y, if_pos (by omega)]
          · rw [if_neg y, if_neg (by omega)]
      · by_cases z : j = k
        · subst z; rw [sU_r (by decide), sU_s, sU_r (by decide), h.2.2.2.2.1, if_neg (by omega), if_pos (by omega)]
        · rw [sU_r (by decide), sU_c z, sU_r (by decide), h.2.2.2.2.1]
          by_cases y : a ≤ j ∧ j < k
          · rw [if_pos y, if_pos (by omega)]
          · rw [if_neg y, if_neg (by omega)]
      · by_cases z : j = k
        · subst z; rw [sU_s, sU_r (by decide), sU_r (by decide), h.2.2.2.2.2, if_neg (by omega), if_pos (by omega)]
        · rw [sU_c z, sU_r (by decide), sU_r (by decide), h.2.2.2.2.2]
          by_cases y : a ≤ j ∧ j < k
          · rw [if_pos y, if_pos (by omega)]
          · rw [if_neg y, if_neg (by omega)]
  exact key (m - a) a fuel u v (by omega) (Nat.le_refl _) (by unfold fuel; omega) ⟨fun _ _ => rfl, fun _ _ => rfl, fun j => by rw [if_neg (by omega)], fun j => by rw [if_neg (by omega)], fun j => by rw [if_neg (by omega)], fun j => by rw [if_neg (by omega)]⟩
theorem xRemF_x {u u' : tU} {v v' : tV} {N : tN} {a m : Nat} (ok : okN N) (hm : N 3 = m + 1) (ha : a ≤ m) (h : xB u v 10 1 N) (s : siF u v a m u' v') : xB (sU u' 10 3 (nI m)) v' 10 1 (rmF N a) := by
  obtain ⟨k1, ⟨c0, c1, c2, c3, c4, c5, c6, c7⟩, k3, k4, k5, k6, k7, k8⟩ := ok
  obtain ⟨x0, x1, x2, x3, x4, x5, x6⟩ := h
  refine ⟨fun k hk => ?_, ?_, ?_, ?_, ?_, ?_, ?_⟩
  · by_cases e : k = 3
    · subst e; rw [sU_s, rmF_c, hm]; rfl
    · rw [sU_c e, rmF_o (by omega) e, s.1 10 (by omega)]; exact x0 k hk
  · exact xP_c x1 c0 (rmF_o (by omega) (by omega)) (fun k a b => rmF_o (by omega) (by omega)) (fun j a b => by rw [sU_r (by omega), s.1 _ (by omega)])
  · exact xR_c (v := v) (v' := v') x2 c1 (rmF_o (by omega) (by omega)) (fun k a b => rmF_o (by omega) (by omega)) (fun j a b => by rw [sU_r (by omega), s.1 _ (by omega)]) (s.2.1 _ (by decide)) (fun r hr => (k4 r hr).2.2.1)
  · exact xH_c x3 c2 (rmF_o (by omega) (by omega)) (fun k a b => rmF_o (by omega) (by omega)) (fun j a b => by rw [sU_r (by omega), s.1 _ (by omega)])
  · intro r hr
    rw [rmF_c] at hr
    have ha' : a < N 3 := by omega
    have q := x4 (if r < a then r else r + 1) (by split <;> omega)
    have l12 := (k6 (if r < a then r else r + 1) (by split <;> omega)).2.2.2.2.1
    rw [show sU u' 10 3 (nI m) (10 + 8) r = u (10 + 8) (if r < a then r else r + 1) from by rw [sU_r (by decide), s.2.2.2.1]; exact sh_if (by omega) _, show sU u' 10 3 (nI m) (10 + 9) r = u (10 + 9) (if r < a then r else r + 1) from by rw [sU_r (by decide), s.2.2.2.2.1]; exact sh_if (by omega) _, show sU u' 10 3 (nI m) (10 + 10) r = u (10 + 10) (if r < a then r else r + 1) from by rw [sU_r (by decide), s.2.2.2.2.2]; exact sh_if (by omega) _]
    rw [show v' (1 + 1) r = v (1 + 1) (if r < a then r else r + 1) from by rw [s.2.2.1]; exact sh_if (by omega) _]
    rw [rmF_e0 ha' hr, rmF_e (j := 1) ha' hr (by omega), rmF_e (j := 2) ha' hr (by omega), rmF_e (j := 3) ha' hr (by omega)]
    rw [enc_cong (c := fun k => rmF N a (294 + 16 * r + (4 + k))) (d := fun k => N (294 + 16 * (if r < a then r else r + 1) + (4 + k))) (fun k hk => rmF_e (j := 4 + k) ha' hr (by omega))]
    exact q
  · exact xU_c x5 c4 (rmF_o (by omega) (by omega)) (fun k a b => rmF_o (by omega) (by omega)) (fun j a b => by rw [sU_r (by omega), s.1 _ (by omega)])
  · exact xG_c x6 c5 (rmF_o (by omega) (by omega)) (fun k a b => rmF_o (by omega) (by omega)) (fun j a b => by rw [sU_r (by omega), s.1 _ (by omega)])
theorem mRemF {u : tU} {v : tV} {N : tN} {a m : Nat} (ok : okN N) (hM : CR (u 4) N 1114) (hm : N 3 = m + 1) (ha : a ≤ m) : ∃ u', pX11_remove u v 294 16 (nI a) (nI (m + 1)) = some (u', v) ∧ EX 4 u u' ∧ CR (sU u' 4 3 (nI m) 4) (rmF N a) 1114 ∧ u' 4 3 = nI (m + 1) := by
  have hcap : N 3 ≤ 40 := ok.2.1.2.2.2.1
  have key : ∀ (e k i : Nat) (u1 : tU), k + e = 294 + 16 * m → 294 + 16 * a ≤ k → e < i → EX 4 u u1 ∧ (∀ j, u1 4 j = if 294 + 16 * a ≤ j ∧ j < k then u 4 (j + 16) else u 4 j) → ∃ u', pX11_remove_L7 (nI 294) (nI 16) (nI (m + 1)) i (nI k) u1 v = some (u', v) ∧ EX 4 u u' ∧ ∀ j, u' 4 j = if 294 + 16 * a ≤ j ∧ j < 294 + 16 * m then u 4 (j + 16) else u 4 j := by
    intro e
    induction e with
    | zero =>
      intro k i u1 hk hak hi h
      obtain ⟨i, rfl⟩ : ∃ i', i = i' + 1 := ⟨i - 1, by omega⟩
      obtain rfl : k = 294 + 16 * m := by omega
      exact ⟨u1, by rw [pX11_remove_L7, nI_s1, pk_mul, nI_add, if_pos (nI_le (Nat.le_refl _) (by omega))], h⟩
    | succ e ih =>
      intro k i u1 hk hak hi h
      obtain ⟨i, rfl⟩ : ∃ i', i = i' + 1 := ⟨i - 1, by omega⟩
      rw [pX11_remove_L7, nI_s1, pk_mul, nI_add, if_neg (nI_ge (by omega) (by omega)), nI_add, gd_ok (by omega) (by decide), gd_ok (by omega) (by decide), cl (by omega), cl (by omega), nI_1]
      refine ih (k + 1) i _ (by omega) (by omega) (by omega) ⟨EX_sU h.1, fun j => ?_⟩
      by_cases z : j = k
      · subst z; rw [sU_s, h.2, if_neg (by omega), if_pos (by omega)]
      · rw [sU_c z, h.2]
        by_cases y : 294 + 16 * a ≤ j ∧ j < k
        · rw [if_pos y, if_pos (by omega)]
        · rw [if_neg y, if_neg (by omega)]
  obtain ⟨u', r1, r2, r3⟩ := key (16 * m - 16 * a) (294 + 16 * a) fuel u (by omega) (Nat.le_refl _) (by unfold fuel; omega) ⟨EX_rf, fun j => by rw [if_neg (by omega)]⟩
  refine ⟨u', ?_, r2, fun k hk => ?_, by rw [r3, if_neg (by omega), hM 3 (by decide), hm]⟩
  · unfold pX11_remove
    rw [show (294 : Int32) = nI 294 from rfl, show (16 : Int32) = nI 16 from rfl, pk_mul, nI_add, r1]; rfl
  · by_cases e : k = 3
    · subst e; rw [sU_s, rmF_c, hm]; rfl
    · rw [sU_c e, r3]
      by_cases y : 294 + 16 * a ≤ k ∧ k < 294 + 16 * m
      · rw [if_pos y, rmF_i (by rw [hm]; omega), hM _ (by omega)]
      · rw [if_neg y, rmF_o (by rw [hm]; omega) e, hM _ hk]
theorem sm_drop {N : tN} {n : Nat} {c : Nat → Nat} {K : Option tN} (ok : OKS N n c K) (f a : Int32) : SM (fun u v => pX10_drop u v a) (fun u v => pX11_drop u v a) N n c K f := by
  have hc : N 3 ≤ 40 := ok.1.2.1.2.2.2.1
  by_cases q : 0 ≤ a ∧ a < nI (N 3)
  · obtain ⟨i, hi, rfl⟩ := rg (by omega) q
    obtain ⟨m, hm⟩ : ∃ m, N 3 = m + 1 := ⟨N 3 - 1, by omega⟩
    refine ⟨nI m, rmF N i, n, c, K, f, OKS_N ok (rmF_ok ok.1 hi), fun u v h => ?_, fun u v h => ?_⟩
    · show GX (pX10_drop u v (nI i)) _ _ _ _ _ _ _
      unfold pX10_drop
      obtain ⟨u1, v1, r1, r2⟩ := xRemF (u := u) (v := v) (a := i) (m := m) (by rw [h.1.1 3 (by decide), hm]) (by omega) (by omega)
      rw [xFind_eq h.1.1, bw, if_pos q]
      unfold pX1_remove
      rw [r1, Option.bind_some]
      dsimp only
      rw [r2.1 10 (by omega), h.1.1 3 (by decide), hm, nI_s1, Option.bind_some]
      dsimp only
      rw [sU_s]
      exact GX_w h (xRemF_x ok.1 hm (by omega) h.1 r2) (fun q hq => by rw [sU_r (by omega), r2.1 q (by omega)]) ⟨r2.2.1 0 (by decide), r2.2.1 11 (by decide), r2.2.1 12 (by decide)⟩
    · show GM (pX11_drop u v (nI i)) _ _ _ _ _ _ _ _
      unfold pX11_drop
      obtain ⟨u1, r1, r2, r3, r4⟩ := mRemF (u := u) (v := v) (a := i) (m := m) ok.1 h.1 hm (by omega)
      rw [isFind_eq h.1, bw, if_pos q, h.1 3 (by decide), hm, r1, Option.bind_some]
      dsimp only
      rw [r4, nI_s1, sU_s]
      exact GM_w h r3 (fun q hq => by rw [sU_r hq, r2 q hq])
  · exact SM_neg (-1) ok (fun u v h => by
      show pX10_drop u v a = _
      unfold pX10_drop; rw [xFind_eq h.1.1, bw, if_neg q]) (fun u v h => by
      show pX11_drop u v a = _
      unfold pX11_drop; rw [isFind_eq h.1, bw, if_neg q])
