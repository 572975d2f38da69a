theorem vn {α : Type} {g : Nat → α} {i k : Nat} {x : α} (h : k ≠ i) : va_up g i x k = g k := by simp [va_up, h]
theorem vs {α : Type} {g : Nat → α} {i : Nat} {x : α} : va_up g i x i = x := by simp [va_up]
theorem bN_up {N : tN} {k x : Nat} (h : bN N) (hx : x < 2 ^ 31) : bN (va_up N k x) := fun j => by
  by_cases e : j = k
  · subst e; rw [vs]; exact hx
  · rw [vn e]; exact h j
theorem nI_s1 (i : Nat) : nI (i + 1) - (1 : Int32) = nI i := by rw [← nI_1]; exact Int32.add_sub_cancel _ _
theorem lt_lit {a : Nat} (n : Nat) {L : Int32} (hL : L = nI n) (ha : a < 2 ^ 31) (hn : n < 2 ^ 31) : (nI a < L) = (a < n) := by subst hL; exact ltI ha hn
theorem eq_lit {a : Nat} (n : Nat) {L : Int32} (hL : L = nI n) (ha : a < 2 ^ 31) (hn : n < 2 ^ 31) : (nI a = L) = (a = n) := by subst hL; exact nI_lit n hn ha
theorem ix0 {B L : Int32} (b l i : Nat) (hB : B = nI b) (hL : L = nI l) : B + L * nI i = nI (b + l * i) := by subst hB; subst hL; rw [pk_mul, nI_add]
theorem ixj {J : Int32} (m j : Nat) (hJ : J = nI j) : nI m + J = nI (m + j) := by subst hJ; rw [nI_add]

theorem okP_c {N N' : tN} (h : okP N) (hc : N 0 ≤ 10) (h0 : N' 0 = N 0) (e : ∀ k, 8 ≤ k → k < 38 → N' k = N k) : okP N' := fun p hp => by
  rw [h0] at hp
  rw [e (8 + 3 * p) (by omega) (by omega), e (8 + 3 * p + 1) (by omega) (by omega), e (8 + 3 * p + 2) (by omega) (by omega)]; exact h p hp
theorem okR_c {N N' : tN} (h : okR N) (hc : N 1 ≤ 16) (h1 : N' 1 = N 1) (h0 : N 0 ≤ N' 0) (e : ∀ k, 38 ≤ k → k < 278 → N' k = N k) : okR N' := fun r hr => by
  rw [h1] at hr
  have a := h r hr
  have a3 := a.2.2.1
  rw [e (38 + 15 * r) (by omega) (by omega), e (38 + 15 * r + 1) (by omega) (by omega), e (38 + 15 * r + 2) (by omega) (by omega)]
  refine ⟨a.1, Nat.lt_of_lt_of_le a.2.1 h0, a3, fun k hk => ?_, fun k hk => ?_⟩
  · rw [e (38 + 15 * r + (3 + k)) (by omega) (by omega)]; exact a.2.2.2.1 k hk
  · rw [e (38 + 15 * r + (3 + k)) (by omega) (by omega)]; exact a.2.2.2.2 k hk
theorem okH_c {N N' : tN} (h : okH N) (hc : N 2 ≤ 8) (h0 : N' 2 = N 2) (e : ∀ k, 278 ≤ k → k < 294 → N' k = N k) : okH N' := fun p hp => by
  rw [h0] at hp
  rw [e (278 + 2 * p) (by omega) (by omega), e (278 + 2 * p + 1) (by omega) (by omega)]; exact h p hp
theorem okF_c {N N' : tN} (h : okF N) (hc : N 3 ≤ 40) (h1 : N' 3 = N 3) (h0 : N 2 ≤ N' 2) (e : ∀ k, 294 ≤ k → k < 934 → N' k = N k) : okF N' := fun r hr => by
  rw [h1] at hr
  have a := h r hr
  have a3 := a.2.2.2.2.1
  rw [e (294 + 16 * r) (by omega) (by omega), e (294 + 16 * r + 1) (by omega) (by omega), e (294 + 16 * r + 2) (by omega) (by omega), e (294 + 16 * r + 3) (by omega) (by omega)]
  refine ⟨Nat.lt_of_lt_of_le a.1 h0, a.2.1, a.2.2.1, a.2.2.2.1, a3, fun k hk => ?_⟩
  rw [e (294 + 16 * r + (4 + k)) (by omega) (by omega)]; exact a.2.2.2.2.2 k hk
theorem okU_c {N N' : tN} (h : okU N) (hc : N 4 ≤ 30) (h1 : N' 4 = N 4) (h0 : N 0 ≤ N' 0) (e : ∀ k, 934 ≤ k → k < 1054 → N' k = N k) : okU N' := fun r hr => by
  rw [h1] at hr
  have a := h r hr
  rw [e (934 + 4 * r) (by omega) (by omega), e (934 + 4 * r + 1) (by omega) (by omega), e (934 + 4 * r + 2) (by omega) (by omega), e (934 + 4 * r + 3) (by omega) (by omega)]
  exact ⟨a.1, Nat.lt_of_lt_of_le a.2.1 h0, a.2.2⟩
theorem okG_c {N N' : tN} (h : okG N) (hc : N 5 ≤ 10) (h1 : N' 5 = N 5) (h0 : N 0 ≤ N' 0) (e : ∀ k, 1054 ≤ k → k < 1114 → N' k = N k) : okG N' := fun r hr => by
  rw [h1] at hr
  have a := h r hr
  rw [e (1054 + 6 * r) (by omega) (by omega), e (1054 + 6 * r + 1) (by omega) (by omega), e (1054 + 6 * r + 2) (by omega) (by omega), e (1054 + 6 * r + 3) (by omega) (by omega), e (1054 + 6 * r + 4) (by omega) (by omega), e (1054 + 6 * r + 5) (by omega) (by omega)]
  exact ⟨Nat.lt_of_lt_of_le a.1 h0, a.2⟩
theorem xP_c {u u' : tU} {s : Nat} {N N' : tN} (h : xP u s N) (hc : N 0 ≤ 10) (h0 : N' 0 = N 0) (e : ∀ k, 8 ≤ k → k < 38 → N' k = N k) (hu : ∀ j, 1 ≤ j → j ≤ 3 → u' (s + j) = u (s + j)) : xP u' s N' := fun p hp => by
  rw [h0] at hp
  have a := h p hp
  rw [hu 1 (by omega) (by omega), hu 2 (by omega) (by omega), hu 3 (by omega) (by omega), e (8 + 3 * p) (by omega) (by omega), e (8 + 3 * p + 1) (by omega) (by omega), e (8 + 3 * p + 2) (by omega) (by omega)]
  exact a
theorem xR_c {u u' : tU} {v v' : tV} {s lr : Nat} {N N' : tN} (h : xR u v s lr N) (hc : N 1 ≤ 16) (h0 : N' 1 = N 1) (e : ∀ k, 38 ≤ k → k < 278 → N' k = N k) (hu : ∀ j, 4 ≤ j → j ≤ 5 → u' (s + j) = u (s + j)) (hv : v' lr = v lr) (hl : ∀ r, r < N 1 → N (38 + 15 * r + 2) ≤ 12) : xR u' v' s lr N' := fun p hp => by
  rw [h0] at hp
  have a := h p hp
  rw [hu 4 (by omega) (by omega), hu 5 (by omega) (by omega), hv, e (38 + 15 * p) (by omega) (by omega), e (38 + 15 * p + 1) (by omega) (by omega), e (38 + 15 * p + 2) (by omega) (by omega)]
  rw [enc_cong (c := fun k => N' (38 + 15 * p + (3 + k))) (d := fun k => N (38 + 15 * p + (3 + k))) (fun k hk => e _ (by omega) (by have := hl p hp; omega))]
  exact a
theorem xH_c {u u' : tU} {s : Nat} {N N' : tN} (h : xH u s N) (hc : N 2 ≤ 8) (h0 : N' 2 = N 2) (e : ∀ k, 278 ≤ k → k < 294 → N' k = N k) (hu : ∀ j, 6 ≤ j → j ≤ 7 → u' (s + j) = u (s + j)) : xH u' s N' := fun p hp => by
  rw [h0] at hp
  have a := h p hp
  rw [hu 6 (by omega) (by omega), hu 7 (by omega) (by omega), e (278 + 2 * p) (by omega) (by omega), e (278 + 2 * p + 1) (by omega) (by omega)]
  exact a
theorem xF_c {u u' : tU} {v v' : tV} {s lr : Nat} {N N' : tN} (h : xF u v s lr N) (hc : N 3 ≤ 40) (h0 : N' 3 = N 3) (e : ∀ k, 294 ≤ k → k < 934 → N' k = N k) (hu : ∀ j, 8 ≤ j → j ≤ 10 → u' (s + j) = u (s + j)) (hv : v' (lr + 1) = v (lr + 1)) (hl : ∀ r, r < N 3 → N (294 + 16 * r + 3) ≤ 12) : xF u' v' s lr N' := fun p hp => by
  rw [h0] at hp
  have a := h p hp
  rw [hu 8 (by omega) (by omega), hu 9 (by omega) (by omega), hu 10 (by omega) (by omega), hv, e (294 + 16 * p) (by omega) (by omega), e (294 + 16 * p + 1) (by omega) (by omega), e (294 + 16 * p + 2) (by omega) (by omega), e (294 + 16 * p + 3) (by omega) (by omega)]
  rw [enc_cong (c := fun k => N' (294 + 16 * p + (4 + k))) (d := fun k => N (294 + 16 * p + (4 + k))) (fun k hk => e _ (by omega) (by have := hl p hp; omega))]
  exact a
theorem xU_c {u u' : tU} {s : Nat} {N N' : tN} (h : xU u s N) (hc : N 4 ≤ 30) (h0 : N' 4 = N 4) (e : ∀ k, 934 ≤ k → k < 1054 → N' k = N k) (hu : ∀ j, 11 ≤ j → j ≤ 14 → u' (s + j) = u (s + j)) : xU u' s N' := fun p hp => by
  rw [h0] at hp
  have a := h p hp
  rw [hu 11 (by omega) (by omega), hu 12 (by omega) (by omega), hu 13 (by omega) (by omega), hu 14 (by omega) (by omega), e (934 + 4 * p) (by omega) (by omega), e (934 + 4 * p + 1) (by omega) (by omega), e (934 + 4 * p + 2) (by omega) (by omega), e (934 + 4 * p + 3) (by omega) (by omega)]
  exact a
theorem xG_c {u u' : tU} {s : Nat} {N N' : tN} (h : xG u s N) (hc : N 5 ≤ 10) (h0 : N' 5 = N 5) (e : ∀ k, 1054 ≤ k → k < 1114 → N' k = N k) (hu : ∀ j, 15 ≤ j → j ≤ 20 → u' (s + j) = u (s + j)) : xG u' s N' := fun p hp => by
  rw [h0] at hp
  have a := h p hp
  rw [hu 15 (by omega) (by omega), hu 16 (by omega) (by omega), hu 17 (by omega) (by omega), hu 18 (by omega) (by omega), hu 19 (by omega) (by omega), hu 20 (by omega) (by omega), e (1054 + 6 * p) (by omega) (by omega), e (1054 + 6 * p + 1) (by omega) (by omega), e (1054 + 6 * p + 2) (by omega) (by omega), e (1054 + 6 * p + 3) (by omega) (by omega), e (1054 + 6 * p + 4) (by omega) (by omega), e (1054 + 6 * p + 5) (by omega) (by omega)]
  exact a
theorem GX_w {u u' : tU} {v v' : tV} {N N' : tN} {n : Nat} {c : Nat → Nat} {K : Option tN} {f r : Int32} (h : XP u v N n c K f) (hx : xB u' v' 10 1 N') (hr : ∀ q, (q < 10 ∨ 31 ≤ q) → u' q = u q) (hv : v' 0 = v 0 ∧ v' 11 = v 11 ∧ v' 12 = v 12) : GX (some (r, u', v')) u N' n c K f r := by
  obtain ⟨h1, h2, h3, h4, h5⟩ := h
  have r0 : u' 0 = u 0 := hr 0 (by omega)
  refine ⟨u', v', rfl, ⟨hx, by rw [r0]; exact h2, by rw [hv.1]; exact h3, by rw [r0]; exact h4, ?_⟩, hr 3 (by omega), hr 4 (by omega), hr 5 (by omega), fun c _ => by rw [r0]⟩
  rcases h5 with ⟨a, b⟩ | ⟨M, a, b, d⟩
  · exact Or.inl ⟨a, by rw [r0]; exact b⟩
  · refine Or.inr ⟨M, a, by rw [r0]; exact b, ?_⟩
    have d' := xB_rows (u' := u') (fun j _ => hr _ (by omega)) d
    obtain ⟨d0, d1, d2, d3, d4, d5, d6⟩ := d'
    exact ⟨d0, d1, by unfold xR; rw [hv.2.1]; exact d2, d3, by unfold xF; rw [hv.2.2]; exact d4, d5, d6⟩
theorem GM_w {u u' : tU} {v : tV} {N N' : tN} {n : Nat} {c : Nat → Nat} {K : Option tN} {f r : Int32} (h : MP u N n c K f) (hx : CR (u' 4) N' 1114) (hr : ∀ q, q ≠ 4 → u' q = u q) : GM (some (r, u', v)) u v N' n c K f r := by
  obtain ⟨h1, h2, h3, h4, h5⟩ := h
  have r0 : u' 0 = u 0 := hr 0 (by decide)
  refine ⟨u', rfl, ⟨hx, by rw [r0]; exact h2, by rw [hr 3 (by decide)]; exact h3, by rw [r0]; exact h4, ?_⟩, fun q hq => hr q (by omega), fun c _ => by rw [r0]⟩
  rcases h5 with ⟨a, b⟩ | ⟨M, a, b, d⟩
  · exact Or.inl ⟨a, by rw [r0]; exact b⟩
  · exact Or.inr ⟨M, a, by rw [r0]; exact b, by rw [hr 5 (by decide)]; exact d⟩
/-- both answer the same, and what stands between the calls stands again -/
def SM (pX pM : tU → tV → Option (Int32 × tU × tV)) (N : tN) (n : Nat) (c : Nat → Nat) (K : Option tN) (f : Int32) : Prop := ∃ r N' n' c' K' f', OKS N' n' c' K' ∧ (∀ u v, XP u v N n c K f → GX (pX u v) u N' n' c' K' f' r) ∧ ∀ u v, MP u N n c K f → GM (pM u v) u v N' n' c' K' f' r
theorem SM_neg {pX pM : tU → tV → Option (Int32 × tU × tV)} {N : tN} {n : Nat} {c : Nat → Nat} {K : Option tN} {f : Int32} (k : Int32) (ok : OKS N n c K) (hx : ∀ u v, XP u v N n c K f → pX u v = (pX10_finding u v k).bind fun o => (match o with | (r, u, v) => some (r, u, v))) (hm : ∀ u v, MP u N n c K f → pM u v = (pX11_finding u v k).bind fun o => (match o with | (r, u, v) => some (r, u, v))) : SM pX pM N n c K f := ⟨k, N, n, c, K, f + 1, ok, fun u v h => by rw [hx u v h]; exact GX_fd h, fun u v h => by rw [hm u v h]; exact GM_fd h⟩
theorem SM_rd {pX pM : tU → tV → Option (Int32 × tU × tV)} {N : tN} {n : Nat} {c : Nat → Nat} {K : Option tN} {f : Int32} (r : Int32) (ok : OKS N n c K) (hx : ∀ u v, XP u v N n c K f → RX (pX u v) u v N n c K f r) (hm : ∀ u v, MP u N n c K f → RM (pM u v) u v N n c K f r) : SM pX pM N n c K f := ⟨r, N, n, c, K, _, ok, fun u v h => GX_rd (hx u v h), fun u v h => GM_rd (hm u v h)⟩
theorem okN_l {N : tN} (ok : okN N) : (∀ r, r < N 1 → N (38 + 15 * r + 2) ≤ 12) ∧ ∀ r, r < N 3 → N (294 + 16 * r + 3) ≤ 12 := ⟨fun r hr => (ok.2.2.2.1 r hr).2.2.1, fun r hr => (ok.2.2.2.2.2.1 r hr).2.2.2.2.1⟩
def nH (N : tN) (x y : Nat) : tN := (va_up (va_up (va_up N (278 + 2 * N 2) x) (278 + 2 * N 2 + 1) y) 2 (N 2 + 1))
theorem nH_o {N : tN} {x y k : Nat} (h : k ≠ 2) (h2 : k < 278 + 2 * N 2 ∨ 278 + 2 * N 2 + 2 ≤ k) : nH N x y k = N k := by
  unfold nH
  rw [vn (by omega), vn (by omega), vn (by omega)]
theorem nH_c {N : tN} {x y : Nat} : nH N x y 2 = N 2 + 1 := by unfold nH; rw [vs]
theorem nH_0 {N : tN} {x y : Nat} : nH N x y (278 + 2 * N 2) = x := by unfold nH; rw [vn (by omega), vn (by omega), vs]
theorem nH_1 {N : tN} {x y : Nat} : nH N x y (278 + 2 * N 2 + 1) = y := by unfold nH; rw [vn (by omega), vs]
theorem nH_ok {N : tN} {x y : Nat} (ok : okN N) (hc : N 2 < 8) (h0 : 1 ≤ x ∧ x ≤ 64) (h1 : y ≤ 9) : okN (nH N x y) := by
  obtain ⟨k1, ⟨c0, c1, c2, c3, c4, c5, c6, c7⟩, k3, k4, k5, k6, k7, k8⟩ := ok
  have o := @nH_o N x y
  have oc := @nH_c N x y
  refine ⟨?_, ⟨?_, ?_, ?_, ?_, ?_, ?_, ?_, ?_⟩, ?_, ?_, ?_, ?_, ?_, ?_⟩
  · unfold nH
    exact bN_up (bN_up (bN_up (k1) (by omega)) (by omega)) (by omega)
  · rw [o (by omega) (by omega)]; exact c0
  · rw [o (by omega) (by omega)]; exact c1
  · rw [oc]; omega
  · rw [o (by omega) (by omega)]; exact c3
  · rw [o (by omega) (by omega)]; exact c4
  · rw [o (by omega) (by omega)]; exact c5
  · rw [o (by omega) (by omega)]; exact c6
  · rw [o (by omega) (by omega)]; exact c7
  · exact okP_c k3 c0 (o (by omega) (by omega)) (fun k a b => o (by omega) (by omega))
  · exact okR_c k4 c1 (o (by omega) (by omega)) (by rw [o (by omega) (by omega)]; exact Nat.le_refl _) (fun k a b => o (by omega) (by omega))
  · intro p hp
    rw [oc] at hp
    rcases Nat.lt_or_eq_of_le (Nat.le_of_lt_succ hp) with zz | zz
    · rw [o (k := 278 + 2 * p) (by omega) (by omega), o (k := 278 + 2 * p + 1) (by omega) (by omega)]; exact k5 p zz
    · subst zz; rw [nH_0, nH_1]; exact ⟨h0.1, h0.2, h1⟩
  · exact okF_c k6 c3 (o (by omega) (by omega)) (by rw [oc]; omega) (fun k a b => o (by omega) (by omega))
  · exact okU_c k7 c4 (o (by omega) (by omega)) (by rw [o (by omega) (by omega)]; exact Nat.le_refl _) (fun k a b => o (by omega) (by omega))
  · exact okG_c k8 c5 (o (by omega) (by omega)) (by rw [o (by omega) (by omega)]; exact Nat.le_refl _) (fun k a b => o (by omega) (by omega))
theorem nH_m {u : tU} {N : tN} {x y : Nat} (h : CR (u 4) N 1114) : CR ((sU (sU (sU u 4 (278 + 2 * N 2) (nI x)) 4 (278 + 2 * N 2 + 1) (nI y)) 4 2 (nI (N 2 + 1))) 4) (nH N x y) 1114 := cr_sU (cr_sU (cr_sU (h)))
theorem nH_x {u : tU} {v : tV} {N : tN} {x y : Nat} (ok : okN N) (hc : N 2 < 8) (h : xB u v 10 1 N) : xB (sU (sU (sU u 16 (N 2) (nI x)) 17 (N 2) (nI y)) 10 2 (nI (N 2 + 1))) v 10 1 (nH N x y) := by
  obtain ⟨k1, ⟨c0, c1, c2, c3, c4, c5, c6, c7⟩, k3, k4, k5, k6, k7, k8⟩ := ok
  obtain ⟨x0, x1, x2, x3, x4, x5, x6⟩ := h
  have o := @nH_o N x y
  have oc := @nH_c N x y
  refine ⟨?_, ?_, ?_, ?_, ?_, ?_, ?_⟩
  · refine cr_sU ?_
    rw [sU_r (by decide), sU_r (by decide)]
    exact cr_same x0 (fun k hk => by rw [vn (by omega), vn (by omega)])
  · exact xP_c x1 c0 (o (by omega) (by omega)) (fun k a b => o (by omega) (by omega)) (fun j a b => by rw [sU_r (by omega), sU_r (by omega), sU_r (by omega)])
  · exact xR_c (v := v) (v' := v) x2 c1 (o (by omega) (by omega)) (fun k a b => o (by omega) (by omega)) (fun j a b => by rw [sU_r (by omega), sU_r (by omega), sU_r (by omega)]) rfl (fun r hr => (k4 r hr).2.2.1)
  · intro p hp
    rw [oc] at hp
    rcases Nat.lt_or_eq_of_le (Nat.le_of_lt_succ hp) with zz | zz
    · rw [o (k := 278 + 2 * p) (by omega) (by omega), o (k := 278 + 2 * p + 1) (by omega) (by omega)]
      have a := x3 p zz
      refine ?_
      rw [show (sU (sU (sU u 16 (N 2) (nI x)) 17 (N 2) (nI y)) 10 2 (nI (N 2 + 1))) (10 + 6) p = u (10 + 6) p from by rw [sU_r (by decide), sU_r (by decide), sU_c (by omega)], show (sU (sU (sU u 16 (N 2) (nI x)) 17 (N 2) (nI y)) 10 2 (nI (N 2 + 1))) (10 + 7) p = u (10 + 7) p from by rw [sU_r (by decide), sU_c (by omega), sU_r (by decide)]]
      exact a
    · subst zz; rw [nH_0, nH_1]
      rw [show (sU (sU (sU u 16 (N 2) (nI x)) 17 (N 2) (nI y)) 10 2 (nI (N 2 + 1))) (10 + 6) (N 2) = nI x from by rw [sU_r (by decide), sU_r (by decide), sU_s], show (sU (sU (sU u 16 (N 2) (nI x)) 17 (N 2) (nI y)) 10 2 (nI (N 2 + 1))) (10 + 7) (N 2) = nI y from by rw [sU_r (by decide), sU_s]]
      exact ⟨rfl, rfl⟩
  · exact xF_c (v := v) (v' := v) x4 c3 (o (by omega) (by omega)) (fun k a b => o (by omega) (by omega)) (fun j a b => by rw [sU_r (by omega), sU_r (by omega), sU_r (by omega)]) rfl (fun r hr => (k6 r hr).2.2.2.2.1)
  · exact xU_c x5 c4 (o (by omega) (by omega)) (fun k a b => o (by omega) (by omega)) (fun j a b => by rw [sU_r (by omega), sU_r (by omega), sU_r (by omega)])
  · exact xG_c x6 c5 (o (by omega) (by omega)) (fun k a b => o (by omega) (by omega)) (fun j a b => by rw [sU_r (by omega), sU_r (by omega), sU_r (by omega)])
def nP (N : tN) (x y z : Nat) : tN := (va_up (va_up (va_up (va_up N (8 + 3 * N 0) x) (8 + 3 * N 0 + 1) y) (8 + 3 * N 0 + 2) z) 0 (N 0 + 1))
theorem nP_o {N : tN} {x y z k : Nat} (h : k ≠ 0) (h2 : k < 8 + 3 * N 0 ∨ 8 + 3 * N 0 + 3 ≤ k) : nP N x y z k = N k := by
  unfold nP
  rw [vn (by omega), vn (by omega), vn (by omega), vn (by omega)]
theorem nP_c {N : tN} {x y z : Nat} : nP N x y z 0 = N 0 + 1 := by unfold nP; rw [vs]
theorem nP_0 {N : tN} {x y z : Nat} : nP N x y z (8 + 3 * N 0) = x := by unfold nP; rw [vn (by omega), vn (by omega), vn (by omega), vs]
theorem nP_1 {N : tN} {x y z : Nat} : nP N x y z (8 + 3 * N 0 + 1) = y := by unfold nP; rw [vn (by omega), vn (by omega), vs]
theorem nP_2 {N : tN} {x y z : Nat} : nP N x y z (8 + 3 * N 0 + 2) = z := by unfold nP; rw [vn (by omega), vs]
theorem nP_ok {N : tN} {x y z : Nat} (ok : okN N) (hc : N 0 < 10) (h0 : x ≤ 3) (h1 : y ≤ 1023) (h2 : z ≤ 10) (h3 : (x = 1 ∨ x = 3) → 1 ≤ z) : okN (nP N x y z) := by
  obtain ⟨k1, ⟨c0, c1, c2, c3, c4, c5, c6, c7⟩, k3, k4, k5, k6, k7, k8⟩ := ok
  have o := @nP_o N x y z
  have oc := @nP_c N x y z
  refine ⟨?_, ⟨?_, ?_, ?_, ?_, ?_, ?_, ?_, ?_⟩, ?_, ?_, ?_, ?_, ?_, ?_⟩
  · unfold nP
    exact bN_up (bN_up (bN_up (bN_up (k1) (by omega)) (by omega)) (by omega)) (by omega)
  · rw [oc]; omega
  · rw [o (by omega) (by omega)]; exact c1
  · rw [o (by omega) (by omega)]; exact c2
  · rw [o (by omega) (by omega)]; exact c3
  · rw [o (by omega) (by omega)]; exact c4
  · rw [o (by omega) (by omega)]; exact c5
  · rw [o (by omega) (by omega)]; exact c6
  · rw [o (by omega) (by omega)]; exact c7
  · intro p hp
    rw [oc] at hp
    rcases Nat.lt_or_eq_of_le (Nat.le_of_lt_succ hp) with zz | zz
    · rw [o (k := 8 + 3 * p) (by omega) (by omega), o (k := 8 + 3 * p + 1) (by omega) (by omega), o (k := 8 + 3 * p + 2) (by omega) (by omega)]; exact k3 p zz
    · subst zz; rw [nP_0, nP_1, nP_2]; exact ⟨h0, h1, h2, h3⟩
  · exact okR_c k4 c1 (o (by omega) (by omega)) (by rw [oc]; omega) (fun k a b => o (by omega) (by omega))
  · exact okH_c k5 c2 (o (by omega) (by omega)) (fun k a b => o (by omega) (by omega))
  · exact okF_c k6 c3 (o (by omega) (by omega)) (by rw [o (by omega) (by omega)]; exact Nat.le_refl _) (fun k a b => o (by omega) (by omega))
  · exact okU_c k7 c4 (o (by omega) (by omega)) (by rw [oc]; omega) (fun k a b => o (by omega) (by omega))
  · exact okG_c k8 c5 (o (by omega) (by omega)) (by rw [oc]; omega) (fun k a b => o (by omega) (by omega))
theorem nP_m {u : tU} {N : tN} {x y z : Nat} (h : CR (u 4) N 1114) : CR ((sU (sU (sU (sU u 4 (8 + 3 * N 0) (nI x)) 4 (8 + 3 * N 0 + 1) (nI y)) 4 (8 + 3 * N 0 + 2) (nI z)) 4 0 (nI (N 0 + 1))) 4) (nP N x y z) 1114 := cr_sU (cr_sU (cr_sU (cr_sU (h))))
theorem nP_x {u : tU} {v : tV} {N : tN} {x y y2 z z2 : Nat} (ok : okN N) (hc : N 0 < 10) (hs : (x = 1 ∨ x = 3) → y2 = y ∧ z2 = z) (h : xB u v 10 1 N) : xB (sU (sU (sU (sU u 11 (N 0) (nI x)) 12 (N 0) (nI y2)) 13 (N 0) (nI z2)) 10 0 (nI (N 0 + 1))) v 10 1 (nP N x y z) := by
  obtain ⟨k1, ⟨c0, c1, c2, c3, c4, c5, c6, c7⟩, k3, k4, k5, k6, k7, k8⟩ := ok
  obtain ⟨x0, x1, x2, x3, x4, x5, x6⟩ := h
  have o := @nP_o N x y z
  have oc := @nP_c N x y z
  refine ⟨?_, ?_, ?_, ?_, ?_, ?_, ?_⟩
  · refine cr_sU ?_
    rw [sU_r (by decide), sU_r (by decide), sU_r (by decide)]
    exact cr_same x0 (fun k hk => by rw [vn (by omega), vn (by omega), vn (by omega)])
  · intro p hp
    rw [oc] at hp
    rcases Nat.lt_or_eq_of_le (Nat.le_of_lt_succ hp) with zz | zz
    · rw [o (k := 8 + 3 * p) (by omega) (by omega), o (k := 8 + 3 * p + 1) (by omega) (by omega), o (k := 8 + 3 * p + 2) (by omega) (by omega)]
      have a := x1 p zz
      refine ?_
      rw [show (sU (sU (sU (sU u 11 (N 0) (nI x)) 12 (N 0) (nI y2)) 13 (N 0) (nI z2)) 10 0 (nI (N 0 + 1))) (10 + 1) p = u (10 + 1) p from by rw [sU_r (by decide), sU_r (by decide), sU_r (by decide), sU_c (by omega)], show (sU (sU (sU (sU u 11 (N 0) (nI x)) 12 (N 0) (nI y2)) 13 (N 0) (nI z2)) 10 0 (nI (N 0 + 1))) (10 + 2) p = u (10 + 2) p from by rw [sU_r (by decide), sU_r (by decide), sU_c (by omega), sU_r (by decide)], show (sU (sU (sU (sU u 11 (N 0) (nI x)) 12 (N 0) (nI y2)) 13 (N 0) (nI z2)) 10 0 (nI (N 0 + 1))) (10 + 3) p = u (10 + 3) p from by rw [sU_r (by decide), sU_c (by omega), sU_r (by decide), sU_r (by decide)]]
      exact a
    · subst zz; rw [nP_0, nP_1, nP_2]
      rw [show (sU (sU (sU (sU u 11 (N 0) (nI x)) 12 (N 0) (nI y2)) 13 (N 0) (nI z2)) 10 0 (nI (N 0 + 1))) (10 + 1) (N 0) = nI x from by rw [sU_r (by decide), sU_r (by decide), sU_r (by decide), sU_s], show (sU (sU (sU (sU u 11 (N 0) (nI x)) 12 (N 0) (nI y2)) 13 (N 0) (nI z2)) 10 0 (nI (N 0 + 1))) (10 + 2) (N 0) = nI y2 from by rw [sU_r (by decide), sU_r (by decide), sU_s], show (sU (sU (sU (sU u 11 (N 0) (nI x)) 12 (N 0) (nI y2)) 13 (N 0) (nI z2)) 10 0 (nI (N 0 + 1))) (10 + 3) (N 0) = nI z2 from by rw [sU_r (by decide), sU_s]]
      exact ⟨rfl, fun t => ⟨by rw [(hs t).1], by rw [(hs t).2]⟩⟩
  · exact xR_c (v := v) (v' := v) x2 c1 (o (by omega) (by omega)) (fun k a b => o (by omega) (by omega)) (fun j a b => by rw [sU_r (by omega), sU_r (by omega), sU_r (by omega), sU_r (by omega)]) rfl (fun r hr => (k4 r hr).2.2.1)
  · exact xH_c x3 c2 (o (by omega) (by omega)) (fun k a b => o (by omega) (by omega)) (fun j a b => by rw [sU_r (by omega), sU_r (by omega), sU_r (by omega), sU_r (by omega)])
  · exact xF_c (v := v) (v' := v) x4 c3 (o (by omega) (by omega)) (fun k a b => o (by omega) (by omega)) (fun j a b => by rw [sU_r (by omega), sU_r (by omega), sU_r (by omega), sU_r (by omega)]) rfl (fun r hr => (k6 r hr).2.2.2.2.1)
  · exact xU_c x5 c4 (o (by omega) (by omega)) (fun k a b => o (by omega) (by omega)) (fun j a b => by rw [sU_r (by omega), sU_r (by omega), sU_r (by omega), sU_r (by omega)])
  · exact xG_c x6 c5 (o (by omega) (by omega)) (fun k a b => o (by omega) (by omega)) (fun j a b => by rw [sU_r (by omega), sU_r (by omega), sU_r (by omega), sU_r (by omega)])
def nU (N : tN) (x y z t : Nat) : tN := (va_up (va_up (va_up (va_up (va_up N (934 + 4 * N 4) x) (934 + 4 * N 4 + 1) y) (934 + 4 * N 4 + 2) z) (934 + 4 * N 4 + 3) t) 4 (N 4 + 1))
theorem nU_o {N : tN} {x y z t k : Nat} (h : k ≠ 4) (h2 : k < 934 + 4 * N 4 ∨ 934 + 4 * N 4 + 4 ≤ k) : nU N x y z t k = N k := by
  unfold nU
  rw [vn (by omega), vn (by omega), vn (by omega), vn (by omega), vn (by omega)]
theorem nU_c {N : tN} {x y z t : Nat} : nU N x y z t 4 = N 4 + 1 := by unfold nU; rw [vs]
theorem nU_0 {N : tN} {x y z t : Nat} : nU N x y z t (934 + 4 * N 4) = x := by unfold nU; rw [vn (by omega), vn (by omega), vn (by omega), vn (by omega), vs]
theorem nU_1 {N : tN} {x y z t : Nat} : nU N x y z t (934 + 4 * N 4 + 1) = y := by unfold nU; rw [vn (by omega), vn (by omega), vn (by omega), vs]
theorem nU_2 {N : tN} {x y z t : Nat} : nU N x y z t (934 + 4 * N 4 + 2) = z := by unfold nU; rw [vn (by omega), vn (by omega), vs]
theorem nU_3 {N : tN} {x y z t : Nat} : nU N x y z t (934 + 4 * N 4 + 3) = t := by unfold nU; rw [vn (by omega), vs]
theorem nU_ok {N : tN} {x y z t : Nat} (ok : okN N) (hc : N 4 < 30) (h0 : x ≤ 9) (h1 : y < N 0) (h2 : z < t) (h3 : t ≤ 999) : okN (nU N x y z t) := by
  obtain ⟨k1, ⟨c0, c1, c2, c3, c4, c5, c6, c7⟩, k3, k4, k5, k6, k7, k8⟩ := ok
  have o := @nU_o N x y z t
  have oc := @nU_c N x y z t
  refine ⟨?_, ⟨?_, ?_, ?_, ?_, ?_, ?_, ?_, ?_⟩, ?_, ?_, ?_, ?_, ?_, ?_⟩
  · unfold nU
    exact bN_up (bN_up (bN_up (bN_up (bN_up (k1) (by omega)) (by omega)) (by omega)) (by omega)) (by omega)
  · rw [o (by omega) (by omega)]; exact c0
  · rw [o (by omega) (by omega)]; exact c1
  · rw [o (by omega) (by omega)]; exact c2
  · rw [o (by omega) (by omega)]; exact c3
  · rw [oc]; omega
  · rw [o (by omega) (by omega)]; exact c5
  · rw [o (by omega) (by omega)]; exact c6
  · rw [o (by omega) (by omega)]; exact c7
  · exact okP_c k3 c0 (o (by omega) (by omega)) (fun k a b => o (by omega) (by omega))
  · exact okR_c k4 c1 (o (by omega) (by omega)) (by rw [o (by omega) (by omega)]; exact Nat.le_refl _) (fun k a b => o (by omega) (by omega))
  · exact okH_c k5 c2 (o (by omega) (by omega)) (fun k a b => o (by omega) (by omega))
  · exact okF_c k6 c3 (o (by omega) (by omega)) (by rw [o (by omega) (by omega)]; exact Nat.le_refl _) (fun k a b => o (by omega) (by omega))
  · intro p hp
    rw [oc] at hp
    rw [o (k := 0) (by omega) (by omega)]
    rcases Nat.lt_or_eq_of_le (Nat.le_of_lt_succ hp) with zz | zz
    · rw [o (k := 934 + 4 * p) (by omega) (by omega), o (k := 934 + 4 * p + 1) (by omega) (by omega), o (k := 934 + 4 * p + 2) (by omega) (by omega), o (k := 934 + 4 * p + 3) (by omega) (by omega)]; exact k7 p zz
    · subst zz; rw [nU_0, nU_1, nU_2, nU_3]; exact ⟨h0, h1, h2, h3⟩
  · exact okG_c k8 c5 (o (by omega) (by omega)) (by rw [o (by omega) (by omega)]; exact Nat.le_refl _) (fun k a b => o (by omega) (by omega))
theorem nU_m {u : tU} {N : tN} {x y z t : Nat} (h : CR (u 4) N 1114) : CR ((sU (sU (sU (sU (sU u 4 (934 + 4 * N 4) (nI x)) 4 (934 + 4 * N 4 + 1) (nI y)) 4 (934 + 4 * N 4 + 2) (nI z)) 4 (934 + 4 * N 4 + 3) (nI t)) 4 4 (nI (N 4 + 1))) 4) (nU N x y z t) 1114 := cr_sU (cr_sU (cr_sU (cr_sU (cr_sU (h)))))
theorem nU_x {u : tU} {v : tV} {N : tN} {t x y z : Nat} (ok : okN N) (hc : N 4 < 30) (h : xB u v 10 1 N) : xB (sU (sU (sU (sU (sU u 21 (N 4) (nI x)) 22 (N 4) (nI y)) 23 (N 4) (nI z)) 24 (N 4) (nI t)) 10 4 (nI (N 4 + 1))) v 10 1 (nU N x y z t) := by
  obtain ⟨k1, ⟨c0, c1, c2, c3, c4, c5, c6, c7⟩, k3, k4, k5, k6, k7, k8⟩ := ok
  obtain ⟨x0, x1, x2, x3, x4, x5, x6⟩ := h
  have o := @nU_o N x y z t
  have oc := @nU_c N x y z t
  refine ⟨?_, ?_, ?_, ?_, ?_, ?_, ?_⟩
  · refine cr_sU ?_
    rw [sU_r (by decide), sU_r (by decide), sU_r (by decide), sU_r (by decide)]
    exact cr_same x0 (fun k hk => by rw [vn (by omega), vn (by omega), vn (by omega), vn (by omega)])
  · exact xP_c x1 c0 (o (by omega) (by omega)) (fun k a b => o (by omega) (by omega)) (fun j a b => by rw [sU_r (by omega), sU_r (by omega), sU_r (by omega), sU_r (by omega), sU_r (by omega)])
  · exact xR_c (v := v) (v' := v) x2 c1 (o (by omega) (by omega)) (fun k a b => o (by omega) (by omega)) (fun j a b => by rw [sU_r (by omega), sU_r (by omega), sU_r (by omega), sU_r (by omega), sU_r (by omega)]) rfl (fun r hr => (k4 r hr).2.2.1)
  · exact xH_c x3 c2 (o (by omega) (by omega)) (fun k a b => o (by omega) (by omega)) (fun j a b => by rw [sU_r (by omega), sU_r (by omega), sU_r (by omega), sU_r (by omega), sU_r (by omega)])
  · exact xF_c (v := v) (v' := v) x4 c3 (o (by omega) (by omega)) (fun k a b => o (by omega) (by omega)) (fun j a b => by rw [sU_r (by omega), sU_r (by omega), sU_r (by omega), sU_r (by omega), sU_r (by omega)]) rfl (fun r hr => (k6 r hr).2.2.2.2.1)
  · intro p hp
    rw [oc] at hp
    rcases Nat.lt_or_eq_of_le (Nat.le_of_lt_succ hp) with zz | zz
    · rw [o (k := 934 + 4 * p) (by omega) (by omega), o (k := 934 + 4 * p + 1) (by omega) (by omega), o (k := 934 + 4 * p + 2) (by omega) (by omega), o (k := 934 + 4 * p + 3) (by omega) (by omega)]
      have a := x5 p zz
      refine ?_
      rw [show (sU (sU (sU (sU (sU u 21 (N 4) (nI x)) 22 (N 4) (nI y)) 23 (N 4) (nI z)) 24 (N 4) (nI t)) 10 4 (nI (N 4 + 1))) (10 + 11) p = u (10 + 11) p from by rw [sU_r (by decide), sU_r (by decide), sU_r (by decide), sU_r (by decide), sU_c (by omega)], show (sU (sU (sU (sU (sU u 21 (N 4) (nI x)) 22 (N 4) (nI y)) 23 (N 4) (nI z)) 24 (N 4) (nI t)) 10 4 (nI (N 4 + 1))) (10 + 12) p = u (10 + 12) p from by rw [sU_r (by decide), sU_r (by decide), sU_r (by decide), sU_c (by omega), sU_r (by decide)], show (sU (sU (sU (sU (sU u 21 (N 4) (nI x)) 22 (N 4) (nI y)) 23 (N 4) (nI z)) 24 (N 4) (nI t)) 10 4 (nI (N 4 + 1))) (10 + 13) p = u (10 + 13) p from by rw [sU_r (by decide), sU_r (by decide), sU_c (by omega), sU_r (by decide), sU_r (by decide)], show (sU (sU (sU (sU (sU u 21 (N 4) (nI x)) 22 (N 4) (nI y)) 23 (N 4) (nI z)) 24 (N 4) (nI t)) 10 4 (nI (N 4 + 1))) (10 + 14) p = u (10 + 14) p from by rw [sU_r (by decide), sU_c (by omega), sU_r (by decide), sU_r (by decide), sU_r (by decide)]]
      exact a
    · subst zz; rw [nU_0, nU_1, nU_2, nU_3]
      rw [show (sU (sU (sU (sU (sU u 21 (N 4) (nI x)) 22 (N 4) (nI y)) 23 (N 4) (nI z)) 24 (N 4) (nI t)) 10 4 (nI (N 4 + 1))) (10 + 11) (N 4) = nI x from by rw [sU_r (by decide), sU_r (by decide), sU_r (by decide), sU_r (by decide), sU_s], show (sU (sU (sU (sU (sU u 21 (N 4) (nI x)) 22 (N 4) (nI y)) 23 (N 4) (nI z)) 24 (N 4) (nI t)) 10 4 (nI (N 4 + 1))) (10 + 12) (N 4) = nI y from by rw [sU_r (by decide), sU_r (by decide), sU_r (by decide), sU_s], show (sU (sU (sU (sU (sU u 21 (N 4) (nI x)) 22 (N 4) (nI y)) 23 (N 4) (nI z)) 24 (N 4) (nI t)) 10 4 (nI (N 4 + 1))) (10 + 13) (N 4) = nI z from by rw [sU_r (by decide), sU_r (by decide), sU_s], show (sU (sU (sU (sU (sU u 21 (N 4) (nI x)) 22 (N 4) (nI y)) 23 (N 4) (nI z)) 24 (N 4) (nI t)) 10 4 (nI (N 4 + 1))) (10 + 14) (N 4) = nI t from by rw [sU_r (by decide), sU_s]]
      exact ⟨rfl, rfl, rfl, rfl⟩
  · exact xG_c x6 c5 (o (by omega) (by omega)) (fun k a b => o (by omega) (by omega)) (fun j a b => by rw [sU_r (by omega), sU_r (by omega), sU_r (by omega), sU_r (by omega), sU_r (by omega)])
def nG (N : tN) (x y z t a1 a2 : Nat) : tN := (va_up (va_up (va_up (va_up (va_up (va_up (va_up N (1054 + 6 * N 5) x) (1054 + 6 * N 5 + 1) y) (1054 + 6 * N 5 + 2) z) (1054 + 6 * N 5 + 3) t) (1054 + 6 * N 5 + 4) a1) (1054 + 6 * N 5 + 5) a2) 5 (N 5 + 1))
theorem nG_o {N : tN} {x y z t a1 a2 k : Nat} (h : k ≠ 5) (h2 : k < 1054 + 6 * N 5 ∨ 1054 + 6 * N 5 + 6 ≤ k) : nG N x y z t a1 a2 k = N k := by
  unfold nG
  rw [vn (by omega), vn (by omega), vn (by omega), vn (by omega), vn (by omega), vn (by omega), vn (by omega)]
theorem nG_c {N : tN} {x y z t a1 a2 : Nat} : nG N x y z t a1 a2 5 = N 5 + 1 := by unfold nG; rw [vs]
theorem nG_0 {N : tN} {x y z t a1 a2 : Nat} : nG N x y z t a1 a2 (1054 + 6 * N 5) = x := by unfold nG; rw [vn (by omega), vn (by omega), vn (by omega), vn (by omega), vn (by omega), vn (by omega), vs]
theorem nG_1 {N : tN} {x y z t a1 a2 : Nat} : nG N x y z t a1 a2 (1054 + 6 * N 5 + 1) = y := by unfold nG; rw [vn (by omega), vn (by omega), vn (by omega), vn (by omega), vn (by omega), vs]
theorem nG_2 {N : tN} {x y z t a1 a2 : Nat} : nG N x y z t a1 a2 (1054 + 6 * N 5 + 2) = z := by unfold nG; rw [vn (by omega), vn (by omega), vn (by omega), vn (by omega), vs]
theorem nG_3 {N : tN} {x y z t a1 a2 : Nat} : nG N x y z t a1 a2 (1054 + 6 * N 5 + 3) = t := by unfold nG; rw [vn (by omega), vn (by omega), vn (by omega), vs]
theorem nG_4 {N : tN} {x y z t a1 a2 : Nat} : nG N x y z t a1 a2 (1054 + 6 * N 5 + 4) = a1 := by unfold nG; rw [vn (by omega), vn (by omega), vs]
theorem nG_5 {N : tN} {x y z t a1 a2 : Nat} : nG N x y z t a1 a2 (1054 + 6 * N 5 + 5) = a2 := by unfold nG; rw [vn (by omega), vs]
theorem nG_ok {N : tN} {x y z t a1 a2 : Nat} (ok : okN N) (hc : N 5 < 10) (h0 : x < N 0) (h1 : 1 ≤ y ∧ y ≤ 9) (h2 : z ≤ 40) (h3 : t ≤ 1000) (h4 : a1 ≤ a2) (h5 : a2 ≤ 9999) : okN (nG N x y z t a1 a2) := by
  obtain ⟨k1, ⟨c0, c1, c2, c3, c4, c5, c6, c7⟩, k3, k4, k5, k6, k7, k8⟩ := ok
  have o := @nG_o N x y z t a1 a2
  have oc := @nG_c N x y z t a1 a2
  refine ⟨?_, ⟨?_, ?_, ?_, ?_, ?_, ?_, ?_, ?_⟩, ?_, ?_, ?_, ?_, ?_, ?_⟩
  · unfold nG
    exact bN_up (bN_up (bN_up (bN_up (bN_up (bN_up (bN_up (k1) (by omega)) (by omega)) (by omega)) (by omega)) (by omega)) (by omega)) (by omega)
  · rw [o (by omega) (by omega)]; exact c0
  · rw [o (by omega) (by omega)]; exact c1
  · rw [o (by omega) (by omega)]; exact c2
  · rw [o (by omega) (by omega)]; exact c3
  · rw [o (by omega) (by omega)]; exact c4
  · rw [oc]; omega
  · rw [o (by omega) (by omega)]; exact c6
  · rw [o (by omega) (by omega)]; exact c7
  · exact okP_c k3 c0 (o (by omega) (by omega)) (fun k a b => o (by omega) (by omega))
  · exact okR_c k4 c1 (o (by omega) (by omega)) (by rw [o (by omega) (by omega)]; exact Nat.le_refl _) (fun k a b => o (by omega) (by omega))
  · exact okH_c k5 c2 (o (by omega) (by omega)) (fun k a b => o (by omega) (by omega))
  · exact okF_c k6 c3 (o (by omega) (by omega)) (by rw [o (by omega) (by omega)]; exact Nat.le_refl _) (fun k a b => o (by omega) (by omega))
  · exact okU_c k7 c4 (o (by omega) (by omega)) (by rw [o (by omega) (by omega)]; exact Nat.le_refl _) (fun k a b => o (by omega) (by omega))
  · intro p hp
    rw [oc] at hp
    rw [o (k := 0) (by omega) (by omega)]
    rcases Nat.lt_or_eq_of_le (Nat.le_of_lt_succ hp) with zz | zz
    · rw [o (k := 1054 + 6 * p) (by omega) (by omega), o (k := 1054 + 6 * p + 1) (by omega) (by omega), o (k := 1054 + 6 * p + 2) (by omega) (by omega), o (k := 1054 + 6 * p + 3) (by omega) (by omega), o (k := 1054 + 6 * p + 4) (by omega) (by omega), o (k := 1054 + 6 * p + 5) (by omega) (by omega)]; exact k8 p zz
    · subst zz; rw [nG_0, nG_1, nG_2, nG_3, nG_4, nG_5]; exact ⟨h0, h1.1, h1.2, h2, h3, h4, h5⟩
theorem nG_m {u : tU} {N : tN} {x y z t a1 a2 : Nat} (h : CR (u 4) N 1114) : CR ((sU (sU (sU (sU (sU (sU (sU u 4 (1054 + 6 * N 5) (nI x)) 4 (1054 + 6 * N 5 + 1) (nI y)) 4 (1054 + 6 * N 5 + 2) (nI z)) 4 (1054 + 6 * N 5 + 3) (nI t)) 4 (1054 + 6 * N 5 + 4) (nI a1)) 4 (1054 + 6 * N 5 + 5) (nI a2)) 4 5 (nI (N 5 + 1))) 4) (nG N x y z t a1 a2) 1114 := cr_sU (cr_sU (cr_sU (cr_sU (cr_sU (cr_sU (cr_sU (h)))))))
theorem nG_x {u : tU} {v : tV} {N : tN} {a1 a2 t x y z : Nat} (ok : okN N) (hc : N 5 < 10) (h : xB u v 10 1 N) : xB (sU (sU (sU (sU (sU (sU (sU u 25 (N 5) (nI x)) 26 (N 5) (nI y)) 27 (N 5) (nI z)) 28 (N 5) (nI t)) 29 (N 5) (nI a1)) 30 (N 5) (nI a2)) 10 5 (nI (N 5 + 1))) v 10 1 (nG N x y z t a1 a2) := by
  obtain ⟨k1, ⟨c0, c1, c2, c3, c4, c5, c6, c7⟩, k3, k4, k5, k6, k7, k8⟩ := ok
  obtain ⟨x0, x1, x2, x3, x4, x5, x6⟩ := h
  have o := @nG_o N x y z t a1 a2
  have oc := @nG_c N x y z t a1 a2
  refine ⟨?_, ?_, ?_, ?_, ?_, ?_, ?_⟩
  · refine cr_sU ?_
    rw [sU_r (by decide), sU_r (by decide), sU_r (by decide), sU_r (by decide), sU_r (by decide), sU_r (by decide)]
    exact cr_same x0 (fun k hk => by rw [vn (by omega), vn (by omega), vn (by omega), vn (by omega), vn (by omega), vn (by omega)])
  · exact xP_c x1 c0 (o (by omega) (by omega)) (fun k a b => o (by omega) (by omega)) (fun j a b => by rw [sU_r (by omega), sU_r (by omega), sU_r (by omega), sU_r (by omega), sU_r (by omega), sU_r (by omega), sU_r (by omega)])
  · exact xR_c (v := v) (v' := v) x2 c1 (o (by omega) (by omega)) (fun k a b => o (by omega) (by omega)) (fun j a b => by rw [sU_r (by omega), sU_r (by omega), sU_r (by omega), sU_r (by omega), sU_r (by omega), sU_r (by omega), sU_r (by omega)]) rfl (fun r hr => (k4 r hr).2.2.1)
  · exact xH_c x3 c2 (o (by omega) (by omega)) (fun k a b => o (by omega) (by omega)) (fun j a b => by rw [sU_r (by omega), sU_r (by omega), sU_r (by omega), sU_r (by omega), sU_r (by omega), sU_r (by omega), sU_r (by omega)])
  · exact xF_c (v := v) (v' := v) x4 c3 (o (by omega) (by omega)) (fun k a b => o (by omega) (by omega)) (fun j a b => by rw [sU_r (by omega), sU_r (by omega), sU_r (by omega), sU_r (by omega), sU_r (by omega), sU_r (by omega), sU_r (by omega)]) rfl (fun r hr => (k6 r hr).2.2.2.2.1)
  · exact xU_c x5 c4 (o (by omega) (by omega)) (fun k a b => o (by omega) (by omega)) (fun j a b => by rw [sU_r (by omega), sU_r (by omega), sU_r (by omega), sU_r (by omega), sU_r (by omega), sU_r (by omega), sU_r (by omega)])
  · intro p hp
    rw [oc] at hp
    rcases Nat.lt_or_eq_of_le (Nat.le_of_lt_succ hp) with zz | zz
    · rw [o (k := 1054 + 6 * p) (by omega) (by omega), o (k := 1054 + 6 * p + 1) (by omega) (by omega), o (k := 1054 + 6 * p + 2) (by omega) (by omega), o (k := 1054 + 6 * p + 3) (by omega) (by omega), o (k := 1054 + 6 * p + 4) (by omega) (by omega), o (k := 1054 + 6 * p + 5) (by omega) (by omega)]
      have a := x6 p zz
      refine ?_
      rw [show (sU (sU (sU (sU (sU (sU (sU u 25 (N 5) (nI x)) 26 (N 5) (nI y)) 27 (N 5) (nI z)) 28 (N 5) (nI t)) 29 (N 5) (nI a1)) 30 (N 5) (nI a2)) 10 5 (nI (N 5 + 1))) (10 + 15) p = u (10 + 15) p from by rw [sU_r (by decide), sU_r (by decide), sU_r (by decide), sU_r (by decide), sU_r (by decide), sU_r (by decide), sU_c (by omega)], show (sU (sU (sU (sU (sU (sU (sU u 25 (N 5) (nI x)) 26 (N 5) (nI y)) 27 (N 5) (nI z)) 28 (N 5) (nI t)) 29 (N 5) (nI a1)) 30 (N 5) (nI a2)) 10 5 (nI (N 5 + 1))) (10 + 16) p = u (10 + 16) p from by rw [sU_r (by decide), sU_r (by decide), sU_r (by decide), sU_r (by decide), sU_r (by decide), sU_c (by omega), sU_r (by decide)], show (sU (sU (sU (sU (sU (sU (sU u 25 (N 5) (nI x)) 26 (N 5) (nI y)) 27 (N 5) (nI z)) 28 (N 5) (nI t)) 29 (N 5) (nI a1)) 30 (N 5) (nI a2)) 10 5 (nI (N 5 + 1))) (10 + 17) p = u (10 + 17) p from by rw [sU_r (by decide), sU_r (by decide), sU_r (by decide), sU_r (by decide), sU_c (by omega), sU_r (by decide), sU_r (by decide)], show (sU (sU (sU (sU (sU (sU (sU u 25 (N 5) (nI x)) 26 (N 5) (nI y)) 27 (N 5) (nI z)) 28 (N 5) (nI t)) 29 (N 5) (nI a1)) 30 (N 5) (nI a2)) 10 5 (nI (N 5 + 1))) (10 + 18) p = u (10 + 18) p from by rw [sU_r (by decide), sU_r (by decide), sU_r (by decide), sU_c (by omega), sU_r (by decide), sU_r (by decide), sU_r (by decide)], show (sU (sU (sU (sU (sU (sU (sU u 25 (N 5) (nI x)) 26 (N 5) (nI y)) 27 (N 5) (nI z)) 28 (N 5) (nI t)) 29 (N 5) (nI a1)) 30 (N 5) (nI a2)) 10 5 (nI (N 5 + 1))) (10 + 19) p = u (10 + 19) p from by rw [sU_r (by decide), sU_r (by decide), sU_c (by omega), sU_r (by decide), sU_r (by decide), sU_r (by decide), sU_r (by decide)], show (sU (sU (sU (sU (sU (sU (sU u 25 (N 5) (nI x)) 26 (N 5) (nI y)) 27 (N 5) (nI z)) 28 (N 5) (nI t)) 29 (N 5) (nI a1)) 30 (N 5) (nI a2)) 10 5 (nI (N 5 + 1))) (10 + 20) p = u (10 + 20) p from by rw [sU_r (by decide), sU_c (by omega), sU_r (by decide), sU_r (by decide), sU_r (by decide), sU_r (by decide), sU_r (by decide)]]
      exact a
    · subst zz; rw [nG_0, nG_1, nG_2, nG_3, nG_4, nG_5]
      rw [show (sU (sU (sU (sU (sU (sU (sU u 25 (N 5) (nI x)) 26 (N 5) (nI y)) 27 (N 5) (nI z)) 28 (N 5) (nI t)) 29 (N 5) (nI a1)) 30 (N 5) (nI a2)) 10 5 (nI (N 5 + 1))) (10 + 15) (N 5) = nI x from by rw [sU_r (by decide), sU_r (by decide), sU_r (by decide), sU_r (by decide), sU_r (by decide), sU_r (by decide), sU_s], show (sU (sU (sU (sU (sU (sU (sU u 25 (N 5) (nI x)) 26 (N 5) (nI y)) 27 (N 5) (nI z)) 28 (N 5) (nI t)) 29 (N 5) (nI a1)) 30 (N 5) (nI a2)) 10 5 (nI (N 5 + 1))) (10 + 16) (N 5) = nI y from by rw [sU_r (by decide), sU_r (by decide), sU_r (by decide), sU_r (by decide), sU_r (by decide), sU_s], show (sU (sU (sU (sU (sU (sU (sU u 25 (N 5) (nI x)) 26 (N 5) (nI y)) 27 (N 5) (nI z)) 28 (N 5) (nI t)) 29 (N 5) (nI a1)) 30 (N 5) (nI a2)) 10 5 (nI (N 5 + 1))) (10 + 17) (N 5) = nI z from by rw [sU_r (by decide), sU_r (by decide), sU_r (by decide), sU_r (by decide), sU_s], show (sU (sU (sU (sU (sU (sU (sU u 25 (N 5) (nI x)) 26 (N 5) (nI y)) 27 (N 5) (nI z)) 28 (N 5) (nI t)) 29 (N 5) (nI a1)) 30 (N 5) (nI a2)) 10 5 (nI (N 5 + 1))) (10 + 18) (N 5) = nI t from by rw [sU_r (by decide), sU_r (by decide), sU_r (by decide), sU_s], show (sU (sU (sU (sU (sU (sU (sU u 25 (N 5) (nI x)) 26 (N 5) (nI y)) 27 (N 5) (nI z)) 28 (N 5) (nI t)) 29 (N 5) (nI a1)) 30 (N 5) (nI a2)) 10 5 (nI (N 5 + 1))) (10 + 19) (N 5) = nI a1 from by rw [sU_r (by decide), sU_r (by decide), sU_s], show (sU (sU (sU (sU (sU (sU (sU u 25 (N 5) (nI x)) 26 (N 5) (nI y)) 27 (N 5) (nI z)) 28 (N 5) (nI t)) 29 (N 5) (nI a1)) 30 (N 5) (nI a2)) 10 5 (nI (N 5 + 1))) (10 + 20) (N 5) = nI a2 from by rw [sU_r (by decide), sU_s]]
      exact ⟨rfl, rfl, rfl, rfl, rfl, rfl⟩
theorem pX3_add_eq {u : tU} {v : tV} {i : Nat} {x y : Int32} (hi : u 10 2 = nI i) (h : i < 8) : pX3_add u v x y = some (nI i, (sU (sU (sU u 16 i x) 17 i y) 10 2 (nI (i + 1))), v) := by
  have e6 : ∀ (w : tU) c x, sU w 16 c x 10 = w 10 := fun _ _ _ => sU_r (by decide)
  have e7 : ∀ (w : tU) c x, sU w 17 c x 10 = w 10 := fun _ _ _ => sU_r (by decide)
  unfold pX3_add
  simp only [e6, e7, hi, cl (show i < 2 ^ 31 by omega), sU_s, nI_1, nI_s1]
  rw [gd_ok h (by decide), gd_ok h (by decide)]
theorem pX6_add_eq {u : tU} {v : tV} {i : Nat} {x y z : Int32} (hi : u 10 0 = nI i) (h : i < 10) : pX6_add u v x y z = some (nI i, (sU (sU (sU (sU u 11 i x) 12 i y) 13 i z) 10 0 (nI (i + 1))), v) := by
  have e1 : ∀ (w : tU) c x, sU w 11 c x 10 = w 10 := fun _ _ _ => sU_r (by decide)
  have e2 : ∀ (w : tU) c x, sU w 12 c x 10 = w 10 := fun _ _ _ => sU_r (by decide)
  have e3 : ∀ (w : tU) c x, sU w 13 c x 10 = w 10 := fun _ _ _ => sU_r (by decide)
  unfold pX6_add
  simp only [e1, e2, e3, hi, cl (show i < 2 ^ 31 by omega), sU_s, nI_1, nI_s1]
  rw [gd_ok h (by decide), gd_ok h (by decide), gd_ok h (by decide)]
theorem pX9_add_eq {u : tU} {v : tV} {i : Nat} {x y z t : Int32} (hi : u 10 4 = nI i) (h : i < 30) : pX9_add u v x y z t = some (nI i, (sU (sU (sU (sU (sU u 21 i x) 22 i y) 23 i z) 24 i t) 10 4 (nI (i + 1))), v) := by
  have e11 : ∀ (w : tU) c x, sU w 21 c x 10 = w 10 := fun _ _ _ => sU_r (by decide)
  have e12 : ∀ (w : tU) c x, sU w 22 c x 10 = w 10 := fun _ _ _ => sU_r (by decide)
  have e13 : ∀ (w : tU) c x, sU w 23 c x 10 = w 10 := fun _ _ _ => sU_r (by decide)
  have e14 : ∀ (w : tU) c x, sU w 24 c x 10 = w 10 := fun _ _ _ => sU_r (by decide)
  unfold pX9_add
  simp only [e11, e12, e13, e14, hi, cl (show i < 2 ^ 31 by omega), sU_s, nI_1, nI_s1]
  rw [gd_ok h (by decide), gd_ok h (by decide), gd_ok h (by decide), gd_ok h (by decide)]
theorem pX7_add_eq {u : tU} {v : tV} {i : Nat} {x y z t a1 a2 : Int32} (hi : u 10 5 = nI i) (h : i < 10) : pX7_add u v x y z t a1 a2 = some (nI i, (sU (sU (sU (sU (sU (sU (sU u 25 i x) 26 i y) 27 i z) 28 i t) 29 i a1) 30 i a2) 10 5 (nI (i + 1))), v) := by
  have e15 : ∀ (w : tU) c x, sU w 25 c x 10 = w 10 := fun _ _ _ => sU_r (by decide)
  have e16 : ∀ (w : tU) c x, sU w 26 c x 10 = w 10 := fun _ _ _ => sU_r (by decide)
  have e17 : ∀ (w : tU) c x, sU w 27 c x 10 = w 10 := fun _ _ _ => sU_r (by decide)
  have e18 : ∀ (w : tU) c x, sU w 28 c x 10 = w 10 := fun _ _ _ => sU_r (by decide)
  have e19 : ∀ (w : tU) c x, sU w 29 c x 10 = w 10 := fun _ _ _ => sU_r (by decide)
  have e20 : ∀ (w : tU) c x, sU w 30 c x 10 = w 10 := fun _ _ _ => sU_r (by decide)
  unfold pX7_add
  simp only [e15, e16, e17, e18, e19, e20, hi, cl (show i < 2 ^ 31 by omega), sU_s, nI_1, nI_s1]
  rw [gd_ok h (by decide), gd_ok h (by decide), gd_ok h (by decide), gd_ok h (by decide), gd_ok h (by decide), gd_ok h (by decide)]
