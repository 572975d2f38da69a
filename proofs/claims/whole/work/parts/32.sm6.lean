theorem XP_take {u : tU} {v : tV} {N : tN} {n : Nat} {c : Nat → Nat} {K : Option tN} {f : Int32} (h : XP u v N n c K f) : XP (sU u 0 2 0) (sV v 0 0 0) N 0 c K f ∧ MU u (sU u 0 2 0) := by
  obtain ⟨h1, h2, h3, h4, h5⟩ := h
  refine ⟨⟨?_, sU_s, sV_s, by rw [sU_c (by decide)]; exact h4, ?_⟩, sU_r (by decide), sU_r (by decide), sU_r (by decide), fun k hk => sU_c (by omega)⟩
  · obtain ⟨d0, d1, d2, d3, d4, d5, d6⟩ := xB_rows (u' := sU u 0 2 0) (fun j _ => sU_r (by omega)) h1
    exact ⟨d0, d1, by unfold xR; rw [sV_r (by decide)]; exact d2, d3, by unfold xF; rw [sV_r (by decide)]; exact d4, d5, d6⟩
  · rcases h5 with ⟨a, b⟩ | ⟨M, a, b, d⟩
    · exact Or.inl ⟨a, by rw [sU_c (by decide)]; exact b⟩
    · refine Or.inr ⟨M, a, by rw [sU_c (by decide)]; exact b, ?_⟩
      obtain ⟨d0, d1, d2, d3, d4, d5, d6⟩ := xB_rows (u' := sU u 0 2 0) (fun j _ => sU_r (by omega)) d
      exact ⟨d0, d1, by unfold xR; rw [sV_r (by decide)]; exact d2, d3, by unfold xF; rw [sV_r (by decide)]; exact d4, d5, d6⟩
theorem MP_take {u : tU} {N : tN} {n : Nat} {c : Nat → Nat} {K : Option tN} {f : Int32} (h : MP u N n c K f) : MP (sU u 0 5 0) N 0 c K f ∧ XU u (sU u 0 5 0) := by
  obtain ⟨h1, h2, h3, h4, h5⟩ := h
  refine ⟨⟨by rw [sU_r (by decide)]; exact h1, sU_s, fun k hk => absurd hk (Nat.not_lt_zero k), by rw [sU_c (by decide)]; exact h4, ?_⟩, fun q hq => sU_r (by omega), fun k hk => sU_c (by omega)⟩
  rcases h5 with ⟨a, b⟩ | ⟨M, a, b, d⟩
  · exact Or.inl ⟨a, by rw [sU_c (by decide)]; exact b⟩
  · exact Or.inr ⟨M, a, by rw [sU_c (by decide)]; exact b, by rw [sU_r (by decide)]; exact d⟩
theorem OKS_0 {N : tN} {n : Nat} {c : Nat → Nat} {K : Option tN} (ok : OKS N n c K) {N' : tN} (h : okN N') : OKS N' 0 c K := ⟨h, Nat.zero_le _, fun k hk => absurd hk (Nat.not_lt_zero k), ok.2.2.2⟩
section SIGNS
variable {u : tU} {v : tV} {n : Nat} {c : Nat → Nat}
theorem xName_t (h2 : u 0 2 = nI n) (h3 : v 0 0 = lN (enc c n)) (hn : n ≤ 12) (hc : ∀ k, k < n → 1 ≤ c k ∧ c k ≤ 28) (P : ∀ k, k < n → c k ≤ 26) : pX4_areName u v = some 1 := by
  have key : ∀ (e k i : Nat), k + e = n → e < i → pX4_areName_L2 u v i (nI k) = some (.inr ()) := by
    intro e
    induction e with
    | zero =>
      intro k i hk hi
      obtain ⟨i, rfl⟩ : ∃ i', i = i' + 1 := ⟨i - 1, by omega⟩
      rw [pX4_areName_L2, h2, if_pos (nI_le (by omega) (by omega))]
    | succ e ih =>
      intro k i hk hi
      obtain ⟨i, rfl⟩ : ∃ i', i = i' + 1 := ⟨i - 1, by omega⟩
      have hp := P k (by omega)
      rw [pX4_areName_L2, h2, if_neg (nI_ge (by omega) (by omega)), h3, signAt_eq hn (fun k hk => by have := hc k hk; omega) (by omega), Option.bind_some, if_pos (show k < n by omega), if_pos (show nI (c k) ≤ (26 : Int32) from by rw [show (26 : Int32) = nI 26 from rfl, leI (by omega) (by decide)]; exact hp), nI_1]
      exact ih (k + 1) i (by omega) (by omega)
  unfold pX4_areName
  rw [show pX4_areName_L2 u v fuel 0 = some (.inr ()) from key n 0 fuel (by omega) (by unfold fuel; omega)]; rfl
theorem xName_f (h2 : u 0 2 = nI n) (h3 : v 0 0 = lN (enc c n)) (hn : n ≤ 12) (hc : ∀ k, k < n → 1 ≤ c k ∧ c k ≤ 28) (P : ¬ ∀ k, k < n → c k ≤ 26) : pX4_areName u v = some 0 := by
  have key : ∀ (e k i : Nat), k + e = n → e < i → (∀ j, j < k → c j ≤ 26) → pX4_areName_L2 u v i (nI k) = some (.inl 0) := by
    intro e
    induction e with
    | zero =>
      intro k i hk hi h
      exact absurd (fun j hj => h j (by omega)) P
    | succ e ih =>
      intro k i hk hi h
      obtain ⟨i, rfl⟩ : ∃ i', i = i' + 1 := ⟨i - 1, by omega⟩
      have hck := hc k (by omega)
      rw [pX4_areName_L2, h2, if_neg (nI_ge (by omega) (by omega)), h3, signAt_eq hn (fun k hk => by have := hc k hk; omega) (by omega), Option.bind_some, if_pos (show k < n by omega)]
      simp only [show (26 : Int32) = nI 26 from rfl, leI (show c k < 2 ^ 31 by omega) (show 26 < 2 ^ 31 by decide)]
      by_cases z : c k ≤ 26
      · rw [if_pos z, nI_1]
        exact ih (k + 1) i (by omega) (by omega) (fun j hj => by
          rcases Nat.lt_or_eq_of_le (Nat.le_of_lt_succ hj) with y | y
          · exact h j y
          · rw [y]; exact z)
      · rw [if_neg z]
  unfold pX4_areName
  rw [show pX4_areName_L2 u v fuel 0 = some (.inl 0) from key n 0 fuel (by omega) (by unfold fuel; omega) (fun j hj => absurd hj (Nat.not_lt_zero j))]; rfl
theorem xPat_t (h2 : u 0 2 = nI n) (h3 : v 0 0 = lN (enc c n)) (hn : n ≤ 12) (hc : ∀ k, k < n → 1 ≤ c k ∧ c k ≤ 28) (P : ∀ k, k + 1 < n → c k ≠ 28) : pX4_arePattern u v = some 1 := by
  have key : ∀ (e k i m : Nat), n = m + 1 → k + e = m → e < i → pX4_arePattern_L2 u v i (nI k) = some (.inr ()) := by
    intro e
    induction e with
    | zero =>
      intro k i m hm hk hi
      obtain ⟨i, rfl⟩ : ∃ i', i = i' + 1 := ⟨i - 1, by omega⟩
      rw [pX4_arePattern_L2, h2, hm, nI_s1, if_pos (nI_le (by omega) (by omega))]
    | succ e ih =>
      intro k i m hm hk hi
      obtain ⟨i, rfl⟩ : ∃ i', i = i' + 1 := ⟨i - 1, by omega⟩
      have hck := hc k (by omega)
      rw [pX4_arePattern_L2, h2, hm, nI_s1, if_neg (nI_ge (by omega) (by omega)), h3, signAt_eq hn (fun k hk => by have := hc k hk; omega) (by omega), Option.bind_some, if_pos (show k < n by omega), if_neg (show ¬ nI (c k) = (28 : Int32) from by rw [eq_lit (L := 28) 28 rfl (by omega) (by decide)]; exact P k (by omega)), nI_1]
      exact ih (k + 1) i m hm (by omega) (by omega)
  unfold pX4_arePattern
  have e : pX4_arePattern_L2 u v fuel 0 = some (.inr ()) := by
    rcases Nat.eq_zero_or_pos n with z | z
    · show pX4_arePattern_L2 u v (1199 + 1) 0 = _
      rw [pX4_arePattern_L2, h2, z, if_pos (show nI 0 - (1 : Int32) ≤ (0 : Int32) from by decide)]
    · exact key (n - 1) 0 fuel (n - 1) (by omega) (by omega) (by unfold fuel; omega)
  rw [e]; rfl
theorem xPat_f (h2 : u 0 2 = nI n) (h3 : v 0 0 = lN (enc c n)) (hn : n ≤ 12) (hc : ∀ k, k < n → 1 ≤ c k ∧ c k ≤ 28) (P : ¬ ∀ k, k + 1 < n → c k ≠ 28) : pX4_arePattern u v = some 0 := by
  have key : ∀ (e k i m : Nat), n = m + 1 → k + e = m → e < i → (∀ j, j < k → c j ≠ 28) → pX4_arePattern_L2 u v i (nI k) = some (.inl 0) := by
    intro e
    induction e with
    | zero =>
      intro k i m hm hk hi h
      exact absurd (fun j hj => h j (by omega)) P
    | succ e ih =>
      intro k i m hm hk hi h
      obtain ⟨i, rfl⟩ : ∃ i', i = i' + 1 := ⟨i - 1, by omega⟩
      have hck := hc k (by omega)
      rw [pX4_arePattern_L2, h2, hm, nI_s1, if_neg (nI_ge (by omega) (by omega)), h3, signAt_eq hn (fun k hk => by have := hc k hk; omega) (by omega), Option.bind_some, if_pos (show k < n by omega)]
      simp only [eq_lit (L := 28) 28 rfl (show c k < 2 ^ 31 by omega) (by decide)]
      by_cases z : c k = 28
      · rw [if_pos z]
      · rw [if_neg z, nI_1]
        exact ih (k + 1) i m hm (by omega) (by omega) (fun j hj => by
          rcases Nat.lt_or_eq_of_le (Nat.le_of_lt_succ hj) with y | y
          · exact h j y
          · rw [y]; exact z)
  have hp : 0 < n := by
    rcases Nat.eq_zero_or_pos n with z | z
    · exact absurd (fun k hk => by omega) P
    · exact z
  unfold pX4_arePattern
  rw [show pX4_arePattern_L2 u v fuel 0 = some (.inl 0) from key (n - 1) 0 fuel (n - 1) (by omega) (by omega) (by unfold fuel; omega) (fun j hj => absurd hj (Nat.not_lt_zero j))]; rfl
theorem mSign_t {x E : Nat} (h3 : ∀ k, k < E → u 3 k = nI (c k)) (hE : E ≤ 12) (hx : x < 2 ^ 31) (hc : ∀ k, k < E → c k ≤ 28) (P : ∀ k, k < E → c k < x) : pX11_hasSign u v (nI x) (nI E) = some 0 := by
  have key : ∀ (e k i : Nat), k + e = E → e < i → pX11_hasSign_L5 u v (nI x) (nI E) i 0 (nI k) = some 0 := by
    intro e
    induction e with
    | zero =>
      intro k i hk hi
      obtain ⟨i, rfl⟩ : ∃ i', i = i' + 1 := ⟨i - 1, by omega⟩
      rw [pX11_hasSign_L5, if_pos (nI_le (by omega) (by omega))]
    | succ e ih =>
      intro k i hk hi
      obtain ⟨i, rfl⟩ : ∃ i', i = i' + 1 := ⟨i - 1, by omega⟩
      have := hc k (by omega)
      rw [pX11_hasSign_L5, if_neg (nI_ge (by omega) (by omega)), gd_ok (by omega) (by decide), cl (by omega), h3 k (by omega), if_pos (show nI (c k) < nI x from by rw [ltI (by omega) hx]; exact P k (by omega)), nI_1, show (0 : Int32) ||| 0 = 0 from rfl]
      exact ih (k + 1) i (by omega) (by omega)
  unfold pX11_hasSign
  rw [show pX11_hasSign_L5 u v (nI x) (nI E) fuel 0 0 = some 0 from key E 0 fuel (by omega) (by unfold fuel; omega)]; rfl
theorem mSign_f {x E : Nat} (h3 : ∀ k, k < E → u 3 k = nI (c k)) (hE : E ≤ 12) (hx : x < 2 ^ 31) (hc : ∀ k, k < E → c k ≤ 28) (P : ¬ ∀ k, k < E → c k < x) : pX11_hasSign u v (nI x) (nI E) = some 1 := by
  have one : ∀ (e k i : Nat), k + e = E → e < i → pX11_hasSign_L5 u v (nI x) (nI E) i 1 (nI k) = some 1 := by
    intro e
    induction e with
    | zero =>
      intro k i hk hi
      obtain ⟨i, rfl⟩ : ∃ i', i = i' + 1 := ⟨i - 1, by omega⟩
      rw [pX11_hasSign_L5, if_pos (nI_le (by omega) (by omega))]
    | succ e ih =>
      intro k i hk hi
      obtain ⟨i, rfl⟩ : ∃ i', i = i' + 1 := ⟨i - 1, by omega⟩
      rw [pX11_hasSign_L5, if_neg (nI_ge (by omega) (by omega)), gd_ok (by omega) (by decide), nI_1, show (1 : Int32) ||| 0 = 1 from rfl, show (1 : Int32) ||| 1 = 1 from rfl, ih (k + 1) i (by omega) (by omega)]
      split <;> rfl
  have key : ∀ (e k i : Nat), k + e = E → e < i → (∀ j, j < k → c j < x) → pX11_hasSign_L5 u v (nI x) (nI E) i 0 (nI k) = some 1 := by
    intro e
    induction e with
    | zero =>
      intro k i hk hi h
      exact absurd (fun j hj => h j (by omega)) P
    | succ e ih =>
      intro k i hk hi h
      obtain ⟨i, rfl⟩ : ∃ i', i = i' + 1 := ⟨i - 1, by omega⟩
      have := hc k (by omega)
      rw [pX11_hasSign_L5, if_neg (nI_ge (by omega) (by omega)), gd_ok (by omega) (by decide), cl (by omega), h3 k (by omega), nI_1, show (0 : Int32) ||| 0 = 0 from rfl, show (0 : Int32) ||| 1 = 1 from rfl]
      simp only [ltI (show c k < 2 ^ 31 by omega) hx]
      by_cases z : c k < x
      · rw [if_pos z]
        exact ih (k + 1) i (by omega) (by omega) (fun j hj => by
          rcases Nat.lt_or_eq_of_le (Nat.le_of_lt_succ hj) with y | y
          · exact h j y
          · rw [y]; exact z)
      · rw [if_neg z]; exact one e (k + 1) i (by omega) (by omega)
  unfold pX11_hasSign
  rw [show pX11_hasSign_L5 u v (nI x) (nI E) fuel 0 0 = some 1 from key E 0 fuel (by omega) (by unfold fuel; omega) (fun j hj => absurd hj (Nat.not_lt_zero j))]; rfl
theorem mSign_0 {x : Int32} : pX11_hasSign u v x (-1) = some 0 := by
  unfold pX11_hasSign
  have e : pX11_hasSign_L5 u v x (-1) fuel 0 0 = some 0 := by
    show pX11_hasSign_L5 u v x (-1) (1199 + 1) 0 0 = some 0
    rw [pX11_hasSign_L5, if_pos (show (-1 : Int32) ≤ 0 from by decide)]
  rw [e]; rfl
end SIGNS
def nR (N : tN) (x y n : Nat) (c : Nat → Nat) : tN := fun k => if 38 + 15 * N 1 + 3 ≤ k ∧ k < 38 + 15 * N 1 + 3 + n then c (k - (38 + 15 * N 1 + 3)) else (va_up (va_up (va_up (va_up N (38 + 15 * N 1) x) (38 + 15 * N 1 + 1) y) (38 + 15 * N 1 + 2) n) 1 (N 1 + 1)) k
theorem nR_o {N : tN} {x y n : Nat} {c : Nat → Nat} {k : Nat} (hn : n ≤ 12) (h : k ≠ 1) (h2 : k < 38 + 15 * N 1 ∨ 38 + 15 * N 1 + 15 ≤ k) : nR N x y n c k = N k := by
  unfold nR
  rw [if_neg (by omega), vn (by omega), vn (by omega), vn (by omega), vn (by omega)]
theorem nR_c {N : tN} {x y n : Nat} {c : Nat → Nat} : nR N x y n c 1 = N 1 + 1 := by unfold nR; rw [if_neg (by omega), vs]
theorem nR_0 {N : tN} {x y n : Nat} {c : Nat → Nat} : nR N x y n c (38 + 15 * N 1) = x := by unfold nR; rw [if_neg (by omega), vn (by omega), vn (by omega), vn (by omega), vs]
theorem nR_1 {N : tN} {x y n : Nat} {c : Nat → Nat} : nR N x y n c (38 + 15 * N 1 + 1) = y := by unfold nR; rw [if_neg (by omega), vn (by omega), vn (by omega), vs]
theorem nR_2 {N : tN} {x y n : Nat} {c : Nat → Nat} : nR N x y n c (38 + 15 * N 1 + 2) = n := by unfold nR; rw [if_neg (by omega), vn (by omega), vs]
theorem nR_s {N : tN} {x y n : Nat} {c : Nat → Nat} {k : Nat} (hk : k < n) : nR N x y n c (38 + 15 * N 1 + (3 + k)) = c k := by unfold nR; rw [if_pos (by omega)]; congr 1; omega
theorem nR_ok {N : tN} {x y n : Nat} {c : Nat → Nat} (ok : okN N) (hc : N 1 < 16) (hn : n ≤ 12) (h0 : x ≤ 9) (h1 : y < N 0) (hs : ∀ k, k < n → 1 ≤ c k ∧ c k ≤ 28) (ht : ∀ k, k + 1 < n → c k ≠ 28) : okN (nR N x y n c) := by
  obtain ⟨k1, ⟨c0, c1, c2, c3, c4, c5, c6, c7⟩, k3, k4, k5, k6, k7, k8⟩ := ok
  have o : ∀ {k : Nat}, k ≠ 1 → (k < 38 + 15 * N 1 ∨ 38 + 15 * N 1 + 15 ≤ k) → nR N x y n c k = N k := fun a b => nR_o hn a b
  have oc := @nR_c N x y n c
  refine ⟨fun k => ?_, ⟨?_, ?_, ?_, ?_, ?_, ?_, ?_, ?_⟩, ?_, ?_, ?_, ?_, ?_, ?_⟩
  · unfold nR
    split
    · rename_i z
      have := hs (k - (38 + 15 * N 1 + 3)) (by omega)
      omega
    · exact bN_up (bN_up (bN_up (bN_up (k1) (by omega)) (by omega)) (by omega)) (by omega) k
  · rw [o (by omega) (by omega)]; exact c0
  · rw [oc]; omega
  · rw [o (by omega) (by omega)]; exact c2
  · rw [o (by omega) (by omega)]; exact c3
  · rw [o (by omega) (by omega)]; exact c4
  · rw [o (by omega) (by omega)]; exact c5
  · rw [o (by omega) (by omega)]; exact c6
  · rw [o (by omega) (by omega)]; exact c7
  · exact okP_c k3 c0 (o (by omega) (by omega)) (fun k a b => o (by omega) (by omega))
  · intro p hp
    rw [oc] at hp
    rw [o (k := 0) (by omega) (by omega)]
    rcases Nat.lt_or_eq_of_le (Nat.le_of_lt_succ hp) with zz | zz
    · have q := k4 p zz
      have q12 := q.2.2.1
      rw [o (k := 38 + 15 * p) (by omega) (by omega), o (k := 38 + 15 * p + 1) (by omega) (by omega), o (k := 38 + 15 * p + 2) (by omega) (by omega)]
      refine ⟨q.1, q.2.1, q12, fun k hk => ?_, fun k hk => ?_⟩
      · rw [o (by omega) (by omega)]; exact q.2.2.2.1 k hk
      · rw [o (by omega) (by omega)]; exact q.2.2.2.2 k hk
    · subst zz; rw [nR_0, nR_1, nR_2]
      exact ⟨h0, h1, hn, fun k hk => by rw [nR_s hk]; exact hs k hk, fun k hk => by rw [nR_s (by omega)]; exact ht k hk⟩
  · exact okH_c k5 c2 (o (by omega) (by omega)) (fun k a b => o (by omega) (by omega))
  · exact okF_c k6 c3 (o (by omega) (by omega)) (by rw [o (by omega) (by omega)]; exact Nat.le_refl _) (fun k a b => o (by omega) (by omega))
  · exact okU_c k7 c4 (o (by omega) (by omega)) (by rw [o (by omega) (by omega)]; exact Nat.le_refl _) (fun k a b => o (by omega) (by omega))
  · exact okG_c k8 c5 (o (by omega) (by omega)) (by rw [o (by omega) (by omega)]; exact Nat.le_refl _) (fun k a b => o (by omega) (by omega))
theorem nR_x {u : tU} {v : tV} {N : tN} {x y n : Nat} {c : Nat → Nat} (ok : okN N) (hc : N 1 < 16) (hn : n ≤ 12) (h : xB u v 10 1 N) : xB (sU (sU (sU u 14 (N 1) (nI x)) 15 (N 1) (nI y)) 10 1 (nI (N 1 + 1))) (sV v 1 (N 1) (lN (enc c n))) 10 1 (nR N x y n c) := by
  obtain ⟨k1, ⟨c0, c1, c2, c3, c4, c5, c6, c7⟩, k3, k4, k5, k6, k7, k8⟩ := ok
  obtain ⟨x0, x1, x2, x3, x4, x5, x6⟩ := h
  have o : ∀ {k : Nat}, k ≠ 1 → (k < 38 + 15 * N 1 ∨ 38 + 15 * N 1 + 15 ≤ k) → nR N x y n c k = N k := fun a b => nR_o hn a b
  have oc := @nR_c N x y n c
  refine ⟨fun k hk => ?_, ?_, ?_, ?_, ?_, ?_, ?_⟩
  · by_cases e : k = 1
    · subst e; rw [sU_s, oc]
    · rw [sU_c e, sU_r (by decide), sU_r (by decide), o e (by omega)]; exact x0 k hk
  · exact xP_c x1 c0 (o (by omega) (by omega)) (fun k a b => o (by omega) (by omega)) (fun j a b => by rw [sU_r (by omega), sU_r (by omega), sU_r (by omega)])
  · intro p hp
    rw [oc] at hp
    rcases Nat.lt_or_eq_of_le (Nat.le_of_lt_succ hp) with zz | zz
    · have a := x2 p zz
      have l12 := (k4 p zz).2.2.1
      rw [o (k := 38 + 15 * p) (by omega) (by omega), o (k := 38 + 15 * p + 1) (by omega) (by omega), o (k := 38 + 15 * p + 2) (by omega) (by omega)]
      rw [enc_cong (c := fun k => nR N x y n c (38 + 15 * p + (3 + k))) (d := fun k => N (38 + 15 * p + (3 + k))) (fun k hk => o (by omega) (by omega))]
      rw [show (sU (sU (sU u 14 (N 1) (nI x)) 15 (N 1) (nI y)) 10 1 (nI (N 1 + 1))) (10 + 4) p = u (10 + 4) p from by rw [sU_r (by decide), sU_r (by decide), sU_c (by omega)], show (sU (sU (sU u 14 (N 1) (nI x)) 15 (N 1) (nI y)) 10 1 (nI (N 1 + 1))) (10 + 5) p = u (10 + 5) p from by rw [sU_r (by decide), sU_c (by omega), sU_r (by decide)]]
      rw [show (sV v 1 (N 1) (lN (enc c n))) 1 p = v 1 p from sV_c (by omega)]
      exact a
    · subst zz; rw [nR_0, nR_1, nR_2]
      rw [enc_cong (c := fun k => nR N x y n c (38 + 15 * N 1 + (3 + k))) (d := c) (fun k hk => nR_s hk)]
      exact ⟨by rw [sU_r (by decide), sU_r (by decide), sU_s], by rw [sU_r (by decide), sU_s], sV_s⟩
  · exact xH_c x3 c2 (o (by omega) (by omega)) (fun k a b => o (by omega) (by omega)) (fun j a b => by rw [sU_r (by omega), sU_r (by omega), sU_r (by omega)])
  · exact xF_c (v := v) (v' := (sV v 1 (N 1) (lN (enc c n)))) x4 c3 (o (by omega) (by omega)) (fun k a b => o (by omega) (by omega)) (fun j a b => by rw [sU_r (by omega), sU_r (by omega), sU_r (by omega)]) (sV_r (by decide)) (fun r hr => (k6 r hr).2.2.2.2.1)
  · exact xU_c x5 c4 (o (by omega) (by omega)) (fun k a b => o (by omega) (by omega)) (fun j a b => by rw [sU_r (by omega), sU_r (by omega), sU_r (by omega)])
  · exact xG_c x6 c5 (o (by omega) (by omega)) (fun k a b => o (by omega) (by omega)) (fun j a b => by rw [sU_r (by omega), sU_r (by omega), sU_r (by omega)])
theorem pX8_add_eq {u : tU} {v : tV} {i : Nat} {w : Int64} {x y : Int32} (hi : u 10 1 = nI i) (h : i < 16) : pX8_add u v w x y = some (nI i, (sU (sU (sU u 14 i x) 15 i y) 10 1 (nI (i + 1))), sV v 1 i w) := by
  have e4 : ∀ (w : tU) c x, sU w 14 c x 10 = w 10 := fun _ _ _ => sU_r (by decide)
  have e5 : ∀ (w : tU) c x, sU w 15 c x 10 = w 10 := fun _ _ _ => sU_r (by decide)
  unfold pX8_add
  simp only [e4, e5, hi, cl (show i < 2 ^ 31 by omega), sU_s, nI_1, nI_s1]
  rw [gd_ok h (by decide), gd_ok h (by decide), gd_ok h (by decide)]
theorem mWR {u : tU} {v : tV} {n m : Nat} (hn : n ≤ 12) (hm : m + 3 + 12 ≤ 1114) (x : Int32) : ∃ u', pX11_rule_L116 x (nI n) (nI m) fuel 0 u v = some (u', v) ∧ EX 4 u u' ∧ ∀ j, u' 4 j = if m + 3 ≤ j ∧ j < m + 3 + n then u 3 (j - (m + 3)) else u 4 j := by
  obtain ⟨u', ⟨h1, h2⟩, h3⟩ := stL (L := pX11_rule_L116 x (nI n) (nI m)) (E := n) (I := fun k u' => EX 4 u u' ∧ ∀ j, u' 4 j = if m + 3 ≤ j ∧ j < m + 3 + k then u 3 (j - (m + 3)) else u 4 j) (v := v)
    (fun i u1 hi => by rw [pX11_rule_L116, if_pos (nI_le (Nat.le_refl _) (by omega))])
    (fun i u1 k hk hi => by
      refine ⟨sU u1 4 (m + 3 + k) (u1 3 k), ⟨EX_sU hi.1, fun j => ?_⟩, ?_⟩
      · by_cases e : j = m + 3 + k
        · subst e; rw [sU_s, hi.1 3 (by decide), if_pos (by omega)]; congr 1; omega
        · rw [sU_c e, hi.2 j]
          by_cases y : m + 3 ≤ j ∧ j < m + 3 + k
          · rw [if_pos y, if_pos (by omega)]
          · rw [if_neg y, if_neg (by omega)]
      · rw [pX11_rule_L116, if_neg (nI_ge hk (by omega)), ixj (J := 3) m 3 rfl, nI_add, gd_ok (by omega) (by decide), gd_ok (by omega) (by decide), cl (by omega), cl (by omega), nI_1])
    fuel u (by unfold fuel; omega) ⟨EX_rf, fun j => by rw [if_neg (by omega)]⟩
  exact ⟨u', h3, h1, h2⟩
def nF (N : tN) (x y z n : Nat) (c : Nat → Nat) : tN := fun k => if 294 + 16 * N 3 + 4 ≤ k ∧ k < 294 + 16 * N 3 + 4 + n then c (k - (294 + 16 * N 3 + 4)) else (va_up (va_up (va_up (va_up (va_up N (294 + 16 * N 3) x) (294 + 16 * N 3 + 1) y) (294 + 16 * N 3 + 2) z) (294 + 16 * N 3 + 3) n) 3 (N 3 + 1)) k
theorem nF_o {N : tN} {x y z n : Nat} {c : Nat → Nat} {k : Nat} (hn : n ≤ 12) (h : k ≠ 3) (h2 : k < 294 + 16 * N 3 ∨ 294 + 16 * N 3 + 16 ≤ k) : nF N x y z n c k = N k := by
  unfold nF
  rw [if_neg (by omega), vn (by omega), vn (by omega), vn (by omega), vn (by omega), vn (by omega)]
theorem nF_c {N : tN} {x y z n : Nat} {c : Nat → Nat} : nF N x y z n c 3 = N 3 + 1 := by unfold nF; rw [if_neg (by omega), vs]
theorem nF_0 {N : tN} {x y z n : Nat} {c : Nat → Nat} : nF N x y z n c (294 + 16 * N 3) = x := by unfold nF; rw [if_neg (by omega), vn (by omega), vn (by omega), vn (by omega), vn (by omega), vs]
theorem nF_1 {N : tN} {x y z n : Nat} {c : Nat → Nat} : nF N x y z n c (294 + 16 * N 3 + 1) = y := by unfold nF; rw [if_neg (by omega), vn (by omega), vn (by omega), vn (by omega), vs]
theorem nF_2 {N : tN} {x y z n : Nat} {c : Nat → Nat} : nF N x y z n c (294 + 16 * N 3 + 2) = z := by unfold nF; rw [if_neg (by omega), vn (by omega), vn (by omega), vs]
theorem nF_3 {N : tN} {x y z n : Nat} {c : Nat → Nat} : nF N x y z n c (294 + 16 * N 3 + 3) = n := by unfold nF; rw [if_neg (by omega), vn (by omega), vs]
theorem nF_s {N : tN} {x y z n : Nat} {c : Nat → Nat} {k : Nat} (hk : k < n) : nF N x y z n c (294 + 16 * N 3 + (4 + k)) = c k := by unfold nF; rw [if_pos (by omega)]; congr 1; omega
theorem nF_ok {N : tN} {x y z n : Nat} {c : Nat → Nat} (ok : okN N) (hc : N 3 < 40) (hn : n ≤ 12) (h0 : x < N 2) (h1 : y ≤ 9999) (h2 : 1 ≤ z ∧ z ≤ 9) (hs : ∀ k, k < n → 1 ≤ c k ∧ c k ≤ 26) : okN (nF N x y z n c) := by
  obtain ⟨k1, ⟨c0, c1, c2, c3, c4, c5, c6, c7⟩, k3, k4, k5, k6, k7, k8⟩ := ok
  have o : ∀ {k : Nat}, k ≠ 3 → (k < 294 + 16 * N 3 ∨ 294 + 16 * N 3 + 16 ≤ k) → nF N x y z n c k = N k := fun a b => nF_o hn a b
  have oc := @nF_c N x y z n c
  refine ⟨fun k => ?_, ⟨?_, ?_, ?_, ?_, ?_, ?_, ?_, ?_⟩, ?_, ?_, ?_, ?_, ?_, ?_⟩
  · unfold nF
    split
    · rename_i z
      have := hs (k - (294 + 16 * N 3 + 4)) (by omega)
      omega
    · exact bN_up (bN_up (bN_up (bN_up (bN_up (k1) (by omega)) (by omega)) (by omega)) (by omega)) (by omega) k
  · rw [o (by omega) (by omega)]; exact c0
  · rw [o (by omega) (by omega)]; exact c1
  · rw [o (by omega) (by omega)]; exact c2
  · rw [oc]; omega
  · rw [o (by omega) (by omega)]; exact c4
  · rw [o (by omega) (by omega)]; exact c5
  · rw [o (by omega) (by omega)]; exact c6
  · rw [o (by omega) (by omega)]; exact c7
  · exact okP_c k3 c0 (o (by omega) (by omega)) (fun k a b => o (by omega) (by omega))
  · exact okR_c k4 c1 (o (by omega) (by omega)) (by rw [o (by omega) (by omega)]; exact Nat.le_refl _) (fun k a b => o (by omega) (by omega))
  · exact okH_c k5 c2 (o (by omega) (by omega)) (fun k a b => o (by omega) (by omega))
  · intro p hp
    rw [oc] at hp
    rw [o (k := 2) (by omega) (by omega)]
    rcases Nat.lt_or_eq_of_le (Nat.le_of_lt_succ hp) with zz | zz
    · have q := k6 p zz
      have q12 := q.2.2.2.2.1
      rw [o (k := 294 + 16 * p) (by omega) (by omega), o (k := 294 + 16 * p + 1) (by omega) (by omega), o (k := 294 + 16 * p + 2) (by omega) (by omega), o (k := 294 + 16 * p + 3) (by omega) (by omega)]
      refine ⟨q.1, q.2.1, q.2.2.1, q.2.2.2.1, q12, fun k hk => ?_⟩
      rw [o (by omega) (by omega)]; exact q.2.2.2.2.2 k hk
    · subst zz; rw [nF_0, nF_1, nF_2, nF_3]
      exact ⟨h0, h1, h2.1, h2.2, hn, fun k hk => by rw [nF_s hk]; exact hs k hk⟩
  · exact okU_c k7 c4 (o (by omega) (by omega)) (by rw [o (by omega) (by omega)]; exact Nat.le_refl _) (fun k a b => o (by omega) (by omega))
  · exact okG_c k8 c5 (o (by omega) (by omega)) (by rw [o (by omega) (by omega)]; exact Nat.le_refl _) (fun k a b => o (by omega) (by omega))
theorem nF_x {u : tU} {v : tV} {N : tN} {x y z n : Nat} {c : Nat → Nat} (ok : okN N) (hc : N 3 < 40) (hn : n ≤ 12) (h : xB u v 10 1 N) : xB (sU (sU (sU (sU u 18 (N 3) (nI x)) 19 (N 3) (nI y)) 20 (N 3) (nI z)) 10 3 (nI (N 3 + 1))) (sV v 2 (N 3) (lN (enc c n))) 10 1 (nF N x y z n c) := by
  obtain ⟨k1, ⟨c0, c1, c2, c3, c4, c5, c6, c7⟩, k3, k4, k5, k6, k7, k8⟩ := ok
  obtain ⟨x0, x1, x2, x3, x4, x5, x6⟩ := h
  have o : ∀ {k : Nat}, k ≠ 3 → (k < 294 + 16 * N 3 ∨ 294 + 16 * N 3 + 16 ≤ k) → nF N x y z n c k = N k := fun a b => nF_o hn a b
  have oc := @nF_c N x y z n c
  refine ⟨fun k hk => ?_, ?_, ?_, ?_, ?_, ?_, ?_⟩
  · by_cases e : k = 3
    · subst e; rw [sU_s, oc]
    · rw [sU_c e, sU_r (by decide), sU_r (by decide), sU_r (by decide), o e (by omega)]; exact x0 k hk
  · exact xP_c x1 c0 (o (by omega) (by omega)) (fun k a b => o (by omega) (by omega)) (fun j a b => by rw [sU_r (by omega), sU_r (by omega), sU_r (by omega), sU_r (by omega)])
  · exact xR_c (v := v) (v' := (sV v 2 (N 3) (lN (enc c n)))) x2 c1 (o (by omega) (by omega)) (fun k a b => o (by omega) (by omega)) (fun j a b => by rw [sU_r (by omega), sU_r (by omega), sU_r (by omega), sU_r (by omega)]) (sV_r (by decide)) (fun r hr => (k4 r hr).2.2.1)
  · exact xH_c x3 c2 (o (by omega) (by omega)) (fun k a b => o (by omega) (by omega)) (fun j a b => by rw [sU_r (by omega), sU_r (by omega), sU_r (by omega), sU_r (by omega)])
  · intro p hp
    rw [oc] at hp
    rcases Nat.lt_or_eq_of_le (Nat.le_of_lt_succ hp) with zz | zz
    · have a := x4 p zz
      have l12 := (k6 p zz).2.2.2.2.1
      rw [o (k := 294 + 16 * p) (by omega) (by omega), o (k := 294 + 16 * p + 1) (by omega) (by omega), o (k := 294 + 16 * p + 2) (by omega) (by omega), o (k := 294 + 16 * p + 3) (by omega) (by omega)]
      rw [enc_cong (c := fun k => nF N x y z n c (294 + 16 * p + (4 + k))) (d := fun k => N (294 + 16 * p + (4 + k))) (fun k hk => o (by omega) (by omega))]
      rw [show (sU (sU (sU (sU u 18 (N 3) (nI x)) 19 (N 3) (nI y)) 20 (N 3) (nI z)) 10 3 (nI (N 3 + 1))) (10 + 8) p = u (10 + 8) p from by rw [sU_r (by decide), sU_r (by decide), sU_r (by decide), sU_c (by omega)], show (sU (sU (sU (sU u 18 (N 3) (nI x)) 19 (N 3) (nI y)) 20 (N 3) (nI z)) 10 3 (nI (N 3 + 1))) (10 + 9) p = u (10 + 9) p from by rw [sU_r (by decide), sU_r (by decide), sU_c (by omega), sU_r (by decide)], show (sU (sU (sU (sU u 18 (N 3) (nI x)) 19 (N 3) (nI y)) 20 (N 3) (nI z)) 10 3 (nI (N 3 + 1))) (10 + 10) p = u (10 + 10) p from by rw [sU_r (by decide), sU_c (by omega), sU_r (by decide), sU_r (by decide)]]
      rw [show (sV v 2 (N 3) (lN (enc c n))) (1 + 1) p = v (1 + 1) p from sV_c (by omega)]
      exact a
    · subst zz; rw [nF_0, nF_1, nF_2, nF_3]
      rw [enc_cong (c := fun k => nF N x y z n c (294 + 16 * N 3 + (4 + k))) (d := c) (fun k hk => nF_s hk)]
      exact ⟨by rw [sU_r (by decide), sU_r (by decide), sU_r (by decide), sU_s], by rw [sU_r (by decide), sU_r (by decide), sU_s], by rw [sU_r (by decide), sU_s], sV_s⟩
  · exact xU_c x5 c4 (o (by omega) (by omega)) (fun k a b => o (by omega) (by omega)) (fun j a b => by rw [sU_r (by omega), sU_r (by omega), sU_r (by omega), sU_r (by omega)])
  · exact xG_c x6 c5 (o (by omega) (by omega)) (fun k a b => o (by omega) (by omega)) (fun j a b => by rw [sU_r (by omega), sU_r (by omega), sU_r (by omega), sU_r (by omega)])
theorem pX1_add_eq {u : tU} {v : tV} {i : Nat} {w : Int64} {x y z : Int32} (hi : u 10 3 = nI i) (h : i < 40) : pX1_add u v w x y z = some (nI i, (sU (sU (sU (sU u 18 i x) 19 i y) 20 i z) 10 3 (nI (i + 1))), sV v 2 i w) := by
  have e8 : ∀ (w : tU) c x, sU w 18 c x 10 = w 10 := fun _ _ _ => sU_r (by decide)
  have e9 : ∀ (w : tU) c x, sU w 19 c x 10 = w 10 := fun _ _ _ => sU_r (by decide)
  have e10 : ∀ (w : tU) c x, sU w 20 c x 10 = w 10 := fun _ _ _ => sU_r (by decide)
  unfold pX1_add
  simp only [e8, e9, e10, hi, cl (show i < 2 ^ 31 by omega), sU_s, nI_1, nI_s1]
  rw [gd_ok h (by decide), gd_ok h (by decide), gd_ok h (by decide), gd_ok h (by decide)]
theorem mWF {u : tU} {v : tV} {n m : Nat} (hn : n ≤ 12) (hm : m + 4 + 12 ≤ 1114) (x : Int32) : ∃ u', pX11_find_L139 x (nI n) (nI m) fuel 0 u v = some (u', v) ∧ EX 4 u u' ∧ ∀ j, u' 4 j = if m + 4 ≤ j ∧ j < m + 4 + n then u 3 (j - (m + 4)) else u 4 j := by
  obtain ⟨u', ⟨h1, h2⟩, h3⟩ := stL (L := pX11_find_L139 x (nI n) (nI m)) (E := n) (I := fun k u' => EX 4 u u' ∧ ∀ j, u' 4 j = if m + 4 ≤ j ∧ j < m + 4 + k then u 3 (j - (m + 4)) else u 4 j) (v := v)
    (fun i u1 hi => by rw [pX11_find_L139, if_pos (nI_le (Nat.le_refl _) (by omega))])
    (fun i u1 k hk hi => by
      refine ⟨sU u1 4 (m + 4 + k) (u1 3 k), ⟨EX_sU hi.1, fun j => ?_⟩, ?_⟩
      · by_cases e : j = m + 4 + k
        · subst e; rw [sU_s, hi.1 3 (by decide), if_pos (by omega)]; congr 1; omega
        · rw [sU_c e, hi.2 j]
          by_cases y : m + 4 ≤ j ∧ j < m + 4 + k
          · rw [if_pos y, if_pos (by omega)]
          · rw [if_neg y, if_neg (by omega)]
      · rw [pX11_find_L139, if_neg (nI_ge hk (by omega)), ixj (J := 4) m 4 rfl, nI_add, gd_ok (by omega) (by decide), gd_ok (by omega) (by decide), cl (by omega), cl (by omega), nI_1])
    fuel u (by unfold fuel; omega) ⟨EX_rf, fun j => by rw [if_neg (by omega)]⟩
  exact ⟨u', h3, h1, h2⟩
section SM6
variable {N : tN} {n : Nat} {c : Nat → Nat} {K : Option tN}
theorem sm_rule (ok : OKS N n c K) (f a b : Int32) : SM (fun u v => pX10_rule u v a b) (fun u v => pX11_rule u v a b) N n c K f := by
  have hc := ok.1.2.1.2.1
  have h0 := ok.1.2.1.1
  have hn := ok.2.1
  have hcc := ok.2.2.1
  by_cases q1 : 0 ≤ b ∧ b < nI (N 0)
  · by_cases q2 : 0 ≤ a ∧ a ≤ 9
    · by_cases q3 : N 1 < 16
      · have hsg : ∀ (u : tU) (v : tV), MP u N n c K f → ((∀ k, k + 1 < n → c k ≠ 28) → pX11_hasSign (sU u 0 5 0) v 28 (u 0 5 - 1) = some 0) ∧ ((¬ ∀ k, k + 1 < n → c k ≠ 28) → pX11_hasSign (sU u 0 5 0) v 28 (u 0 5 - 1) = some 1) := fun u v h => by
          rw [h.2.1, show (28 : Int32) = nI 28 from rfl]
          rcases Nat.eq_zero_or_pos n with z | z
          · refine ⟨fun _ => ?_, fun P => absurd (fun k hk => by omega) P⟩
            rw [z, show nI 0 - (1 : Int32) = -1 from by decide]; exact mSign_0
          · obtain ⟨m, hm⟩ : ∃ m, n = m + 1 := ⟨n - 1, by omega⟩
            have h3 : ∀ k, k < m → sU u 0 5 0 3 k = nI (c k) := fun k hk => by rw [sU_r (by decide)]; exact h.2.2.1 k (by omega)
            have hl : ∀ k, k < m → c k ≤ 28 := fun k hk => (hcc k (by omega)).2
            rw [hm, nI_s1]
            exact ⟨fun P => mSign_t h3 (by omega) (by decide) hl (fun k hk => by have := P k (by omega); have := hl k hk; omega), fun P => mSign_f h3 (by omega) (by decide) hl (fun y => P (fun k hk => by have := y k (by omega); omega))⟩
        by_cases P : ∀ k, k + 1 < n → c k ≠ 28
        · obtain ⟨x, x1, rfl⟩ := rl (n := 9) (by decide) q2
          obtain ⟨y, y1, rfl⟩ := rg (by omega) q1
          refine ⟨nI (N 1), nR N x y n c, 0, c, K, f, OKS_0 ok (nR_ok ok.1 q3 hn x1 y1 hcc P), fun u v h => ?_, fun u v h => ?_⟩
          · show GX (pX10_rule u v (nI x) (nI y)) _ _ _ _ _ _ _
            have ht := XP_take h
            unfold pX10_rule
            rw [xProduct_eq h.1.1, bw, if_pos q1, within_eq, bw, if_pos q2, if_pos (show u 10 1 < (16 : Int32) from by rw [h.1.1 1 (by decide), lt_lit (L := 16) 16 rfl (by omega) (by decide)]; exact q3), xPat_t h.2.1 h.2.2.1 hn hcc P, Option.bind_some]
            unfold pX4_take
            rw [Option.bind_some]
            dsimp only
            rw [if_neg (show ¬ (1 : Int32) = 0 from by decide), h.2.2.1, pX8_add_eq (ht.1.1.1 1 (by decide)) q3, Option.bind_some]
            dsimp only
            refine GX_tr ht.2 ?_
            exact GX_w ht.1 (nR_x ok.1 q3 hn ht.1.1) (fun q hq => by rw [sU_r (by omega), sU_r (by omega), sU_r (by omega)]) ⟨sV_r (by decide), sV_r (by decide), sV_r (by decide)⟩
          · show GM (pX11_rule u v (nI x) (nI y)) _ _ _ _ _ _ _ _
            have ht := MP_take h
            have hm0 : CR (sU (sU (sU (sU u 0 5 0) 4 (38 + 15 * N 1) (nI x)) 4 (38 + 15 * N 1 + 1) (nI y)) 4 (38 + 15 * N 1 + 2) (nI n) 4) (va_up (va_up (va_up N (38 + 15 * N 1) x) (38 + 15 * N 1 + 1) y) (38 + 15 * N 1 + 2) n) 1114 := cr_sU (cr_sU (cr_sU ht.1.1))
            obtain ⟨u1, r1, r2, r3⟩ := mWR (u := sU (sU (sU (sU u 0 5 0) 4 (38 + 15 * N 1) (nI x)) 4 (38 + 15 * N 1 + 1) (nI y)) 4 (38 + 15 * N 1 + 2) (nI n)) (v := v) (n := n) (m := 38 + 15 * N 1) hn (by omega) (nI (N 1))
            unfold pX11_rule
            rw [isProduct_eq h.1, bw, if_pos q1, isIn_eq, bw, if_pos q2, if_neg (show ¬ u 4 1 = (16 : Int32) from by rw [h.1 1 (by decide), eq_lit (L := 16) 16 rfl (by omega) (by decide)]; omega), (hsg u v h).1 P, Option.bind_some, if_pos (show (0 : Int32) = 0 from rfl), h.1 1 (by decide), h.2.1, ix0 (B := 38) (L := 15) 38 15 (N 1) rfl rfl, ixj (J := 1) (38 + 15 * N 1) 1 rfl, ixj (J := 2) (38 + 15 * N 1) 2 rfl, gd_ok (by omega) (by decide), gd_ok (by omega) (by decide), gd_ok (by omega) (by decide), cl (by omega), cl (by omega), cl (by omega), r1, Option.bind_some]
            dsimp only
            have e1 : u1 4 1 = nI (N 1) := by rw [r3, if_neg (by omega), hm0 1 (by decide), vn (by omega), vn (by omega), vn (by omega)]
            rw [e1, nI_1]
            refine GM_tr ht.2 (GM_w ht.1 (fun k hk => ?_) (fun q hq => by rw [sU_r hq, r2 q hq, sU_r hq, sU_r hq, sU_r hq]))
            unfold nR
            by_cases z : 38 + 15 * N 1 + 3 ≤ k ∧ k < 38 + 15 * N 1 + 3 + n
            · rw [if_pos z, sU_c (by omega), r3, if_pos z, sU_r (by decide), sU_r (by decide), sU_r (by decide), sU_r (by decide)]
              exact h.2.2.1 _ (by omega)
            · rw [if_neg z]
              by_cases e : k = 1
              · subst e; rw [sU_s, vs]
              · rw [sU_c e, vn e, r3, if_neg z]; exact hm0 k hk
        · refine ⟨-7, N, 0, c, K, f + 1, OKS_0 ok ok.1, fun u v h => ?_, fun u v h => ?_⟩
          · show GX (pX10_rule u v a b) _ _ _ _ _ _ _
            have ht := XP_take h
            unfold pX10_rule
            rw [xProduct_eq h.1.1, bw, if_pos q1, within_eq, bw, if_pos q2, if_pos (show u 10 1 < (16 : Int32) from by rw [h.1.1 1 (by decide), lt_lit (L := 16) 16 rfl (by omega) (by decide)]; exact q3), xPat_f h.2.1 h.2.2.1 hn hcc P, Option.bind_some]
            unfold pX4_take
            rw [Option.bind_some]
            dsimp only
            rw [if_pos (show (0 : Int32) = 0 from rfl)]
            exact GX_tr ht.2 (GX_fd ht.1)
          · show GM (pX11_rule u v a b) _ _ _ _ _ _ _ _
            have ht := MP_take h
            unfold pX11_rule
            rw [isProduct_eq h.1, bw, if_pos q1, isIn_eq, bw, if_pos q2, if_neg (show ¬ u 4 1 = (16 : Int32) from by rw [h.1 1 (by decide), eq_lit (L := 16) 16 rfl (by omega) (by decide)]; omega), (hsg u v h).2 P, Option.bind_some, if_neg (show ¬ (1 : Int32) = 0 from by decide)]
            exact GM_tr ht.2 (GM_fd ht.1)
      · exact SM_neg (-3) ok (fun u v h => by
          show pX10_rule u v a b = _
          unfold pX10_rule
          rw [xProduct_eq h.1.1, bw, if_pos q1, within_eq, bw, if_pos q2, if_neg (show ¬ u 10 1 < (16 : Int32) from by rw [h.1.1 1 (by decide), lt_lit (L := 16) 16 rfl (by omega) (by decide)]; exact q3)]) (fun u v h => by
          show pX11_rule u v a b = _
          unfold pX11_rule
          rw [isProduct_eq h.1, bw, if_pos q1, isIn_eq, bw, if_pos q2, if_pos (show u 4 1 = (16 : Int32) from by rw [h.1 1 (by decide), eq_lit (L := 16) 16 rfl (by omega) (by decide)]; omega)])
    · exact SM_neg (-1) ok (fun u v h => by
        show pX10_rule u v a b = _
        unfold pX10_rule
        rw [xProduct_eq h.1.1, bw, if_pos q1, within_eq, bw, if_neg q2]) (fun u v h => by
        show pX11_rule u v a b = _
        unfold pX11_rule
        rw [isProduct_eq h.1, bw, if_pos q1, isIn_eq, bw, if_neg q2])
  · exact SM_neg (-1) ok (fun u v h => by
      show pX10_rule u v a b = _
      unfold pX10_rule
      rw [xProduct_eq h.1.1, bw, if_neg q1]) (fun u v h => by
      show pX11_rule u v a b = _
      unfold pX11_rule
      rw [isProduct_eq h.1, bw, if_neg q1])
theorem sm_find (ok : OKS N n c K) (f a b d : Int32) : SM (fun u v => pX10_find u v a b d) (fun u v => pX11_find u v a b d) N n c K f := by
  have hc := ok.1.2.1.2.2.2.1
  have h2 := ok.1.2.1.2.2.1
  have hn := ok.2.1
  have hcc := ok.2.2.1
  by_cases V : (0 ≤ a ∧ a < nI (N 2)) ∧ (0 ≤ b ∧ b ≤ 9999) ∧ (1 ≤ d ∧ d ≤ 9)
  · obtain ⟨q1, q2, q4⟩ := V
    by_cases q3 : N 3 < 40
    · have hsg : ∀ (u : tU) (v : tV), MP u N n c K f → ((∀ k, k < n → c k ≤ 26) → pX11_hasSign (sU u 0 5 0) v 27 (u 0 5) = some 0) ∧ ((¬ ∀ k, k < n → c k ≤ 26) → pX11_hasSign (sU u 0 5 0) v 27 (u 0 5) = some 1) := fun u v h => by
        rw [h.2.1, show (27 : Int32) = nI 27 from rfl]
        have h3 : ∀ k, k < n → sU u 0 5 0 3 k = nI (c k) := fun k hk => by rw [sU_r (by decide)]; exact h.2.2.1 k hk
        have hl : ∀ k, k < n → c k ≤ 28 := fun k hk => (hcc k hk).2
        exact ⟨fun P => mSign_t h3 hn (by decide) hl (fun k hk => by have := P k hk; omega), fun P => mSign_f h3 hn (by decide) hl (fun y => P (fun k hk => by have := y k hk; omega))⟩
      by_cases P : ∀ k, k < n → c k ≤ 26
      · obtain ⟨x, x1, rfl⟩ := rg (by omega) q1
        obtain ⟨y, y1, rfl⟩ := rl (n := 9999) (by decide) q2
        obtain ⟨z, z1, z2, rfl⟩ := rm (m := 1) (n := 9) (by decide) (by decide) q4
        refine ⟨nI (N 3), nF N x y z n c, 0, c, K, f, OKS_0 ok (nF_ok ok.1 q3 hn x1 y1 ⟨z1, z2⟩ (fun k hk => ⟨(hcc k hk).1, P k hk⟩)), fun u v h => ?_, fun u v h => ?_⟩
        · show GX (pX10_find u v (nI x) (nI y) (nI z)) _ _ _ _ _ _ _
          have ht := XP_take h
          unfold pX10_find
          rw [xHost_eq h.1.1, bw, if_pos q1, day_eq, bw, if_pos q2, vers_eq, bw, if_pos q4, if_pos (show u 10 3 < (40 : Int32) from by rw [h.1.1 3 (by decide), lt_lit (L := 40) 40 rfl (by omega) (by decide)]; exact q3), xName_t h.2.1 h.2.2.1 hn hcc P, Option.bind_some]
          unfold pX4_take
          rw [Option.bind_some]
          dsimp only
          rw [if_neg (show ¬ (1 : Int32) = 0 from by decide), h.2.2.1, pX1_add_eq (ht.1.1.1 3 (by decide)) q3, Option.bind_some]
          dsimp only
          refine GX_tr ht.2 ?_
          exact GX_w ht.1 (nF_x ok.1 q3 hn ht.1.1) (fun q hq => by rw [sU_r (by omega), sU_r (by omega), sU_r (by omega), sU_r (by omega)]) ⟨sV_r (by decide), sV_r (by decide), sV_r (by decide)⟩
        · show GM (pX11_find u v (nI x) (nI y) (nI z)) _ _ _ _ _ _ _ _
          have ht := MP_take h
          have hm0 : CR (sU (sU (sU (sU (sU u 0 5 0) 4 (294 + 16 * N 3) (nI x)) 4 (294 + 16 * N 3 + 1) (nI y)) 4 (294 + 16 * N 3 + 2) (nI z)) 4 (294 + 16 * N 3 + 3) (nI n) 4) (va_up (va_up (va_up (va_up N (294 + 16 * N 3) x) (294 + 16 * N 3 + 1) y) (294 + 16 * N 3 + 2) z) (294 + 16 * N 3 + 3) n) 1114 := cr_sU (cr_sU (cr_sU (cr_sU ht.1.1)))
          obtain ⟨u1, r1, r2, r3⟩ := mWF (u := sU (sU (sU (sU (sU u 0 5 0) 4 (294 + 16 * N 3) (nI x)) 4 (294 + 16 * N 3 + 1) (nI y)) 4 (294 + 16 * N 3 + 2) (nI z)) 4 (294 + 16 * N 3 + 3) (nI n)) (v := v) (n := n) (m := 294 + 16 * N 3) hn (by omega) (nI (N 3))
          unfold pX11_find
          rw [isHost_eq h.1, bw, if_pos q1, isIn_eq, bw, if_pos q2, isIn_eq, bw, if_pos q4, if_neg (show ¬ u 4 3 = (40 : Int32) from by rw [h.1 3 (by decide), eq_lit (L := 40) 40 rfl (by omega) (by decide)]; omega), (hsg u v h).1 P, Option.bind_some, if_pos (show (0 : Int32) = 0 from rfl), h.1 3 (by decide), h.2.1, ix0 (B := 294) (L := 16) 294 16 (N 3) rfl rfl, ixj (J := 1) (294 + 16 * N 3) 1 rfl, ixj (J := 2) (294 + 16 * N 3) 2 rfl, ixj (J := 3) (294 + 16 * N 3) 3 rfl, gd_ok (by omega) (by decide), gd_ok (by omega) (by decide), gd_ok (by omega) (by decide), gd_ok (by omega) (by decide), cl (by omega), cl (by omega), cl (by omega), cl (by omega), r1, Option.bind_some]
          dsimp only
          have e1 : u1 4 3 = nI (N 3) := by rw [r3, if_neg (by omega), hm0 3 (by decide), vn (by omega), vn (by omega), vn (by omega), vn (by omega)]
          rw [e1, nI_1]
          refine GM_tr ht.2 (GM_w ht.1 (fun k hk => ?_) (fun q hq => by rw [sU_r hq, r2 q hq, sU_r hq, sU_r hq, sU_r hq, sU_r hq]))
          unfold nF
          by_cases w : 294 + 16 * N 3 + 4 ≤ k ∧ k < 294 + 16 * N 3 + 4 + n
          · rw [if_pos w, sU_c (by omega), r3, if_pos w, sU_r (by decide), sU_r (by decide), sU_r (by decide), sU_r (by decide), sU_r (by decide)]
            exact h.2.2.1 _ (by omega)
          · rw [if_neg w]
            by_cases e : k = 3
            · subst e; rw [sU_s, vs]
            · rw [sU_c e, vn e, r3, if_neg w]; exact hm0 k hk
      · refine ⟨-7, N, 0, c, K, f + 1, OKS_0 ok ok.1, fun u v h => ?_, fun u v h => ?_⟩
        · show GX (pX10_find u v a b d) _ _ _ _ _ _ _
          have ht := XP_take h
          unfold pX10_find
          rw [xHost_eq h.1.1, bw, if_pos q1, day_eq, bw, if_pos q2, vers_eq, bw, if_pos q4, if_pos (show u 10 3 < (40 : Int32) from by rw [h.1.1 3 (by decide), lt_lit (L := 40) 40 rfl (by omega) (by decide)]; exact q3), xName_f h.2.1 h.2.2.1 hn hcc P, Option.bind_some]
          unfold pX4_take
          rw [Option.bind_some]
          dsimp only
          rw [if_pos (show (0 : Int32) = 0 from rfl)]
          exact GX_tr ht.2 (GX_fd ht.1)
        · show GM (pX11_find u v a b d) _ _ _ _ _ _ _ _
          have ht := MP_take h
          unfold pX11_find
          rw [isHost_eq h.1, bw, if_pos q1, isIn_eq, bw, if_pos q2, isIn_eq, bw, if_pos q4, if_neg (show ¬ u 4 3 = (40 : Int32) from by rw [h.1 3 (by decide), eq_lit (L := 40) 40 rfl (by omega) (by decide)]; omega), (hsg u v h).2 P, Option.bind_some, if_neg (show ¬ (1 : Int32) = 0 from by decide)]
          exact GM_tr ht.2 (GM_fd ht.1)
    · exact SM_neg (-3) ok (fun u v h => by
        show pX10_find u v a b d = _
        unfold pX10_find
        rw [xHost_eq h.1.1, bw, if_pos q1, day_eq, bw, if_pos q2, vers_eq, bw, if_pos q4, if_neg (show ¬ u 10 3 < (40 : Int32) from by rw [h.1.1 3 (by decide), lt_lit (L := 40) 40 rfl (by omega) (by decide)]; exact q3)]) (fun u v h => by
        show pX11_find u v a b d = _
        unfold pX11_find
        rw [isHost_eq h.1, bw, if_pos q1, isIn_eq, bw, if_pos q2, isIn_eq, bw, if_pos q4, if_pos (show u 4 3 = (40 : Int32) from by rw [h.1 3 (by decide), eq_lit (L := 40) 40 rfl (by omega) (by decide)]; omega)])
  · exact SM_neg (-1) ok (fun u v h => by
      show pX10_find u v a b d = _
      unfold pX10_find
      rw [xHost_eq h.1.1, bw, day_eq, bw, vers_eq, bw]
      by_cases q1 : 0 ≤ a ∧ a < nI (N 2)
      · rw [if_pos q1]
        by_cases q2 : 0 ≤ b ∧ b ≤ 9999
        · rw [if_pos q2, if_neg (fun y => V ⟨q1, q2, y⟩)]
        · rw [if_neg q2]
      · rw [if_neg q1]) (fun u v h => by
      show pX11_find u v a b d = _
      unfold pX11_find
      rw [isHost_eq h.1, bw, isIn_eq, bw, isIn_eq, bw]
      by_cases q1 : 0 ≤ a ∧ a < nI (N 2)
      · rw [if_pos q1]
        by_cases q2 : 0 ≤ b ∧ b ≤ 9999
        · rw [if_pos q2, if_neg (fun y => V ⟨q1, q2, y⟩)]
        · rw [if_neg q2]
      · rw [if_neg q1])
end SM6
