/-! what stands between the calls -/
def XP (u : tU) (v : tV) (N : tN) (n : Nat) (c : Nat → Nat) (K : Option tN) (f : Int32) : Prop := xB u v 10 1 N ∧ u 0 2 = nI n ∧ v 0 0 = lN (enc c n) ∧ u 0 1 = f ∧ ((K = none ∧ u 0 0 = 0) ∨ ∃ N', K = some N' ∧ u 0 0 = 1 ∧ xB u v 40 11 N')
def MP (u : tU) (N : tN) (n : Nat) (c : Nat → Nat) (K : Option tN) (f : Int32) : Prop := CR (u 4) N 1114 ∧ u 0 5 = nI n ∧ (∀ k, k < n → u 3 k = nI (c k)) ∧ u 0 7 = f ∧ ((K = none ∧ u 0 6 = 0) ∨ ∃ N', K = some N' ∧ u 0 6 = 1 ∧ CR (u 5) N' 1114)
def OKS (N : tN) (n : Nat) (c : Nat → Nat) (K : Option tN) : Prop := okN N ∧ n ≤ 12 ∧ (∀ k, k < n → 1 ≤ c k ∧ c k ≤ 28) ∧ ∀ N', K = some N' → okN N'
def MU (u u' : tU) : Prop := u' 3 = u 3 ∧ u' 4 = u 4 ∧ u' 5 = u 5 ∧ ∀ c, 5 ≤ c → u' 0 c = u 0 c
def XU (u u' : tU) : Prop := (∀ q, 10 ≤ q → u' q = u q) ∧ ∀ c, c < 3 → u' 0 c = u 0 c
theorem MU_rf {u : tU} : MU u u := ⟨rfl, rfl, rfl, fun _ _ => rfl⟩
theorem MU_tr {u u' u'' : tU} (h : MU u u') (h' : MU u' u'') : MU u u'' := ⟨by rw [h'.1, h.1], by rw [h'.2.1, h.2.1], by rw [h'.2.2.1, h.2.2.1], fun c hc => by rw [h'.2.2.2 c hc, h.2.2.2 c hc]⟩
theorem XU_rf {u : tU} : XU u u := ⟨fun _ _ => rfl, fun _ _ => rfl⟩
theorem XU_tr {u u' u'' : tU} (h : XU u u') (h' : XU u' u'') : XU u u'' := ⟨fun q hq => by rw [h'.1 q hq, h.1 q hq], fun c hc => by rw [h'.2 c hc, h.2 c hc]⟩
theorem MU_EX1 {u u' : tU} (h : EX 1 u u') : MU u u' := ⟨h 3 (by decide), h 4 (by decide), h 5 (by decide), fun c _ => by rw [h 0 (by decide)]⟩
theorem MU_EM {u u' : tU} (h : EM u u') : MU u u' := ⟨h.1 3 (by decide) (by decide), h.1 4 (by decide) (by decide), h.1 5 (by decide) (by decide), fun c hc => h.2 c (by omega) (by omega)⟩
theorem XU_EX6 {u u' : tU} (h : EX 6 u u') : XU u u' := ⟨fun q hq => h q (by omega), fun c _ => by rw [h 0 (by decide)]⟩
theorem XU_EN {u u' : tU} (h : EN u u') : XU u u' := ⟨fun q hq => h.1 q (by omega) (by omega), fun c hc => h.2 c (by omega) (by omega)⟩
theorem XP_XU {u u' : tU} {v : tV} {N : tN} {n : Nat} {c : Nat → Nat} {K : Option tN} {f : Int32} (e : XU u u') (h : XP u v N n c K f) : XP u' v N n c K f := by
  obtain ⟨h1, h2, h3, h4, h5⟩ := h
  refine ⟨xB_rows (fun j _ => e.1 _ (by omega)) h1, by rw [e.2 2 (by decide)]; exact h2, h3, by rw [e.2 1 (by decide)]; exact h4, ?_⟩
  rcases h5 with ⟨a, b⟩ | ⟨N', a, b, d⟩
  · exact Or.inl ⟨a, by rw [e.2 0 (by decide)]; exact b⟩
  · exact Or.inr ⟨N', a, by rw [e.2 0 (by decide)]; exact b, xB_rows (fun j _ => e.1 _ (by omega)) d⟩
theorem MP_MU {u u' : tU} {N : tN} {n : Nat} {c : Nat → Nat} {K : Option tN} {f : Int32} (e : MU u u') (h : MP u N n c K f) : MP u' N n c K f := by
  obtain ⟨h1, h2, h3, h4, h5⟩ := h
  obtain ⟨e3, e4, e5, e0⟩ := e
  refine ⟨by rw [e4]; exact h1, by rw [e0 5 (by decide)]; exact h2, by rw [e3]; exact h3, by rw [e0 7 (by decide)]; exact h4, ?_⟩
  rcases h5 with ⟨a, b⟩ | ⟨N', a, b, d⟩
  · exact Or.inl ⟨a, by rw [e0 6 (by decide)]; exact b⟩
  · exact Or.inr ⟨N', a, by rw [e0 6 (by decide)]; exact b, by rw [e5]; exact d⟩
/-- rows from 10 on and the class's own three numbers are as they were -/
theorem XU_EX1 {u u' : tU} (h : EX 1 u u') : XU u u' := ⟨fun q hq => h q (by omega), fun c _ => by rw [h 0 (by decide)]⟩
theorem XU_EM {u u' : tU} (h : EM u u') : XU u u' := ⟨fun q hq => h.1 q (by omega) (by omega), fun c hc => h.2 c (by omega) (by omega)⟩
theorem MU_EX6 {u u' : tU} (h : EX 6 u u') : MU u u' := ⟨h 3 (by decide), h 4 (by decide), h 5 (by decide), fun c _ => by rw [h 0 (by decide)]⟩
def MUx (u u' : tU) : Prop := u' 3 = u 3 ∧ u' 4 = u 4 ∧ u' 5 = u 5 ∧ ∀ c, 5 ≤ c → c < 8 → u' 0 c = u 0 c
theorem MP_MUx {u u' : tU} {N : tN} {n : Nat} {c : Nat → Nat} {K : Option tN} {f : Int32} (e : MUx u u') (h : MP u N n c K f) : MP u' N n c K f := by
  obtain ⟨h1, h2, h3, h4, h5⟩ := h
  obtain ⟨e3, e4, e5, e0⟩ := e
  refine ⟨by rw [e4]; exact h1, by rw [e0 5 (by decide) (by decide)]; exact h2, by rw [e3]; exact h3, by rw [e0 7 (by decide) (by decide)]; exact h4, ?_⟩
  rcases h5 with ⟨a, b⟩ | ⟨N', a, b, d⟩
  · exact Or.inl ⟨a, by rw [e0 6 (by decide) (by decide)]; exact b⟩
  · exact Or.inr ⟨N', a, by rw [e0 6 (by decide) (by decide)]; exact b, by rw [e5]; exact d⟩
theorem MUx_EN {u u' : tU} (h : EN u u') : MUx u u' := ⟨h.1 3 (by decide) (by decide), h.1 4 (by decide) (by decide), h.1 5 (by decide) (by decide), fun c h5 h8 => h.2 c (by omega) (by omega)⟩
/-- an answer of the class, of the reference: nothing changes but the count of findings -/
def RX (o : Option (Int32 × tU × tV)) (u : tU) (v : tV) (N : tN) (n : Nat) (c : Nat → Nat) (K : Option tN) (f r : Int32) : Prop := ∃ u1, o = some (r, u1, v) ∧ XP u1 v N n c K (if r < 0 then f + 1 else f) ∧ MU u u1
def RM (o : Option (Int32 × tU × tV)) (u : tU) (v : tV) (N : tN) (n : Nat) (c : Nat → Nat) (K : Option tN) (f r : Int32) : Prop := ∃ u1, o = some (r, u1, v) ∧ MP u1 N n c K (if r < 0 then f + 1 else f) ∧ XU u u1
theorem xfd {u : tU} {v : tV} {N : tN} {n : Nat} {c : Nat → Nat} {K : Option tN} {f : Int32} (h : XP u v N n c K f) : XP (sU u 0 1 (u 0 1 + 1)) v N n c K (f + 1) ∧ MU u (sU u 0 1 (u 0 1 + 1)) := by
  obtain ⟨h1, h2, h3, h4, h5⟩ := h
  refine ⟨⟨xB_rows (fun j _ => sU_r (by omega)) h1, by rw [sU_c (by decide)]; exact h2, h3, by rw [sU_s, h4], ?_⟩, sU_r (by decide), sU_r (by decide), sU_r (by decide), fun c hc => sU_c (by omega)⟩
  rcases h5 with ⟨a, b⟩ | ⟨N', a, b, d⟩
  · exact Or.inl ⟨a, by rw [sU_c (by decide)]; exact b⟩
  · exact Or.inr ⟨N', a, by rw [sU_c (by decide)]; exact b, xB_rows (fun j _ => sU_r (by omega)) d⟩
theorem mfd {u : tU} {N : tN} {n : Nat} {c : Nat → Nat} {K : Option tN} {f : Int32} (h : MP u N n c K f) : MP (sU u 0 7 (u 0 7 + 1)) N n c K (f + 1) ∧ XU u (sU u 0 7 (u 0 7 + 1)) := by
  obtain ⟨h1, h2, h3, h4, h5⟩ := h
  refine ⟨⟨by rw [sU_r (by decide)]; exact h1, by rw [sU_c (by decide)]; exact h2, by rw [sU_r (by decide)]; exact h3, by rw [sU_s, h4], ?_⟩, fun q hq => sU_r (by omega), fun c hc => sU_c (by omega)⟩
  rcases h5 with ⟨a, b⟩ | ⟨N', a, b, d⟩
  · exact Or.inl ⟨a, by rw [sU_c (by decide)]; exact b⟩
  · exact Or.inr ⟨N', a, by rw [sU_c (by decide)]; exact b, by rw [sU_r (by decide)]; exact d⟩
section RDS
variable {u u' : tU} {v : tV} {N : tN} {n : Nat} {c : Nat → Nat} {K : Option tN} {f r k : Int32} {o : Option (Int32 × tU × tV)}
theorem RX_fd (h : XP u v N n c K f) (hk : k < 0) : RX ((pX10_finding u v k).bind fun o => (match o with | (r, u, v) => some (r, u, v))) u v N n c K f k := ⟨sU u 0 1 (u 0 1 + 1), rfl, by rw [if_pos hk]; exact (xfd h).1, (xfd h).2⟩
theorem RM_fd (h : MP u N n c K f) (hk : k < 0) : RM ((pX11_finding u v k).bind fun o => (match o with | (r, u, v) => some (r, u, v))) u v N n c K f k := ⟨sU u 0 7 (u 0 7 + 1), rfl, by rw [if_pos hk]; exact (mfd h).1, (mfd h).2⟩
theorem RX_id (h : XP u v N n c K f) (hr : ¬ r < 0) : RX (some (r, u, v)) u v N n c K f r := ⟨u, rfl, by rw [if_neg hr]; exact h, MU_rf⟩
theorem RM_id (h : MP u N n c K f) (hr : ¬ r < 0) : RM (some (r, u, v)) u v N n c K f r := ⟨u, rfl, by rw [if_neg hr]; exact h, XU_rf⟩
theorem RX_tr (e : MU u u') (h : RX o u' v N n c K f r) : RX o u v N n c K f r := by obtain ⟨u1, h1, h2, h3⟩ := h; exact ⟨u1, h1, h2, MU_tr e h3⟩
theorem RM_tr (e : XU u u') (h : RM o u' v N n c K f r) : RM o u v N n c K f r := by obtain ⟨u1, h1, h2, h3⟩ := h; exact ⟨u1, h1, h2, XU_tr e h3⟩
end RDS
theorem bwb {α : Type} {b : Bool} {A B : Option α} : ((some (b2i b)).bind fun r => if r = (0 : Int32) then A else B) = if b = true then B else A := by
  cases b
  · rfl
  · rfl
theorem npos {j : Nat} (h : j < 2 ^ 31) : ¬ nI j < 0 := nI_pos h
/-! the answers that change nothing -/
def aGoes (N : tN) (a : Int32) : Int32 := if 0 ≤ a ∧ a < nI (N 3) then goN N a.toNatClampNeg else -1
def aBy (N : tN) (a : Int32) : Int32 := if 0 ≤ a ∧ a < nI (N 3) then en (-6) (frN N a.toNatClampNeg (N 1)) else -1
def aCounts (N : tN) (a : Int32) : Int32 := if 0 ≤ a ∧ a < nI (N 3) then b2i (frB N a.toNatClampNeg) else -1
def aFits (N : tN) (a b : Int32) : Int32 := if 0 ≤ a ∧ a < nI (N 1) then (if 0 ≤ b ∧ b < nI (N 3) then b2i (fitN N a.toNatClampNeg b.toNatClampNeg) else -1) else -1
def aFinds (N : tN) (a : Int32) : Int32 := if 0 ≤ a ∧ a ≤ 3 then nI (fb_sm (fun f => bn (soB N a.toNatClampNeg f)) (N 3)) else -1
section ANS
variable {u : tU} {v : tV} {N : tN} {n : Nat} {c : Nat → Nat} {K : Option tN} {f : Int32}
theorem b2i_n {b : Bool} : ¬ b2i b < 0 := by cases b <;> decide
theorem x_goes (ok : okN N) (h : XP u v N n c K f) (a : Int32) : RX (pX10_goes u v a) u v N n c K f (aGoes N a) := by
  unfold pX10_goes aGoes
  rw [xFind_eq h.1.1, bw]
  by_cases q : 0 ≤ a ∧ a < nI (N 3)
  · rw [if_pos q, if_pos q]
    obtain ⟨j, hj, rfl⟩ := rg (by have := ok.2.1.2.2.2.1; omega) q
    rw [xGoal ok h.1 hj, Option.bind_some, cl (by have := ok.2.1.2.2.2.1; omega)]
    by_cases z : goN N j < 0
    · rw [if_neg (by rw [leNot]; exact fun y => y z)]; exact RX_fd h z
    · rw [if_pos (by rw [leNot]; exact z)]; exact RX_id h z
  · rw [if_neg q, if_neg q]; exact RX_fd h (by decide)
theorem m_goes (ok : okN N) (h : MP u N n c K f) (a : Int32) : RM (pX11_goes u v a) u v N n c K f (aGoes N a) := by
  unfold pX11_goes aGoes
  rw [isFind_eq h.1, bw]
  by_cases q : 0 ≤ a ∧ a < nI (N 3)
  · rw [if_pos q, if_pos q]
    obtain ⟨j, hj, rfl⟩ := rg (by have := ok.2.1.2.2.2.1; omega) q
    rw [mGoal ok h.1 hj, Option.bind_some, cl (by have := ok.2.1.2.2.2.1; omega)]
    by_cases z : goN N j < 0
    · rw [if_neg (by rw [leNot]; exact fun y => y z)]; exact RM_fd h z
    · rw [if_pos (by rw [leNot]; exact z)]; exact RM_id h z
  · rw [if_neg q, if_neg q]; exact RM_fd h (by decide)
theorem x_by (ok : okN N) (h : XP u v N n c K f) (a : Int32) : RX (pX10_by u v a) u v N n c K f (aBy N a) := by
  unfold pX10_by aBy
  rw [xFind_eq h.1.1, bw]
  by_cases q : 0 ≤ a ∧ a < nI (N 3)
  · rw [if_pos q, if_pos q]
    obtain ⟨j, hj, rfl⟩ := rg (by have := ok.2.1.2.2.2.1; omega) q
    rw [xFirst ok h.1 hj, Option.bind_some, cl (by have := ok.2.1.2.2.2.1; omega)]
    cases hb : frN N j (N 1) with
    | none => rw [if_neg (show ¬ (0 : Int32) ≤ en (-6) none from by decide)]; exact RX_fd h (by decide)
    | some i =>
      have hi := frN_lt hb
      rw [if_pos (show (0 : Int32) ≤ en (-6) (some i) from nI_pos' (n := i) (by have := ok.2.1.2.1; omega))]
      exact RX_id h (nI_pos (n := i) (by have := ok.2.1.2.1; omega))
  · rw [if_neg q, if_neg q]; exact RX_fd h (by decide)
theorem m_by (ok : okN N) (h : MP u N n c K f) (a : Int32) : RM (pX11_by u v a) u v N n c K f (aBy N a) := by
  unfold pX11_by aBy
  rw [isFind_eq h.1, bw]
  by_cases q : 0 ≤ a ∧ a < nI (N 3)
  · rw [if_pos q, if_pos q]
    obtain ⟨j, hj, rfl⟩ := rg (by have := ok.2.1.2.2.2.1; omega) q
    rw [mFirst ok h.1 hj, Option.bind_some, cl (by have := ok.2.1.2.2.2.1; omega)]
    cases hb : frN N j (N 1) with
    | none => rw [if_neg (show ¬ (0 : Int32) ≤ en (-1) none from by decide)]; exact RM_fd h (by decide)
    | some i =>
      have hi := frN_lt hb
      rw [if_pos (show (0 : Int32) ≤ en (-1) (some i) from nI_pos' (n := i) (by have := ok.2.1.2.1; omega))]
      exact RM_id h (nI_pos (n := i) (by have := ok.2.1.2.1; omega))
  · rw [if_neg q, if_neg q]; exact RM_fd h (by decide)
theorem x_counts (ok : okN N) (h : XP u v N n c K f) (a : Int32) : RX (pX10_counts u v a) u v N n c K f (aCounts N a) := by
  unfold pX10_counts aCounts
  rw [xFind_eq h.1.1, bw]
  by_cases q : 0 ≤ a ∧ a < nI (N 3)
  · rw [if_pos q, if_pos q]
    obtain ⟨j, hj, rfl⟩ := rg (by have := ok.2.1.2.2.2.1; omega) q
    rw [xFresh ok h.1 hj, bwb, cl (by have := ok.2.1.2.2.2.1; omega)]
    cases frB N j
    · exact RX_id h (by decide)
    · exact RX_id h (by decide)
  · rw [if_neg q, if_neg q]; exact RX_fd h (by decide)
theorem m_counts (ok : okN N) (h : MP u N n c K f) (a : Int32) : RM (pX11_counts u v a) u v N n c K f (aCounts N a) := by
  unfold pX11_counts aCounts
  rw [isFind_eq h.1, bw]
  by_cases q : 0 ≤ a ∧ a < nI (N 3)
  · rw [if_pos q, if_pos q]
    obtain ⟨j, hj, rfl⟩ := rg (by have := ok.2.1.2.2.2.1; omega) q
    rw [mFresh ok h.1 hj, bwb, cl (by have := ok.2.1.2.2.2.1; omega)]
    cases frB N j
    · exact RM_id h (by decide)
    · exact RM_id h (by decide)
  · rw [if_neg q, if_neg q]; exact RM_fd h (by decide)
theorem x_fits (ok : okN N) (h : XP u v N n c K f) (a b : Int32) : RX (pX10_fits u v a b) u v N n c K f (aFits N a b) := by
  unfold pX10_fits aFits
  rw [xRule_eq h.1.1, bw, xFind_eq h.1.1, bw]
  by_cases q : 0 ≤ a ∧ a < nI (N 1)
  · rw [if_pos q, if_pos q]
    by_cases q2 : 0 ≤ b ∧ b < nI (N 3)
    · rw [if_pos q2, if_pos q2]
      obtain ⟨i, hi, rfl⟩ := rg (by have := ok.2.1.2.1; omega) q
      obtain ⟨j, hj, rfl⟩ := rg (by have := ok.2.1.2.2.2.1; omega) q2
      rw [xFit ok h.1 hi hj, bwb, cl (by have := ok.2.1.2.1; omega), cl (by have := ok.2.1.2.2.2.1; omega)]
      cases fitN N i j
      · exact RX_id h (by decide)
      · exact RX_id h (by decide)
    · rw [if_neg q2, if_neg q2]; exact RX_fd h (by decide)
  · rw [if_neg q, if_neg q]; exact RX_fd h (by decide)
theorem m_fits (ok : okN N) (h : MP u N n c K f) (a b : Int32) : RM (pX11_fits u v a b) u v N n c K f (aFits N a b) := by
  unfold pX11_fits aFits
  rw [isRule_eq h.1, bw, isFind_eq h.1, bw]
  by_cases q : 0 ≤ a ∧ a < nI (N 1)
  · rw [if_pos q, if_pos q]
    by_cases q2 : 0 ≤ b ∧ b < nI (N 3)
    · rw [if_pos q2, if_pos q2]
      obtain ⟨i, hi, rfl⟩ := rg (by have := ok.2.1.2.1; omega) q
      obtain ⟨j, hj, rfl⟩ := rg (by have := ok.2.1.2.2.2.1; omega) q2
      rw [mFit ok h.1 hi hj, bwb, cl (by have := ok.2.1.2.1; omega), cl (by have := ok.2.1.2.2.2.1; omega)]
      cases fitN N i j
      · exact RM_id h (by decide)
      · exact RM_id h (by decide)
    · rw [if_neg q2, if_neg q2]; exact RM_fd h (by decide)
  · rw [if_neg q, if_neg q]; exact RM_fd h (by decide)
theorem sm40 {N : tN} (ok : okN N) {b : Nat → Bool} : fb_sm (fun f => bn (b f)) (N 3) < 2 ^ 31 := by
  have h := fb_sm_bound (f := fun i => bn (b i)) (c := 1) (n := N 3) (fun k _ => bn_le _)
  have := ok.2.1.2.2.2.1
  omega
theorem x_finds (ok : okN N) (h : XP u v N n c K f) (a : Int32) : RX (pX10_finds u v a) u v N n c K f (aFinds N a) := by
  unfold pX10_finds aFinds
  rw [within_eq, bw]
  by_cases q : 0 ≤ a ∧ a ≤ 3
  · rw [if_pos q, if_pos q]
    obtain ⟨j, hj, rfl⟩ := rl (n := 3) (by decide) q
    rw [xFinds ok h.1 hj, Option.bind_some, cl (by omega)]
    exact RX_id h (npos (sm40 ok))
  · rw [if_neg q, if_neg q]; exact RX_fd h (by decide)
theorem m_finds (ok : okN N) (h : MP u N n c K f) (a : Int32) : RM (pX11_finds u v a) u v N n c K f (aFinds N a) := by
  unfold pX11_finds aFinds
  rw [isIn_eq, bw]
  by_cases q : 0 ≤ a ∧ a ≤ 3
  · rw [if_pos q, if_pos q]
    obtain ⟨j, hj, rfl⟩ := rl (n := 3) (by decide) q
    rw [mFinds ok h.1 hj, Option.bind_some, cl (by omega)]
    exact RM_id h (npos (sm40 ok))
  · rw [if_neg q, if_neg q]; exact RM_fd h (by decide)
end ANS
