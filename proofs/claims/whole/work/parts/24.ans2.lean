def GX (o : Option (Int32 × tU × tV)) (u : tU) (N : tN) (n : Nat) (c : Nat → Nat) (K : Option tN) (f r : Int32) : Prop := ∃ u1 v1, o = some (r, u1, v1) ∧ XP u1 v1 N n c K f ∧ MU u u1
def GM (o : Option (Int32 × tU × tV)) (u : tU) (v : tV) (N : tN) (n : Nat) (c : Nat → Nat) (K : Option tN) (f r : Int32) : Prop := ∃ u1, o = some (r, u1, v) ∧ MP u1 N n c K f ∧ XU u u1
theorem kind_eq (a : Int32) : pX10_isKind a = some (if 0 ≤ a ∧ a ≤ 3 then 1 else 0) := by unfold pX10_isKind; rw [within_eq, Option.bind_some, gb_ok]
theorem meas_eq (a : Int32) : pX10_isMeasure a = some (if 0 ≤ a ∧ a ≤ 3 then 1 else 0) := by unfold pX10_isMeasure; rw [within_eq, Option.bind_some, gb_ok]
theorem tick_eq (a : Int32) : pX10_isTick a = some (if 0 ≤ a ∧ a ≤ 999 then 1 else 0) := by unfold pX10_isTick; rw [within_eq, Option.bind_some, gb_ok]
theorem day_eq (a : Int32) : pX10_isDay a = some (if 0 ≤ a ∧ a ≤ 9999 then 1 else 0) := by unfold pX10_isDay; rw [within_eq, Option.bind_some, gb_ok]
theorem vers_eq (a : Int32) : pX10_isVersion a = some (if 1 ≤ a ∧ a ≤ 9 then 1 else 0) := by unfold pX10_isVersion; rw [within_eq, Option.bind_some, gb_ok]
def aTold (N : tN) (n : Nat) (f a : Int32) : Int32 := if a = 0 then nI (N 0) else if a = 1 then nI (N 1) else if a = 2 then nI (N 2) else if a = 3 then nI (N 4) else if a = 4 then nI (N 5) else if a = 5 then f else if a = 6 then nI n else -1
def fTold (f a : Int32) : Int32 := if a = 0 ∨ a = 1 ∨ a = 2 ∨ a = 3 ∨ a = 4 ∨ a = 5 ∨ a = 6 then f else f + 1
def aAs (N : tN) (a b : Int32) : Int32 := if 0 ≤ a ∧ a < nI (N 0) then (if 0 ≤ b ∧ b ≤ 3 then (if b = 0 ∨ b = nI (N (8 + 3 * a.toNatClampNeg)) ∨ (b = 1 ∧ N (8 + 3 * a.toNatClampNeg) = 3) then a else -4) else -1) else -1
def aHas (N : tN) (a b : Int32) : Int32 := if 0 ≤ a ∧ a < nI (N 2) then (if 0 ≤ b ∧ b < nI (N 0) then (if haN N (10 * a.toNatClampNeg + b.toNatClampNeg) = 0 then -2 else nI (haN N (10 * a.toNatClampNeg + b.toNatClampNeg))) else -1) else -1
def aMeas (N : tN) (a b : Int32) : Int32 := if 0 ≤ a ∧ a < nI (N 0) then (if 0 ≤ b ∧ b ≤ 3 then nI (meN N (haN N) a.toNatClampNeg b.toNatClampNeg) else -1) else -1
def aAll (N : tN) (a : Int32) : Int32 := if 0 ≤ a ∧ a ≤ 3 then nI (fb_sm (fun p => meN N (haN N) p a.toNatClampNeg) (N 0)) else -1
def aAt (N : tN) (a b : Int32) : Int32 := if 0 ≤ a ∧ a < nI (N 0) then (if 0 ≤ b ∧ b ≤ 999 then nI (caN N a.toNatClampNeg b.toNatClampNeg) else -1) else -1
theorem meN_le {N : tN} (ok : okN N) {w : Nat → Nat} {p m : Nat} : meN N w p m ≤ 100 := by
  have h2 := ok.2.1.2.2.1
  have h4 := ok.2.1.2.2.2.2.1
  unfold meN
  split
  · have h := fb_sm_bound (f := fun h => bn (hoB w p h)) (c := 1) (n := N 2) (fun k _ => bn_le _)
    unfold hsN; omega
  · split
    · have := fb_ct_le (fun i => decide (pmN N w p (N 2) / 2 ^ i % 2 = 1)) 10; omega
    · split
      · have h := fb_sm_bound (f := fun h => if hoB w p h = true then (N (278 + 2 * h) + 7) / 8 else 0) (c := 8) (n := N 2) (fun k hk => by
          have := (ok.2.2.2.2.1 k hk).2.1
          split <;> omega)
        unfold coN; omega
      · have := moN_le N p 1000; omega
section ANS2
variable {u : tU} {v : tV} {N : tN} {n : Nat} {c : Nat → Nat} {K : Option tN} {f : Int32}
theorem GX_rd {o : Option (Int32 × tU × tV)} {r : Int32} (h : RX o u v N n c K f r) : GX o u N n c K (if r < 0 then f + 1 else f) r := by obtain ⟨u1, h1, h2, h3⟩ := h; exact ⟨u1, v, h1, h2, h3⟩
theorem x_told (h : XP u v N n c K f) (a : Int32) : GX (pX10_told u v a) u N n c K (fTold f a) (aTold N n f a) := by
  unfold pX10_told aTold fTold
  rw [h.1.1 0 (by decide), h.1.1 1 (by decide), h.1.1 2 (by decide), h.1.1 4 (by decide), h.1.1 5 (by decide), h.2.1, h.2.2.2.1]
  by_cases q0 : a = 0
  · subst q0; exact ⟨u, v, rfl, h, MU_rf⟩
  by_cases q1 : a = 1
  · subst q1; exact ⟨u, v, rfl, h, MU_rf⟩
  by_cases q2 : a = 2
  · subst q2; exact ⟨u, v, rfl, h, MU_rf⟩
  by_cases q3 : a = 3
  · subst q3; exact ⟨u, v, rfl, h, MU_rf⟩
  by_cases q4 : a = 4
  · subst q4; exact ⟨u, v, rfl, h, MU_rf⟩
  by_cases q5 : a = 5
  · subst q5; exact ⟨u, v, rfl, h, MU_rf⟩
  by_cases q6 : a = 6
  · subst q6; exact ⟨u, v, rfl, h, MU_rf⟩
  simp only [if_neg q0, if_neg q1, if_neg q2, if_neg q3, if_neg q4, if_neg q5, if_neg q6]
  rw [if_neg (by simp [q0, q1, q2, q3, q4, q5, q6])]
  exact ⟨_, v, rfl, (xfd h).1, (xfd h).2⟩
theorem m_told (h : MP u N n c K f) (a : Int32) : GM (pX11_told u v a) u v N n c K (fTold f a) (aTold N n f a) := by
  unfold pX11_told aTold fTold
  rw [h.1 0 (by decide), h.1 1 (by decide), h.1 2 (by decide), h.1 4 (by decide), h.1 5 (by decide), h.2.1, h.2.2.2.1]
  by_cases q0 : a = 0
  · subst q0; exact ⟨u, rfl, h, XU_rf⟩
  by_cases q1 : a = 1
  · subst q1; exact ⟨u, rfl, h, XU_rf⟩
  by_cases q2 : a = 2
  · subst q2; exact ⟨u, rfl, h, XU_rf⟩
  by_cases q3 : a = 3
  · subst q3; exact ⟨u, rfl, h, XU_rf⟩
  by_cases q4 : a = 4
  · subst q4; exact ⟨u, rfl, h, XU_rf⟩
  by_cases q5 : a = 5
  · subst q5; exact ⟨u, rfl, h, XU_rf⟩
  by_cases q6 : a = 6
  · subst q6; exact ⟨u, rfl, h, XU_rf⟩
  simp only [if_neg q0, if_neg q1, if_neg q2, if_neg q3, if_neg q4, if_neg q5, if_neg q6]
  rw [if_neg (by simp [q0, q1, q2, q3, q4, q5, q6])]
  exact ⟨_, rfl, (mfd h).1, (mfd h).2⟩
theorem x_as (ok : okN N) (h : XP u v N n c K f) (a b : Int32) : RX (pX10_as u v a b) u v N n c K f (aAs N a b) := by
  have hc := ok.2.1.1
  unfold pX10_as aAs
  rw [xProduct_eq h.1.1, bw, kind_eq, bw]
  by_cases q : 0 ≤ a ∧ a < nI (N 0)
  · rw [if_pos q, if_pos q]
    by_cases q2 : 0 ≤ b ∧ b ≤ 3
    · rw [if_pos q2, if_pos q2]
      obtain ⟨j, hj, rfl⟩ := rg (by omega) q
      rw [gd_ok (j := j) (n := 10) (by omega) (by decide), cl (j := j) (by omega), show u 11 j = nI (N (8 + 3 * j)) from (h.1.2.1 j hj).1]
      have e : pX10_isUnder (nI (N (8 + 3 * j))) b = some (if b = 0 ∨ b = nI (N (8 + 3 * j)) ∨ (b = 1 ∧ N (8 + 3 * j) = 3) then 1 else 0) := by
        unfold pX10_isUnder
        simp only [show (3 : Int32) = nI 3 from rfl, nI_lit 3 (by decide) (ok.1 (8 + 3 * j))]
        by_cases z1 : nI (N (8 + 3 * j)) = b
        · rw [if_pos z1, if_pos (Or.inr (Or.inl z1.symm))]
        · rw [if_neg z1]
          by_cases z2 : b = 0
          · rw [if_pos z2, if_pos (Or.inl z2)]
          · rw [if_neg z2]
            by_cases z3 : b = 1
            · rw [if_pos z3]
              by_cases z4 : N (8 + 3 * j) = 3
              · rw [if_pos z4, if_pos (Or.inr (Or.inr ⟨z3, z4⟩))]
              · rw [if_neg z4, if_neg (fun y => by rcases y with y | y | y; exact z2 y; exact z1 y.symm; exact z4 y.2)]
            · rw [if_neg z3, if_neg (fun y => by rcases y with y | y | y; exact z2 y; exact z1 y.symm; exact z3 y.1)]
      rw [e, bw]
      by_cases z : b = 0 ∨ b = nI (N (8 + 3 * j)) ∨ (b = 1 ∧ N (8 + 3 * j) = 3)
      · rw [if_pos z, if_pos z]; exact RX_id h (npos (by omega))
      · rw [if_neg z, if_neg z]; exact RX_fd h (by decide)
    · rw [if_neg q2, if_neg q2]; exact RX_fd h (by decide)
  · rw [if_neg q, if_neg q]; exact RX_fd h (by decide)
theorem m_as (ok : okN N) (h : MP u N n c K f) (a b : Int32) : RM (pX11_as u v a b) u v N n c K f (aAs N a b) := by
  have hc := ok.2.1.1
  unfold pX11_as aAs
  rw [isProduct_eq h.1, bw, isIn_eq, bw]
  by_cases q : 0 ≤ a ∧ a < nI (N 0)
  · rw [if_pos q, if_pos q]
    by_cases q2 : 0 ≤ b ∧ b ≤ 3
    · rw [if_pos q2, if_pos q2]
      obtain ⟨j, hj, rfl⟩ := rg (by omega) q
      rw [productAt_eq (b := 0) (i := j) (j := 0) h.1 rfl rfl (by omega), Option.bind_some, cl (j := j) (by omega), Nat.add_zero]
      simp only [show (3 : Int32) = nI 3 from rfl, nI_lit 3 (by decide) (ok.1 (8 + 3 * j))]
      by_cases z1 : b = 0
      · rw [if_pos z1, if_pos (Or.inl z1)]; exact RM_id h (npos (by omega))
      · rw [if_neg z1]
        by_cases z2 : b = nI (N (8 + 3 * j))
        · rw [if_pos z2, if_pos (Or.inr (Or.inl z2))]; exact RM_id h (npos (by omega))
        · rw [if_neg z2]
          by_cases z3 : b = 1
          · rw [if_pos z3]
            by_cases z4 : N (8 + 3 * j) = 3
            · rw [if_pos z4, if_pos (Or.inr (Or.inr ⟨z3, z4⟩))]; exact RM_id h (npos (by omega))
            · rw [if_neg z4, if_neg (fun y => by rcases y with y | y | y; exact z1 y; exact z2 y; exact z4 y.2)]; exact RM_fd h (by decide)
          · rw [if_neg z3, if_neg (fun y => by rcases y with y | y | y; exact z1 y; exact z2 y; exact z3 y.1)]; exact RM_fd h (by decide)
    · rw [if_neg q2, if_neg q2]; exact RM_fd h (by decide)
  · rw [if_neg q, if_neg q]; exact RM_fd h (by decide)
theorem x_at (ok : okN N) (h : XP u v N n c K f) (a b : Int32) : RX (pX10_at u v a b) u v N n c K f (aAt N a b) := by
  have hc := ok.2.1.1
  unfold pX10_at aAt
  rw [xProduct_eq h.1.1, bw, tick_eq, bw]
  by_cases q : 0 ≤ a ∧ a < nI (N 0)
  · rw [if_pos q, if_pos q]
    by_cases q2 : 0 ≤ b ∧ b ≤ 999
    · rw [if_pos q2, if_pos q2]
      obtain ⟨i, hi, rfl⟩ := rg (by omega) q
      obtain ⟨j, hj, rfl⟩ := rl (n := 999) (by decide) q2
      rw [xAt ok h.1 (by omega) (by omega), Option.bind_some, cl (j := i) (by omega), cl (j := j) (by omega)]
      exact RX_id h (npos (by have := caN_le N i j; have := ok.2.1.2.2.2.2.1; omega))
    · rw [if_neg q2, if_neg q2]; exact RX_fd h (by decide)
  · rw [if_neg q, if_neg q]; exact RX_fd h (by decide)
theorem m_at (ok : okN N) (h : MP u N n c K f) (a b : Int32) : RM (pX11_at u v a b) u v N n c K f (aAt N a b) := by
  have hc := ok.2.1.1
  unfold pX11_at aAt
  rw [isProduct_eq h.1, bw, isIn_eq, bw]
  by_cases q : 0 ≤ a ∧ a < nI (N 0)
  · rw [if_pos q, if_pos q]
    by_cases q2 : 0 ≤ b ∧ b ≤ 999
    · rw [if_pos q2, if_pos q2]
      obtain ⟨i, hi, rfl⟩ := rg (by omega) q
      obtain ⟨j, hj, rfl⟩ := rl (n := 999) (by decide) q2
      rw [mAt ok h.1 (by omega) (by omega), Option.bind_some, cl (j := i) (by omega), cl (j := j) (by omega)]
      exact RM_id h (npos (by have := caN_le N i j; have := ok.2.1.2.2.2.2.1; omega))
    · rw [if_neg q2, if_neg q2]; exact RM_fd h (by decide)
  · rw [if_neg q, if_neg q]; exact RM_fd h (by decide)
theorem x_has (ok : okN N) (h : XP u v N n c K f) (a b : Int32) : RX (pX10_has u v a b) u v N n c K f (aHas N a b) := by
  have hc := ok.2.1.1
  have hc2 := ok.2.1.2.2.1
  unfold pX10_has aHas
  rw [xHost_eq h.1.1, bw, xProduct_eq h.1.1, bw]
  by_cases q : 0 ≤ a ∧ a < nI (N 2)
  · rw [if_pos q, if_pos q]
    by_cases q2 : 0 ≤ b ∧ b < nI (N 0)
    · rw [if_pos q2, if_pos q2]
      obtain ⟨i, hi, rfl⟩ := rg (by omega) q
      obtain ⟨j, hj, rfl⟩ := rg (by omega) q2
      obtain ⟨u1, r1, r2, r3⟩ := xFill ok h.1
      have h1 := XP_XU (XU_EX1 r2) h
      have h9 := haN_le ok (10 * i + j)
      rw [r1, Option.bind_some]
      dsimp only
      rw [verAt_eq r3 (by omega) (by omega), Option.bind_some, cl (j := i) (by omega), cl (j := j) (by omega)]
      simp only [show (0 : Int32) = nI 0 from rfl, nI_lit 0 (by decide) (show haN N (10 * i + j) < 2 ^ 31 by omega)]
      refine RX_tr (MU_EX1 r2) ?_
      by_cases z : haN N (10 * i + j) = 0
      · rw [if_pos z, if_pos z]; exact RX_fd h1 (by decide)
      · rw [if_neg z, if_neg z]; exact RX_id h1 (npos (by omega))
    · rw [if_neg q2, if_neg q2]; exact RX_fd h (by decide)
  · rw [if_neg q, if_neg q]; exact RX_fd h (by decide)
theorem m_has (ok : okN N) (h : MP u N n c K f) (a b : Int32) : RM (pX11_has u v a b) u v N n c K f (aHas N a b) := by
  have hc := ok.2.1.1
  have hc2 := ok.2.1.2.2.1
  unfold pX11_has aHas
  rw [isHost_eq h.1, bw, isProduct_eq h.1, bw]
  by_cases q : 0 ≤ a ∧ a < nI (N 2)
  · rw [if_pos q, if_pos q]
    by_cases q2 : 0 ≤ b ∧ b < nI (N 0)
    · rw [if_pos q2, if_pos q2]
      obtain ⟨i, hi, rfl⟩ := rg (by omega) q
      obtain ⟨j, hj, rfl⟩ := rg (by omega) q2
      obtain ⟨u1, r1, r2, r3⟩ := mTell (v := v) ok h.1
      have h1 := MP_MU (MU_EX6 r2) h
      have h9 := haN_le ok (10 * i + j)
      rw [r1, Option.bind_some]
      dsimp only
      rw [idx, gd_ok (by omega) (by decide), cl (j := 10 * i + j) (by omega), r3 _ (by omega), cl (j := i) (by omega), cl (j := j) (by omega)]
      simp only [show (0 : Int32) = nI 0 from rfl, nI_lit 0 (by decide) (show haN N (10 * i + j) < 2 ^ 31 by omega)]
      refine RM_tr (XU_EX6 r2) ?_
      by_cases z : haN N (10 * i + j) = 0
      · rw [if_pos z, if_pos z]; exact RM_fd h1 (by decide)
      · rw [if_neg z, if_neg z]; exact RM_id h1 (npos (by omega))
    · rw [if_neg q2, if_neg q2]; exact RM_fd h (by decide)
  · rw [if_neg q, if_neg q]; exact RM_fd h (by decide)
theorem x_measure (ok : okN N) (h : XP u v N n c K f) (a b : Int32) : RX (pX10_measure u v a b) u v N n c K f (aMeas N a b) := by
  have hc := ok.2.1.1
  unfold pX10_measure aMeas
  rw [xProduct_eq h.1.1, bw, meas_eq, bw]
  by_cases q : 0 ≤ a ∧ a < nI (N 0)
  · rw [if_pos q, if_pos q]
    by_cases q2 : 0 ≤ b ∧ b ≤ 3
    · rw [if_pos q2, if_pos q2]
      obtain ⟨i, hi, rfl⟩ := rg (by omega) q
      obtain ⟨j, hj, rfl⟩ := rl (n := 3) (by decide) q2
      obtain ⟨u1, r1, r2, r3⟩ := xFill ok h.1
      have h1 := XP_XU (XU_EX1 r2) h
      rw [r1, Option.bind_some]
      dsimp only
      rw [xMeasured ok h1.1 r3 (haN_le ok) hi hj, Option.bind_some, cl (j := i) (by omega), cl (j := j) (by omega)]
      exact RX_tr (MU_EX1 r2) (RX_id h1 (npos (by have := meN_le ok (w := haN N) (p := i) (m := j); omega)))
    · rw [if_neg q2, if_neg q2]; exact RX_fd h (by decide)
  · rw [if_neg q, if_neg q]; exact RX_fd h (by decide)
theorem m_measure (ok : okN N) (h : MP u N n c K f) (a b : Int32) : RM (pX11_measure u v a b) u v N n c K f (aMeas N a b) := by
  have hc := ok.2.1.1
  unfold pX11_measure aMeas
  rw [isProduct_eq h.1, bw, isIn_eq, bw]
  by_cases q : 0 ≤ a ∧ a < nI (N 0)
  · rw [if_pos q, if_pos q]
    by_cases q2 : 0 ≤ b ∧ b ≤ 3
    · rw [if_pos q2, if_pos q2]
      obtain ⟨i, hi, rfl⟩ := rg (by omega) q
      obtain ⟨j, hj, rfl⟩ := rl (n := 3) (by decide) q2
      obtain ⟨u1, r1, r2, r3⟩ := mTell (v := v) ok h.1
      have h1 := MP_MU (MU_EX6 r2) h
      rw [r1, Option.bind_some]
      dsimp only
      rw [mMeasure ok h1.1 r3 (haN_le ok) hi hj, Option.bind_some, cl (j := i) (by omega), cl (j := j) (by omega)]
      exact RM_tr (XU_EX6 r2) (RM_id h1 (npos (by have := meN_le ok (w := haN N) (p := i) (m := j); omega)))
    · rw [if_neg q2, if_neg q2]; exact RM_fd h (by decide)
  · rw [if_neg q, if_neg q]; exact RM_fd h (by decide)
theorem all_le (ok : okN N) {m : Nat} : fb_sm (fun p => meN N (haN N) p m) (N 0) < 2 ^ 31 := by
  have h := fb_sm_bound (f := fun p => meN N (haN N) p m) (c := 100) (n := N 0) (fun _ _ => meN_le ok)
  have := ok.2.1.1
  omega
theorem x_all (ok : okN N) (h : XP u v N n c K f) (a : Int32) : RX (pX10_all u v a) u v N n c K f (aAll N a) := by
  unfold pX10_all aAll
  rw [meas_eq, bw]
  by_cases q : 0 ≤ a ∧ a ≤ 3
  · rw [if_pos q, if_pos q]
    obtain ⟨j, hj, rfl⟩ := rl (n := 3) (by decide) q
    obtain ⟨u1, r1, r2, r3⟩ := xFill ok h.1
    have h1 := XP_XU (XU_EX1 r2) h
    rw [r1, Option.bind_some]
    dsimp only
    rw [xAll ok h1.1 r3 (haN_le ok) hj, Option.bind_some, cl (j := j) (by omega)]
    exact RX_tr (MU_EX1 r2) (RX_id h1 (npos (all_le ok)))
  · rw [if_neg q, if_neg q]; exact RX_fd h (by decide)
theorem m_all (ok : okN N) (h : MP u N n c K f) (a : Int32) : RM (pX11_all u v a) u v N n c K f (aAll N a) := by
  unfold pX11_all aAll
  rw [isIn_eq, bw]
  by_cases q : 0 ≤ a ∧ a ≤ 3
  · rw [if_pos q, if_pos q]
    obtain ⟨j, hj, rfl⟩ := rl (n := 3) (by decide) q
    obtain ⟨u1, r1, r2, r3⟩ := mTell (v := v) ok h.1
    have h1 := MP_MU (MU_EX6 r2) h
    rw [r1, Option.bind_some]
    dsimp only
    rw [mAll ok h1.1 r3 (haN_le ok) hj, Option.bind_some, cl (j := j) (by omega)]
    exact RM_tr (XU_EX6 r2) (RM_id h1 (npos (all_le ok)))
  · rw [if_neg q, if_neg q]; exact RM_fd h (by decide)
theorem pk_ex (N : tN) (p : Nat) (h : ¬ moN N p 1000 = 0) : ∃ t, pkT N p t ∧ caN N p t = moN N p 1000 := by
  rcases moN_at N p 1000 with z | z
  · exact absurd z h
  · obtain ⟨t, h1, h2, h3⟩ := fb_first (p := fun t => caN N p t = moN N p 1000) z
    refine ⟨t, ⟨h1, by omega, fun q hq => by rw [h2]; exact moN_ge N p hq, fun q hq => ?_⟩, h2⟩
    have := moN_ge N p (k := 1000) (t := q) (by omega)
    have := h3 q hq
    omega
/-- peak: both answer the same, whatever it is -/
theorem xm_peak (ok : okN N) (a : Int32) : ∃ r, (∀ u v n c K f, XP u v N n c K f → RX (pX10_peak u v a) u v N n c K f r) ∧ ∀ u v n c K f, MP u N n c K f → RM (pX11_peak u v a) u v N n c K f r := by
  have hc := ok.2.1.1
  have hN4 := ok.2.1.2.2.2.2.1
  by_cases q : 0 ≤ a ∧ a < nI (N 0)
  · obtain ⟨j, hj, rfl⟩ := rg (by omega) q
    rcases Classical.em (moN N j 1000 = 0) with z | z
    · refine ⟨-2, fun u v n c K f h => ?_, fun u v n c K f h => ?_⟩
      · unfold pX10_peak
        rw [xProduct_eq h.1.1, bw, if_pos q]
        rcases xPeak ok h.1 (p := j) (by omega) with ⟨h1, h2⟩ | ⟨t, h1, h2, h3⟩
        · rw [h1, Option.bind_some, if_neg (show ¬ (0 : Int32) ≤ -2 from by decide)]; exact RX_fd h (by decide)
        · have := h2.2.1; omega
      · unfold pX11_peak
        rw [isProduct_eq h.1, bw, if_pos q, mMost ok h.1 (by omega), Option.bind_some, z, if_pos (show nI 0 = (0 : Int32) from rfl)]
        exact RM_fd h (by decide)
    · obtain ⟨t, t1, t2⟩ := pk_ex N j z
      · refine ⟨nI t, fun u v n c K f h => ?_, fun u v n c K f h => ?_⟩
        · unfold pX10_peak
          rw [xProduct_eq h.1.1, bw, if_pos q]
          rcases xPeak ok h.1 (p := j) (by omega) with ⟨h1, h2⟩ | ⟨t', h1, h2, h3⟩
          · exact absurd h2 z
          · have e : t' = t := by
              rcases Nat.lt_trichotomy t' t with w | w | w
              · have := t1.2.2.2 t' w; omega
              · exact w
              · have := h2.2.2.2 t w; omega
            subst e
            rw [h1, Option.bind_some, if_pos (nI_pos' (n := t') (by have := t1.1; omega))]
            exact RX_id h (npos (by have := t1.1; omega))
        · unfold pX11_peak
          have hmo := moN_le N j 1000
          rw [isProduct_eq h.1, bw, if_pos q, mMost ok h.1 (by omega), Option.bind_some, if_neg (show ¬ nI (moN N j 1000) = (0 : Int32) from nI_ne0 (by omega) (by omega)), mPeak_L ok h.1 (by omega) t1 t2, Option.bind_some]
          exact RM_id h (npos (by have := t1.1; omega))
  · refine ⟨-1, fun u v n c K f h => ?_, fun u v n c K f h => ?_⟩
    · unfold pX10_peak; rw [xProduct_eq h.1.1, bw, if_neg q]; exact RX_fd h (by decide)
    · unfold pX11_peak; rw [isProduct_eq h.1, bw, if_neg q]; exact RM_fd h (by decide)
end ANS2
