section ANS3
variable {u u' : tU} {v : tV} {N : tN} {n : Nat} {c : Nat → Nat} {K : Option tN} {f r k : Int32} {o : Option (Int32 × tU × tV)}
theorem GX_fd (h : XP u v N n c K f) : GX ((pX10_finding u v k).bind fun o => (match o with | (r, u, v) => some (r, u, v))) u N n c K (f + 1) k := ⟨sU u 0 1 (u 0 1 + 1), v, rfl, (xfd h).1, (xfd h).2⟩
theorem GM_fd (h : MP u N n c K f) : GM ((pX11_finding u v k).bind fun o => (match o with | (r, u, v) => some (r, u, v))) u v N n c K (f + 1) k := ⟨sU u 0 7 (u 0 7 + 1), rfl, (mfd h).1, (mfd h).2⟩
theorem GX_id (h : XP u v N n c K f) : GX (some (r, u, v)) u N n c K f r := ⟨u, v, rfl, h, MU_rf⟩
theorem GM_id (h : MP u N n c K f) : GM (some (r, u, v)) u v N n c K f r := ⟨u, rfl, h, XU_rf⟩
theorem GX_tr (e : MU u u') (h : GX o u' N n c K f r) : GX o u N n c K f r := by obtain ⟨u1, v1, h1, h2, h3⟩ := h; exact ⟨u1, v1, h1, h2, MU_tr e h3⟩
theorem GM_tr (e : XU u u') (h : GM o u' v N n c K f r) : GM o u v N n c K f r := by obtain ⟨u1, h1, h2, h3⟩ := h; exact ⟨u1, h1, h2, XU_tr e h3⟩
theorem GM_rd (h : RM o u v N n c K f r) : GM o u v N n c K (if r < 0 then f + 1 else f) r := by obtain ⟨u1, h1, h2, h3⟩ := h; exact ⟨u1, h1, h2, h3⟩
def myN (N : tN) (g h : Nat) : Int32 := if haN N (10 * h + pdN N g) = 0 then -2 else if N (8 + 3 * pdN N g) = 2 then -2 else if vrN N g < haN N (10 * h + pdN N g) then 0 else b2i (opB N (N 6) g)
def aMay (N : tN) (a b : Int32) : Int32 := if 0 ≤ a ∧ a < nI (N 5) then (if 0 ≤ b ∧ b < nI (N 2) then myN N a.toNatClampNeg b.toNatClampNeg else -1) else -1
theorem within_op {N : tN} (ok : okN N) {d g : Nat} (hg : g < N 5) (hd : d < 2 ^ 31) : pX10_isWithin (nI d) (nI (N (1054 + 6 * g + 4))) (nI (N (1054 + 6 * g + 5))) = some (b2i (opB N d g)) := by
  rw [within_eq]
  simp only [leI (ok.1 (1054 + 6 * g + 4)) hd, leI hd (ok.1 (1054 + 6 * g + 5))]
  unfold opB
  by_cases h1 : N (1054 + 6 * g + 4) ≤ d <;> by_cases h2 : d ≤ N (1054 + 6 * g + 5) <;> simp [h1, h2, b2i]
theorem x_may (ok : okN N) (h : XP u v N n c K f) (a b : Int32) : RX (pX10_may u v a b) u v N n c K f (aMay N a b) := by
  have hc := ok.2.1.2.2.2.2.2.1
  have hc2 := ok.2.1.2.2.1
  unfold pX10_may aMay
  rw [xRight_eq h.1.1, bw, xHost_eq h.1.1, bw]
  by_cases q : 0 ≤ a ∧ a < nI (N 5)
  · rw [if_pos q, if_pos q]
    by_cases q2 : 0 ≤ b ∧ b < nI (N 2)
    · rw [if_pos q2, if_pos q2]
      obtain ⟨i, hi, rfl⟩ := rg (by omega) q
      obtain ⟨j, hj, rfl⟩ := rg (by omega) q2
      obtain ⟨u1, r1, r2, r3⟩ := xFill ok h.1
      have h1 := XP_XU (XU_EX1 r2) h
      have hg := h1.1.2.2.2.2.2.2 i hi
      have hp : pdN N i < N 0 := (ok.2.2.2.2.2.2.2 i hi).1
      have hN0 := ok.2.1.1
      have hv := (ok.2.2.2.2.2.2.2 i hi).2.2.1
      have h9 := haN_le ok (10 * j + pdN N i)
      have e25 : u1 25 i = nI (pdN N i) := hg.1
      have e26 : u1 26 i = nI (vrN N i) := hg.2.1
      have e29 : u1 29 i = nI (N (1054 + 6 * i + 4)) := hg.2.2.2.2.1
      have e30 : u1 30 i = nI (N (1054 + 6 * i + 5)) := hg.2.2.2.2.2
      have hvv : vrN N i < 2 ^ 31 := ok.1 _
      rw [r1, Option.bind_some]
      dsimp only
      rw [gd_ok (j := i) (n := 10) (by omega) (by decide), cl (j := i) (by omega), cl (j := j) (by omega), e25, verAt_eq r3 (by omega) (by omega), Option.bind_some]
      unfold myN
      simp only [show (0 : Int32) = nI 0 from rfl, nI_lit 0 (by decide) (show haN N (10 * j + pdN N i) < 2 ^ 31 by omega)]
      refine RX_tr (MU_EX1 r2) ?_
      by_cases z : haN N (10 * j + pdN N i) = 0
      · rw [if_pos z, if_pos z]; exact RX_fd h1 (by decide)
      · rw [if_neg z, if_neg z, isFree_eq ok h1.1 hp]
        show RX ((some (b2i (decide (N (8 + 3 * pdN N i) = 2)))).bind fun r => if r = (0 : Int32) then _ else _) _ _ _ _ _ _ _ _
        rw [bwb]
        by_cases z2 : N (8 + 3 * pdN N i) = 2
        · rw [if_pos (decide_eq_true z2), if_pos z2]; exact RX_fd h1 (by decide)
        · rw [if_neg (show ¬ decide (N (8 + 3 * pdN N i) = 2) = true from fun y => z2 (of_decide_eq_true y)), if_neg z2]
          unfold pX7_isServing
          rw [gd_ok (j := i) (n := 10) (by omega) (by decide), gd_ok (j := i) (n := 10) (by omega) (by decide), gd_ok (j := i) (n := 10) (by omega) (by decide), cl (j := i) (by omega), e26, e29, e30, h1.1.1 6 (by decide), within_op ok hi (ok.1 6), bwb]
          simp only [ltI hvv (show haN N (10 * j + pdN N i) < 2 ^ 31 by omega)]
          by_cases z3 : vrN N i < haN N (10 * j + pdN N i)
          · rw [if_pos z3, if_pos z3]; exact RX_id h1 (by decide)
          · rw [if_neg z3, if_neg z3]
            cases opB N (N 6) i
            · exact RX_id h1 (by decide)
            · exact RX_id h1 (by decide)
    · rw [if_neg q2, if_neg q2]; exact RX_fd h (by decide)
  · rw [if_neg q, if_neg q]; exact RX_fd h (by decide)
theorem m_may (ok : okN N) (h : MP u N n c K f) (a b : Int32) : RM (pX11_may u v a b) u v N n c K f (aMay N a b) := by
  have hc := ok.2.1.2.2.2.2.2.1
  have hc2 := ok.2.1.2.2.1
  unfold pX11_may aMay
  rw [isRight_eq h.1, bw, isHost_eq h.1, bw]
  by_cases q : 0 ≤ a ∧ a < nI (N 5)
  · rw [if_pos q, if_pos q]
    by_cases q2 : 0 ≤ b ∧ b < nI (N 2)
    · rw [if_pos q2, if_pos q2]
      obtain ⟨i, hi, rfl⟩ := rg (by omega) q
      obtain ⟨j, hj, rfl⟩ := rg (by omega) q2
      obtain ⟨u1, r1, r2, r3⟩ := mTell (v := v) ok h.1
      have h1 := MP_MU (MU_EX6 r2) h
      have hp : pdN N i < N 0 := (ok.2.2.2.2.2.2.2 i hi).1
      have hN0 := ok.2.1.1
      have h9 := haN_le ok (10 * j + pdN N i)
      have hvv : vrN N i < 2 ^ 31 := ok.1 _
      rw [r1, Option.bind_some]
      dsimp only
      rw [rightAt_eq (b := 0) (i := i) (j := 0) h1.1 rfl rfl (by omega), Option.bind_some, Nat.add_zero, show N (1054 + 6 * i) = pdN N i from rfl, idx, gd_ok (by omega) (by decide), cl (j := 10 * j + pdN N i) (by omega), r3 _ (by omega), cl (j := i) (by omega), cl (j := j) (by omega), productAt_eq (b := 0) (i := pdN N i) (j := 0) h1.1 rfl rfl (by omega), Option.bind_some, Nat.add_zero, rightAt_eq (b := 1) (i := i) (j := 1) h1.1 rfl rfl (by omega), Option.bind_some, h1.1 6 (by decide), isOn_eq ok h1.1 hi (ok.1 6), bwb, show N (1054 + 6 * i + 1) = vrN N i from rfl]
      unfold myN
      simp only [show (0 : Int32) = nI 0 from rfl, show (2 : Int32) = nI 2 from rfl, nI_lit 0 (by decide) (show haN N (10 * j + pdN N i) < 2 ^ 31 by omega), nI_lit 2 (by decide) (ok.1 (8 + 3 * pdN N i)), ltI hvv (show haN N (10 * j + pdN N i) < 2 ^ 31 by omega)]
      refine RM_tr (XU_EX6 r2) ?_
      by_cases z : haN N (10 * j + pdN N i) = 0
      · rw [if_pos z, if_pos z]; exact RM_fd h1 (by decide)
      · rw [if_neg z, if_neg z]
        by_cases z2 : N (8 + 3 * pdN N i) = 2
        · rw [if_pos z2, if_pos z2]; exact RM_fd h1 (by decide)
        · rw [if_neg z2, if_neg z2]
          by_cases z3 : vrN N i < haN N (10 * j + pdN N i)
          · rw [if_pos z3, if_pos z3]; exact RM_id h1 (by decide)
          · rw [if_neg z3, if_neg z3]
            cases opB N (N 6) i
            · exact RM_id h1 (by decide)
            · exact RM_id h1 (by decide)
    · rw [if_neg q2, if_neg q2]; exact RM_fd h (by decide)
  · rw [if_neg q, if_neg q]; exact RM_fd h (by decide)
theorem x_needs (ok : okN N) (h : XP u v N n c K f) : GX (pX10_needs u v) u N n c K f (nI (fb_sm (fun p => neN N (haN N) p 9 (-1)) (N 0))) := by
  unfold pX10_needs
  obtain ⟨u1, r1, r2, r3⟩ := xFill ok h.1
  have h1 := XP_XU (XU_EX1 r2) h
  rw [r1, Option.bind_some]
  dsimp only
  rw [xNeeds ok h1.1 r3 (haN_le ok), Option.bind_some]
  exact GX_tr (MU_EX1 r2) (GX_id h1)
theorem m_needs (ok : okN N) (h : MP u N n c K f) : GM (pX11_needs u v) u v N n c K f (nI (fb_sm (fun p => neN N (haN N) p 9 (-1)) (N 0))) := by
  unfold pX11_needs
  obtain ⟨u1, r1, r2, r3⟩ := mTell (v := v) ok h.1
  have h1 := MP_MU (MU_EX6 r2) h
  rw [r1, Option.bind_some]
  dsimp only
  rw [mNeedsAll ok h1.1 r3 (haN_le ok), Option.bind_some]
  exact GM_tr (XU_EX6 r2) (GM_id h1)
theorem x_lack (ok : okN N) (h : XP u v N n c K f) : GX (pX10_lack u v) u N n c K f (nI (LKs N (haN N) (N 6) (-1) (-1))) := by
  unfold pX10_lack
  obtain ⟨u1, r1, r2, r3⟩ := xFill ok h.1
  have h1 := XP_XU (XU_EX1 r2) h
  rw [r1, Option.bind_some]
  dsimp only
  obtain ⟨u2, s1, s2⟩ := xLackOn ok h1.1 r3 (haN_le ok) (ok.1 6) (HW_rf ok (w := haN N))
  rw [h1.1.1 6 (by decide), s1, Option.bind_some]
  exact GX_tr (MU_tr (MU_EX1 r2) (MU_EM s2)) (GX_id (XP_XU (XU_EM s2) h1))
theorem m_lack (ok : okN N) (h : MP u N n c K f) : GM (pX11_lack u v) u v N n c K f (nI (LKs N (haN N) (N 6) (-1) (-1))) := by
  unfold pX11_lack
  obtain ⟨u1, r1, r2, r3⟩ := mTell (v := v) ok h.1
  have h1 := MP_MU (MU_EX6 r2) h
  rw [r1, Option.bind_some]
  dsimp only
  obtain ⟨u2, s1, s2⟩ := mLackOn (v := v) (wo := -1) (sp := -1) ok h1.1 r3 (haN_le ok) (ok.1 6)
  rw [h1.1 6 (by decide), s1, Option.bind_some]
  exact GM_tr (XU_tr (XU_EX6 r2) (XU_EN s2)) (GM_id (MP_MUx (MUx_EN s2) h1))
theorem x_cost (ok : okN N) (h : XP u v N n c K f) : GX (pX10_cost u v) u N n c K f (nI (CSs N (haN N) (N 6) (-1) (-1))) := by
  unfold pX10_cost
  obtain ⟨u1, r1, r2, r3⟩ := xFill ok h.1
  have h1 := XP_XU (XU_EX1 r2) h
  rw [r1, Option.bind_some]
  dsimp only
  obtain ⟨u2, a1, a2, a3, a4, a5⟩ := xBegin ok h1.1 (ok.1 6)
  obtain ⟨u3, b1, b2, -, b4⟩ := xServeAll ok (xB_EM a2 h1.1) (cr_EM a2 r3) (haN_le ok) (HW_rf ok (w := haN N)) a3 a4 a5
  rw [h1.1.1 6 (by decide), a1, Option.bind_some]
  dsimp only
  rw [b1, Option.bind_some]
  dsimp only
  rw [b4]
  have s2 := EM_tr a2 b2
  exact GX_tr (MU_tr (MU_EX1 r2) (MU_EM s2)) (GX_id (XP_XU (XU_EM s2) h1))
theorem m_cost (ok : okN N) (h : MP u N n c K f) : GM (pX11_cost u v) u v N n c K f (nI (CSs N (haN N) (N 6) (-1) (-1))) := by
  unfold pX11_cost
  obtain ⟨u1, r1, r2, r3⟩ := mTell (v := v) ok h.1
  have h1 := MP_MU (MU_EX6 r2) h
  rw [r1, Option.bind_some]
  dsimp only
  obtain ⟨u2, s1, s2⟩ := mCostAll (v := v) ok h1.1 r3 (haN_le ok)
  rw [s1, Option.bind_some]
  exact GM_tr (XU_tr (XU_EX6 r2) (XU_EN s2)) (GM_id (MP_MUx (MUx_EN s2) h1))
def fP (N : tN) (k : Nat) (f a : Int32) : Int32 := if 0 ≤ a ∧ a < nI (N k) then f else f + 1
noncomputable def aOf (N : tN) (a b : Int32) : Int32 := if 0 ≤ a ∧ a < nI (N 0) then (if b = 0 then nI (LK N (haN N) (N 6) (-1) (-1) a.toNatClampNeg) else nI (CS N (haN N) (N 6) (-1) (-1) a.toNatClampNeg)) else -1
theorem x_of (ok : okN N) (h : XP u v N n c K f) (a b : Int32) : GX (pX10_of u v a b) u N n c K (fP N 0 f a) (aOf N a b) := by
  have hc := ok.2.1.1
  unfold pX10_of aOf fP
  rw [xProduct_eq h.1.1, bw]
  by_cases q : 0 ≤ a ∧ a < nI (N 0)
  · rw [if_pos q, if_pos q, if_pos q]
    obtain ⟨i, hi, rfl⟩ := rg (by omega) q
    obtain ⟨u1, r1, r2, r3⟩ := xFill ok h.1
    have h1 := XP_XU (XU_EX1 r2) h
    rw [r1, Option.bind_some]
    dsimp only
    obtain ⟨u2, a1, a2, a3, a4, a5⟩ := xBegin ok h1.1 (ok.1 6)
    obtain ⟨u3, lf, b1, b2, -, -, -, b6, b7⟩ := xProduct (d := N 6) (wo := -1) (n := fun V => neN N (haN N) i V (-1)) ok (xB_EM a2 h1.1) (cr_EM a2 r3) (haN_le ok) hi a3 (fun _ _ => Nat.le_refl _) (fun _ _ _ => rfl) a4 a5 (fun V hV => HW_rf ok (w := haN N) i V hi hV)
    rw [h1.1.1 6 (by decide), a1, Option.bind_some]
    dsimp only
    rw [b1, Option.bind_some]
    dsimp only
    rw [b6, b7, Nat.zero_add, Nat.zero_add, cl (j := i) (by omega)]
    have s2 := EM_tr a2 b2
    have h2 := XP_XU (XU_EM s2) h1
    refine GX_tr (MU_tr (MU_EX1 r2) (MU_EM s2)) ?_
    by_cases z : b = 0
    · rw [if_pos z, if_pos z]; exact GX_id h2
    · rw [if_neg z, if_neg z]; exact GX_id h2
  · rw [if_neg q, if_neg q, if_neg q]; exact GX_fd h
theorem m_of (ok : okN N) (h : MP u N n c K f) (a b : Int32) : GM (pX11_of u v a b) u v N n c K (fP N 0 f a) (aOf N a b) := by
  have hc := ok.2.1.1
  unfold pX11_of aOf fP
  rw [isProduct_eq h.1, bw]
  by_cases q : 0 ≤ a ∧ a < nI (N 0)
  · rw [if_pos q, if_pos q, if_pos q]
    obtain ⟨i, hi, rfl⟩ := rg (by omega) q
    obtain ⟨u1, r1, r2, r3⟩ := mTell (v := v) ok h.1
    have h1 := MP_MU (MU_EX6 r2) h
    rw [r1, Option.bind_some]
    dsimp only
    obtain ⟨u2, b1, b2, b6, b7⟩ := mMatch (v := v) (d := N 6) (wo := -1) (sp := -1) ok h1.1 r3 (haN_le ok) hi (ok.1 6)
    rw [h1.1 6 (by decide), b1, Option.bind_some]
    dsimp only
    rw [b6, b7, cl (j := i) (by omega)]
    have h2 := MP_MUx (MUx_EN b2) h1
    refine GM_tr (XU_tr (XU_EX6 r2) (XU_EN b2)) ?_
    by_cases z : b = 0
    · rw [if_pos z, if_pos z]; exact GM_id h2
    · rw [if_neg z, if_neg z]; exact GM_id h2
  · rw [if_neg q, if_neg q, if_neg q]; exact GM_fd h
noncomputable def aWo (N : tN) (a : Int32) : Int32 := if 0 ≤ a ∧ a < nI (N 5) then nI (LKs N (haN N) (N 6) a (-1)) else -1
theorem x_without (ok : okN N) (h : XP u v N n c K f) (a : Int32) : GX (pX10_without u v a) u N n c K (fP N 5 f a) (aWo N a) := by
  have hc := ok.2.1.2.2.2.2.2.1
  unfold pX10_without aWo fP
  rw [xRight_eq h.1.1, bw]
  by_cases q : 0 ≤ a ∧ a < nI (N 5)
  · rw [if_pos q, if_pos q, if_pos q]
    obtain ⟨i, hi, rfl⟩ := rg (by omega) q
    obtain ⟨u1, r1, r2, r3⟩ := xFill ok h.1
    have h1 := XP_XU (XU_EX1 r2) h
    rw [r1, Option.bind_some]
    dsimp only
    obtain ⟨u2, a1, a2, a3, a4, a5⟩ := xBegin ok h1.1 (ok.1 6)
    have e2 : EM u1 (sU u2 2 i 0) := EM_2 a2
    have c3 : CR (sU u2 2 i (0 : Int32) 2) (c0N N (N 6) (nI i)) (N 5) := by
      intro k hk
      by_cases z : k = i
      · subst z
        rw [sU_s]
        unfold c0N
        rw [if_neg (fun y => y.2 rfl)]; rfl
      · rw [sU_c z, a3 k hk]
        unfold c0N
        have e1 : ¬ nI k = (-1 : Int32) := nneg (by omega)
        have e2 : ¬ nI k = nI i := fun y => z ((nI_eq (by omega) (by omega)).mp y)
        by_cases y : opB N (N 6) k = true
        · rw [if_pos ⟨y, e1⟩, if_pos ⟨y, e2⟩]
        · rw [if_neg (fun t => y t.1), if_neg (fun t => y t.1)]
    obtain ⟨u3, b1, b2, b3, -⟩ := xServeAll (w := haN N) (sp := -1) ok (xB_EM e2 h1.1) (cr_EM e2 r3) (haN_le ok) (HW_rf ok (w := haN N)) c3 (by rw [sU_r (by decide)]; exact a4) (by rw [sU_r (by decide)]; exact a5)
    rw [h1.1.1 6 (by decide), a1, Option.bind_some]
    dsimp only
    unfold pX5_leaveOut
    rw [gd_ok (j := i) (n := 10) (by omega) (by decide), cl (j := i) (by omega), Option.bind_some]
    dsimp only
    rw [b1, Option.bind_some]
    dsimp only
    rw [b3]
    have s2 := EM_tr e2 b2
    exact GX_tr (MU_tr (MU_EX1 r2) (MU_EM s2)) (GX_id (XP_XU (XU_EM s2) h1))
  · rw [if_neg q, if_neg q, if_neg q]; exact GX_fd h
theorem m_without (ok : okN N) (h : MP u N n c K f) (a : Int32) : GM (pX11_without u v a) u v N n c K (fP N 5 f a) (aWo N a) := by
  unfold pX11_without aWo fP
  rw [isRight_eq h.1, bw]
  by_cases q : 0 ≤ a ∧ a < nI (N 5)
  · rw [if_pos q, if_pos q, if_pos q]
    obtain ⟨u1, r1, r2, r3⟩ := mTell (v := v) ok h.1
    have h1 := MP_MU (MU_EX6 r2) h
    rw [r1, Option.bind_some]
    dsimp only
    obtain ⟨u2, s1, s2⟩ := mLackOn (v := v) (wo := a) (sp := -1) ok h1.1 r3 (haN_le ok) (ok.1 6)
    rw [h1.1 6 (by decide), s1, Option.bind_some]
    exact GM_tr (XU_tr (XU_EX6 r2) (XU_EN s2)) (GM_id (MP_MUx (MUx_EN s2) h1))
  · rw [if_neg q, if_neg q, if_neg q]; exact GM_fd h
noncomputable def aSp (N : tN) (a : Int32) : Int32 := if 0 ≤ a ∧ a < nI (N 2) then nI (LKs N (haN N) (N 6) (-1) a) else -1
theorem xLeave {u : tU} {v : tV} {w : Nat → Nat} (hw : CR (u 1) w 80) {h : Nat} (hh : h < 8) : ∃ u', pX2_leaveOut u v (nI h) = some (u', v) ∧ EX 1 u u' ∧ CR (u' 1) (fun j => if j / 10 = h then 0 else w j) 80 := by
  obtain ⟨u', ⟨h1, h2⟩, h3⟩ := stL (L := pX2_leaveOut_L2 (nI h)) (E := 10) (I := fun k u' => EX 1 u u' ∧ CR (u' 1) (fun j => if j / 10 = h ∧ j % 10 < k then 0 else w j) 80) (v := v)
    (fun n u1 _ => by rw [pX2_leaveOut_L2, show (10 : Int32) = nI 10 from rfl, if_pos (nI_le (Nat.le_refl _) (by omega))])
    (fun n u1 k hk hi => by
      rw [pX2_leaveOut_L2, show (10 : Int32) = nI 10 from rfl, if_neg (nI_ge hk (by omega)), cell_eq, Option.bind_some, gd_ok (by omega) (by decide), cl (by omega), nI_1]
      refine ⟨_, ⟨EX_sU hi.1, ?_⟩, rfl⟩
      have e := cr_sU (i := 10 * h + k) (x := 0) hi.2
      refine cr_same e (fun j hj => ?_)
      by_cases z : j = 10 * h + k
      · subst z
        simp only [va_up, if_pos]
        rw [if_pos (by omega)]
      · simp only [va_up, if_neg z]
        by_cases y : j / 10 = h ∧ j % 10 < k
        · rw [if_pos y, if_pos (by omega)]
        · rw [if_neg y, if_neg (by omega)])
    fuel u (by unfold fuel; omega) ⟨EX_rf, cr_same hw (fun j _ => by rw [if_neg (by omega)])⟩
  refine ⟨u', ?_, h1, cr_same h2 (fun j hj => ?_)⟩
  · unfold pX2_leaveOut; rw [h3]; rfl
  · by_cases z : j / 10 = h
    · rw [if_pos ⟨z, by omega⟩, if_pos z]
    · rw [if_neg (fun y => z y.1), if_neg z]
theorem x_spared (ok : okN N) (h : XP u v N n c K f) (a : Int32) : GX (pX10_spared u v a) u N n c K (fP N 2 f a) (aSp N a) := by
  have hc := ok.2.1.2.2.1
  unfold pX10_spared aSp fP
  rw [xHost_eq h.1.1, bw]
  by_cases q : 0 ≤ a ∧ a < nI (N 2)
  · rw [if_pos q, if_pos q, if_pos q]
    obtain ⟨i, hi, rfl⟩ := rg (by omega) q
    obtain ⟨u1, r1, r2, r3⟩ := xFill ok h.1
    rw [r1, Option.bind_some]
    dsimp only
    obtain ⟨u2, s1, s2, s3⟩ := xLeave (v := v) r3 (h := i) (by omega)
    rw [s1, Option.bind_some]
    dsimp only
    have e2 := EX_tr r2 s2
    have h1 := XP_XU (XU_EX1 e2) h
    obtain ⟨u3, t1, t2⟩ := xLackOn (w := haN N) (sp := nI i) ok h1.1 s3 (fun j => by
      show (if j / 10 = i then 0 else haN N j) ≤ 9
      have := haN_le ok j
      split <;> omega) (ok.1 6) (HW_of (fun p hh hp h2 => by
        have hN0 := ok.2.1.1
        have e : (10 * hh + p) / 10 = hh := by omega
        show (if (10 * hh + p) / 10 = i then 0 else _) = _
        rw [e]
        by_cases z : hh = i
        · rw [if_pos z, if_pos (by rw [z])]
        · rw [if_neg z, if_neg (fun y => z ((nI_eq (by omega) (by omega)).mp y))]))
    rw [h1.1.1 6 (by decide), t1, Option.bind_some]
    exact GX_tr (MU_tr (MU_EX1 e2) (MU_EM t2)) (GX_id (XP_XU (XU_EM t2) h1))
  · rw [if_neg q, if_neg q, if_neg q]; exact GX_fd h
theorem m_spared (ok : okN N) (h : MP u N n c K f) (a : Int32) : GM (pX11_spared u v a) u v N n c K (fP N 2 f a) (aSp N a) := by
  unfold pX11_spared aSp fP
  rw [isHost_eq h.1, bw]
  by_cases q : 0 ≤ a ∧ a < nI (N 2)
  · rw [if_pos q, if_pos q, if_pos q]
    obtain ⟨u1, r1, r2, r3⟩ := mTell (v := v) ok h.1
    have h1 := MP_MU (MU_EX6 r2) h
    rw [r1, Option.bind_some]
    dsimp only
    obtain ⟨u2, s1, s2⟩ := mLackOn (v := v) (wo := -1) (sp := a) ok h1.1 r3 (haN_le ok) (ok.1 6)
    rw [h1.1 6 (by decide), s1, Option.bind_some]
    exact GM_tr (XU_tr (XU_EX6 r2) (XU_EN s2)) (GM_id (MP_MUx (MUx_EN s2) h1))
  · rw [if_neg q, if_neg q, if_neg q]; exact GM_fd h
theorem fd_one {w : Nat → Nat} {L t D D' : Nat} (h : fdN N w L t D) (h' : fdN N w L t D') : D = D' := by
  rcases Nat.lt_trichotomy D D' with z | z | z
  · have a := (h.2.2.2 (by have := h'.1; omega)).1
    have b := h'.2.2.1 D h.2.1 z
    omega
  · exact z
  · have a := (h'.2.2.2 (by have := h.1; omega)).1
    have b := h.2.2.1 D' h'.2.1 z
    omega
theorem fd_ex (ok : okN N) {w : Nat → Nat} {L : Nat} : ∃ D, fdN N w L (N 6) D := by
  have h6 : N 6 ≤ 9999 := ok.2.1.2.2.2.2.2.2.1
  rcases Classical.em (∃ D, D < 10000 ∧ (N 6 ≤ D ∧ L < LKs N w D (-1) (-1))) with z | z
  · obtain ⟨D, h1, h2, h3⟩ := @fb_first (fun D => N 6 ≤ D ∧ L < LKs N w D (-1) (-1)) (fun _ => Classical.propDecidable _) _ z
    have hq : ∀ d, N 6 ≤ d → d < D → LKs N w d (-1) (-1) ≤ L := fun d a b => by have := h3 d b; omega
    refine ⟨D, by omega, h2.1, hq, fun _ => ⟨h2.2, ?_⟩⟩
    rcases Classical.em (D = N 6 ∨ ∃ g, g < N 5 ∧ ovN N g = D) with y | y
    · exact y
    · exfalso
      have hD : N 6 < D := by have := h2.1; rcases Nat.lt_or_eq_of_le this with q | q; exact q; exact absurd (Or.inl q.symm) y
      have := quiet (D := D + 1) (t := N 6) (hq (N 6) (Nat.le_refl _) hD) (fun g hg a b => by
        rcases Nat.lt_or_eq_of_le (Nat.le_of_lt_succ b) with q | q
        · exact hq _ (by omega) q
        · exact absurd (Or.inr ⟨g, hg, q⟩) y) D (by omega) (by omega)
      have := h2.2
      omega
  · exact ⟨10000, Nat.le_refl _, by omega, fun d a b => by
      rcases Nat.lt_or_ge L (LKs N w d (-1) (-1)) with q | q
      · exact absurd ⟨d, b, a, q⟩ z
      · exact q, fun y => absurd y (Nat.lt_irrefl _)⟩
theorem xm_when (ok : okN N) (a : Int32) : ∃ r, (∀ u v n c K f, XP u v N n c K f → RX (pX10_when u v a) u v N n c K f r) ∧ ∀ u v n c K f, MP u N n c K f → RM (pX11_when u v a) u v N n c K f r := by
  by_cases q : 0 ≤ a ∧ a ≤ 80
  · obtain ⟨L, hL, rfl⟩ := rl (n := 80) (by decide) q
    obtain ⟨D, hD⟩ := fd_ex ok (w := haN N) (L := L)
    have hD1 := hD.1
    refine ⟨if D < 10000 then nI D else -2, fun u v n c K f h => ?_, fun u v n c K f h => ?_⟩
    · unfold pX10_when
      rw [within_eq, bw, if_pos q]
      obtain ⟨u1, r1, r2, r3⟩ := xFill ok h.1
      have h1 := XP_XU (XU_EX1 r2) h
      rw [r1, Option.bind_some]
      dsimp only
      obtain ⟨D', u2, s1, s2, s3⟩ := xFirstDay ok h1.1 r3 (haN_le ok) (L := L) (by omega)
      obtain rfl := fd_one hD s3
      rw [s1, Option.bind_some]
      dsimp only
      have h2 := XP_XU (XU_EM s2) h1
      refine RX_tr (MU_tr (MU_EX1 r2) (MU_EM s2)) ?_
      simp only [show (9999 : Int32) = nI 9999 from rfl, leI (show D < 2 ^ 31 by omega) (show 9999 < 2 ^ 31 by decide)]
      by_cases z : D < 10000
      · rw [if_pos (show D ≤ 9999 by omega), if_pos z]; exact RX_id h2 (npos (by omega))
      · rw [if_neg (show ¬ D ≤ 9999 by omega), if_neg z]; exact RX_fd h2 (by decide)
    · unfold pX11_when
      rw [isIn_eq, bw, if_pos q]
      obtain ⟨u1, r1, r2, r3⟩ := mTell (v := v) ok h.1
      have h1 := MP_MU (MU_EX6 r2) h
      rw [r1, Option.bind_some]
      dsimp only
      obtain ⟨u2, s2, s1⟩ := mWhen (v := v) ok h1.1 r3 (haN_le ok) (L := L) (by omega) hD
      rw [h1.1 6 (by decide), s1, Option.bind_some]
      have h2 := MP_MUx (MUx_EN s2) h1
      refine RM_tr (XU_tr (XU_EX6 r2) (XU_EN s2)) ?_
      by_cases z : D < 10000
      · rw [if_pos z, if_pos z]; exact RM_id h2 (npos (by omega))
      · rw [if_neg z, if_neg z]; exact RM_fd h2 (by decide)
  · refine ⟨-1, fun u v n c K f h => ?_, fun u v n c K f h => ?_⟩
    · unfold pX10_when; rw [within_eq, bw, if_neg q]; exact RX_fd h (by decide)
    · unfold pX11_when; rw [isIn_eq, bw, if_neg q]; exact RM_fd h (by decide)
end ANS3
