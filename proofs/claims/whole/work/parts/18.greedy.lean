/-! sums over some of the rights -/
def sS (f : Nat → Nat) (b : Nat → Bool) (G : Nat) : Nat := fb_sm (fun g => if b g = true then f g else 0) G
theorem sS_le {f f' : Nat → Nat} {b b' : Nat → Bool} {G : Nat} (h : ∀ g, g < G → b g = true → f g = 0 ∨ (b' g = true ∧ f g ≤ f' g)) : sS f b G ≤ sS f' b' G := by
  unfold sS
  refine fb_sm_le (fun g hg => ?_)
  by_cases q : b g = true
  · rw [if_pos q]
    rcases h g hg q with z | ⟨z1, z2⟩
    · omega
    · rw [if_pos z1]; exact z2
  · rw [if_neg q]; exact Nat.zero_le _
theorem fb_lt {f g : Nat → Nat} : ∀ {n : Nat}, (∀ k, k < n → f k ≤ g k) → (∃ k, k < n ∧ f k < g k) → fb_sm f n < fb_sm g n
  | 0, _, ⟨k, hk, _⟩ => absurd hk (Nat.not_lt_zero k)
  | n + 1, h, ⟨k, hk, hl⟩ => by
    rw [fb_sm_succ, fb_sm_succ]
    have h1 : fb_sm f n ≤ fb_sm g n := fb_sm_le (fun k hk => h k (by omega))
    have h2 := h n (by omega)
    rcases Nat.lt_or_eq_of_le (Nat.le_of_lt_succ hk) with q | q
    · have := fb_lt (fun k hk => h k (by omega)) ⟨k, q, hl⟩
      omega
    · subst q; omega
theorem sS_split (f : Nat → Nat) (b a : Nat → Bool) (G : Nat) : sS f b G = sS f (fun g => b g && a g) G + sS f (fun g => b g && !a g) G := by
  unfold sS
  rw [← fb_sm_add]
  exact fb_sm_cong (fun g _ => by cases hb : b g <;> cases ha : a g <;> simp [hb, ha])
theorem sS_zero {f : Nat → Nat} {b : Nat → Bool} {G : Nat} (h : ∀ g, g < G → b g = true → f g = 0) : sS f b G = 0 := by
  unfold sS
  refine Nat.le_zero.mp (Nat.le_trans (fb_sm_bound (c := 0) (fun g hg => ?_)) (by omega))
  by_cases q : b g = true
  · rw [if_pos q, h g hg q]; exact Nat.le_refl _
  · rw [if_neg q]; exact Nat.le_refl _
theorem sS_inc (f : Nat → Nat) (b : Nat → Bool) {j : Nat} : ∀ {G : Nat}, j < G → sS (va_up f j (f j + 1)) b G = sS f b G + (if b j = true then 1 else 0)
  | 0, h => absurd h (Nat.not_lt_zero j)
  | G + 1, h => by
    unfold sS
    rw [fb_sm_succ, fb_sm_succ]
    rcases Nat.lt_or_eq_of_le (Nat.le_of_lt_succ h) with q | q
    · have ih := sS_inc f b q
      unfold sS at ih
      rw [ih]
      have e : va_up f j (f j + 1) G = f G := by unfold va_up; rw [if_neg (by omega)]
      rw [e]; omega
    · subst q
      have e : fb_sm (fun g => if b g = true then va_up f j (f j + 1) g else 0) j = fb_sm (fun g => if b g = true then f g else 0) j := fb_sm_cong (fun k hk => by
        have : va_up f j (f j + 1) k = f k := by unfold va_up; rw [if_neg (by omega)]
        rw [this])
      rw [e]
      have e2 : va_up f j (f j + 1) j = f j + 1 := by unfold va_up; rw [if_pos rfl]
      rw [e2]
      split <;> omega
theorem sS_cong {f f' : Nat → Nat} {b b' : Nat → Bool} {G : Nat} (h : ∀ g, g < G → (if b g = true then f g else 0) = (if b' g = true then f' g else 0)) : sS f b G = sS f' b' G := fb_sm_cong h
/-- what rights up to a price give -/
def tC (pr us : Nat → Nat) (G c : Nat) : Nat := sS us (fun g => decide (pr g ≤ c)) G
def aC (pr vr cp : Nat → Nat) (G c v : Nat) : Nat := sS cp (fun g => decide (pr g ≤ c) && decide (v < vr g)) G
def isR (n A : Nat → Nat) (x : Nat) : Prop := (∀ v, v ≤ 9 → x ≤ n v + A v) ∧ ∃ v, v ≤ 9 ∧ x = n v + A v
theorem isR_one {n A : Nat → Nat} {x y : Nat} (hx : isR n A x) (hy : isR n A y) : x = y := by
  obtain ⟨x1, v, hv, e⟩ := hx
  obtain ⟨y1, w, hw, f⟩ := hy
  have := x1 w hw
  have := y1 v hv
  omega
/-- the class's step: one need of version V is served by the cheapest -/
theorem gX_some {pr vr cp us : Nat → Nat} {G V j : Nat} (hle : ∀ g, g < G → us g ≤ cp g) (hlow : ∀ g, g < G → vr g < V → us g = 0) (hj : j < G) (h1 : us j < cp j) (h2 : V ≤ vr j) (hmin : ∀ g, g < G → us g < cp g → V ≤ vr g → pr j ≤ pr g) (hV : 1 ≤ V) (c : Nat) :
    tC pr us G c ≤ aC pr vr cp G c (V - 1) ∧ tC pr (va_up us j (us j + 1)) G c = min (tC pr us G c + 1) (aC pr vr cp G c (V - 1)) := by
  have hA : tC pr us G c ≤ aC pr vr cp G c (V - 1) := by
    unfold tC aC
    refine sS_le (fun g hg hb => ?_)
    by_cases q : vr g < V
    · exact Or.inl (hlow g hg q)
    · refine Or.inr ⟨?_, hle g hg⟩
      rw [Bool.and_eq_true]
      exact ⟨hb, decide_eq_true (by omega)⟩
  refine ⟨hA, ?_⟩
  have hi : tC pr (va_up us j (us j + 1)) G c = tC pr us G c + (if decide (pr j ≤ c) = true then 1 else 0) := sS_inc us _ hj
  rw [hi]
  by_cases q : pr j ≤ c
  · rw [if_pos (decide_eq_true q)]
    have hlt : tC pr us G c < aC pr vr cp G c (V - 1) := by
      unfold tC aC sS
      refine fb_lt (fun g hg => ?_) ⟨j, hj, ?_⟩
      · by_cases z : pr g ≤ c
        · rw [if_pos (decide_eq_true z)]
          by_cases z2 : vr g < V
          · rw [hlow g hg z2]; exact Nat.zero_le _
          · rw [if_pos (by rw [Bool.and_eq_true]; exact ⟨decide_eq_true z, decide_eq_true (by omega)⟩)]
            exact hle g hg
        · rw [if_neg (by simp [z])]; exact Nat.zero_le _
      · rw [if_pos (decide_eq_true q), if_pos (by rw [Bool.and_eq_true]; exact ⟨decide_eq_true q, decide_eq_true (by omega)⟩)]
        exact h1
    omega
  · rw [if_neg (by simp [q])]
    have heq : tC pr us G c = aC pr vr cp G c (V - 1) := by
      unfold tC aC
      refine sS_cong (fun g hg => ?_)
      by_cases z : pr g ≤ c
      · rw [if_pos (decide_eq_true z)]
        by_cases z2 : vr g < V
        · rw [hlow g hg z2, if_neg (by rw [Bool.and_eq_true]; intro w; have := of_decide_eq_true w.2; omega)]
        · rw [if_pos (by rw [Bool.and_eq_true]; exact ⟨decide_eq_true z, decide_eq_true (by omega)⟩)]
          have := hle g hg
          rcases Nat.lt_or_ge (us g) (cp g) with w | w
          · have := hmin g hg w (by omega); omega
          · omega
      · rw [if_neg (by simp [z]), if_neg (by simp [z])]
    omega
theorem gX_none {pr vr cp us : Nat → Nat} {G V : Nat} (hle : ∀ g, g < G → us g ≤ cp g) (hlow : ∀ g, g < G → vr g < V → us g = 0) (hno : ∀ g, g < G → us g < cp g → ¬ V ≤ vr g) (hV : 1 ≤ V) (c : Nat) : tC pr us G c = aC pr vr cp G c (V - 1) := by
  unfold tC aC
  refine sS_cong (fun g hg => ?_)
  by_cases z : pr g ≤ c
  · rw [if_pos (decide_eq_true z)]
    by_cases z2 : vr g < V
    · rw [hlow g hg z2, if_neg (by rw [Bool.and_eq_true]; intro w; have := of_decide_eq_true w.2; omega)]
    · rw [if_pos (by rw [Bool.and_eq_true]; exact ⟨decide_eq_true z, decide_eq_true (by omega)⟩)]
      have := hle g hg
      have := hno g hg
      omega
  · rw [if_neg (by simp [z]), if_neg (by simp [z])]
theorem aC_mono {pr vr cp : Nat → Nat} {G c v w : Nat} (h : v ≤ w) : aC pr vr cp G c w ≤ aC pr vr cp G c v := by
  unfold aC
  refine sS_le (fun g _ hb => Or.inr ⟨?_, Nat.le_refl _⟩)
  rw [Bool.and_eq_true] at hb ⊢
  have := of_decide_eq_true hb.2
  exact ⟨hb.1, decide_eq_true (by omega)⟩
/-- stage V: versions above V are served -/
def stR (n A : Nat → Nat) (V x : Nat) : Prop := (∀ v, V ≤ v → v ≤ 9 → x + n V ≤ n v + A v) ∧ ∃ v, V ≤ v ∧ v ≤ 9 ∧ x + n V = n v + A v
theorem stR_step {n A : Nat → Nat} {V x m : Nat} (hV : 1 ≤ V) (hV9 : V ≤ 9) (hn : n V = n (V - 1) + m) (h : stR n A V x) : stR n A (V - 1) (min (x + m) (A (V - 1))) := by
  obtain ⟨h1, v, v1, v2, v3⟩ := h
  refine ⟨fun w w1 w2 => ?_, ?_⟩
  · by_cases q : w = V - 1
    · subst q; omega
    · have := h1 w (by omega) w2; omega
  · rcases Nat.lt_or_ge (x + m) (A (V - 1)) with q | q
    · exact ⟨v, by omega, v2, by omega⟩
    · exact ⟨V - 1, Nat.le_refl _, by omega, by omega⟩
theorem stR_0 {n A : Nat → Nat} {x : Nat} (hn : n 0 = 0) (h : stR n A 0 x) : isR n A x := by
  obtain ⟨h1, v, v1, v2, v3⟩ := h
  exact ⟨fun w hw => by have := h1 w (Nat.zero_le _) hw; omega, v, v2, by omega⟩
/-! what is paid, by prices -/
theorem cost_sum {pr us : Nat → Nat} : ∀ {G : Nat}, (∀ g, g < G → pr g ≤ 1000) → fb_sm (fun g => us g * pr g) G = fb_sm (fun c => tC pr us G 1000 - tC pr us G c) 1000
  | 0, _ => by
    have h : ∀ k, fb_sm (fun c => tC pr us 0 1000 - tC pr us 0 c) k = 0 := fun k => by
      induction k with
      | zero => rfl
      | succ k ih => rw [fb_sm_succ, ih]; rfl
    rw [h]; rfl
  | G + 1, hp => by
    have ih := cost_sum (pr := pr) (us := us) (G := G) (fun g hg => hp g (by omega))
    have hG := hp G (by omega)
    rw [fb_sm_succ, ih]
    have hs : ∀ c, tC pr us (G + 1) c = tC pr us G c + (if pr G ≤ c then us G else 0) := fun c => by
      unfold tC sS
      rw [fb_sm_succ]
      simp only [decide_eq_true_eq]
    have hm : ∀ c, c ≤ 1000 → tC pr us G c ≤ tC pr us G 1000 := fun c hc => by
      unfold tC
      exact sS_le (fun g _ hb => Or.inr ⟨decide_eq_true (by have := of_decide_eq_true hb; omega), Nat.le_refl _⟩)
    have e1 : fb_sm (fun c => tC pr us (G + 1) 1000 - tC pr us (G + 1) c) 1000 = fb_sm (fun c => (tC pr us G 1000 - tC pr us G c) + (if c < pr G then us G else 0)) 1000 := fb_sm_cong (fun c hc => by
      rw [hs, hs, if_pos hG]
      have := hm c (by omega)
      by_cases q : pr G ≤ c
      · rw [if_pos q, if_neg (by omega)]; omega
      · rw [if_neg q, if_pos (by omega)]; omega)
    rw [e1, fb_sm_add]
    have e2 : ∀ k, fb_sm (fun c => if c < pr G then us G else 0) k = us G * min k (pr G) := fun k => by
      induction k with
      | zero => simp [fb_sm]
      | succ k ih =>
        rw [fb_sm_succ, ih]
        by_cases q : k < pr G
        · rw [if_pos q, Nat.min_eq_left (by omega), Nat.min_eq_left (by omega), Nat.mul_succ]
        · rw [if_neg q, Nat.min_eq_right (by omega), Nat.min_eq_right (by omega), Nat.add_zero]
    rw [e2, Nat.min_eq_right hG]
/-! the reference's way: the cheapest right that can still take -/
def sV1 (vr tk : Nat → Nat) (G v : Nat) : Nat := sS tk (fun g => decide (vr g ≤ v)) G
def canT (n vr cp tk : Nat → Nat) (G g : Nat) : Prop := tk g < cp g ∧ ∀ v, vr g ≤ v → v ≤ 9 → sV1 vr tk G v < n v
def sCV (pr vr tk : Nat → Nat) (G c v : Nat) : Nat := sS tk (fun g => decide (pr g ≤ c) && decide (vr g ≤ v)) G
def Blk (n pr vr cp tk : Nat → Nat) (G c g : Nat) : Prop := tk g = cp g ∨ ∃ v, vr g ≤ v ∧ v ≤ 9 ∧ sCV pr vr tk G c v = n v
def gI (n pr vr cp tk : Nat → Nat) (G c : Nat) : Prop := (∀ k, k < G → 0 < tk k → pr k ≤ c) ∨ ∀ g, g < G → pr g ≤ c → Blk n pr vr cp tk G c g
def gJ (n pr vr cp tk : Nat → Nat) (G : Nat) : Prop := (∀ g, g < G → tk g ≤ cp g) ∧ (∀ v, v ≤ 9 → sV1 vr tk G v ≤ n v) ∧ ∀ c, gI n pr vr cp tk G c
theorem sCV_le {pr vr tk : Nat → Nat} {G c v : Nat} : sCV pr vr tk G c v ≤ sV1 vr tk G v := sS_le (fun g _ hb => Or.inr ⟨(Bool.and_eq_true _ _ ▸ hb).2, Nat.le_refl _⟩)
theorem sCV_all {pr vr tk : Nat → Nat} {G c v : Nat} (h : ∀ k, k < G → 0 < tk k → pr k ≤ c) : sCV pr vr tk G c v = sV1 vr tk G v := by
  unfold sCV sV1
  refine sS_cong (fun g hg => ?_)
  by_cases q : 0 < tk g
  · simp [h g hg q]
  · have : tk g = 0 := by omega
    rw [this]; simp
theorem blk_of {n pr vr cp tk : Nat → Nat} {G c g : Nat} (hle : tk g ≤ cp g) (hv : ∀ v, v ≤ 9 → sV1 vr tk G v ≤ n v) (h : ∀ k, k < G → 0 < tk k → pr k ≤ c) (hno : ¬ canT n vr cp tk G g) : Blk n pr vr cp tk G c g := by
  by_cases q : tk g < cp g
  · rcases Classical.em (∃ v, vr g ≤ v ∧ v ≤ 9 ∧ ¬ sV1 vr tk G v < n v) with ⟨v, v1, v2, v3⟩ | z
    · exact Or.inr ⟨v, v1, v2, by rw [sCV_all h]; have := hv v v2; omega⟩
    · refine absurd ⟨q, fun v v1 v2 => ?_⟩ hno
      rcases Nat.lt_or_ge (sV1 vr tk G v) (n v) with w | w
      · exact w
      · exact absurd ⟨v, v1, v2, by omega⟩ z
  · exact Or.inl (by omega)
theorem gJ_step {n pr vr cp tk : Nat → Nat} {G j : Nat} (h : gJ n pr vr cp tk G) (hj : j < G) (hc : canT n vr cp tk G j) (hmin : ∀ g, g < G → canT n vr cp tk G g → pr j ≤ pr g) : gJ n pr vr cp (va_up tk j (tk j + 1)) G := by
  obtain ⟨h1, h2, h3⟩ := h
  refine ⟨fun g hg => ?_, fun v hv => ?_, fun c => ?_⟩
  · unfold va_up
    split
    · have := hc.1; rename_i e; rw [e]; omega
    · exact h1 g hg
  · have e : sV1 vr (va_up tk j (tk j + 1)) G v = sV1 vr tk G v + (if decide (vr j ≤ v) = true then 1 else 0) := sS_inc tk _ hj
    rw [e]
    by_cases q : vr j ≤ v
    · rw [if_pos (decide_eq_true q)]; have := hc.2 v q hv; omega
    · rw [if_neg (by simp [q])]; exact h2 v hv
  · by_cases q : pr j ≤ c
    · refine Or.inl (fun k hk hk0 => ?_)
      have hfirst : ∀ k, k < G → 0 < tk k → pr k ≤ c := by
        rcases h3 c with z | z
        · exact z
        · exfalso
          rcases z j hj q with w | ⟨v, v1, v2, v3⟩
          · have := hc.1; omega
          · have := hc.2 v v1 v2
            have := sCV_le (pr := pr) (vr := vr) (tk := tk) (G := G) (c := c) (v := v)
            omega
      by_cases e : k = j
      · rw [e]; exact q
      · unfold va_up at hk0; rw [if_neg e] at hk0; exact hfirst k hk hk0
    · have hb : ∀ g, g < G → pr g ≤ c → Blk n pr vr cp tk G c g := by
        rcases h3 c with z | z
        · exact fun g hg hp => blk_of (h1 g hg) h2 z (fun hcan => by have := hmin g hg hcan; omega)
        · exact z
      refine Or.inr (fun g hg hp => ?_)
      have e : ∀ v, sCV pr vr (va_up tk j (tk j + 1)) G c v = sCV pr vr tk G c v := fun v => by
        have e1 : sCV pr vr (va_up tk j (tk j + 1)) G c v = sCV pr vr tk G c v + (if (decide (pr j ≤ c) && decide (vr j ≤ v)) = true then 1 else 0) := sS_inc tk _ hj
        rw [e1, if_neg (by simp [q]), Nat.add_zero]
      rcases hb g hg hp with w | ⟨v, v1, v2, v3⟩
      · refine Or.inl ?_
        unfold va_up
        rw [if_neg (fun e2 => by rw [e2] at hp; exact q hp)]
        exact w
      · exact Or.inr ⟨v, v1, v2, by rw [e]; exact v3⟩
theorem gJ_end {n pr vr cp tk : Nat → Nat} {G : Nat} (h : gJ n pr vr cp tk G) (hno : ∀ g, g < G → ¬ canT n vr cp tk G g) (hv1 : ∀ g, g < G → 1 ≤ vr g) (hn0 : n 0 = 0) (c : Nat) : isR n (aC pr vr cp G c) (tC pr tk G c) := by
  obtain ⟨h1, h2, h3⟩ := h
  have hb : ∀ g, g < G → pr g ≤ c → Blk n pr vr cp tk G c g := by
    rcases h3 c with z | z
    · exact fun g hg _ => blk_of (h1 g hg) h2 z (hno g hg)
    · exact z
  have split : ∀ v, tC pr tk G c = sCV pr vr tk G c v + sS tk (fun g => decide (pr g ≤ c) && decide (v < vr g)) G := fun v => by
    unfold tC
    rw [sS_split tk _ (fun g => decide (vr g ≤ v)) G]
    congr 1
    refine sS_cong (fun g _ => ?_)
    have : (!decide (vr g ≤ v)) = decide (v < vr g) := by
      by_cases q : vr g ≤ v
      · simp [q]
      · simp [q]; omega
    rw [this]
  refine ⟨fun v hv => ?_, ?_⟩
  · rw [split v]
    have a1 := sCV_le (pr := pr) (vr := vr) (tk := tk) (G := G) (c := c) (v := v)
    have a2 := h2 v hv
    have a3 : sS tk (fun g => decide (pr g ≤ c) && decide (v < vr g)) G ≤ aC pr vr cp G c v := sS_le (fun g hg hb => Or.inr ⟨hb, h1 g hg⟩)
    omega
  · obtain ⟨v, ⟨v1, v2⟩, v3⟩ : ∃ v, (v < 10 ∧ sCV pr vr tk G c v = n v) ∧ ∀ w, v < w → w < 10 → ¬ sCV pr vr tk G c w = n w := by
      obtain ⟨v, a, b, d⟩ := fb_last (p := fun v => sCV pr vr tk G c v = n v) (n := 10) ⟨0, by decide, by
        rw [hn0]
        exact sS_zero (fun g hg hb => by rw [Bool.and_eq_true] at hb; have := of_decide_eq_true hb.2; have := hv1 g hg; omega)⟩
      exact ⟨v, ⟨a, b⟩, d⟩
    refine ⟨v, by omega, ?_⟩
    rw [split v, v2]
    congr 1
    unfold aC
    refine sS_cong (fun g hg => ?_)
    by_cases q : (decide (pr g ≤ c) && decide (v < vr g)) = true
    · rw [if_pos q, if_pos q]
      rw [Bool.and_eq_true] at q
      rcases hb g hg (of_decide_eq_true q.1) with w | ⟨x, x1, x2, x3⟩
      · exact w
      · exact absurd x3 (v3 x (by have := of_decide_eq_true q.2; omega) (by omega))
    · rw [if_neg q, if_neg q]
theorem gJ_0 {n pr vr cp : Nat → Nat} {G : Nat} : gJ n pr vr cp (fun _ => 0) G := by
  refine ⟨fun _ _ => Nat.zero_le _, fun v _ => ?_, fun c => Or.inl (fun k _ h => absurd h (Nat.lt_irrefl 0))⟩
  rw [show sV1 vr (fun _ => 0) G v = 0 from sS_zero (fun _ _ _ => rfl)]
  exact Nat.zero_le _
/-! the first of the cheapest -/
def bsF (el : Nat → Bool) (pr : Nat → Nat) : Nat → Option Nat
  | 0 => none
  | k + 1 => match bsF el pr k with
    | none => if el k = true then some k else none
    | some j => if el k = true ∧ pr k < pr j then some k else some j
theorem bsF_spec (el : Nat → Bool) (pr : Nat → Nat) : ∀ k, (bsF el pr k = none ∧ ∀ g, g < k → ¬ el g = true) ∨ ∃ j, bsF el pr k = some j ∧ j < k ∧ el j = true ∧ ∀ g, g < k → el g = true → pr j ≤ pr g
  | 0 => Or.inl ⟨rfl, fun g h => absurd h (Nat.not_lt_zero g)⟩
  | k + 1 => by
    rcases bsF_spec el pr k with ⟨h1, h2⟩ | ⟨j, h1, h2, h3, h4⟩
    · by_cases q : el k = true
      · refine Or.inr ⟨k, by rw [bsF, h1]; exact if_pos q, by omega, q, fun g hg he => ?_⟩
        rcases Nat.lt_or_eq_of_le (Nat.le_of_lt_succ hg) with z | z
        · exact absurd he (h2 g z)
        · rw [z]; exact Nat.le_refl _
      · refine Or.inl ⟨by rw [bsF, h1]; exact if_neg q, fun g hg => ?_⟩
        rcases Nat.lt_or_eq_of_le (Nat.le_of_lt_succ hg) with z | z
        · exact h2 g z
        · rw [z]; exact q
    · by_cases q : el k = true ∧ pr k < pr j
      · refine Or.inr ⟨k, by rw [bsF, h1]; exact if_pos q, by omega, q.1, fun g hg he => ?_⟩
        rcases Nat.lt_or_eq_of_le (Nat.le_of_lt_succ hg) with z | z
        · have := h4 g z he; omega
        · rw [z]; exact Nat.le_refl _
      · refine Or.inr ⟨j, by rw [bsF, h1]; exact if_neg q, by omega, h3, fun g hg he => ?_⟩
        rcases Nat.lt_or_eq_of_le (Nat.le_of_lt_succ hg) with z | z
        · exact h4 g z he
        · rw [z] at he ⊢
          rcases Nat.lt_or_ge (pr k) (pr j) with w | w
          · exact absurd ⟨he, w⟩ q
          · exact w
