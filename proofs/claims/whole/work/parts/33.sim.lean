section SM7
variable {N : tN} {n : Nat} {c : Nat → Nat} {K : Option tN}
theorem sm_goes (ok : OKS N n c K) (f a : Int32) : SM (fun u v => pX10_goes u v a) (fun u v => pX11_goes u v a) N n c K f := SM_rd _ ok (fun u v h => x_goes ok.1 h a) (fun u v h => m_goes ok.1 h a)
theorem sm_by (ok : OKS N n c K) (f a : Int32) : SM (fun u v => pX10_by u v a) (fun u v => pX11_by u v a) N n c K f := SM_rd _ ok (fun u v h => x_by ok.1 h a) (fun u v h => m_by ok.1 h a)
theorem sm_counts (ok : OKS N n c K) (f a : Int32) : SM (fun u v => pX10_counts u v a) (fun u v => pX11_counts u v a) N n c K f := SM_rd _ ok (fun u v h => x_counts ok.1 h a) (fun u v h => m_counts ok.1 h a)
theorem sm_finds (ok : OKS N n c K) (f a : Int32) : SM (fun u v => pX10_finds u v a) (fun u v => pX11_finds u v a) N n c K f := SM_rd _ ok (fun u v h => x_finds ok.1 h a) (fun u v h => m_finds ok.1 h a)
theorem sm_fits (ok : OKS N n c K) (f a b : Int32) : SM (fun u v => pX10_fits u v a b) (fun u v => pX11_fits u v a b) N n c K f := SM_rd _ ok (fun u v h => x_fits ok.1 h a b) (fun u v h => m_fits ok.1 h a b)
theorem sm_as (ok : OKS N n c K) (f a b : Int32) : SM (fun u v => pX10_as u v a b) (fun u v => pX11_as u v a b) N n c K f := SM_rd _ ok (fun u v h => x_as ok.1 h a b) (fun u v h => m_as ok.1 h a b)
theorem sm_at (ok : OKS N n c K) (f a b : Int32) : SM (fun u v => pX10_at u v a b) (fun u v => pX11_at u v a b) N n c K f := SM_rd _ ok (fun u v h => x_at ok.1 h a b) (fun u v h => m_at ok.1 h a b)
theorem sm_has (ok : OKS N n c K) (f a b : Int32) : SM (fun u v => pX10_has u v a b) (fun u v => pX11_has u v a b) N n c K f := SM_rd _ ok (fun u v h => x_has ok.1 h a b) (fun u v h => m_has ok.1 h a b)
theorem sm_measure (ok : OKS N n c K) (f a b : Int32) : SM (fun u v => pX10_measure u v a b) (fun u v => pX11_measure u v a b) N n c K f := SM_rd _ ok (fun u v h => x_measure ok.1 h a b) (fun u v h => m_measure ok.1 h a b)
theorem sm_all (ok : OKS N n c K) (f a : Int32) : SM (fun u v => pX10_all u v a) (fun u v => pX11_all u v a) N n c K f := SM_rd _ ok (fun u v h => x_all ok.1 h a) (fun u v h => m_all ok.1 h a)
theorem sm_may (ok : OKS N n c K) (f a b : Int32) : SM (fun u v => pX10_may u v a b) (fun u v => pX11_may u v a b) N n c K f := SM_rd _ ok (fun u v h => x_may ok.1 h a b) (fun u v h => m_may ok.1 h a b)
theorem sm_needs (ok : OKS N n c K) (f : Int32) : SM (fun u v => pX10_needs u v ) (fun u v => pX11_needs u v ) N n c K f := ⟨_, N, n, c, K, _, ok, fun u v h => x_needs ok.1 h , fun u v h => m_needs ok.1 h ⟩
theorem sm_lack (ok : OKS N n c K) (f : Int32) : SM (fun u v => pX10_lack u v ) (fun u v => pX11_lack u v ) N n c K f := ⟨_, N, n, c, K, _, ok, fun u v h => x_lack ok.1 h , fun u v h => m_lack ok.1 h ⟩
theorem sm_cost (ok : OKS N n c K) (f : Int32) : SM (fun u v => pX10_cost u v ) (fun u v => pX11_cost u v ) N n c K f := ⟨_, N, n, c, K, _, ok, fun u v h => x_cost ok.1 h , fun u v h => m_cost ok.1 h ⟩
theorem sm_of (ok : OKS N n c K) (f a b : Int32) : SM (fun u v => pX10_of u v a b) (fun u v => pX11_of u v a b) N n c K f := ⟨_, N, n, c, K, _, ok, fun u v h => x_of ok.1 h a b, fun u v h => m_of ok.1 h a b⟩
theorem sm_without (ok : OKS N n c K) (f a : Int32) : SM (fun u v => pX10_without u v a) (fun u v => pX11_without u v a) N n c K f := ⟨_, N, n, c, K, _, ok, fun u v h => x_without ok.1 h a, fun u v h => m_without ok.1 h a⟩
theorem sm_spared (ok : OKS N n c K) (f a : Int32) : SM (fun u v => pX10_spared u v a) (fun u v => pX11_spared u v a) N n c K f := ⟨_, N, n, c, K, _, ok, fun u v h => x_spared ok.1 h a, fun u v h => m_spared ok.1 h a⟩
theorem sm_told (ok : OKS N n c K) (f a : Int32) : SM (fun u v => pX10_told u v a) (fun u v => pX11_told u v a) N n c K f := ⟨_, N, n, c, K, _, ok, fun u v h => x_told h a, fun u v h => m_told h a⟩
theorem sm_peak (ok : OKS N n c K) (f a : Int32) : SM (fun u v => pX10_peak u v a) (fun u v => pX11_peak u v a) N n c K f := by obtain ⟨r, h1, h2⟩ := xm_peak ok.1 a; exact SM_rd r ok (fun u v h => h1 u v n c K f h) (fun u v h => h2 u v n c K f h)
theorem sm_when (ok : OKS N n c K) (f a : Int32) : SM (fun u v => pX10_when u v a) (fun u v => pX11_when u v a) N n c K f := by obtain ⟨r, h1, h2⟩ := xm_when ok.1 a; exact SM_rd r ok (fun u v h => h1 u v n c K f h) (fun u v h => h2 u v n c K f h)
end SM7
/-- what stands between the law's calls -/
def Inv (u : tU) (v : tV) : Prop := ∃ N n c K f, OKS N n c K ∧ XP u v N n c K f ∧ MP u N n c K f
theorem SM_go {pX pM : tU → tV → Option (Int32 × tU × tV)} (h : ∀ N n c K f, OKS N n c K → SM pX pM N n c K f) {u : tU} {v : tV} (hi : Inv u v) : ∃ r u1 v1 u2, pX u v = some (r, u1, v1) ∧ pM u1 v1 = some (r, u2, v1) ∧ Inv u2 v1 := by
  obtain ⟨N, n, c, K, f, ok, hx, hm⟩ := hi
  obtain ⟨r, N', n', c', K', f', ok', h1, h2⟩ := h N n c K f ok
  obtain ⟨u1, v1, e1, x1, m1⟩ := h1 u v hx
  obtain ⟨u2, e2, m2, x2⟩ := h2 u1 v1 (MP_MU m1 hm)
  exact ⟨r, u1, v1, u2, e1, e2, N', n', c', K', f', ok', XP_XU x2 x1, m2⟩
