set_option maxHeartbeats 4000000 in
set_option maxRecDepth 100000 in
/-- from the entry, for every script of at most 3584 ints, the law comes to its end with true -/
theorem whole_start {p : Program} {e : Env} {s : State} {m : MethodId} {below : List Frame} {meth : Method} {c : Code} (l : Launch) {b L : Nat} {xs : Nat → Int32} (hL : L ≤ 3584) (C0 : lw_At p s m meth c b L xs) : W p l e room_1 s m #[Value.ref b] below meth c s.heap [] 0 0 (lw_Z below #[Value.ref b] s) (entryFrame m ([Value.ref b] : List Value).toArray 4) := by
  obtain ⟨hx, hb, hr, hml, hown, hts, hX, hbl, hlocks, hgv⟩ := id C0
  have hA : ∀ q : Nat, s.heap.size ≤ q → (fun q : Nat => s.heap.size ≤ q) q := fun _ h => h
  obtain ⟨D, hKc⟩ := known_all hts
  obtain ⟨cI, cJ, hI, hJ⟩ := arr_all hts
  have hK : xK D cI cJ s := ⟨⟨hKc, fun k q h => by
    match k, h with
    | 0, h => cases h; exact hI
    | 1, h => cases h; exact hJ
    | k + 2, h => simp at h⟩, nw_of (fun w hw => hts w (List.mem_append_right _ hw))⟩
  have hS : va_S (fun q : Nat => s.heap.size ≤ q) s.heap s.heap [] := va_S.rf
  have hP : va_P D vwCl [] s.heap := fun k q h => by simp at h
  have hD : va_D (fun q : Nat => s.heap.size ≤ q) [] := ⟨fun i j p q h => by simp at h, fun k q h => by simp at h⟩
  have hl := lv_entry ([.ref b]) (n := 4) (Nat.le_of_ble_eq_true rfl)
  rw [lg_entry_eq]
  generalize (lg_sl ([.ref b]) ++ List.replicate (4 - (lg_sl ([.ref b])).length) Slot.unset).toArray = ls at hl ⊢
  have hl : lv_has ls 4 [(0, .ref b)] := hl
  refine va_new (ci := 10) (fs := [.null, .null, .null, .null, .null, .int 0, .int 0]) (C := RX10) (T := TX10) (N := 7) hx hb hts (fun w h => (gw_wsX100 w h).1) tyX10 tyX10_ok hown (hts _ q_t17.1) (hts _ q_t18.1) (hts _ q_t1.1) hK.1 hP hD hS hA rfl (fun j hj => by rcases (show j = 0 ∨ j = 1 ∨ j = 2 ∨ j = 3 ∨ j = 4 ∨ j = 5 ∨ j = 6 by omega) with rfl | rfl | rfl | rfl | rfl | rfl | rfl <;> rfl) (Nat.le_of_ble_eq_true rfl) (Nat.le_of_ble_eq_true rfl) dL_law_0 (fun q0 H hP hD hS => ?_)
  have hP : va_P D vwCl [(q0, .inr (10, [.null, .null, .null, .null, .null, .int 0, .int 0]))] H := hP
  have hD : va_D (fun q : Nat => s.heap.size ≤ q) [(q0, .inr (10, [.null, .null, .null, .null, .null, .int 0, .int 0]))] := hD
  refine W.widen (k := 1) (n := 7) (Nat.le_of_ble_eq_true rfl) (Nat.le_of_ble_eq_true rfl) ?_
  refine lv_dup hx hb dL_law_3 rfl ?_
  have hFc := va_free (wc := [(q0, .inr (10, [.null, .null, .null, .null, .null, .int 0, .int 0]))]) hD hS hA [0] rfl
  refine va_callv (va_runI (As := []) (rest := [.ref q0]) ⟨hx, hb, hml, hown, hts⟩ (k_X10_init l (D := D) (cI := cI) (cJ := cJ) q0 H.size) (cwI 0 hts gw_wsX10_init rfl rfl rfl (hts _ q_t1.1) (hts _ q_t19.1) (hts _ q_t20.1) rfl (by decide +kernel) ⟨Nat.le_of_ble_eq_true rfl, Nat.le_of_ble_eq_true rfl⟩) (preC_S hK hP hD) rfl rfl hl.1 rfl (lv_room (Nat.le_of_ble_eq_true rfl)) dL_law_4 ⟨Nat.le_of_ble_eq_true rfl, Nat.le_of_ble_eq_true rfl⟩) hS (fun q _ h => hFc q h) hFc (fun ad0 t H1 locs ht hvm hw hB hz1 hk1 hS => ?_)
  obtain ⟨hP1, hD1⟩ := hB
  rw [ht] at hP1
  obtain ⟨hP, hD⟩ := va_join (wr := []) (w1 := wE10 cI cJ q0 ad0) hP hD [0] [] rfl rfl (by decide) (by decide) hk1 hFc hP1 hD1
  generalize H1 = H at hP hS ⊢
  have hP : va_P D vwCl (wE10 cI cJ q0 ad0) H := hP
  have hD : va_D (fun q : Nat => s.heap.size ≤ q) (wE10 cI cJ q0 ad0) := hD
  refine W.widen (k := 64) (n := 1043) (Nat.le_of_ble_eq_true rfl) (Nat.le_of_ble_eq_true rfl) ?_
  refine lv_astore_n (lv' := [(1, .ref q0), (0, .ref b)]) hx hb dL_law_7 rfl hl (by decide) rfl (fun ls hl => ?_)
  refine va_new (ci := 11) (fs := [.int 0, .null, .null, .int 0, .null, .int 0, .null, .null, .int 0, .int 0]) (C := RX11) (T := TX11) (N := 10) hx hb hts (fun w h => (gw_wsX110 w h).1) tyX11 tyX11_ok hown (hts _ q_t726.1) (hts _ q_t727.1) (hts _ q_t12.1) hK.1 hP hD hS hA rfl (fun j hj => by rcases (show j = 0 ∨ j = 1 ∨ j = 2 ∨ j = 3 ∨ j = 4 ∨ j = 5 ∨ j = 6 ∨ j = 7 ∨ j = 8 ∨ j = 9 by omega) with rfl | rfl | rfl | rfl | rfl | rfl | rfl | rfl | rfl | rfl <;> rfl) (Nat.le_of_ble_eq_true rfl) (Nat.le_of_ble_eq_true rfl) dL_law_8 (fun q8 H hP hD hS => ?_)
  refine W.widen (k := 65) (n := 1053) (Nat.le_of_ble_eq_true rfl) (Nat.le_of_ble_eq_true rfl) ?_
  refine lv_dup hx hb dL_law_11 rfl ?_
  have hPc := hP.sub (ws' := [(q8, .inr (11, [.int 0, .null, .null, .int 0, .null, .int 0, .null, .null, .int 0, .int 0]))]) [64] rfl
  have hDc := hD.sub (ws' := [(q8, .inr (11, [.int 0, .null, .null, .int 0, .null, .int 0, .null, .null, .int 0, .int 0]))]) [64] (by decide) rfl
  have hFc := va_free (wc := [(q8, .inr (11, [.int 0, .null, .null, .int 0, .null, .int 0, .null, .null, .int 0, .int 0]))]) hD hS hA [64] rfl
  refine va_callv (va_runI (As := []) (rest := [.ref q8]) ⟨hx, hb, hml, hown, hts⟩ (k_X11_init l (D := D) (cI := cI) (cJ := cJ) q8 H.size) (cwI 0 hts gw_wsX11_init rfl rfl rfl (hts _ q_t12.1) (hts _ q_t728.1) (hts _ q_t729.1) rfl (by decide +kernel) ⟨Nat.le_of_ble_eq_true rfl, Nat.le_of_ble_eq_true rfl⟩) (preC_S hK hPc hDc) rfl rfl hl.1 rfl (lv_room (Nat.le_of_ble_eq_true rfl)) dL_law_12 ⟨Nat.le_of_ble_eq_true rfl, Nat.le_of_ble_eq_true rfl⟩) hS (fun q _ h => hFc q h) hFc (fun ad1 t H1 locs ht hvm hw hB hz1 hk1 hS => ?_)
  obtain ⟨hP1, hD1⟩ := hB
  rw [ht] at hP1
  obtain ⟨hP, hD⟩ := va_join (wr := wE10 cI cJ q0 ad0) (w1 := wE11 cI cJ q8 ad1) hP hD [64] [0, 1, 2, 3, 4, 5, 6, 7, 8, 9, 10, 11, 12, 13, 14, 15, 16, 17, 18, 19, 20, 21, 22, 23, 24, 25, 26, 27, 28, 29, 30, 31, 32, 33, 34, 35, 36, 37, 38, 39, 40, 41, 42, 43, 44, 45, 46, 47, 48, 49, 50, 51, 52, 53, 54, 55, 56, 57, 58, 59, 60, 61, 62, 63] rfl rfl (by decide +kernel) (by decide +kernel) hk1 hFc hP1 hD1
  generalize H1 = H at hP hS ⊢
  refine W.widen (k := 70) (n := 3383) (Nat.le_of_ble_eq_true rfl) (Nat.le_of_ble_eq_true rfl) ?_
  refine lv_astore_n (lv' := [(2, .ref q8), (1, .ref q0), (0, .ref b)]) hx hb dL_law_15 rfl hl (by decide) rfl (fun ls hl => ?_)
  refine lv_iconst (v := 0) hx hb dL_law_16 (by decide) ?_
  refine lv_istore_n (lv' := [(3, .int 0), (2, .ref q8), (1, .ref q0), (0, .ref b)]) hx hb dL_law_17 rfl hl (by decide) rfl (fun ls hl => ?_)
  have hP : va_P D vwCl (wA cI cJ (adl [q0, ad0 1, ad0 2, ad0 3, ad0 4, ad0 5, ad0 6, ad0 7, ad0 8, ad0 9, ad0 10, ad0 11, ad0 12, ad0 13, ad0 14, ad0 15, ad0 16, ad0 17, ad0 18, ad0 19, ad0 20, ad0 21, ad0 22, ad0 23, ad0 24, ad0 25, ad0 26, ad0 27, ad0 28, ad0 29, ad0 30, ad0 31, ad0 32, ad0 33, ad0 34, ad0 35, ad0 36, ad0 37, ad0 38, ad0 39, ad0 40, ad0 41, ad0 42, ad0 43, ad0 44, ad0 45, ad0 46, ad0 47, ad0 48, ad0 49, ad0 50, ad0 51, ad0 52, ad0 53, ad0 54, ad0 55, ad0 56, ad0 57, ad0 58, ad0 59, ad0 60, ad0 61, ad0 62, ad0 63, q8, ad1 1, ad1 2, ad1 3, ad1 4, ad1 5]) u00 v00) H := hP
  have hD : va_D (fun q : Nat => s.heap.size ≤ q) (wA cI cJ (adl [q0, ad0 1, ad0 2, ad0 3, ad0 4, ad0 5, ad0 6, ad0 7, ad0 8, ad0 9, ad0 10, ad0 11, ad0 12, ad0 13, ad0 14, ad0 15, ad0 16, ad0 17, ad0 18, ad0 19, ad0 20, ad0 21, ad0 22, ad0 23, ad0 24, ad0 25, ad0 26, ad0 27, ad0 28, ad0 29, ad0 30, ad0 31, ad0 32, ad0 33, ad0 34, ad0 35, ad0 36, ad0 37, ad0 38, ad0 39, ad0 40, ad0 41, ad0 42, ad0 43, ad0 44, ad0 45, ad0 46, ad0 47, ad0 48, ad0 49, ad0 50, ad0 51, ad0 52, ad0 53, ad0 54, ad0 55, ad0 56, ad0 57, ad0 58, ad0 59, ad0 60, ad0 61, ad0 62, ad0 63, q8, ad1 1, ad1 2, ad1 3, ad1 4, ad1 5]) u00 v00) := hD
  exact law_loop hL C0 hK (zD_of hD) (L + 1) 0 (Nat.zero_le L) (by omega) u00 v00 H locs ls Inv_0 hP hS (lv_sub hl [3, 2, 1, 0] rfl)
