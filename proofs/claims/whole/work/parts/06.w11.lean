abbrev rmX11_cost : Room := { frames := 6, cells := 0, slots := 0, locals := 142 }
set_option maxHeartbeats 4000000 in
set_option maxRecDepth 100000 in
theorem k_X11_cost (l : Launch) {D : va_G} {cI cJ : ClassId} {ad : Nat → Nat} {u : tU} {v : tV} {A : Nat → Prop} (hD : zD A cI cJ ad) {r : Int32} {uz : tU} {vz : tV} (h : pX11_cost u v  = some (r, uz, vz)) : Met l yX11_cost wsX11_cost rmX11_cost (va_Pc [.ref (ad 64)] (xPre D cI cJ (wA cI cJ ad u v))) (xWi D cI cJ ad A r uz vz) 0 0 A := by
  refine Met.ofW (cc := cX11_cost) (maxL := 3) (ret := (some .int)) (by decide) rfl ?_
  intro p e s m args below meth c s₁ B hml hv
  obtain ⟨rfl, hP, hK⟩ := hv
  have hx := B.exec
  have hb := B.bytes
  have hr := B.returns
  have hts := atoms_spec (ws := wsX11_cost) B.pre
  have hown : s.vm.findClass RX11 = some m.cls := findClass_of_methodNamed B.named
  have hlocks := B.notSynchronized
  have hS : va_S A s.heap s.heap [] := va_S.rf
  have hin11 : ∀ w ∈ u_ws RX11 TX11 10, w ∈ wsX11_cost := fun _ h => List.mem_cons_of_mem _ (List.mem_append_right _ h)
  have hw1 := hts (.fieldLink RX11 13 "InstallDeskModel" "book" "[I") (List.mem_of_getElem? (i := 1) rfl)
  have hw2 := hts (.fieldLink RX11 121 "InstallDeskModel" "cost" "I") (List.mem_of_getElem? (i := 2) rfl)
  have hl := lv_entry ([.ref (ad 64)]) (n := 3) (Nat.le_of_ble_eq_true rfl)
  rw [lg_entry_eq]
  generalize (lg_sl ([.ref (ad 64)]) ++ List.replicate (3 - (lg_sl ([.ref (ad 64)])).length) Slot.unset).toArray = ls at hl ⊢
  have hl : lv_has ls 3 [(0, .ref (ad 64))] := hl
  have L8 : ∀ (n : Nat) (x1 : Int32) (x2 : Int32) (u : tU) (v : tV) (H : Heap) (locs : List Loc) (ls : Array Slot) (o : Int32 × tU × tV), pX11_cost_L8 n x1 x2 u v = some o → va_P D vwCl (wA cI cJ ad u v) H → va_S A s.heap H locs → lv_has ls 3 [(0, .ref (ad 64)), (1, .int x1), (2, .int x2)] → (∀ (y1 : Int32) (u' : tU) (v' : tV) (H : Heap) (locs : List Loc) (ls : Array Slot), o = (y1, u', v') → va_P D vwCl (wA cI cJ ad u' v') H → va_S A s.heap H locs → lv_has ls 3 [(1, .int y1)] → W p l e (headSpec wsX11_cost rmX11_cost).room s m [Value.ref (ad 64)].toArray below meth c H locs 0 0 (MQ below (xWi D cI cJ ad A r uz vz) [Value.ref (ad 64)].toArray s 0 0 A) (F0 m 45 ls [])) → W p l e (headSpec wsX11_cost rmX11_cost).room s m [Value.ref (ad 64)].toArray below meth c H locs 0 0 (MQ below (xWi D cI cJ ad A r uz vz) [Value.ref (ad 64)].toArray s 0 0 A) (F0 m 8 ls []) := by
    intro n
    induction n with
    | zero => intro x1 x2 u v H locs ls o h; cases h
    | succ n ih =>
      intro x1 x2 u v H locs ls o h hP hS hl hk
      rw [pX11_cost_L8] at h
      refine lv_iload_n hx hb dX11_cost_8 rfl (lv_at hl 2 rfl) ?_
      refine lv_aload_n hx hb dX11_cost_9 rfl (lv_at hl 0 rfl) ?_
      refine za_getr (k := 2) hx hb hts hin11 hown hK hP zF_64_2 rfl (Nat.le_of_ble_eq_true rfl) (Or.inl hw1) dX11_cost_10 ?_
      refine lv_iconst (v := (0 : Int32)) hx hb dX11_cost_13 (by decide) ?_
      refine za_ildc (j := 0) hx hb hK hP zI_66 (by unfold vp_in; decide) rfl dX11_cost_14 ?_
      refine lv_icmp_ge (tgt := 45) hx hb dX11_cost_15 (by decide) (fun c1 => ?_) (fun c1 => ?_)
      · have h := vz_t c1 h
        cases h
        exact hk x1 u v _ _ ls rfl hP hS (lv_sub hl [1] rfl)
      · have h := vz_f c1 h
        refine lv_aload_n hx hb dX11_cost_18 rfl (lv_at hl 0 rfl) ?_
        refine lv_iload_n hx hb dX11_cost_19 rfl (lv_at hl 2 rfl) ?_
        refine lv_aload_n hx hb dX11_cost_20 rfl (lv_at hl 0 rfl) ?_
        refine za_getr (k := 2) hx hb hts hin11 hown hK hP zF_64_2 rfl (Nat.le_of_ble_eq_true rfl) (Or.inl hw1) dX11_cost_21 ?_
        refine lv_bipush (v := (6 : Int32)) hx hb dX11_cost_24 (by decide) ?_
        refine za_ildc (j := 6) hx hb hK hP zI_66 (by unfold vp_in; decide) rfl dX11_cost_26 ?_
        refine lv_iconst (v := (-1 : Int32)) hx hb dX11_cost_27 (by decide) ?_
        refine lv_iconst (v := (-1 : Int32)) hx hb dX11_cost_28 (by decide) ?_
        obtain ⟨⟨u3, v4⟩, hc2, h⟩ := vz_b h
        try dsimp only at h
        refine za_callWv (va_runV (As := [.int x2, .int (u 4 6), .int (-1 : Int32), .int (-1 : Int32)]) (rest := []) ⟨hx, hb, hml, hown, hts⟩ (k_X11_match l (D := D) (cI := cI) (cJ := cJ) (ad := ad) hD hc2) (cwV 4 hts gX11_cost_X11_match rfl rfl rfl ⟨rfl, zd_X11_match⟩ ⟨Nat.le_of_ble_eq_true rfl, Nat.le_of_ble_eq_true rfl⟩) (xPreV (ci := 11) hK hP rfl zO_64) rfl rfl hl.1 rfl (lv_room (Nat.le_of_ble_eq_true rfl)) dX11_cost_29 ⟨Nat.zero_le _, Nat.zero_le _⟩) hS (fun H locs hP hS => ?_)
        refine lv_iload_n hx hb dX11_cost_32 rfl (lv_at hl 1 rfl) ?_
        refine lv_aload_n hx hb dX11_cost_33 rfl (lv_at hl 0 rfl) ?_
        refine za_geti (k := 9) hx hb hts hin11 hown hK hP zF_64_9 rfl (Nat.le_of_ble_eq_true rfl) (Or.inl hw2) dX11_cost_34 ?_
        refine lv_iadd hx hb dX11_cost_37 ?_
        refine lv_istore_n (lv' := [(1, .int (x1 + (u3 0 9))), (0, .ref (ad 64)), (2, .int x2)]) hx hb dX11_cost_38 rfl hl (by decide) rfl (fun ls hl => ?_)
        refine lv_iinc (v := (x2 + 1)) (lv' := [(2, .int (x2 + 1)), (1, .int (x1 + (u3 0 9))), (0, .ref (ad 64))]) hx hb dX11_cost_39 hl (k := 2) rfl rfl (by decide) rfl (fun ls hl => ?_)
        refine lv_goto (tgt := 8) hx hb dX11_cost_42 (by decide) ?_
        exact ih (x1 + (u3 0 9)) (x2 + 1) u3 v4 _ _ ls o h hP hS (lv_sub hl [2, 1, 0] rfl) hk
  rw [pX11_cost] at h
  refine lv_aload_n hx hb dX11_cost_0 rfl (lv_at hl 0 rfl) ?_
  obtain ⟨⟨u7, v8⟩, hc6, h⟩ := vz_b h
  try dsimp only at h
  refine za_callWv (va_runV (As := []) (rest := []) ⟨hx, hb, hml, hown, hts⟩ (k_X11_tellHad l (D := D) (cI := cI) (cJ := cJ) (ad := ad) hD hc6) (cwV 0 hts gX11_cost_X11_tellHad rfl rfl rfl ⟨rfl, zd_X11_tellHad⟩ ⟨Nat.le_of_ble_eq_true rfl, Nat.le_of_ble_eq_true rfl⟩) (xPreV (ci := 11) hK hP rfl zO_64) rfl rfl hl.1 rfl (lv_room (Nat.le_of_ble_eq_true rfl)) dX11_cost_1 ⟨Nat.zero_le _, Nat.zero_le _⟩) hS (fun H locs hP hS => ?_)
  refine lv_iconst (v := (0 : Int32)) hx hb dX11_cost_4 (by decide) ?_
  refine lv_istore_n (lv' := [(1, .int (0 : Int32)), (0, .ref (ad 64))]) hx hb dX11_cost_5 rfl hl (by decide) rfl (fun ls hl => ?_)
  refine lv_iconst (v := (0 : Int32)) hx hb dX11_cost_6 (by decide) ?_
  refine lv_istore_n (lv' := [(2, .int (0 : Int32)), (1, .int (0 : Int32)), (0, .ref (ad 64))]) hx hb dX11_cost_7 rfl hl (by decide) rfl (fun ls hl => ?_)
  obtain ⟨o10, hL11, h⟩ := vz_b h
  refine L8 fuel (0 : Int32) (0 : Int32) u7 v8 _ _ ls o10 hL11 hP hS (lv_sub hl [2, 1, 0] rfl) (fun y13 u14 v15 H locs ls e12 hP hS hl => ?_)
  try rw [e12] at h
  try dsimp only at h
  refine lv_iload_n hx hb dX11_cost_45 rfl (lv_at hl 0 rfl) ?_
  cases h
  exact W.iret hx hb hr (fun t ht _ => ⟨rfl, by rw [ht]; exact hP, hS.F ht⟩) hS.2.2 dX11_cost_46
abbrev rmX11_counts : Room := { frames := 5, cells := 0, slots := 0, locals := 120 }
set_option maxHeartbeats 4000000 in
set_option maxRecDepth 100000 in
theorem k_X11_counts (l : Launch) {D : va_G} {cI cJ : ClassId} {ad : Nat → Nat} {u : tU} {v : tV} {A : Nat → Prop} (hD : zD A cI cJ ad) {a1 : Int32}  {r : Int32} {uz : tU} {vz : tV} (h : pX11_counts u v a1 = some (r, uz, vz)) : Met l yX11_counts wsX11_counts rmX11_counts (va_Pc [.ref (ad 64), .int a1] (xPre D cI cJ (wA cI cJ ad u v))) (xWi D cI cJ ad A r uz vz) 0 0 A := by
  refine Met.ofW (cc := cX11_counts) (maxL := 2) (ret := (some .int)) (by decide) rfl ?_
  intro p e s m args below meth c s₁ B hml hv
  obtain ⟨rfl, hP, hK⟩ := hv
  have hx := B.exec
  have hb := B.bytes
  have hr := B.returns
  have hts := atoms_spec (ws := wsX11_counts) B.pre
  have hown : s.vm.findClass RX11 = some m.cls := findClass_of_methodNamed B.named
  have hlocks := B.notSynchronized
  have hS : va_S A s.heap s.heap [] := va_S.rf
  have hl := lv_entry ([.ref (ad 64), .int a1]) (n := 2) (Nat.le_of_ble_eq_true rfl)
  rw [lg_entry_eq]
  generalize (lg_sl ([.ref (ad 64), .int a1]) ++ List.replicate (2 - (lg_sl ([.ref (ad 64), .int a1])).length) Slot.unset).toArray = ls at hl ⊢
  have hl : lv_has ls 2 [(0, .ref (ad 64)), (1, .int a1)] := hl
  rw [pX11_counts] at h
  refine lv_aload_n hx hb dX11_counts_0 rfl (lv_at hl 0 rfl) ?_
  refine lv_iload_n hx hb dX11_counts_1 rfl (lv_at hl 1 rfl) ?_
  obtain ⟨r2, hc1, h⟩ := vz_b h
  refine za_callR (va_runV (As := [.int a1]) (rest := []) ⟨hx, hb, hml, hown, hts⟩ (k_X11_isFind l (D := D) (cI := cI) (cJ := cJ) (ad := ad) hc1) (cwV 1 hts gX11_counts_X11_isFind rfl rfl rfl ⟨rfl, zd_X11_isFind⟩ ⟨Nat.le_of_ble_eq_true rfl, Nat.le_of_ble_eq_true rfl⟩) (xPreV (ci := 11) hK hP rfl zO_64) rfl rfl hl.1 rfl (lv_room (Nat.le_of_ble_eq_true rfl)) dX11_counts_2 ⟨Nat.zero_le _, Nat.zero_le _⟩) ?_
  refine lv_if_ne (tgt := 16) hx hb dX11_counts_5 (by decide) (fun c3 => ?_) (fun c3 => ?_)
  · have h := vz_f c3 h
    refine lv_aload_n hx hb dX11_counts_16 rfl (lv_at hl 0 rfl) ?_
    refine lv_iload_n hx hb dX11_counts_17 rfl (lv_at hl 1 rfl) ?_
    obtain ⟨r5, hc4, h⟩ := vz_b h
    refine za_callR (va_runV (As := [.int a1]) (rest := []) ⟨hx, hb, hml, hown, hts⟩ (k_X11_isFresh l (D := D) (cI := cI) (cJ := cJ) (ad := ad) hc4) (cwV 1 hts gX11_counts_X11_isFresh rfl rfl rfl ⟨rfl, zd_X11_isFresh⟩ ⟨Nat.le_of_ble_eq_true rfl, Nat.le_of_ble_eq_true rfl⟩) (xPreV (ci := 11) hK hP rfl zO_64) rfl rfl hl.1 rfl (lv_room (Nat.le_of_ble_eq_true rfl)) dX11_counts_18 ⟨Nat.zero_le _, Nat.zero_le _⟩) ?_
    refine lv_if_eq (tgt := 28) hx hb dX11_counts_21 (by decide) (fun c6 => ?_) (fun c6 => ?_)
    · have h := vz_t c6 h
      refine lv_iconst (v := (0 : Int32)) hx hb dX11_counts_28 (by decide) ?_
      cases h
      exact W.iret hx hb hr (fun t ht _ => ⟨rfl, by rw [ht]; exact hP, hS.F ht⟩) hS.2.2 dX11_counts_29
    · have h := vz_f c6 h
      refine lv_iconst (v := (1 : Int32)) hx hb dX11_counts_24 (by decide) ?_
      refine lv_goto (tgt := 29) hx hb dX11_counts_25 (by decide) ?_
      cases h
      exact W.iret hx hb hr (fun t ht _ => ⟨rfl, by rw [ht]; exact hP, hS.F ht⟩) hS.2.2 dX11_counts_29
  · have h := vz_t c3 h
    refine lv_aload_n hx hb dX11_counts_8 rfl (lv_at hl 0 rfl) ?_
    refine lv_iconst (v := (-1 : Int32)) hx hb dX11_counts_9 (by decide) ?_
    obtain ⟨⟨r11, u8, v9⟩, hc7, h⟩ := vz_b h
    try dsimp only at h
    refine za_callWi (va_runV (As := [.int (-1 : Int32)]) (rest := []) ⟨hx, hb, hml, hown, hts⟩ (k_X11_finding l (D := D) (cI := cI) (cJ := cJ) (ad := ad) hD hc7) (cwV 1 hts gX11_counts_X11_finding rfl rfl rfl ⟨rfl, zd_X11_finding⟩ ⟨Nat.le_of_ble_eq_true rfl, Nat.le_of_ble_eq_true rfl⟩) (xPreV (ci := 11) hK hP rfl zO_64) rfl rfl hl.1 rfl (lv_room (Nat.le_of_ble_eq_true rfl)) dX11_counts_10 ⟨Nat.zero_le _, Nat.zero_le _⟩) hS (fun H locs hP hS => ?_)
    refine lv_goto (tgt := 29) hx hb dX11_counts_13 (by decide) ?_
    cases h
    exact W.iret hx hb hr (fun t ht _ => ⟨rfl, by rw [ht]; exact hP, hS.F ht⟩) hS.2.2 dX11_counts_29
abbrev rmX11_remove : Room := { frames := 0, cells := 0, slots := 0, locals := 0 }
set_option maxHeartbeats 4000000 in
set_option maxRecDepth 100000 in
theorem k_X11_remove (l : Launch) {D : va_G} {cI cJ : ClassId} {ad : Nat → Nat} {u : tU} {v : tV} {A : Nat → Prop} (hD : zD A cI cJ ad) {a1 : Int32} {a2 : Int32} {a3 : Int32} {a4 : Int32}  {uz : tU} {vz : tV} (h : pX11_remove u v a1 a2 a3 a4 = some (uz, vz)) : Met l yX11_remove wsX11_remove rmX11_remove (va_Pc [.ref (ad 64), .int a1, .int a2, .int a3, .int a4] (xPre D cI cJ (wA cI cJ ad u v))) (xWv D cI cJ ad A uz vz) 0 0 A := by
  refine Met.ofW (cc := cX11_remove) (maxL := 6) (ret := none) (by decide) rfl ?_
  intro p e s m args below meth c s₁ B hml hv
  obtain ⟨rfl, hP, hK⟩ := hv
  have hx := B.exec
  have hb := B.bytes
  have hr := B.returns
  have hts := atoms_spec (ws := wsX11_remove) B.pre
  have hown : s.vm.findClass RX11 = some m.cls := findClass_of_methodNamed B.named
  have hlocks := B.notSynchronized
  have hS : va_S A s.heap s.heap [] := va_S.rf
  have hin11 : ∀ w ∈ u_ws RX11 TX11 10, w ∈ wsX11_remove := fun _ h => List.mem_cons_of_mem _ (List.mem_append_right _ h)
  have hw1 := hts (.fieldLink RX11 13 "InstallDeskModel" "book" "[I") (List.mem_of_getElem? (i := 1) rfl)
  have hl := lv_entry ([.ref (ad 64), .int a1, .int a2, .int a3, .int a4]) (n := 6) (Nat.le_of_ble_eq_true rfl)
  rw [lg_entry_eq]
  generalize (lg_sl ([.ref (ad 64), .int a1, .int a2, .int a3, .int a4]) ++ List.replicate (6 - (lg_sl ([.ref (ad 64), .int a1, .int a2, .int a3, .int a4])).length) Slot.unset).toArray = ls at hl ⊢
  have hl : lv_has ls 6 [(0, .ref (ad 64)), (1, .int a1), (2, .int a2), (3, .int a3), (4, .int a4)] := hl
  have L7 : ∀ (x1 : Int32) (x2 : Int32) (x4 : Int32) (n : Nat) (x5 : Int32) (u : tU) (v : tV) (H : Heap) (locs : List Loc) (ls : Array Slot) (o : tU × tV), pX11_remove_L7 x1 x2 x4 n x5 u v = some o → va_P D vwCl (wA cI cJ ad u v) H → va_S A s.heap H locs → lv_has ls 6 [(0, .ref (ad 64)), (1, .int x1), (2, .int x2), (4, .int x4), (5, .int x5)] → (∀ (u' : tU) (v' : tV) (H : Heap) (locs : List Loc) (ls : Array Slot), o = (u', v') → va_P D vwCl (wA cI cJ ad u' v') H → va_S A s.heap H locs → lv_has ls 6 [] → W p l e (headSpec wsX11_remove rmX11_remove).room s m [Value.ref (ad 64), Value.int a1, Value.int a2, Value.int a3, Value.int a4].toArray below meth c H locs 0 0 (MQ below (xWv D cI cJ ad A uz vz) [Value.ref (ad 64), Value.int a1, Value.int a2, Value.int a3, Value.int a4].toArray s 0 0 A) (F0 m 42 ls [])) → W p l e (headSpec wsX11_remove rmX11_remove).room s m [Value.ref (ad 64), Value.int a1, Value.int a2, Value.int a3, Value.int a4].toArray below meth c H locs 0 0 (MQ below (xWv D cI cJ ad A uz vz) [Value.ref (ad 64), Value.int a1, Value.int a2, Value.int a3, Value.int a4].toArray s 0 0 A) (F0 m 7 ls []) := by
    intro x1 x2 x4 n
    induction n with
    | zero => intro x5 u v H locs ls o h; cases h
    | succ n ih =>
      intro x5 u v H locs ls o h hP hS hl hk
      rw [pX11_remove_L7] at h
      refine lv_iload hx hb dX11_remove_7 (lv_at hl 4 rfl) ?_
      refine lv_iload_n hx hb dX11_remove_9 rfl (lv_at hl 1 rfl) ?_
      refine lv_iload_n hx hb dX11_remove_10 rfl (lv_at hl 2 rfl) ?_
      refine lv_iload hx hb dX11_remove_11 (lv_at hl 3 rfl) ?_
      refine lv_iconst (v := (1 : Int32)) hx hb dX11_remove_13 (by decide) ?_
      refine lv_isub hx hb dX11_remove_14 ?_
      refine lv_imul hx hb dX11_remove_15 ?_
      refine lv_iadd hx hb dX11_remove_16 ?_
      refine lv_icmp_ge (tgt := 42) hx hb dX11_remove_17 (by decide) (fun c1 => ?_) (fun c1 => ?_)
      · have h := vz_t c1 h
        cases h
        exact hk u v _ _ ls rfl hP hS (lv_sub hl [] rfl)
      · have h := vz_f c1 h
        refine lv_aload_n hx hb dX11_remove_20 rfl (lv_at hl 0 rfl) ?_
        refine za_getr (k := 2) hx hb hts hin11 hown hK hP zF_64_2 rfl (Nat.le_of_ble_eq_true rfl) (Or.inl hw1) dX11_remove_21 ?_
        refine lv_iload hx hb dX11_remove_24 (lv_at hl 4 rfl) ?_
        refine lv_aload_n hx hb dX11_remove_26 rfl (lv_at hl 0 rfl) ?_
        refine za_getr (k := 2) hx hb hts hin11 hown hK hP zF_64_2 rfl (Nat.le_of_ble_eq_true rfl) (Or.inl hw1) dX11_remove_27 ?_
        refine lv_iload hx hb dX11_remove_30 (lv_at hl 4 rfl) ?_
        refine lv_iload_n hx hb dX11_remove_32 rfl (lv_at hl 2 rfl) ?_
        refine lv_iadd hx hb dX11_remove_33 ?_
        obtain ⟨g2, h⟩ := gd_s h
        refine za_ild hx hb hK hP zI_66 g2 dX11_remove_34 ?_
        obtain ⟨g3, h⟩ := gd_s h
        refine za_ist hx hb hK hP hD hS zI_66 g3 dX11_remove_35 (fun H locs hP hS => ?_)
        refine lv_iinc (v := (x5 + 1)) (lv' := [(5, .int (x5 + 1)), (0, .ref (ad 64)), (1, .int x1), (2, .int x2), (4, .int x4)]) hx hb dX11_remove_36 hl (k := 4) rfl rfl (by decide) rfl (fun ls hl => ?_)
        refine lv_goto (tgt := 7) hx hb dX11_remove_39 (by decide) ?_
        exact ih (x5 + 1) (sU u 4 x5.toNatClampNeg (u 4 (x5 + x2).toNatClampNeg)) v _ _ ls o h hP hS (lv_sub hl [1, 2, 3, 4, 0] rfl) hk
  rw [pX11_remove] at h
  refine lv_iload_n hx hb dX11_remove_0 rfl (lv_at hl 1 rfl) ?_
  refine lv_iload_n hx hb dX11_remove_1 rfl (lv_at hl 2 rfl) ?_
  refine lv_iload_n hx hb dX11_remove_2 rfl (lv_at hl 3 rfl) ?_
  refine lv_imul hx hb dX11_remove_3 ?_
  refine lv_iadd hx hb dX11_remove_4 ?_
  refine lv_istore (lv' := [(5, .int (a1 + (a2 * a3))), (0, .ref (ad 64)), (1, .int a1), (2, .int a2), (3, .int a3), (4, .int a4)]) hx hb dX11_remove_5 hl (by decide) rfl (fun ls hl => ?_)
  obtain ⟨o4, hL5, h⟩ := vz_b h
  refine L7 a1 a2 a4 fuel (a1 + (a2 * a3)) u v _ _ ls o4 hL5 hP hS (lv_sub hl [1, 2, 3, 5, 0] rfl) (fun u7 v8 H locs ls e6 hP hS hl => ?_)
  try rw [e6] at h
  try dsimp only at h
  cases h
  exact W.vret hx hb hr (fun t ht _ => ⟨rfl, by rw [ht]; exact hP, hS.F ht⟩) hS.2.2 dX11_remove_42
abbrev rmX11_drop : Room := { frames := 1, cells := 0, slots := 0, locals := 25 }
set_option maxHeartbeats 4000000 in
set_option maxRecDepth 100000 in
theorem k_X11_drop (l : Launch) {D : va_G} {cI cJ : ClassId} {ad : Nat → Nat} {u : tU} {v : tV} {A : Nat → Prop} (hD : zD A cI cJ ad) {a1 : Int32}  {r : Int32} {uz : tU} {vz : tV} (h : pX11_drop u v a1 = some (r, uz, vz)) : Met l yX11_drop wsX11_drop rmX11_drop (va_Pc [.ref (ad 64), .int a1] (xPre D cI cJ (wA cI cJ ad u v))) (xWi D cI cJ ad A r uz vz) 0 0 A := by
  refine Met.ofW (cc := cX11_drop) (maxL := 2) (ret := (some .int)) (by decide) rfl ?_
  intro p e s m args below meth c s₁ B hml hv
  obtain ⟨rfl, hP, hK⟩ := hv
  have hx := B.exec
  have hb := B.bytes
  have hr := B.returns
  have hts := atoms_spec (ws := wsX11_drop) B.pre
  have hown : s.vm.findClass RX11 = some m.cls := findClass_of_methodNamed B.named
  have hlocks := B.notSynchronized
  have hS : va_S A s.heap s.heap [] := va_S.rf
  have hin11 : ∀ w ∈ u_ws RX11 TX11 10, w ∈ wsX11_drop := fun _ h => List.mem_cons_of_mem _ (List.mem_append_right _ h)
  have hw1 := hts (.fieldLink RX11 13 "InstallDeskModel" "book" "[I") (List.mem_of_getElem? (i := 1) rfl)
  have hl := lv_entry ([.ref (ad 64), .int a1]) (n := 2) (Nat.le_of_ble_eq_true rfl)
  rw [lg_entry_eq]
  generalize (lg_sl ([.ref (ad 64), .int a1]) ++ List.replicate (2 - (lg_sl ([.ref (ad 64), .int a1])).length) Slot.unset).toArray = ls at hl ⊢
  have hl : lv_has ls 2 [(0, .ref (ad 64)), (1, .int a1)] := hl
  rw [pX11_drop] at h
  refine lv_aload_n hx hb dX11_drop_0 rfl (lv_at hl 0 rfl) ?_
  refine lv_iload_n hx hb dX11_drop_1 rfl (lv_at hl 1 rfl) ?_
  obtain ⟨r2, hc1, h⟩ := vz_b h
  refine za_callR (va_runV (As := [.int a1]) (rest := []) ⟨hx, hb, hml, hown, hts⟩ (k_X11_isFind l (D := D) (cI := cI) (cJ := cJ) (ad := ad) hc1) (cwV 1 hts gX11_drop_X11_isFind rfl rfl rfl ⟨rfl, zd_X11_isFind⟩ ⟨Nat.le_of_ble_eq_true rfl, Nat.le_of_ble_eq_true rfl⟩) (xPreV (ci := 11) hK hP rfl zO_64) rfl rfl hl.1 rfl (lv_room (Nat.le_of_ble_eq_true rfl)) dX11_drop_2 ⟨Nat.zero_le _, Nat.zero_le _⟩) ?_
  refine lv_if_ne (tgt := 14) hx hb dX11_drop_5 (by decide) (fun c3 => ?_) (fun c3 => ?_)
  · have h := vz_f c3 h
    refine lv_aload_n hx hb dX11_drop_14 rfl (lv_at hl 0 rfl) ?_
    refine lv_sipush (v := (294 : Int32)) hx hb dX11_drop_15 (by decide) ?_
    refine lv_bipush (v := (16 : Int32)) hx hb dX11_drop_18 (by decide) ?_
    refine lv_iload_n hx hb dX11_drop_20 rfl (lv_at hl 1 rfl) ?_
    refine lv_aload_n hx hb dX11_drop_21 rfl (lv_at hl 0 rfl) ?_
    refine za_getr (k := 2) hx hb hts hin11 hown hK hP zF_64_2 rfl (Nat.le_of_ble_eq_true rfl) (Or.inl hw1) dX11_drop_22 ?_
    refine lv_iconst (v := (3 : Int32)) hx hb dX11_drop_25 (by decide) ?_
    refine za_ildc (j := 3) hx hb hK hP zI_66 (by unfold vp_in; decide) rfl dX11_drop_26 ?_
    obtain ⟨⟨u5, v6⟩, hc4, h⟩ := vz_b h
    try dsimp only at h
    refine za_callWv (va_runV (As := [.int (294 : Int32), .int (16 : Int32), .int a1, .int (u 4 3)]) (rest := []) ⟨hx, hb, hml, hown, hts⟩ (k_X11_remove l (D := D) (cI := cI) (cJ := cJ) (ad := ad) hD hc4) (cwV 4 hts gX11_drop_X11_remove rfl rfl rfl ⟨rfl, zd_X11_remove⟩ ⟨Nat.le_of_ble_eq_true rfl, Nat.le_of_ble_eq_true rfl⟩) (xPreV (ci := 11) hK hP rfl zO_64) rfl rfl hl.1 rfl (lv_room (Nat.le_of_ble_eq_true rfl)) dX11_drop_27 ⟨Nat.zero_le _, Nat.zero_le _⟩) hS (fun H locs hP hS => ?_)
    refine lv_aload_n hx hb dX11_drop_30 rfl (lv_at hl 0 rfl) ?_
    refine za_getr (k := 2) hx hb hts hin11 hown hK hP zF_64_2 rfl (Nat.le_of_ble_eq_true rfl) (Or.inl hw1) dX11_drop_31 ?_
    refine lv_iconst (v := (3 : Int32)) hx hb dX11_drop_34 (by decide) ?_
    refine lv_dup2_11 hx hb dX11_drop_35 rfl rfl ?_
    refine za_ildc (j := 3) hx hb hK hP zI_66 (by unfold vp_in; decide) rfl dX11_drop_36 ?_
    refine lv_iconst (v := (1 : Int32)) hx hb dX11_drop_37 (by decide) ?_
    refine lv_isub hx hb dX11_drop_38 ?_
    refine za_istc (j := 3) hx hb hK hP hD hS zI_66 (by unfold vp_in; decide) rfl dX11_drop_39 (fun H locs hP hS => ?_)
    refine lv_aload_n hx hb dX11_drop_40 rfl (lv_at hl 0 rfl) ?_
    refine za_getr (k := 2) hx hb hts hin11 hown hK hP zF_64_2 rfl (Nat.le_of_ble_eq_true rfl) (Or.inl hw1) dX11_drop_41 ?_
    refine lv_iconst (v := (3 : Int32)) hx hb dX11_drop_44 (by decide) ?_
    refine za_ildc (j := 3) hx hb hK hP zI_66 (by unfold vp_in; decide) rfl dX11_drop_45 ?_
    cases h
    exact W.iret hx hb hr (fun t ht _ => ⟨rfl, by rw [ht]; exact hP, hS.F ht⟩) hS.2.2 dX11_drop_46
  · have h := vz_t c3 h
    refine lv_aload_n hx hb dX11_drop_8 rfl (lv_at hl 0 rfl) ?_
    refine lv_iconst (v := (-1 : Int32)) hx hb dX11_drop_9 (by decide) ?_
    obtain ⟨⟨r12, u9, v10⟩, hc8, h⟩ := vz_b h
    try dsimp only at h
    refine za_callWi (va_runV (As := [.int (-1 : Int32)]) (rest := []) ⟨hx, hb, hml, hown, hts⟩ (k_X11_finding l (D := D) (cI := cI) (cJ := cJ) (ad := ad) hD hc8) (cwV 1 hts gX11_drop_X11_finding rfl rfl rfl ⟨rfl, zd_X11_finding⟩ ⟨Nat.le_of_ble_eq_true rfl, Nat.le_of_ble_eq_true rfl⟩) (xPreV (ci := 11) hK hP rfl zO_64) rfl rfl hl.1 rfl (lv_room (Nat.le_of_ble_eq_true rfl)) dX11_drop_10 ⟨Nat.zero_le _, Nat.zero_le _⟩) hS (fun H locs hP hS => ?_)
    cases h
    exact W.iret hx hb hr (fun t ht _ => ⟨rfl, by rw [ht]; exact hP, hS.F ht⟩) hS.2.2 dX11_drop_13
abbrev rmX11_isHost : Room := { frames := 0, cells := 0, slots := 0, locals := 0 }
set_option maxHeartbeats 4000000 in
set_option maxRecDepth 100000 in
theorem k_X11_isHost (l : Launch) {D : va_G} {cI cJ : ClassId} {ad : Nat → Nat} {u : tU} {v : tV} {a1 : Int32}  {r : Int32}  (h : pX11_isHost u v a1 = some r) : Met l yX11_isHost wsX11_isHost rmX11_isHost (va_Pc [.ref (ad 64), .int a1] (xPre D cI cJ (wA cI cJ ad u v))) (QcRead r) 0 0 (fun _ => False) := by
  refine Met.ofW (cc := cX11_isHost) (maxL := 2) (ret := (some .boolean)) (by decide) rfl ?_
  intro p e s m args below meth c s₁ B hml hv
  obtain ⟨rfl, hP, hK⟩ := hv
  have hx := B.exec
  have hb := B.bytes
  have hr := B.returns
  have hts := atoms_spec (ws := wsX11_isHost) B.pre
  have hown : s.vm.findClass RX11 = some m.cls := findClass_of_methodNamed B.named
  have hlocks := B.notSynchronized
  have hin11 : ∀ w ∈ u_ws RX11 TX11 10, w ∈ wsX11_isHost := fun _ h => List.mem_cons_of_mem _ (List.mem_append_right _ h)
  have hw1 := hts (.fieldLink RX11 13 "InstallDeskModel" "book" "[I") (List.mem_of_getElem? (i := 1) rfl)
  have hl := lv_entry ([.ref (ad 64), .int a1]) (n := 2) (Nat.le_of_ble_eq_true rfl)
  rw [lg_entry_eq]
  generalize (lg_sl ([.ref (ad 64), .int a1]) ++ List.replicate (2 - (lg_sl ([.ref (ad 64), .int a1])).length) Slot.unset).toArray = ls at hl ⊢
  have hl : lv_has ls 2 [(0, .ref (ad 64)), (1, .int a1)] := hl
  rw [pX11_isHost] at h
  refine lv_iload_n hx hb dX11_isHost_0 rfl (lv_at hl 1 rfl) ?_
  refine lv_if_lt (tgt := 18) hx hb dX11_isHost_1 (by decide) (fun c1 => ?_) (fun c1 => ?_)
  · have h := vz_t c1 h
    refine lv_iconst (v := (0 : Int32)) hx hb dX11_isHost_18 (by decide) ?_
    cases h
    exact W.zret hx hb hr nb0 (fun t ht _ => ⟨rfl, ht⟩) (fun q hq => absurd hq List.not_mem_nil) dX11_isHost_19
  · have h := vz_f c1 h
    refine lv_iload_n hx hb dX11_isHost_4 rfl (lv_at hl 1 rfl) ?_
    refine lv_aload_n hx hb dX11_isHost_5 rfl (lv_at hl 0 rfl) ?_
    refine za_getr (k := 2) hx hb hts hin11 hown hK hP zF_64_2 rfl (Nat.le_of_ble_eq_true rfl) (Or.inl hw1) dX11_isHost_6 ?_
    refine lv_iconst (v := (2 : Int32)) hx hb dX11_isHost_9 (by decide) ?_
    refine za_ildc (j := 2) hx hb hK hP zI_66 (by unfold vp_in; decide) rfl dX11_isHost_10 ?_
    refine lv_icmp_ge (tgt := 18) hx hb dX11_isHost_11 (by decide) (fun c2 => ?_) (fun c2 => ?_)
    · have h := vz_t c2 h
      refine lv_iconst (v := (0 : Int32)) hx hb dX11_isHost_18 (by decide) ?_
      cases h
      exact W.zret hx hb hr nb0 (fun t ht _ => ⟨rfl, ht⟩) (fun q hq => absurd hq List.not_mem_nil) dX11_isHost_19
    · have h := vz_f c2 h
      refine lv_iconst (v := (1 : Int32)) hx hb dX11_isHost_14 (by decide) ?_
      refine lv_goto (tgt := 19) hx hb dX11_isHost_15 (by decide) ?_
      cases h
      exact W.zret hx hb hr nb1 (fun t ht _ => ⟨rfl, ht⟩) (fun q hq => absurd hq List.not_mem_nil) dX11_isHost_19
abbrev rmX11_hasSign : Room := { frames := 0, cells := 0, slots := 0, locals := 0 }
set_option maxHeartbeats 4000000 in
set_option maxRecDepth 100000 in
theorem k_X11_hasSign (l : Launch) {D : va_G} {cI cJ : ClassId} {ad : Nat → Nat} {u : tU} {v : tV} {a1 : Int32} {a2 : Int32}  {r : Int32}  (h : pX11_hasSign u v a1 a2 = some r) : Met l yX11_hasSign wsX11_hasSign rmX11_hasSign (va_Pc [.ref (ad 64), .int a1, .int a2] (xPre D cI cJ (wA cI cJ ad u v))) (QcRead r) 0 0 (fun _ => False) := by
  refine Met.ofW (cc := cX11_hasSign) (maxL := 5) (ret := (some .boolean)) (by decide) rfl ?_
  intro p e s m args below meth c s₁ B hml hv
  obtain ⟨rfl, hP, hK⟩ := hv
  have hx := B.exec
  have hb := B.bytes
  have hr := B.returns
  have hts := atoms_spec (ws := wsX11_hasSign) B.pre
  have hown : s.vm.findClass RX11 = some m.cls := findClass_of_methodNamed B.named
  have hlocks := B.notSynchronized
  have hin11 : ∀ w ∈ u_ws RX11 TX11 10, w ∈ wsX11_hasSign := fun _ h => List.mem_cons_of_mem _ (List.mem_append_right _ h)
  have hw1 := hts (.fieldLink RX11 7 "InstallDeskModel" "waiting" "[I") (List.mem_of_getElem? (i := 1) rfl)
  have hl := lv_entry ([.ref (ad 64), .int a1, .int a2]) (n := 5) (Nat.le_of_ble_eq_true rfl)
  rw [lg_entry_eq]
  generalize (lg_sl ([.ref (ad 64), .int a1, .int a2]) ++ List.replicate (5 - (lg_sl ([.ref (ad 64), .int a1, .int a2])).length) Slot.unset).toArray = ls at hl ⊢
  have hl : lv_has ls 5 [(0, .ref (ad 64)), (1, .int a1), (2, .int a2)] := hl
  have L5 : ∀ (x1 : Int32) (x2 : Int32) (n : Nat) (x3 : Int32) (x4 : Int32) (ls : Array Slot) (o : Int32), pX11_hasSign_L5 u v x1 x2 n x3 x4 = some o → lv_has ls 5 [(0, .ref (ad 64)), (1, .int x1), (2, .int x2), (3, .int x3), (4, .int x4)] → (∀ (y3 : Int32) (ls : Array Slot), o = y3 → lv_has ls 5 [(3, .int y3)] → W p l e (headSpec wsX11_hasSign rmX11_hasSign).room s m [Value.ref (ad 64), Value.int a1, Value.int a2].toArray below meth c s.heap [] 0 0 (MQ below (QcRead r) [Value.ref (ad 64), Value.int a1, Value.int a2].toArray s 0 0 (fun _ => False)) (F0 m 36 ls [])) → W p l e (headSpec wsX11_hasSign rmX11_hasSign).room s m [Value.ref (ad 64), Value.int a1, Value.int a2].toArray below meth c s.heap [] 0 0 (MQ below (QcRead r) [Value.ref (ad 64), Value.int a1, Value.int a2].toArray s 0 0 (fun _ => False)) (F0 m 5 ls []) := by
    intro x1 x2 n
    induction n with
    | zero => intro x3 x4 ls o h; cases h
    | succ n ih =>
      intro x3 x4 ls o h hl hk
      rw [pX11_hasSign_L5] at h
      refine lv_iload hx hb dX11_hasSign_5 (lv_at hl 4 rfl) ?_
      refine lv_iload_n hx hb dX11_hasSign_7 rfl (lv_at hl 2 rfl) ?_
      refine lv_icmp_ge (tgt := 36) hx hb dX11_hasSign_8 (by decide) (fun c1 => ?_) (fun c1 => ?_)
      · have h := vz_t c1 h
        cases h
        exact hk x3 ls rfl (lv_sub hl [3] rfl)
      · have h := vz_f c1 h
        refine lv_iload_n hx hb dX11_hasSign_11 rfl (lv_at hl 3 rfl) ?_
        refine lv_aload_n hx hb dX11_hasSign_12 rfl (lv_at hl 0 rfl) ?_
        refine za_getr (k := 1) hx hb hts hin11 hown hK hP zF_64_1 rfl (Nat.le_of_ble_eq_true rfl) (Or.inl hw1) dX11_hasSign_13 ?_
        refine lv_iload hx hb dX11_hasSign_16 (lv_at hl 4 rfl) ?_
        obtain ⟨g2, h⟩ := gd_s h
        refine za_ild hx hb hK hP zI_65 g2 dX11_hasSign_18 ?_
        refine lv_iload_n hx hb dX11_hasSign_19 rfl (lv_at hl 1 rfl) ?_
        refine lv_icmp_lt (tgt := 27) hx hb dX11_hasSign_20 (by decide) (fun c3 => ?_) (fun c3 => ?_)
        · have h := vz_t c3 h
          refine lv_iconst (v := (0 : Int32)) hx hb dX11_hasSign_27 (by decide) ?_
          refine lv_ior hx hb dX11_hasSign_28 ?_
          refine lv_istore_n (lv' := [(3, .int (x3 ||| (0 : Int32))), (0, .ref (ad 64)), (1, .int x1), (2, .int x2), (4, .int x4)]) hx hb dX11_hasSign_29 rfl hl (by decide) rfl (fun ls hl => ?_)
          refine lv_iinc (v := (x4 + 1)) (lv' := [(4, .int (x4 + 1)), (3, .int (x3 ||| (0 : Int32))), (0, .ref (ad 64)), (1, .int x1), (2, .int x2)]) hx hb dX11_hasSign_30 hl (k := 4) rfl rfl (by decide) rfl (fun ls hl => ?_)
          refine lv_goto (tgt := 5) hx hb dX11_hasSign_33 (by decide) ?_
          exact ih (x3 ||| (0 : Int32)) (x4 + 1) ls o h (lv_sub hl [2, 3, 4, 1, 0] rfl) hk
        · have h := vz_f c3 h
          refine lv_iconst (v := (1 : Int32)) hx hb dX11_hasSign_23 (by decide) ?_
          refine lv_goto (tgt := 28) hx hb dX11_hasSign_24 (by decide) ?_
          refine lv_ior hx hb dX11_hasSign_28 ?_
          refine lv_istore_n (lv' := [(3, .int (x3 ||| (1 : Int32))), (0, .ref (ad 64)), (1, .int x1), (2, .int x2), (4, .int x4)]) hx hb dX11_hasSign_29 rfl hl (by decide) rfl (fun ls hl => ?_)
          refine lv_iinc (v := (x4 + 1)) (lv' := [(4, .int (x4 + 1)), (3, .int (x3 ||| (1 : Int32))), (0, .ref (ad 64)), (1, .int x1), (2, .int x2)]) hx hb dX11_hasSign_30 hl (k := 4) rfl rfl (by decide) rfl (fun ls hl => ?_)
          refine lv_goto (tgt := 5) hx hb dX11_hasSign_33 (by decide) ?_
          exact ih (x3 ||| (1 : Int32)) (x4 + 1) ls o h (lv_sub hl [2, 3, 4, 1, 0] rfl) hk
  rw [pX11_hasSign] at h
  refine lv_iconst (v := (0 : Int32)) hx hb dX11_hasSign_0 (by decide) ?_
  refine lv_istore_n (lv' := [(3, .int (0 : Int32)), (0, .ref (ad 64)), (1, .int a1), (2, .int a2)]) hx hb dX11_hasSign_1 rfl hl (by decide) rfl (fun ls hl => ?_)
  refine lv_iconst (v := (0 : Int32)) hx hb dX11_hasSign_2 (by decide) ?_
  refine lv_istore (lv' := [(4, .int (0 : Int32)), (3, .int (0 : Int32)), (0, .ref (ad 64)), (1, .int a1), (2, .int a2)]) hx hb dX11_hasSign_3 hl (by decide) rfl (fun ls hl => ?_)
  obtain ⟨o4, hL5, h⟩ := vz_b h
  refine L5 a1 a2 fuel (0 : Int32) (0 : Int32) ls o4 hL5 (lv_sub hl [2, 3, 4, 1, 0] rfl) (fun y7 ls e6 hl => ?_)
  try rw [e6] at h
  try dsimp only at h
  refine lv_iload_n hx hb dX11_hasSign_36 rfl (lv_at hl 0 rfl) ?_
  obtain ⟨hn, h⟩ := gb_s h
  cases h
  exact W.zret hx hb hr hn (fun t ht _ => ⟨rfl, ht⟩) (fun q hq => absurd hq List.not_mem_nil) dX11_hasSign_37
abbrev rmX11_find : Room := { frames := 1, cells := 0, slots := 0, locals := 24 }
set_option maxHeartbeats 4000000 in
set_option maxRecDepth 100000 in
theorem k_X11_find (l : Launch) {D : va_G} {cI cJ : ClassId} {ad : Nat → Nat} {u : tU} {v : tV} {A : Nat → Prop} (hD : zD A cI cJ ad) {a1 : Int32} {a2 : Int32} {a3 : Int32}  {r : Int32} {uz : tU} {vz : tV} (h : pX11_find u v a1 a2 a3 = some (r, uz, vz)) : Met l yX11_find wsX11_find rmX11_find (va_Pc [.ref (ad 64), .int a1, .int a2, .int a3] (xPre D cI cJ (wA cI cJ ad u v))) (xWi D cI cJ ad A r uz vz) 0 0 A := by
  refine Met.ofW (cc := cX11_find) (maxL := 8) (ret := (some .int)) (by decide) rfl ?_
  intro p e s m args below meth c s₁ B hml hv
  obtain ⟨rfl, hP, hK⟩ := hv
  have hx := B.exec
  have hb := B.bytes
  have hr := B.returns
  have hts := atoms_spec (ws := wsX11_find) B.pre
  have hown : s.vm.findClass RX11 = some m.cls := findClass_of_methodNamed B.named
  have hlocks := B.notSynchronized
  have hS : va_S A s.heap s.heap [] := va_S.rf
  have hin11 : ∀ w ∈ u_ws RX11 TX11 10, w ∈ wsX11_find := fun _ h => List.mem_cons_of_mem _ (List.mem_append_right _ h)
  have hw1 := hts (.fieldLink RX11 13 "InstallDeskModel" "book" "[I") (List.mem_of_getElem? (i := 1) rfl)
  have hw2 := hts (.fieldLink RX11 37 "InstallDeskModel" "waits" "I") (List.mem_of_getElem? (i := 2) rfl)
  have hw3 := hts (.fieldLink RX11 7 "InstallDeskModel" "waiting" "[I") (List.mem_of_getElem? (i := 3) rfl)
  have hl := lv_entry ([.ref (ad 64), .int a1, .int a2, .int a3]) (n := 8) (Nat.le_of_ble_eq_true rfl)
  rw [lg_entry_eq]
  generalize (lg_sl ([.ref (ad 64), .int a1, .int a2, .int a3]) ++ List.replicate (8 - (lg_sl ([.ref (ad 64), .int a1, .int a2, .int a3])).length) Slot.unset).toArray = ls at hl ⊢
  have hl : lv_has ls 8 [(0, .ref (ad 64)), (1, .int a1), (2, .int a2), (3, .int a3)] := hl
  have L139 : ∀ (x4 : Int32) (x5 : Int32) (x6 : Int32) (n : Nat) (x7 : Int32) (u : tU) (v : tV) (H : Heap) (locs : List Loc) (ls : Array Slot) (o : tU × tV), pX11_find_L139 x4 x5 x6 n x7 u v = some o → va_P D vwCl (wA cI cJ ad u v) H → va_S A s.heap H locs → lv_has ls 8 [(0, .ref (ad 64)), (4, .int x4), (5, .int x5), (6, .int x6), (7, .int x7)] → (∀ (u' : tU) (v' : tV) (H : Heap) (locs : List Loc) (ls : Array Slot), o = (u', v') → va_P D vwCl (wA cI cJ ad u' v') H → va_S A s.heap H locs → lv_has ls 8 [(0, .ref (ad 64)), (4, .int x4)] → W p l e (headSpec wsX11_find rmX11_find).room s m [Value.ref (ad 64), Value.int a1, Value.int a2, Value.int a3].toArray below meth c H locs 0 0 (MQ below (xWi D cI cJ ad A r uz vz) [Value.ref (ad 64), Value.int a1, Value.int a2, Value.int a3].toArray s 0 0 A) (F0 m 171 ls [])) → W p l e (headSpec wsX11_find rmX11_find).room s m [Value.ref (ad 64), Value.int a1, Value.int a2, Value.int a3].toArray below meth c H locs 0 0 (MQ below (xWi D cI cJ ad A r uz vz) [Value.ref (ad 64), Value.int a1, Value.int a2, Value.int a3].toArray s 0 0 A) (F0 m 139 ls []) := by
    intro x4 x5 x6 n
    induction n with
    | zero => intro x7 u v H locs ls o h; cases h
    | succ n ih =>
      intro x7 u v H locs ls o h hP hS hl hk
      rw [pX11_find_L139] at h
      refine lv_iload hx hb dX11_find_139 (lv_at hl 4 rfl) ?_
      refine lv_iload hx hb dX11_find_141 (lv_at hl 2 rfl) ?_
      refine lv_icmp_ge (tgt := 171) hx hb dX11_find_143 (by decide) (fun c1 => ?_) (fun c1 => ?_)
      · have h := vz_t c1 h
        cases h
        exact hk u v _ _ ls rfl hP hS (lv_sub hl [0, 1] rfl)
      · have h := vz_f c1 h
        refine lv_aload_n hx hb dX11_find_146 rfl (lv_at hl 0 rfl) ?_
        refine za_getr (k := 2) hx hb hts hin11 hown hK hP zF_64_2 rfl (Nat.le_of_ble_eq_true rfl) (Or.inl hw1) dX11_find_147 ?_
        refine lv_iload hx hb dX11_find_150 (lv_at hl 3 rfl) ?_
        refine lv_iconst (v := (4 : Int32)) hx hb dX11_find_152 (by decide) ?_
        refine lv_iadd hx hb dX11_find_153 ?_
        refine lv_iload hx hb dX11_find_154 (lv_at hl 4 rfl) ?_
        refine lv_iadd hx hb dX11_find_156 ?_
        refine lv_aload_n hx hb dX11_find_157 rfl (lv_at hl 0 rfl) ?_
        refine za_getr (k := 1) hx hb hts hin11 hown hK hP zF_64_1 rfl (Nat.le_of_ble_eq_true rfl) (Or.inl hw3) dX11_find_158 ?_
        refine lv_iload hx hb dX11_find_161 (lv_at hl 4 rfl) ?_
        obtain ⟨g2, h⟩ := gd_s h
        refine za_ild hx hb hK hP zI_65 g2 dX11_find_163 ?_
        obtain ⟨g3, h⟩ := gd_s h
        refine za_ist hx hb hK hP hD hS zI_66 g3 dX11_find_164 (fun H locs hP hS => ?_)
        refine lv_iinc (v := (x7 + 1)) (lv' := [(7, .int (x7 + 1)), (0, .ref (ad 64)), (4, .int x4), (5, .int x5), (6, .int x6)]) hx hb dX11_find_165 hl (k := 4) rfl rfl (by decide) rfl (fun ls hl => ?_)
        refine lv_goto (tgt := 139) hx hb dX11_find_168 (by decide) ?_
        exact ih (x7 + 1) (sU u 4 ((x6 + (4 : Int32)) + x7).toNatClampNeg (u 3 x7.toNatClampNeg)) v _ _ ls o h hP hS (lv_sub hl [1, 2, 3, 4, 0] rfl) hk
  rw [pX11_find] at h
  refine lv_aload_n hx hb dX11_find_0 rfl (lv_at hl 0 rfl) ?_
  refine lv_iload_n hx hb dX11_find_1 rfl (lv_at hl 1 rfl) ?_
  obtain ⟨r5, hc4, h⟩ := vz_b h
  refine za_callR (va_runV (As := [.int a1]) (rest := []) ⟨hx, hb, hml, hown, hts⟩ (k_X11_isHost l (D := D) (cI := cI) (cJ := cJ) (ad := ad) hc4) (cwV 1 hts gX11_find_X11_isHost rfl rfl rfl ⟨rfl, zd_X11_isHost⟩ ⟨Nat.le_of_ble_eq_true rfl, Nat.le_of_ble_eq_true rfl⟩) (xPreV (ci := 11) hK hP rfl zO_64) rfl rfl hl.1 rfl (lv_room (Nat.le_of_ble_eq_true rfl)) dX11_find_2 ⟨Nat.zero_le _, Nat.zero_le _⟩) ?_
  refine lv_if_eq (tgt := 29) hx hb dX11_find_5 (by decide) (fun c6 => ?_) (fun c6 => ?_)
  · have h := vz_t c6 h
    refine lv_aload_n hx hb dX11_find_29 rfl (lv_at hl 0 rfl) ?_
    refine lv_iconst (v := (-1 : Int32)) hx hb dX11_find_30 (by decide) ?_
    obtain ⟨⟨r11, u8, v9⟩, hc7, h⟩ := vz_b h
    try dsimp only at h
    refine za_callWi (va_runV (As := [.int (-1 : Int32)]) (rest := []) ⟨hx, hb, hml, hown, hts⟩ (k_X11_finding l (D := D) (cI := cI) (cJ := cJ) (ad := ad) hD hc7) (cwV 1 hts gX11_find_X11_finding rfl rfl rfl ⟨rfl, zd_X11_finding⟩ ⟨Nat.le_of_ble_eq_true rfl, Nat.le_of_ble_eq_true rfl⟩) (xPreV (ci := 11) hK hP rfl zO_64) rfl rfl hl.1 rfl (lv_room (Nat.le_of_ble_eq_true rfl)) dX11_find_31 ⟨Nat.zero_le _, Nat.zero_le _⟩) hS (fun H locs hP hS => ?_)
    cases h
    exact W.iret hx hb hr (fun t ht _ => ⟨rfl, by rw [ht]; exact hP, hS.F ht⟩) hS.2.2 dX11_find_34
  · have h := vz_f c6 h
    refine lv_iload_n hx hb dX11_find_8 rfl (lv_at hl 2 rfl) ?_
    refine lv_iconst (v := (0 : Int32)) hx hb dX11_find_9 (by decide) ?_
    refine lv_sipush (v := (9999 : Int32)) hx hb dX11_find_10 (by decide) ?_
    obtain ⟨r13, hc12, h⟩ := vz_b h
    refine za_callR (va_runS (As := [.int a2, .int (0 : Int32), .int (9999 : Int32)]) (rest := []) ⟨hx, hb, hml, hown, hts⟩ (k_X11_isIn l hc12) (va_cwS 3 hts gX11_find_X11_isIn rfl rfl rfl zd_X11_isIn ⟨Nat.le_of_ble_eq_true rfl, Nat.le_of_ble_eq_true rfl⟩) xPre0 rfl rfl hl.1 rfl (lv_room (Nat.le_of_ble_eq_true rfl)) dX11_find_13 ⟨Nat.zero_le _, Nat.zero_le _⟩) ?_
    refine lv_if_eq (tgt := 29) hx hb dX11_find_16 (by decide) (fun c14 => ?_) (fun c14 => ?_)
    · have h := vz_t c14 h
      refine lv_aload_n hx hb dX11_find_29 rfl (lv_at hl 0 rfl) ?_
      refine lv_iconst (v := (-1 : Int32)) hx hb dX11_find_30 (by decide) ?_
      obtain ⟨⟨r19, u16, v17⟩, hc15, h⟩ := vz_b h
      try dsimp only at h
      refine za_callWi (va_runV (As := [.int (-1 : Int32)]) (rest := []) ⟨hx, hb, hml, hown, hts⟩ (k_X11_finding l (D := D) (cI := cI) (cJ := cJ) (ad := ad) hD hc15) (cwV 1 hts gX11_find_X11_finding rfl rfl rfl ⟨rfl, zd_X11_finding⟩ ⟨Nat.le_of_ble_eq_true rfl, Nat.le_of_ble_eq_true rfl⟩) (xPreV (ci := 11) hK hP rfl zO_64) rfl rfl hl.1 rfl (lv_room (Nat.le_of_ble_eq_true rfl)) dX11_find_31 ⟨Nat.zero_le _, Nat.zero_le _⟩) hS (fun H locs hP hS => ?_)
      cases h
      exact W.iret hx hb hr (fun t ht _ => ⟨rfl, by rw [ht]; exact hP, hS.F ht⟩) hS.2.2 dX11_find_34
    · have h := vz_f c14 h
      refine lv_iload_n hx hb dX11_find_19 rfl (lv_at hl 3 rfl) ?_
      refine lv_iconst (v := (1 : Int32)) hx hb dX11_find_20 (by decide) ?_
      refine lv_bipush (v := (9 : Int32)) hx hb dX11_find_21 (by decide) ?_
      obtain ⟨r21, hc20, h⟩ := vz_b h
      refine za_callR (va_runS (As := [.int a3, .int (1 : Int32), .int (9 : Int32)]) (rest := []) ⟨hx, hb, hml, hown, hts⟩ (k_X11_isIn l hc20) (va_cwS 3 hts gX11_find_X11_isIn rfl rfl rfl zd_X11_isIn ⟨Nat.le_of_ble_eq_true rfl, Nat.le_of_ble_eq_true rfl⟩) xPre0 rfl rfl hl.1 rfl (lv_room (Nat.le_of_ble_eq_true rfl)) dX11_find_23 ⟨Nat.zero_le _, Nat.zero_le _⟩) ?_
      refine lv_if_ne (tgt := 35) hx hb dX11_find_26 (by decide) (fun c22 => ?_) (fun c22 => ?_)
      · have h := vz_f c22 h
        refine lv_aload_n hx hb dX11_find_35 rfl (lv_at hl 0 rfl) ?_
        refine za_getr (k := 2) hx hb hts hin11 hown hK hP zF_64_2 rfl (Nat.le_of_ble_eq_true rfl) (Or.inl hw1) dX11_find_36 ?_
        refine lv_iconst (v := (3 : Int32)) hx hb dX11_find_39 (by decide) ?_
        refine za_ildc (j := 3) hx hb hK hP zI_66 (by unfold vp_in; decide) rfl dX11_find_40 ?_
        refine lv_istore (lv' := [(4, .int (u 4 3)), (0, .ref (ad 64)), (1, .int a1), (2, .int a2), (3, .int a3)]) hx hb dX11_find_41 hl (by decide) rfl (fun ls hl => ?_)
        refine lv_iload hx hb dX11_find_43 (lv_at hl 0 rfl) ?_
        refine lv_bipush (v := (40 : Int32)) hx hb dX11_find_45 (by decide) ?_
        refine lv_icmp_ne (tgt := 57) hx hb dX11_find_47 (by decide) (fun c23 => ?_) (fun c23 => ?_)
        · have h := vz_f c23 h
          refine lv_aload_n hx hb dX11_find_57 rfl (lv_at hl 1 rfl) ?_
          refine za_geti (k := 0) hx hb hts hin11 hown hK hP zF_64_0 rfl (Nat.le_of_ble_eq_true rfl) (Or.inl hw2) dX11_find_58 ?_
          refine lv_istore (lv' := [(5, .int (u 0 5)), (4, .int (u 4 3)), (0, .ref (ad 64)), (1, .int a1), (2, .int a2), (3, .int a3)]) hx hb dX11_find_61 hl (by decide) rfl (fun ls hl => ?_)
          refine lv_aload_n hx hb dX11_find_63 rfl (lv_at hl 2 rfl) ?_
          refine lv_iconst (v := (0 : Int32)) hx hb dX11_find_64 (by decide) ?_
          refine za_puti (k := 0) hx hb hts hin11 tyX11 tyX11_ok nmX11 hown hK hP hD hS zF_64_0 rfl (Nat.le_of_ble_eq_true rfl) (Or.inl hw2) rfl rfl rfl dX11_find_65 (fun H locs hP hS => ?_)
          refine lv_aload_n hx hb dX11_find_68 rfl (lv_at hl 2 rfl) ?_
          refine lv_bipush (v := (27 : Int32)) hx hb dX11_find_69 (by decide) ?_
          refine lv_iload hx hb dX11_find_71 (lv_at hl 0 rfl) ?_
          obtain ⟨r25, hc24, h⟩ := vz_b h
          refine za_callR (va_runV (As := [.int (27 : Int32), .int (u 0 5)]) (rest := []) ⟨hx, hb, hml, hown, hts⟩ (k_X11_hasSign l (D := D) (cI := cI) (cJ := cJ) (ad := ad) hc24) (cwV 2 hts gX11_find_X11_hasSign rfl rfl rfl ⟨rfl, zd_X11_hasSign⟩ ⟨Nat.le_of_ble_eq_true rfl, Nat.le_of_ble_eq_true rfl⟩) (xPreV (ci := 11) hK hP rfl zO_64) rfl rfl hl.1 rfl (lv_room (Nat.le_of_ble_eq_true rfl)) dX11_find_73 ⟨Nat.zero_le _, Nat.zero_le _⟩) ?_
          refine lv_if_eq (tgt := 86) hx hb dX11_find_76 (by decide) (fun c26 => ?_) (fun c26 => ?_)
          · have h := vz_t c26 h
            refine lv_sipush (v := (294 : Int32)) hx hb dX11_find_86 (by decide) ?_
            refine lv_bipush (v := (16 : Int32)) hx hb dX11_find_89 (by decide) ?_
            refine lv_iload hx hb dX11_find_91 (lv_at hl 1 rfl) ?_
            refine lv_imul hx hb dX11_find_93 ?_
            refine lv_iadd hx hb dX11_find_94 ?_
            refine lv_istore (lv' := [(6, .int ((294 : Int32) + ((16 : Int32) * (u 4 3)))), (5, .int (u 0 5)), (4, .int (u 4 3)), (0, .ref (ad 64)), (1, .int a1), (2, .int a2), (3, .int a3)]) hx hb dX11_find_95 hl (by decide) rfl (fun ls hl => ?_)
            refine lv_aload_n hx hb dX11_find_97 rfl (lv_at hl 3 rfl) ?_
            refine za_getr (k := 2) hx hb hts hin11 hown hK hP zF_64_2 rfl (Nat.le_of_ble_eq_true rfl) (Or.inl hw1) dX11_find_98 ?_
            refine lv_iload hx hb dX11_find_101 (lv_at hl 0 rfl) ?_
            refine lv_iload_n hx hb dX11_find_103 rfl (lv_at hl 4 rfl) ?_
            obtain ⟨g27, h⟩ := gd_s h
            refine za_ist hx hb hK hP hD hS zI_66 g27 dX11_find_104 (fun H locs hP hS => ?_)
            refine lv_aload_n hx hb dX11_find_105 rfl (lv_at hl 3 rfl) ?_
            refine za_getr (k := 2) hx hb hts hin11 hown hK hP zF_64_2 rfl (Nat.le_of_ble_eq_true rfl) (Or.inl hw1) dX11_find_106 ?_
            refine lv_iload hx hb dX11_find_109 (lv_at hl 0 rfl) ?_
            refine lv_iconst (v := (1 : Int32)) hx hb dX11_find_111 (by decide) ?_
            refine lv_iadd hx hb dX11_find_112 ?_
            refine lv_iload_n hx hb dX11_find_113 rfl (lv_at hl 5 rfl) ?_
            obtain ⟨g28, h⟩ := gd_s h
            refine za_ist hx hb hK hP hD hS zI_66 g28 dX11_find_114 (fun H locs hP hS => ?_)
            refine lv_aload_n hx hb dX11_find_115 rfl (lv_at hl 3 rfl) ?_
            refine za_getr (k := 2) hx hb hts hin11 hown hK hP zF_64_2 rfl (Nat.le_of_ble_eq_true rfl) (Or.inl hw1) dX11_find_116 ?_
            refine lv_iload hx hb dX11_find_119 (lv_at hl 0 rfl) ?_
            refine lv_iconst (v := (2 : Int32)) hx hb dX11_find_121 (by decide) ?_
            refine lv_iadd hx hb dX11_find_122 ?_
            refine lv_iload_n hx hb dX11_find_123 rfl (lv_at hl 6 rfl) ?_
            obtain ⟨g29, h⟩ := gd_s h
            refine za_ist hx hb hK hP hD hS zI_66 g29 dX11_find_124 (fun H locs hP hS => ?_)
            refine lv_aload_n hx hb dX11_find_125 rfl (lv_at hl 3 rfl) ?_
            refine za_getr (k := 2) hx hb hts hin11 hown hK hP zF_64_2 rfl (Nat.le_of_ble_eq_true rfl) (Or.inl hw1) dX11_find_126 ?_
            refine lv_iload hx hb dX11_find_129 (lv_at hl 0 rfl) ?_
            refine lv_iconst (v := (3 : Int32)) hx hb dX11_find_131 (by decide) ?_
            refine lv_iadd hx hb dX11_find_132 ?_
            refine lv_iload hx hb dX11_find_133 (lv_at hl 1 rfl) ?_
            obtain ⟨g30, h⟩ := gd_s h
            refine za_ist hx hb hK hP hD hS zI_66 g30 dX11_find_135 (fun H locs hP hS => ?_)
            refine lv_iconst (v := (0 : Int32)) hx hb dX11_find_136 (by decide) ?_
            refine lv_istore (lv' := [(7, .int (0 : Int32)), (6, .int ((294 : Int32) + ((16 : Int32) * (u 4 3)))), (5, .int (u 0 5)), (4, .int (u 4 3)), (0, .ref (ad 64)), (1, .int a1), (2, .int a2), (3, .int a3)]) hx hb dX11_find_137 hl (by decide) rfl (fun ls hl => ?_)
            obtain ⟨o31, hL32, h⟩ := vz_b h
            refine L139 (u 4 3) (u 0 5) ((294 : Int32) + ((16 : Int32) * (u 4 3))) fuel (0 : Int32) (sU (sU (sU (sU (sU u 0 5 (0 : Int32)) 4 ((294 : Int32) + ((16 : Int32) * (u 4 3))).toNatClampNeg a1) 4 (((294 : Int32) + ((16 : Int32) * (u 4 3))) + (1 : Int32)).toNatClampNeg a2) 4 (((294 : Int32) + ((16 : Int32) * (u 4 3))) + (2 : Int32)).toNatClampNeg a3) 4 (((294 : Int32) + ((16 : Int32) * (u 4 3))) + (3 : Int32)).toNatClampNeg (u 0 5)) v _ _ ls o31 hL32 hP hS (lv_sub hl [4, 3, 2, 1, 0] rfl) (fun u34 v35 H locs ls e33 hP hS hl => ?_)
            try rw [e33] at h
            try dsimp only at h
            refine lv_aload_n hx hb dX11_find_171 rfl (lv_at hl 0 rfl) ?_
            refine za_getr (k := 2) hx hb hts hin11 hown hK hP zF_64_2 rfl (Nat.le_of_ble_eq_true rfl) (Or.inl hw1) dX11_find_172 ?_
            refine lv_iconst (v := (3 : Int32)) hx hb dX11_find_175 (by decide) ?_
            refine lv_dup2_11 hx hb dX11_find_176 rfl rfl ?_
            refine za_ildc (j := 3) hx hb hK hP zI_66 (by unfold vp_in; decide) rfl dX11_find_177 ?_
            refine lv_iconst (v := (1 : Int32)) hx hb dX11_find_178 (by decide) ?_
            refine lv_iadd hx hb dX11_find_179 ?_
            refine za_istc (j := 3) hx hb hK hP hD hS zI_66 (by unfold vp_in; decide) rfl dX11_find_180 (fun H locs hP hS => ?_)
            refine lv_iload hx hb dX11_find_181 (lv_at hl 1 rfl) ?_
            cases h
            exact W.iret hx hb hr (fun t ht _ => ⟨rfl, by rw [ht]; exact hP, hS.F ht⟩) hS.2.2 dX11_find_183
          · have h := vz_f c26 h
            refine lv_aload_n hx hb dX11_find_79 rfl (lv_at hl 2 rfl) ?_
            refine lv_bipush (v := (-7 : Int32)) hx hb dX11_find_80 (by decide) ?_
            obtain ⟨⟨r40, u37, v38⟩, hc36, h⟩ := vz_b h
            try dsimp only at h
            refine za_callWi (va_runV (As := [.int (-7 : Int32)]) (rest := []) ⟨hx, hb, hml, hown, hts⟩ (k_X11_finding l (D := D) (cI := cI) (cJ := cJ) (ad := ad) hD hc36) (cwV 1 hts gX11_find_X11_finding rfl rfl rfl ⟨rfl, zd_X11_finding⟩ ⟨Nat.le_of_ble_eq_true rfl, Nat.le_of_ble_eq_true rfl⟩) (xPreV (ci := 11) hK hP rfl zO_64) rfl rfl hl.1 rfl (lv_room (Nat.le_of_ble_eq_true rfl)) dX11_find_82 ⟨Nat.zero_le _, Nat.zero_le _⟩) hS (fun H locs hP hS => ?_)
            cases h
            exact W.iret hx hb hr (fun t ht _ => ⟨rfl, by rw [ht]; exact hP, hS.F ht⟩) hS.2.2 dX11_find_85
        · have h := vz_t c23 h
          refine lv_aload_n hx hb dX11_find_50 rfl (lv_at hl 1 rfl) ?_
          refine lv_bipush (v := (-3 : Int32)) hx hb dX11_find_51 (by decide) ?_
          obtain ⟨⟨r45, u42, v43⟩, hc41, h⟩ := vz_b h
          try dsimp only at h
          refine za_callWi (va_runV (As := [.int (-3 : Int32)]) (rest := []) ⟨hx, hb, hml, hown, hts⟩ (k_X11_finding l (D := D) (cI := cI) (cJ := cJ) (ad := ad) hD hc41) (cwV 1 hts gX11_find_X11_finding rfl rfl rfl ⟨rfl, zd_X11_finding⟩ ⟨Nat.le_of_ble_eq_true rfl, Nat.le_of_ble_eq_true rfl⟩) (xPreV (ci := 11) hK hP rfl zO_64) rfl rfl hl.1 rfl (lv_room (Nat.le_of_ble_eq_true rfl)) dX11_find_53 ⟨Nat.zero_le _, Nat.zero_le _⟩) hS (fun H locs hP hS => ?_)
          cases h
          exact W.iret hx hb hr (fun t ht _ => ⟨rfl, by rw [ht]; exact hP, hS.F ht⟩) hS.2.2 dX11_find_56
      · have h := vz_t c22 h
        refine lv_aload_n hx hb dX11_find_29 rfl (lv_at hl 0 rfl) ?_
        refine lv_iconst (v := (-1 : Int32)) hx hb dX11_find_30 (by decide) ?_
        obtain ⟨⟨r50, u47, v48⟩, hc46, h⟩ := vz_b h
        try dsimp only at h
        refine za_callWi (va_runV (As := [.int (-1 : Int32)]) (rest := []) ⟨hx, hb, hml, hown, hts⟩ (k_X11_finding l (D := D) (cI := cI) (cJ := cJ) (ad := ad) hD hc46) (cwV 1 hts gX11_find_X11_finding rfl rfl rfl ⟨rfl, zd_X11_finding⟩ ⟨Nat.le_of_ble_eq_true rfl, Nat.le_of_ble_eq_true rfl⟩) (xPreV (ci := 11) hK hP rfl zO_64) rfl rfl hl.1 rfl (lv_room (Nat.le_of_ble_eq_true rfl)) dX11_find_31 ⟨Nat.zero_le _, Nat.zero_le _⟩) hS (fun H locs hP hS => ?_)
        cases h
        exact W.iret hx hb hr (fun t ht _ => ⟨rfl, by rw [ht]; exact hP, hS.F ht⟩) hS.2.2 dX11_find_34
abbrev rmX11_finds : Room := { frames := 5, cells := 0, slots := 0, locals := 120 }
set_option maxHeartbeats 4000000 in
set_option maxRecDepth 100000 in
theorem k_X11_finds (l : Launch) {D : va_G} {cI cJ : ClassId} {ad : Nat → Nat} {u : tU} {v : tV} {A : Nat → Prop} (hD : zD A cI cJ ad) {a1 : Int32}  {r : Int32} {uz : tU} {vz : tV} (h : pX11_finds u v a1 = some (r, uz, vz)) : Met l yX11_finds wsX11_finds rmX11_finds (va_Pc [.ref (ad 64), .int a1] (xPre D cI cJ (wA cI cJ ad u v))) (xWi D cI cJ ad A r uz vz) 0 0 A := by
  refine Met.ofW (cc := cX11_finds) (maxL := 5) (ret := (some .int)) (by decide) rfl ?_
  intro p e s m args below meth c s₁ B hml hv
  obtain ⟨rfl, hP, hK⟩ := hv
  have hx := B.exec
  have hb := B.bytes
  have hr := B.returns
  have hts := atoms_spec (ws := wsX11_finds) B.pre
  have hown : s.vm.findClass RX11 = some m.cls := findClass_of_methodNamed B.named
  have hlocks := B.notSynchronized
  have hS : va_S A s.heap s.heap [] := va_S.rf
  have hin11 : ∀ w ∈ u_ws RX11 TX11 10, w ∈ wsX11_finds := fun _ h => List.mem_cons_of_mem _ (List.mem_append_right _ h)
  have hw1 := hts (.fieldLink RX11 13 "InstallDeskModel" "book" "[I") (List.mem_of_getElem? (i := 1) rfl)
  have hl := lv_entry ([.ref (ad 64), .int a1]) (n := 5) (Nat.le_of_ble_eq_true rfl)
  rw [lg_entry_eq]
  generalize (lg_sl ([.ref (ad 64), .int a1]) ++ List.replicate (5 - (lg_sl ([.ref (ad 64), .int a1])).length) Slot.unset).toArray = ls at hl ⊢
  have hl : lv_has ls 5 [(0, .ref (ad 64)), (1, .int a1)] := hl
  have L19 : ∀ (u : tU) (v : tV) (H : Heap) (locs : List Loc) (x1 : Int32) (n : Nat) (x2 : Int32) (x3 : Int32) (ls : Array Slot) (o : Int32), pX11_finds_L19 u v x1 n x2 x3 = some o → va_P D vwCl (wA cI cJ ad u v) H → va_S A s.heap H locs → lv_has ls 5 [(0, .ref (ad 64)), (1, .int x1), (2, .int x2), (3, .int x3)] → (∀ (y2 : Int32) (ls : Array Slot), o = y2 → lv_has ls 5 [(2, .int y2)] → W p l e (headSpec wsX11_finds rmX11_finds).room s m [Value.ref (ad 64), Value.int a1].toArray below meth c H locs 0 0 (MQ below (xWi D cI cJ ad A r uz vz) [Value.ref (ad 64), Value.int a1].toArray s 0 0 A) (F0 m 96 ls [])) → W p l e (headSpec wsX11_finds rmX11_finds).room s m [Value.ref (ad 64), Value.int a1].toArray below meth c H locs 0 0 (MQ below (xWi D cI cJ ad A r uz vz) [Value.ref (ad 64), Value.int a1].toArray s 0 0 A) (F0 m 19 ls []) := by
    intro u v H locs x1 n
    induction n with
    | zero => intro x2 x3 ls o h; cases h
    | succ n ih =>
      intro x2 x3 ls o h hP hS hl hk
      rw [pX11_finds_L19] at h
      refine lv_iload_n hx hb dX11_finds_19 rfl (lv_at hl 3 rfl) ?_
      refine lv_aload_n hx hb dX11_finds_20 rfl (lv_at hl 0 rfl) ?_
      refine za_getr (k := 2) hx hb hts hin11 hown hK hP zF_64_2 rfl (Nat.le_of_ble_eq_true rfl) (Or.inl hw1) dX11_finds_21 ?_
      refine lv_iconst (v := (3 : Int32)) hx hb dX11_finds_24 (by decide) ?_
      refine za_ildc (j := 3) hx hb hK hP zI_66 (by unfold vp_in; decide) rfl dX11_finds_25 ?_
      refine lv_icmp_ge (tgt := 96) hx hb dX11_finds_26 (by decide) (fun c1 => ?_) (fun c1 => ?_)
      · have h := vz_t c1 h
        cases h
        exact hk x2 ls rfl (lv_sub hl [2] rfl)
      · have h := vz_f c1 h
        refine lv_aload_n hx hb dX11_finds_29 rfl (lv_at hl 0 rfl) ?_
        refine lv_iload_n hx hb dX11_finds_30 rfl (lv_at hl 3 rfl) ?_
        obtain ⟨r3, hc2, h⟩ := vz_b h
        refine za_callR (va_runV (As := [.int x3]) (rest := []) ⟨hx, hb, hml, hown, hts⟩ (k_X11_goesTo l (D := D) (cI := cI) (cJ := cJ) (ad := ad) hc2) (cwV 1 hts gX11_finds_X11_goesTo rfl rfl rfl ⟨rfl, zd_X11_goesTo⟩ ⟨Nat.le_of_ble_eq_true rfl, Nat.le_of_ble_eq_true rfl⟩) (xPreV (ci := 11) hK hP rfl zO_64) rfl rfl hl.1 rfl (lv_room (Nat.le_of_ble_eq_true rfl)) dX11_finds_31 ⟨Nat.zero_le _, Nat.zero_le _⟩) ?_
        refine lv_istore (lv' := [(4, .int r3), (0, .ref (ad 64)), (1, .int x1), (2, .int x2), (3, .int x3)]) hx hb dX11_finds_34 hl (by decide) rfl (fun ls hl => ?_)
        refine lv_iload_n hx hb dX11_finds_36 rfl (lv_at hl 3 rfl) ?_
        refine lv_iload_n hx hb dX11_finds_37 rfl (lv_at hl 2 rfl) ?_
        refine lv_if_ne (tgt := 46) hx hb dX11_finds_38 (by decide) (fun c4 => ?_) (fun c4 => ?_)
        · have h := vz_f c4 h
          refine lv_iload_n hx hb dX11_finds_46 rfl (lv_at hl 2 rfl) ?_
          refine lv_iconst (v := (1 : Int32)) hx hb dX11_finds_47 (by decide) ?_
          refine lv_icmp_ne (tgt := 58) hx hb dX11_finds_48 (by decide) (fun c5 => ?_) (fun c5 => ?_)
          · have h := vz_f c5 h
            refine lv_iload_n hx hb dX11_finds_58 rfl (lv_at hl 2 rfl) ?_
            refine lv_iconst (v := (2 : Int32)) hx hb dX11_finds_59 (by decide) ?_
            refine lv_icmp_ne (tgt := 70) hx hb dX11_finds_60 (by decide) (fun c6 => ?_) (fun c6 => ?_)
            · have h := vz_f c6 h
              refine lv_iload_n hx hb dX11_finds_70 rfl (lv_at hl 2 rfl) ?_
              refine lv_iconst (v := (3 : Int32)) hx hb dX11_finds_71 (by decide) ?_
              refine lv_icmp_ne (tgt := 87) hx hb dX11_finds_72 (by decide) (fun c7 => ?_) (fun c7 => ?_)
              · have h := vz_f c7 h
                refine lv_iconst (v := (0 : Int32)) hx hb dX11_finds_87 (by decide) ?_
                refine lv_iadd hx hb dX11_finds_88 ?_
                refine lv_istore_n (lv' := [(2, .int (x2 + (0 : Int32))), (4, .int r3), (0, .ref (ad 64)), (1, .int x1), (3, .int x3)]) hx hb dX11_finds_89 rfl hl (by decide) rfl (fun ls hl => ?_)
                refine lv_iinc (v := (x3 + 1)) (lv' := [(3, .int (x3 + 1)), (2, .int (x2 + (0 : Int32))), (4, .int r3), (0, .ref (ad 64)), (1, .int x1)]) hx hb dX11_finds_90 hl (k := 4) rfl rfl (by decide) rfl (fun ls hl => ?_)
                refine lv_goto (tgt := 19) hx hb dX11_finds_93 (by decide) ?_
                exact ih (x2 + (0 : Int32)) (x3 + 1) ls o h hP hS (lv_sub hl [3, 4, 1, 0] rfl) hk
              · have h := vz_t c7 h
                refine lv_aload_n hx hb dX11_finds_75 rfl (lv_at hl 1 rfl) ?_
                refine lv_iload_n hx hb dX11_finds_76 rfl (lv_at hl 4 rfl) ?_
                obtain ⟨r9, hc8, h⟩ := vz_b h
                refine za_callR (va_runV (As := [.int x3]) (rest := [.int x2]) ⟨hx, hb, hml, hown, hts⟩ (k_X11_isFresh l (D := D) (cI := cI) (cJ := cJ) (ad := ad) hc8) (cwV 1 hts gX11_finds_X11_isFresh rfl rfl rfl ⟨rfl, zd_X11_isFresh⟩ ⟨Nat.le_of_ble_eq_true rfl, Nat.le_of_ble_eq_true rfl⟩) (xPreV (ci := 11) hK hP rfl zO_64) rfl rfl hl.1 rfl (lv_room (Nat.le_of_ble_eq_true rfl)) dX11_finds_77 ⟨Nat.zero_le _, Nat.zero_le _⟩) ?_
                refine lv_if_eq (tgt := 87) hx hb dX11_finds_80 (by decide) (fun c10 => ?_) (fun c10 => ?_)
                · have h := vz_t c10 h
                  refine lv_iconst (v := (0 : Int32)) hx hb dX11_finds_87 (by decide) ?_
                  refine lv_iadd hx hb dX11_finds_88 ?_
                  refine lv_istore_n (lv' := [(2, .int (x2 + (0 : Int32))), (4, .int r3), (0, .ref (ad 64)), (1, .int x1), (3, .int x3)]) hx hb dX11_finds_89 rfl hl (by decide) rfl (fun ls hl => ?_)
                  refine lv_iinc (v := (x3 + 1)) (lv' := [(3, .int (x3 + 1)), (2, .int (x2 + (0 : Int32))), (4, .int r3), (0, .ref (ad 64)), (1, .int x1)]) hx hb dX11_finds_90 hl (k := 4) rfl rfl (by decide) rfl (fun ls hl => ?_)
                  refine lv_goto (tgt := 19) hx hb dX11_finds_93 (by decide) ?_
                  exact ih (x2 + (0 : Int32)) (x3 + 1) ls o h hP hS (lv_sub hl [3, 4, 1, 0] rfl) hk
                · have h := vz_f c10 h
                  refine lv_iconst (v := (1 : Int32)) hx hb dX11_finds_83 (by decide) ?_
                  refine lv_goto (tgt := 88) hx hb dX11_finds_84 (by decide) ?_
                  refine lv_iadd hx hb dX11_finds_88 ?_
                  refine lv_istore_n (lv' := [(2, .int (x2 + (1 : Int32))), (4, .int r3), (0, .ref (ad 64)), (1, .int x1), (3, .int x3)]) hx hb dX11_finds_89 rfl hl (by decide) rfl (fun ls hl => ?_)
                  refine lv_iinc (v := (x3 + 1)) (lv' := [(3, .int (x3 + 1)), (2, .int (x2 + (1 : Int32))), (4, .int r3), (0, .ref (ad 64)), (1, .int x1)]) hx hb dX11_finds_90 hl (k := 4) rfl rfl (by decide) rfl (fun ls hl => ?_)
                  refine lv_goto (tgt := 19) hx hb dX11_finds_93 (by decide) ?_
                  exact ih (x2 + (1 : Int32)) (x3 + 1) ls o h hP hS (lv_sub hl [3, 4, 1, 0] rfl) hk
            · have h := vz_t c6 h
              refine lv_iload hx hb dX11_finds_63 (lv_at hl 0 rfl) ?_
              refine lv_bipush (v := (-6 : Int32)) hx hb dX11_finds_65 (by decide) ?_
              refine lv_icmp_eq (tgt := 83) hx hb dX11_finds_67 (by decide) (fun c11 => ?_) (fun c11 => ?_)
              · have h := vz_t c11 h
                refine lv_iconst (v := (1 : Int32)) hx hb dX11_finds_83 (by decide) ?_
                refine lv_goto (tgt := 88) hx hb dX11_finds_84 (by decide) ?_
                refine lv_iadd hx hb dX11_finds_88 ?_
                refine lv_istore_n (lv' := [(2, .int (x2 + (1 : Int32))), (4, .int r3), (0, .ref (ad 64)), (1, .int x1), (3, .int x3)]) hx hb dX11_finds_89 rfl hl (by decide) rfl (fun ls hl => ?_)
                refine lv_iinc (v := (x3 + 1)) (lv' := [(3, .int (x3 + 1)), (2, .int (x2 + (1 : Int32))), (4, .int r3), (0, .ref (ad 64)), (1, .int x1)]) hx hb dX11_finds_90 hl (k := 4) rfl rfl (by decide) rfl (fun ls hl => ?_)
                refine lv_goto (tgt := 19) hx hb dX11_finds_93 (by decide) ?_
                exact ih (x2 + (1 : Int32)) (x3 + 1) ls o h hP hS (lv_sub hl [3, 4, 1, 0] rfl) hk
              · have h := vz_f c11 h
                refine lv_iload_n hx hb dX11_finds_70 rfl (lv_at hl 2 rfl) ?_
                refine lv_iconst (v := (3 : Int32)) hx hb dX11_finds_71 (by decide) ?_
                refine lv_icmp_ne (tgt := 87) hx hb dX11_finds_72 (by decide) (fun c12 => ?_) (fun c12 => ?_)
                · have h := vz_f c12 h
                  refine lv_iconst (v := (0 : Int32)) hx hb dX11_finds_87 (by decide) ?_
                  refine lv_iadd hx hb dX11_finds_88 ?_
                  refine lv_istore_n (lv' := [(2, .int (x2 + (0 : Int32))), (4, .int r3), (0, .ref (ad 64)), (1, .int x1), (3, .int x3)]) hx hb dX11_finds_89 rfl hl (by decide) rfl (fun ls hl => ?_)
                  refine lv_iinc (v := (x3 + 1)) (lv' := [(3, .int (x3 + 1)), (2, .int (x2 + (0 : Int32))), (4, .int r3), (0, .ref (ad 64)), (1, .int x1)]) hx hb dX11_finds_90 hl (k := 4) rfl rfl (by decide) rfl (fun ls hl => ?_)
                  refine lv_goto (tgt := 19) hx hb dX11_finds_93 (by decide) ?_
                  exact ih (x2 + (0 : Int32)) (x3 + 1) ls o h hP hS (lv_sub hl [3, 4, 1, 0] rfl) hk
                · have h := vz_t c12 h
                  refine lv_aload_n hx hb dX11_finds_75 rfl (lv_at hl 1 rfl) ?_
                  refine lv_iload_n hx hb dX11_finds_76 rfl (lv_at hl 4 rfl) ?_
                  obtain ⟨r14, hc13, h⟩ := vz_b h
                  refine za_callR (va_runV (As := [.int x3]) (rest := [.int x2]) ⟨hx, hb, hml, hown, hts⟩ (k_X11_isFresh l (D := D) (cI := cI) (cJ := cJ) (ad := ad) hc13) (cwV 1 hts gX11_finds_X11_isFresh rfl rfl rfl ⟨rfl, zd_X11_isFresh⟩ ⟨Nat.le_of_ble_eq_true rfl, Nat.le_of_ble_eq_true rfl⟩) (xPreV (ci := 11) hK hP rfl zO_64) rfl rfl hl.1 rfl (lv_room (Nat.le_of_ble_eq_true rfl)) dX11_finds_77 ⟨Nat.zero_le _, Nat.zero_le _⟩) ?_
                  refine lv_if_eq (tgt := 87) hx hb dX11_finds_80 (by decide) (fun c15 => ?_) (fun c15 => ?_)
                  · have h := vz_t c15 h
                    refine lv_iconst (v := (0 : Int32)) hx hb dX11_finds_87 (by decide) ?_
                    refine lv_iadd hx hb dX11_finds_88 ?_
                    refine lv_istore_n (lv' := [(2, .int (x2 + (0 : Int32))), (4, .int r3), (0, .ref (ad 64)), (1, .int x1), (3, .int x3)]) hx hb dX11_finds_89 rfl hl (by decide) rfl (fun ls hl => ?_)
                    refine lv_iinc (v := (x3 + 1)) (lv' := [(3, .int (x3 + 1)), (2, .int (x2 + (0 : Int32))), (4, .int r3), (0, .ref (ad 64)), (1, .int x1)]) hx hb dX11_finds_90 hl (k := 4) rfl rfl (by decide) rfl (fun ls hl => ?_)
                    refine lv_goto (tgt := 19) hx hb dX11_finds_93 (by decide) ?_
                    exact ih (x2 + (0 : Int32)) (x3 + 1) ls o h hP hS (lv_sub hl [3, 4, 1, 0] rfl) hk
                  · have h := vz_f c15 h
                    refine lv_iconst (v := (1 : Int32)) hx hb dX11_finds_83 (by decide) ?_
                    refine lv_goto (tgt := 88) hx hb dX11_finds_84 (by decide) ?_
                    refine lv_iadd hx hb dX11_finds_88 ?_
                    refine lv_istore_n (lv' := [(2, .int (x2 + (1 : Int32))), (4, .int r3), (0, .ref (ad 64)), (1, .int x1), (3, .int x3)]) hx hb dX11_finds_89 rfl hl (by decide) rfl (fun ls hl => ?_)
                    refine lv_iinc (v := (x3 + 1)) (lv' := [(3, .int (x3 + 1)), (2, .int (x2 + (1 : Int32))), (4, .int r3), (0, .ref (ad 64)), (1, .int x1)]) hx hb dX11_finds_90 hl (k := 4) rfl rfl (by decide) rfl (fun ls hl => ?_)
                    refine lv_goto (tgt := 19) hx hb dX11_finds_93 (by decide) ?_
                    exact ih (x2 + (1 : Int32)) (x3 + 1) ls o h hP hS (lv_sub hl [3, 4, 1, 0] rfl) hk
          · have h := vz_t c5 h
            refine lv_iload hx hb dX11_finds_51 (lv_at hl 0 rfl) ?_
            refine lv_bipush (v := (-5 : Int32)) hx hb dX11_finds_53 (by decide) ?_
            refine lv_icmp_eq (tgt := 83) hx hb dX11_finds_55 (by decide) (fun c16 => ?_) (fun c16 => ?_)
            · have h := vz_t c16 h
              refine lv_iconst (v := (1 : Int32)) hx hb dX11_finds_83 (by decide) ?_
              refine lv_goto (tgt := 88) hx hb dX11_finds_84 (by decide) ?_
              refine lv_iadd hx hb dX11_finds_88 ?_
              refine lv_istore_n (lv' := [(2, .int (x2 + (1 : Int32))), (4, .int r3), (0, .ref (ad 64)), (1, .int x1), (3, .int x3)]) hx hb dX11_finds_89 rfl hl (by decide) rfl (fun ls hl => ?_)
              refine lv_iinc (v := (x3 + 1)) (lv' := [(3, .int (x3 + 1)), (2, .int (x2 + (1 : Int32))), (4, .int r3), (0, .ref (ad 64)), (1, .int x1)]) hx hb dX11_finds_90 hl (k := 4) rfl rfl (by decide) rfl (fun ls hl => ?_)
              refine lv_goto (tgt := 19) hx hb dX11_finds_93 (by decide) ?_
              exact ih (x2 + (1 : Int32)) (x3 + 1) ls o h hP hS (lv_sub hl [3, 4, 1, 0] rfl) hk
            · have h := vz_f c16 h
              refine lv_iload_n hx hb dX11_finds_58 rfl (lv_at hl 2 rfl) ?_
              refine lv_iconst (v := (2 : Int32)) hx hb dX11_finds_59 (by decide) ?_
              refine lv_icmp_ne (tgt := 70) hx hb dX11_finds_60 (by decide) (fun c17 => ?_) (fun c17 => ?_)
              · have h := vz_f c17 h
                refine lv_iload_n hx hb dX11_finds_70 rfl (lv_at hl 2 rfl) ?_
                refine lv_iconst (v := (3 : Int32)) hx hb dX11_finds_71 (by decide) ?_
                refine lv_icmp_ne (tgt := 87) hx hb dX11_finds_72 (by decide) (fun c18 => ?_) (fun c18 => ?_)
                · have h := vz_f c18 h
                  refine lv_iconst (v := (0 : Int32)) hx hb dX11_finds_87 (by decide) ?_
                  refine lv_iadd hx hb dX11_finds_88 ?_
                  refine lv_istore_n (lv' := [(2, .int (x2 + (0 : Int32))), (4, .int r3), (0, .ref (ad 64)), (1, .int x1), (3, .int x3)]) hx hb dX11_finds_89 rfl hl (by decide) rfl (fun ls hl => ?_)
                  refine lv_iinc (v := (x3 + 1)) (lv' := [(3, .int (x3 + 1)), (2, .int (x2 + (0 : Int32))), (4, .int r3), (0, .ref (ad 64)), (1, .int x1)]) hx hb dX11_finds_90 hl (k := 4) rfl rfl (by decide) rfl (fun ls hl => ?_)
                  refine lv_goto (tgt := 19) hx hb dX11_finds_93 (by decide) ?_
                  exact ih (x2 + (0 : Int32)) (x3 + 1) ls o h hP hS (lv_sub hl [3, 4, 1, 0] rfl) hk
                · have h := vz_t c18 h
                  refine lv_aload_n hx hb dX11_finds_75 rfl (lv_at hl 1 rfl) ?_
                  refine lv_iload_n hx hb dX11_finds_76 rfl (lv_at hl 4 rfl) ?_
                  obtain ⟨r20, hc19, h⟩ := vz_b h
                  refine za_callR (va_runV (As := [.int x3]) (rest := [.int x2]) ⟨hx, hb, hml, hown, hts⟩ (k_X11_isFresh l (D := D) (cI := cI) (cJ := cJ) (ad := ad) hc19) (cwV 1 hts gX11_finds_X11_isFresh rfl rfl rfl ⟨rfl, zd_X11_isFresh⟩ ⟨Nat.le_of_ble_eq_true rfl, Nat.le_of_ble_eq_true rfl⟩) (xPreV (ci := 11) hK hP rfl zO_64) rfl rfl hl.1 rfl (lv_room (Nat.le_of_ble_eq_true rfl)) dX11_finds_77 ⟨Nat.zero_le _, Nat.zero_le _⟩) ?_
                  refine lv_if_eq (tgt := 87) hx hb dX11_finds_80 (by decide) (fun c21 => ?_) (fun c21 => ?_)
                  · have h := vz_t c21 h
                    refine lv_iconst (v := (0 : Int32)) hx hb dX11_finds_87 (by decide) ?_
                    refine lv_iadd hx hb dX11_finds_88 ?_
                    refine lv_istore_n (lv' := [(2, .int (x2 + (0 : Int32))), (4, .int r3), (0, .ref (ad 64)), (1, .int x1), (3, .int x3)]) hx hb dX11_finds_89 rfl hl (by decide) rfl (fun ls hl => ?_)
                    refine lv_iinc (v := (x3 + 1)) (lv' := [(3, .int (x3 + 1)), (2, .int (x2 + (0 : Int32))), (4, .int r3), (0, .ref (ad 64)), (1, .int x1)]) hx hb dX11_finds_90 hl (k := 4) rfl rfl (by decide) rfl (fun ls hl => ?_)
                    refine lv_goto (tgt := 19) hx hb dX11_finds_93 (by decide) ?_
                    exact ih (x2 + (0 : Int32)) (x3 + 1) ls o h hP hS (lv_sub hl [3, 4, 1, 0] rfl) hk
                  · have h := vz_f c21 h
                    refine lv_iconst (v := (1 : Int32)) hx hb dX11_finds_83 (by decide) ?_
                    refine lv_goto (tgt := 88) hx hb dX11_finds_84 (by decide) ?_
                    refine lv_iadd hx hb dX11_finds_88 ?_
                    refine lv_istore_n (lv' := [(2, .int (x2 + (1 : Int32))), (4, .int r3), (0, .ref (ad 64)), (1, .int x1), (3, .int x3)]) hx hb dX11_finds_89 rfl hl (by decide) rfl (fun ls hl => ?_)
                    refine lv_iinc (v := (x3 + 1)) (lv' := [(3, .int (x3 + 1)), (2, .int (x2 + (1 : Int32))), (4, .int r3), (0, .ref (ad 64)), (1, .int x1)]) hx hb dX11_finds_90 hl (k := 4) rfl rfl (by decide) rfl (fun ls hl => ?_)
                    refine lv_goto (tgt := 19) hx hb dX11_finds_93 (by decide) ?_
                    exact ih (x2 + (1 : Int32)) (x3 + 1) ls o h hP hS (lv_sub hl [3, 4, 1, 0] rfl) hk
              · have h := vz_t c17 h
                refine lv_iload hx hb dX11_finds_63 (lv_at hl 0 rfl) ?_
                refine lv_bipush (v := (-6 : Int32)) hx hb dX11_finds_65 (by decide) ?_
                refine lv_icmp_eq (tgt := 83) hx hb dX11_finds_67 (by decide) (fun c22 => ?_) (fun c22 => ?_)
                · have h := vz_t c22 h
                  refine lv_iconst (v := (1 : Int32)) hx hb dX11_finds_83 (by decide) ?_
                  refine lv_goto (tgt := 88) hx hb dX11_finds_84 (by decide) ?_
                  refine lv_iadd hx hb dX11_finds_88 ?_
                  refine lv_istore_n (lv' := [(2, .int (x2 + (1 : Int32))), (4, .int r3), (0, .ref (ad 64)), (1, .int x1), (3, .int x3)]) hx hb dX11_finds_89 rfl hl (by decide) rfl (fun ls hl => ?_)
                  refine lv_iinc (v := (x3 + 1)) (lv' := [(3, .int (x3 + 1)), (2, .int (x2 + (1 : Int32))), (4, .int r3), (0, .ref (ad 64)), (1, .int x1)]) hx hb dX11_finds_90 hl (k := 4) rfl rfl (by decide) rfl (fun ls hl => ?_)
                  refine lv_goto (tgt := 19) hx hb dX11_finds_93 (by decide) ?_
                  exact ih (x2 + (1 : Int32)) (x3 + 1) ls o h hP hS (lv_sub hl [3, 4, 1, 0] rfl) hk
                · have h := vz_f c22 h
                  refine lv_iload_n hx hb dX11_finds_70 rfl (lv_at hl 2 rfl) ?_
                  refine lv_iconst (v := (3 : Int32)) hx hb dX11_finds_71 (by decide) ?_
                  refine lv_icmp_ne (tgt := 87) hx hb dX11_finds_72 (by decide) (fun c23 => ?_) (fun c23 => ?_)
                  · have h := vz_f c23 h
                    refine lv_iconst (v := (0 : Int32)) hx hb dX11_finds_87 (by decide) ?_
                    refine lv_iadd hx hb dX11_finds_88 ?_
                    refine lv_istore_n (lv' := [(2, .int (x2 + (0 : Int32))), (4, .int r3), (0, .ref (ad 64)), (1, .int x1), (3, .int x3)]) hx hb dX11_finds_89 rfl hl (by decide) rfl (fun ls hl => ?_)
                    refine lv_iinc (v := (x3 + 1)) (lv' := [(3, .int (x3 + 1)), (2, .int (x2 + (0 : Int32))), (4, .int r3), (0, .ref (ad 64)), (1, .int x1)]) hx hb dX11_finds_90 hl (k := 4) rfl rfl (by decide) rfl (fun ls hl => ?_)
                    refine lv_goto (tgt := 19) hx hb dX11_finds_93 (by decide) ?_
                    exact ih (x2 + (0 : Int32)) (x3 + 1) ls o h hP hS (lv_sub hl [3, 4, 1, 0] rfl) hk
                  · have h := vz_t c23 h
                    refine lv_aload_n hx hb dX11_finds_75 rfl (lv_at hl 1 rfl) ?_
                    refine lv_iload_n hx hb dX11_finds_76 rfl (lv_at hl 4 rfl) ?_
                    obtain ⟨r25, hc24, h⟩ := vz_b h
                    refine za_callR (va_runV (As := [.int x3]) (rest := [.int x2]) ⟨hx, hb, hml, hown, hts⟩ (k_X11_isFresh l (D := D) (cI := cI) (cJ := cJ) (ad := ad) hc24) (cwV 1 hts gX11_finds_X11_isFresh rfl rfl rfl ⟨rfl, zd_X11_isFresh⟩ ⟨Nat.le_of_ble_eq_true rfl, Nat.le_of_ble_eq_true rfl⟩) (xPreV (ci := 11) hK hP rfl zO_64) rfl rfl hl.1 rfl (lv_room (Nat.le_of_ble_eq_true rfl)) dX11_finds_77 ⟨Nat.zero_le _, Nat.zero_le _⟩) ?_
                    refine lv_if_eq (tgt := 87) hx hb dX11_finds_80 (by decide) (fun c26 => ?_) (fun c26 => ?_)
                    · have h := vz_t c26 h
                      refine lv_iconst (v := (0 : Int32)) hx hb dX11_finds_87 (by decide) ?_
                      refine lv_iadd hx hb dX11_finds_88 ?_
                      refine lv_istore_n (lv' := [(2, .int (x2 + (0 : Int32))), (4, .int r3), (0, .ref (ad 64)), (1, .int x1), (3, .int x3)]) hx hb dX11_finds_89 rfl hl (by decide) rfl (fun ls hl => ?_)
                      refine lv_iinc (v := (x3 + 1)) (lv' := [(3, .int (x3 + 1)), (2, .int (x2 + (0 : Int32))), (4, .int r3), (0, .ref (ad 64)), (1, .int x1)]) hx hb dX11_finds_90 hl (k := 4) rfl rfl (by decide) rfl (fun ls hl => ?_)
                      refine lv_goto (tgt := 19) hx hb dX11_finds_93 (by decide) ?_
                      exact ih (x2 + (0 : Int32)) (x3 + 1) ls o h hP hS (lv_sub hl [3, 4, 1, 0] rfl) hk
                    · have h := vz_f c26 h
                      refine lv_iconst (v := (1 : Int32)) hx hb dX11_finds_83 (by decide) ?_
                      refine lv_goto (tgt := 88) hx hb dX11_finds_84 (by decide) ?_
                      refine lv_iadd hx hb dX11_finds_88 ?_
                      refine lv_istore_n (lv' := [(2, .int (x2 + (1 : Int32))), (4, .int r3), (0, .ref (ad 64)), (1, .int x1), (3, .int x3)]) hx hb dX11_finds_89 rfl hl (by decide) rfl (fun ls hl => ?_)
                      refine lv_iinc (v := (x3 + 1)) (lv' := [(3, .int (x3 + 1)), (2, .int (x2 + (1 : Int32))), (4, .int r3), (0, .ref (ad 64)), (1, .int x1)]) hx hb dX11_finds_90 hl (k := 4) rfl rfl (by decide) rfl (fun ls hl => ?_)
                      refine lv_goto (tgt := 19) hx hb dX11_finds_93 (by decide) ?_
                      exact ih (x2 + (1 : Int32)) (x3 + 1) ls o h hP hS (lv_sub hl [3, 4, 1, 0] rfl) hk
        · have h := vz_t c4 h
          refine lv_iload hx hb dX11_finds_41 (lv_at hl 0 rfl) ?_
          refine lv_if_ge (tgt := 83) hx hb dX11_finds_43 (by decide) (fun c27 => ?_) (fun c27 => ?_)
          · have h := vz_t c27 h
            refine lv_iconst (v := (1 : Int32)) hx hb dX11_finds_83 (by decide) ?_
            refine lv_goto (tgt := 88) hx hb dX11_finds_84 (by decide) ?_
            refine lv_iadd hx hb dX11_finds_88 ?_
            refine lv_istore_n (lv' := [(2, .int (x2 + (1 : Int32))), (4, .int r3), (0, .ref (ad 64)), (1, .int x1), (3, .int x3)]) hx hb dX11_finds_89 rfl hl (by decide) rfl (fun ls hl => ?_)
            refine lv_iinc (v := (x3 + 1)) (lv' := [(3, .int (x3 + 1)), (2, .int (x2 + (1 : Int32))), (4, .int r3), (0, .ref (ad 64)), (1, .int x1)]) hx hb dX11_finds_90 hl (k := 4) rfl rfl (by decide) rfl (fun ls hl => ?_)
            refine lv_goto (tgt := 19) hx hb dX11_finds_93 (by decide) ?_
            exact ih (x2 + (1 : Int32)) (x3 + 1) ls o h hP hS (lv_sub hl [3, 4, 1, 0] rfl) hk
          · have h := vz_f c27 h
            refine lv_iload_n hx hb dX11_finds_46 rfl (lv_at hl 2 rfl) ?_
            refine lv_iconst (v := (1 : Int32)) hx hb dX11_finds_47 (by decide) ?_
            refine lv_icmp_ne (tgt := 58) hx hb dX11_finds_48 (by decide) (fun c28 => ?_) (fun c28 => ?_)
            · have h := vz_f c28 h
              refine lv_iload_n hx hb dX11_finds_58 rfl (lv_at hl 2 rfl) ?_
              refine lv_iconst (v := (2 : Int32)) hx hb dX11_finds_59 (by decide) ?_
              refine lv_icmp_ne (tgt := 70) hx hb dX11_finds_60 (by decide) (fun c29 => ?_) (fun c29 => ?_)
              · have h := vz_f c29 h
                refine lv_iload_n hx hb dX11_finds_70 rfl (lv_at hl 2 rfl) ?_
                refine lv_iconst (v := (3 : Int32)) hx hb dX11_finds_71 (by decide) ?_
                refine lv_icmp_ne (tgt := 87) hx hb dX11_finds_72 (by decide) (fun c30 => ?_) (fun c30 => ?_)
                · have h := vz_f c30 h
                  refine lv_iconst (v := (0 : Int32)) hx hb dX11_finds_87 (by decide) ?_
                  refine lv_iadd hx hb dX11_finds_88 ?_
                  refine lv_istore_n (lv' := [(2, .int (x2 + (0 : Int32))), (4, .int r3), (0, .ref (ad 64)), (1, .int x1), (3, .int x3)]) hx hb dX11_finds_89 rfl hl (by decide) rfl (fun ls hl => ?_)
                  refine lv_iinc (v := (x3 + 1)) (lv' := [(3, .int (x3 + 1)), (2, .int (x2 + (0 : Int32))), (4, .int r3), (0, .ref (ad 64)), (1, .int x1)]) hx hb dX11_finds_90 hl (k := 4) rfl rfl (by decide) rfl (fun ls hl => ?_)
                  refine lv_goto (tgt := 19) hx hb dX11_finds_93 (by decide) ?_
                  exact ih (x2 + (0 : Int32)) (x3 + 1) ls o h hP hS (lv_sub hl [3, 4, 1, 0] rfl) hk
                · have h := vz_t c30 h
                  refine lv_aload_n hx hb dX11_finds_75 rfl (lv_at hl 1 rfl) ?_
                  refine lv_iload_n hx hb dX11_finds_76 rfl (lv_at hl 4 rfl) ?_
                  obtain ⟨r32, hc31, h⟩ := vz_b h
                  refine za_callR (va_runV (As := [.int x3]) (rest := [.int x2]) ⟨hx, hb, hml, hown, hts⟩ (k_X11_isFresh l (D := D) (cI := cI) (cJ := cJ) (ad := ad) hc31) (cwV 1 hts gX11_finds_X11_isFresh rfl rfl rfl ⟨rfl, zd_X11_isFresh⟩ ⟨Nat.le_of_ble_eq_true rfl, Nat.le_of_ble_eq_true rfl⟩) (xPreV (ci := 11) hK hP rfl zO_64) rfl rfl hl.1 rfl (lv_room (Nat.le_of_ble_eq_true rfl)) dX11_finds_77 ⟨Nat.zero_le _, Nat.zero_le _⟩) ?_
                  refine lv_if_eq (tgt := 87) hx hb dX11_finds_80 (by decide) (fun c33 => ?_) (fun c33 => ?_)
                  · have h := vz_t c33 h
                    refine lv_iconst (v := (0 : Int32)) hx hb dX11_finds_87 (by decide) ?_
                    refine lv_iadd hx hb dX11_finds_88 ?_
                    refine lv_istore_n (lv' := [(2, .int (x2 + (0 : Int32))), (4, .int r3), (0, .ref (ad 64)), (1, .int x1), (3, .int x3)]) hx hb dX11_finds_89 rfl hl (by decide) rfl (fun ls hl => ?_)
                    refine lv_iinc (v := (x3 + 1)) (lv' := [(3, .int (x3 + 1)), (2, .int (x2 + (0 : Int32))), (4, .int r3), (0, .ref (ad 64)), (1, .int x1)]) hx hb dX11_finds_90 hl (k := 4) rfl rfl (by decide) rfl (fun ls hl => ?_)
                    refine lv_goto (tgt := 19) hx hb dX11_finds_93 (by decide) ?_
                    exact ih (x2 + (0 : Int32)) (x3 + 1) ls o h hP hS (lv_sub hl [3, 4, 1, 0] rfl) hk
                  · have h := vz_f c33 h
                    refine lv_iconst (v := (1 : Int32)) hx hb dX11_finds_83 (by decide) ?_
                    refine lv_goto (tgt := 88) hx hb dX11_finds_84 (by decide) ?_
                    refine lv_iadd hx hb dX11_finds_88 ?_
                    refine lv_istore_n (lv' := [(2, .int (x2 + (1 : Int32))), (4, .int r3), (0, .ref (ad 64)), (1, .int x1), (3, .int x3)]) hx hb dX11_finds_89 rfl hl (by decide) rfl (fun ls hl => ?_)
                    refine lv_iinc (v := (x3 + 1)) (lv' := [(3, .int (x3 + 1)), (2, .int (x2 + (1 : Int32))), (4, .int r3), (0, .ref (ad 64)), (1, .int x1)]) hx hb dX11_finds_90 hl (k := 4) rfl rfl (by decide) rfl (fun ls hl => ?_)
                    refine lv_goto (tgt := 19) hx hb dX11_finds_93 (by decide) ?_
                    exact ih (x2 + (1 : Int32)) (x3 + 1) ls o h hP hS (lv_sub hl [3, 4, 1, 0] rfl) hk
              · have h := vz_t c29 h
                refine lv_iload hx hb dX11_finds_63 (lv_at hl 0 rfl) ?_
                refine lv_bipush (v := (-6 : Int32)) hx hb dX11_finds_65 (by decide) ?_
                refine lv_icmp_eq (tgt := 83) hx hb dX11_finds_67 (by decide) (fun c34 => ?_) (fun c34 => ?_)
                · have h := vz_t c34 h
                  refine lv_iconst (v := (1 : Int32)) hx hb dX11_finds_83 (by decide) ?_
                  refine lv_goto (tgt := 88) hx hb dX11_finds_84 (by decide) ?_
                  refine lv_iadd hx hb dX11_finds_88 ?_
                  refine lv_istore_n (lv' := [(2, .int (x2 + (1 : Int32))), (4, .int r3), (0, .ref (ad 64)), (1, .int x1), (3, .int x3)]) hx hb dX11_finds_89 rfl hl (by decide) rfl (fun ls hl => ?_)
                  refine lv_iinc (v := (x3 + 1)) (lv' := [(3, .int (x3 + 1)), (2, .int (x2 + (1 : Int32))), (4, .int r3), (0, .ref (ad 64)), (1, .int x1)]) hx hb dX11_finds_90 hl (k := 4) rfl rfl (by decide) rfl (fun ls hl => ?_)
                  refine lv_goto (tgt := 19) hx hb dX11_finds_93 (by decide) ?_
                  exact ih (x2 + (1 : Int32)) (x3 + 1) ls o h hP hS (lv_sub hl [3, 4, 1, 0] rfl) hk
                · have h := vz_f c34 h
                  refine lv_iload_n hx hb dX11_finds_70 rfl (lv_at hl 2 rfl) ?_
                  refine lv_iconst (v := (3 : Int32)) hx hb dX11_finds_71 (by decide) ?_
                  refine lv_icmp_ne (tgt := 87) hx hb dX11_finds_72 (by decide) (fun c35 => ?_) (fun c35 => ?_)
                  · have h := vz_f c35 h
                    refine lv_iconst (v := (0 : Int32)) hx hb dX11_finds_87 (by decide) ?_
                    refine lv_iadd hx hb dX11_finds_88 ?_
                    refine lv_istore_n (lv' := [(2, .int (x2 + (0 : Int32))), (4, .int r3), (0, .ref (ad 64)), (1, .int x1), (3, .int x3)]) hx hb dX11_finds_89 rfl hl (by decide) rfl (fun ls hl => ?_)
                    refine lv_iinc (v := (x3 + 1)) (lv' := [(3, .int (x3 + 1)), (2, .int (x2 + (0 : Int32))), (4, .int r3), (0, .ref (ad 64)), (1, .int x1)]) hx hb dX11_finds_90 hl (k := 4) rfl rfl (by decide) rfl (fun ls hl => ?_)
                    refine lv_goto (tgt := 19) hx hb dX11_finds_93 (by decide) ?_
                    exact ih (x2 + (0 : Int32)) (x3 + 1) ls o h hP hS (lv_sub hl [3, 4, 1, 0] rfl) hk
                  · have h := vz_t c35 h
                    refine lv_aload_n hx hb dX11_finds_75 rfl (lv_at hl 1 rfl) ?_
                    refine lv_iload_n hx hb dX11_finds_76 rfl (lv_at hl 4 rfl) ?_
                    obtain ⟨r37, hc36, h⟩ := vz_b h
                    refine za_callR (va_runV (As := [.int x3]) (rest := [.int x2]) ⟨hx, hb, hml, hown, hts⟩ (k_X11_isFresh l (D := D) (cI := cI) (cJ := cJ) (ad := ad) hc36) (cwV 1 hts gX11_finds_X11_isFresh rfl rfl rfl ⟨rfl, zd_X11_isFresh⟩ ⟨Nat.le_of_ble_eq_true rfl, Nat.le_of_ble_eq_true rfl⟩) (xPreV (ci := 11) hK hP rfl zO_64) rfl rfl hl.1 rfl (lv_room (Nat.le_of_ble_eq_true rfl)) dX11_finds_77 ⟨Nat.zero_le _, Nat.zero_le _⟩) ?_
                    refine lv_if_eq (tgt := 87) hx hb dX11_finds_80 (by decide) (fun c38 => ?_) (fun c38 => ?_)
                    · have h := vz_t c38 h
                      refine lv_iconst (v := (0 : Int32)) hx hb dX11_finds_87 (by decide) ?_
                      refine lv_iadd hx hb dX11_finds_88 ?_
                      refine lv_istore_n (lv' := [(2, .int (x2 + (0 : Int32))), (4, .int r3), (0, .ref (ad 64)), (1, .int x1), (3, .int x3)]) hx hb dX11_finds_89 rfl hl (by decide) rfl (fun ls hl => ?_)
                      refine lv_iinc (v := (x3 + 1)) (lv' := [(3, .int (x3 + 1)), (2, .int (x2 + (0 : Int32))), (4, .int r3), (0, .ref (ad 64)), (1, .int x1)]) hx hb dX11_finds_90 hl (k := 4) rfl rfl (by decide) rfl (fun ls hl => ?_)
                      refine lv_goto (tgt := 19) hx hb dX11_finds_93 (by decide) ?_
                      exact ih (x2 + (0 : Int32)) (x3 + 1) ls o h hP hS (lv_sub hl [3, 4, 1, 0] rfl) hk
                    · have h := vz_f c38 h
                      refine lv_iconst (v := (1 : Int32)) hx hb dX11_finds_83 (by decide) ?_
                      refine lv_goto (tgt := 88) hx hb dX11_finds_84 (by decide) ?_
                      refine lv_iadd hx hb dX11_finds_88 ?_
                      refine lv_istore_n (lv' := [(2, .int (x2 + (1 : Int32))), (4, .int r3), (0, .ref (ad 64)), (1, .int x1), (3, .int x3)]) hx hb dX11_finds_89 rfl hl (by decide) rfl (fun ls hl => ?_)
                      refine lv_iinc (v := (x3 + 1)) (lv' := [(3, .int (x3 + 1)), (2, .int (x2 + (1 : Int32))), (4, .int r3), (0, .ref (ad 64)), (1, .int x1)]) hx hb dX11_finds_90 hl (k := 4) rfl rfl (by decide) rfl (fun ls hl => ?_)
                      refine lv_goto (tgt := 19) hx hb dX11_finds_93 (by decide) ?_
                      exact ih (x2 + (1 : Int32)) (x3 + 1) ls o h hP hS (lv_sub hl [3, 4, 1, 0] rfl) hk
            · have h := vz_t c28 h
              refine lv_iload hx hb dX11_finds_51 (lv_at hl 0 rfl) ?_
              refine lv_bipush (v := (-5 : Int32)) hx hb dX11_finds_53 (by decide) ?_
              refine lv_icmp_eq (tgt := 83) hx hb dX11_finds_55 (by decide) (fun c39 => ?_) (fun c39 => ?_)
              · have h := vz_t c39 h
                refine lv_iconst (v := (1 : Int32)) hx hb dX11_finds_83 (by decide) ?_
                refine lv_goto (tgt := 88) hx hb dX11_finds_84 (by decide) ?_
                refine lv_iadd hx hb dX11_finds_88 ?_
                refine lv_istore_n (lv' := [(2, .int (x2 + (1 : Int32))), (4, .int r3), (0, .ref (ad 64)), (1, .int x1), (3, .int x3)]) hx hb dX11_finds_89 rfl hl (by decide) rfl (fun ls hl => ?_)
                refine lv_iinc (v := (x3 + 1)) (lv' := [(3, .int (x3 + 1)), (2, .int (x2 + (1 : Int32))), (4, .int r3), (0, .ref (ad 64)), (1, .int x1)]) hx hb dX11_finds_90 hl (k := 4) rfl rfl (by decide) rfl (fun ls hl => ?_)
                refine lv_goto (tgt := 19) hx hb dX11_finds_93 (by decide) ?_
                exact ih (x2 + (1 : Int32)) (x3 + 1) ls o h hP hS (lv_sub hl [3, 4, 1, 0] rfl) hk
              · have h := vz_f c39 h
                refine lv_iload_n hx hb dX11_finds_58 rfl (lv_at hl 2 rfl) ?_
                refine lv_iconst (v := (2 : Int32)) hx hb dX11_finds_59 (by decide) ?_
                refine lv_icmp_ne (tgt := 70) hx hb dX11_finds_60 (by decide) (fun c40 => ?_) (fun c40 => ?_)
                · have h := vz_f c40 h
                  refine lv_iload_n hx hb dX11_finds_70 rfl (lv_at hl 2 rfl) ?_
                  refine lv_iconst (v := (3 : Int32)) hx hb dX11_finds_71 (by decide) ?_
                  refine lv_icmp_ne (tgt := 87) hx hb dX11_finds_72 (by decide) (fun c41 => ?_) (fun c41 => ?_)
                  · have h := vz_f c41 h
                    refine lv_iconst (v := (0 : Int32)) hx hb dX11_finds_87 (by decide) ?_
                    refine lv_iadd hx hb dX11_finds_88 ?_
                    refine lv_istore_n (lv' := [(2, .int (x2 + (0 : Int32))), (4, .int r3), (0, .ref (ad 64)), (1, .int x1), (3, .int x3)]) hx hb dX11_finds_89 rfl hl (by decide) rfl (fun ls hl => ?_)
                    refine lv_iinc (v := (x3 + 1)) (lv' := [(3, .int (x3 + 1)), (2, .int (x2 + (0 : Int32))), (4, .int r3), (0, .ref (ad 64)), (1, .int x1)]) hx hb dX11_finds_90 hl (k := 4) rfl rfl (by decide) rfl (fun ls hl => ?_)
                    refine lv_goto (tgt := 19) hx hb dX11_finds_93 (by decide) ?_
                    exact ih (x2 + (0 : Int32)) (x3 + 1) ls o h hP hS (lv_sub hl [3, 4, 1, 0] rfl) hk
                  · have h := vz_t c41 h
                    refine lv_aload_n hx hb dX11_finds_75 rfl (lv_at hl 1 rfl) ?_
                    refine lv_iload_n hx hb dX11_finds_76 rfl (lv_at hl 4 rfl) ?_
                    obtain ⟨r43, hc42, h⟩ := vz_b h
                    refine za_callR (va_runV (As := [.int x3]) (rest := [.int x2]) ⟨hx, hb, hml, hown, hts⟩ (k_X11_isFresh l (D := D) (cI := cI) (cJ := cJ) (ad := ad) hc42) (cwV 1 hts gX11_finds_X11_isFresh rfl rfl rfl ⟨rfl, zd_X11_isFresh⟩ ⟨Nat.le_of_ble_eq_true rfl, Nat.le_of_ble_eq_true rfl⟩) (xPreV (ci := 11) hK hP rfl zO_64) rfl rfl hl.1 rfl (lv_room (Nat.le_of_ble_eq_true rfl)) dX11_finds_77 ⟨Nat.zero_le _, Nat.zero_le _⟩) ?_
                    refine lv_if_eq (tgt := 87) hx hb dX11_finds_80 (by decide) (fun c44 => ?_) (fun c44 => ?_)
                    · have h := vz_t c44 h
                      refine lv_iconst (v := (0 : Int32)) hx hb dX11_finds_87 (by decide) ?_
                      refine lv_iadd hx hb dX11_finds_88 ?_
                      refine lv_istore_n (lv' := [(2, .int (x2 + (0 : Int32))), (4, .int r3), (0, .ref (ad 64)), (1, .int x1), (3, .int x3)]) hx hb dX11_finds_89 rfl hl (by decide) rfl (fun ls hl => ?_)
                      refine lv_iinc (v := (x3 + 1)) (lv' := [(3, .int (x3 + 1)), (2, .int (x2 + (0 : Int32))), (4, .int r3), (0, .ref (ad 64)), (1, .int x1)]) hx hb dX11_finds_90 hl (k := 4) rfl rfl (by decide) rfl (fun ls hl => ?_)
                      refine lv_goto (tgt := 19) hx hb dX11_finds_93 (by decide) ?_
                      exact ih (x2 + (0 : Int32)) (x3 + 1) ls o h hP hS (lv_sub hl [3, 4, 1, 0] rfl) hk
                    · have h := vz_f c44 h
                      refine lv_iconst (v := (1 : Int32)) hx hb dX11_finds_83 (by decide) ?_
                      refine lv_goto (tgt := 88) hx hb dX11_finds_84 (by decide) ?_
                      refine lv_iadd hx hb dX11_finds_88 ?_
                      refine lv_istore_n (lv' := [(2, .int (x2 + (1 : Int32))), (4, .int r3), (0, .ref (ad 64)), (1, .int x1), (3, .int x3)]) hx hb dX11_finds_89 rfl hl (by decide) rfl (fun ls hl => ?_)
                      refine lv_iinc (v := (x3 + 1)) (lv' := [(3, .int (x3 + 1)), (2, .int (x2 + (1 : Int32))), (4, .int r3), (0, .ref (ad 64)), (1, .int x1)]) hx hb dX11_finds_90 hl (k := 4) rfl rfl (by decide) rfl (fun ls hl => ?_)
                      refine lv_goto (tgt := 19) hx hb dX11_finds_93 (by decide) ?_
                      exact ih (x2 + (1 : Int32)) (x3 + 1) ls o h hP hS (lv_sub hl [3, 4, 1, 0] rfl) hk
                · have h := vz_t c40 h
                  refine lv_iload hx hb dX11_finds_63 (lv_at hl 0 rfl) ?_
                  refine lv_bipush (v := (-6 : Int32)) hx hb dX11_finds_65 (by decide) ?_
                  refine lv_icmp_eq (tgt := 83) hx hb dX11_finds_67 (by decide) (fun c45 => ?_) (fun c45 => ?_)
                  · have h := vz_t c45 h
                    refine lv_iconst (v := (1 : Int32)) hx hb dX11_finds_83 (by decide) ?_
                    refine lv_goto (tgt := 88) hx hb dX11_finds_84 (by decide) ?_
                    refine lv_iadd hx hb dX11_finds_88 ?_
                    refine lv_istore_n (lv' := [(2, .int (x2 + (1 : Int32))), (4, .int r3), (0, .ref (ad 64)), (1, .int x1), (3, .int x3)]) hx hb dX11_finds_89 rfl hl (by decide) rfl (fun ls hl => ?_)
                    refine lv_iinc (v := (x3 + 1)) (lv' := [(3, .int (x3 + 1)), (2, .int (x2 + (1 : Int32))), (4, .int r3), (0, .ref (ad 64)), (1, .int x1)]) hx hb dX11_finds_90 hl (k := 4) rfl rfl (by decide) rfl (fun ls hl => ?_)
                    refine lv_goto (tgt := 19) hx hb dX11_finds_93 (by decide) ?_
                    exact ih (x2 + (1 : Int32)) (x3 + 1) ls o h hP hS (lv_sub hl [3, 4, 1, 0] rfl) hk
                  · have h := vz_f c45 h
                    refine lv_iload_n hx hb dX11_finds_70 rfl (lv_at hl 2 rfl) ?_
                    refine lv_iconst (v := (3 : Int32)) hx hb dX11_finds_71 (by decide) ?_
                    refine lv_icmp_ne (tgt := 87) hx hb dX11_finds_72 (by decide) (fun c46 => ?_) (fun c46 => ?_)
                    · have h := vz_f c46 h
                      refine lv_iconst (v := (0 : Int32)) hx hb dX11_finds_87 (by decide) ?_
                      refine lv_iadd hx hb dX11_finds_88 ?_
                      refine lv_istore_n (lv' := [(2, .int (x2 + (0 : Int32))), (4, .int r3), (0, .ref (ad 64)), (1, .int x1), (3, .int x3)]) hx hb dX11_finds_89 rfl hl (by decide) rfl (fun ls hl => ?_)
                      refine lv_iinc (v := (x3 + 1)) (lv' := [(3, .int (x3 + 1)), (2, .int (x2 + (0 : Int32))), (4, .int r3), (0, .ref (ad 64)), (1, .int x1)]) hx hb dX11_finds_90 hl (k := 4) rfl rfl (by decide) rfl (fun ls hl => ?_)
                      refine lv_goto (tgt := 19) hx hb dX11_finds_93 (by decide) ?_
                      exact ih (x2 + (0 : Int32)) (x3 + 1) ls o h hP hS (lv_sub hl [3, 4, 1, 0] rfl) hk
                    · have h := vz_t c46 h
                      refine lv_aload_n hx hb dX11_finds_75 rfl (lv_at hl 1 rfl) ?_
                      refine lv_iload_n hx hb dX11_finds_76 rfl (lv_at hl 4 rfl) ?_
                      obtain ⟨r48, hc47, h⟩ := vz_b h
                      refine za_callR (va_runV (As := [.int x3]) (rest := [.int x2]) ⟨hx, hb, hml, hown, hts⟩ (k_X11_isFresh l (D := D) (cI := cI) (cJ := cJ) (ad := ad) hc47) (cwV 1 hts gX11_finds_X11_isFresh rfl rfl rfl ⟨rfl, zd_X11_isFresh⟩ ⟨Nat.le_of_ble_eq_true rfl, Nat.le_of_ble_eq_true rfl⟩) (xPreV (ci := 11) hK hP rfl zO_64) rfl rfl hl.1 rfl (lv_room (Nat.le_of_ble_eq_true rfl)) dX11_finds_77 ⟨Nat.zero_le _, Nat.zero_le _⟩) ?_
                      refine lv_if_eq (tgt := 87) hx hb dX11_finds_80 (by decide) (fun c49 => ?_) (fun c49 => ?_)
                      · have h := vz_t c49 h
                        refine lv_iconst (v := (0 : Int32)) hx hb dX11_finds_87 (by decide) ?_
                        refine lv_iadd hx hb dX11_finds_88 ?_
                        refine lv_istore_n (lv' := [(2, .int (x2 + (0 : Int32))), (4, .int r3), (0, .ref (ad 64)), (1, .int x1), (3, .int x3)]) hx hb dX11_finds_89 rfl hl (by decide) rfl (fun ls hl => ?_)
                        refine lv_iinc (v := (x3 + 1)) (lv' := [(3, .int (x3 + 1)), (2, .int (x2 + (0 : Int32))), (4, .int r3), (0, .ref (ad 64)), (1, .int x1)]) hx hb dX11_finds_90 hl (k := 4) rfl rfl (by decide) rfl (fun ls hl => ?_)
                        refine lv_goto (tgt := 19) hx hb dX11_finds_93 (by decide) ?_
                        exact ih (x2 + (0 : Int32)) (x3 + 1) ls o h hP hS (lv_sub hl [3, 4, 1, 0] rfl) hk
                      · have h := vz_f c49 h
                        refine lv_iconst (v := (1 : Int32)) hx hb dX11_finds_83 (by decide) ?_
                        refine lv_goto (tgt := 88) hx hb dX11_finds_84 (by decide) ?_
                        refine lv_iadd hx hb dX11_finds_88 ?_
                        refine lv_istore_n (lv' := [(2, .int (x2 + (1 : Int32))), (4, .int r3), (0, .ref (ad 64)), (1, .int x1), (3, .int x3)]) hx hb dX11_finds_89 rfl hl (by decide) rfl (fun ls hl => ?_)
                        refine lv_iinc (v := (x3 + 1)) (lv' := [(3, .int (x3 + 1)), (2, .int (x2 + (1 : Int32))), (4, .int r3), (0, .ref (ad 64)), (1, .int x1)]) hx hb dX11_finds_90 hl (k := 4) rfl rfl (by decide) rfl (fun ls hl => ?_)
                        refine lv_goto (tgt := 19) hx hb dX11_finds_93 (by decide) ?_
                        exact ih (x2 + (1 : Int32)) (x3 + 1) ls o h hP hS (lv_sub hl [3, 4, 1, 0] rfl) hk
  rw [pX11_finds] at h
  refine lv_iload_n hx hb dX11_finds_0 rfl (lv_at hl 1 rfl) ?_
  refine lv_iconst (v := (0 : Int32)) hx hb dX11_finds_1 (by decide) ?_
  refine lv_iconst (v := (3 : Int32)) hx hb dX11_finds_2 (by decide) ?_
  obtain ⟨r51, hc50, h⟩ := vz_b h
  refine za_callR (va_runS (As := [.int a1, .int (0 : Int32), .int (3 : Int32)]) (rest := []) ⟨hx, hb, hml, hown, hts⟩ (k_X11_isIn l hc50) (va_cwS 3 hts gX11_finds_X11_isIn rfl rfl rfl zd_X11_isIn ⟨Nat.le_of_ble_eq_true rfl, Nat.le_of_ble_eq_true rfl⟩) xPre0 rfl rfl hl.1 rfl (lv_room (Nat.le_of_ble_eq_true rfl)) dX11_finds_3 ⟨Nat.zero_le _, Nat.zero_le _⟩) ?_
  refine lv_if_ne (tgt := 15) hx hb dX11_finds_6 (by decide) (fun c52 => ?_) (fun c52 => ?_)
  · have h := vz_f c52 h
    refine lv_iconst (v := (0 : Int32)) hx hb dX11_finds_15 (by decide) ?_
    refine lv_istore_n (lv' := [(2, .int (0 : Int32)), (0, .ref (ad 64)), (1, .int a1)]) hx hb dX11_finds_16 rfl hl (by decide) rfl (fun ls hl => ?_)
    refine lv_iconst (v := (0 : Int32)) hx hb dX11_finds_17 (by decide) ?_
    refine lv_istore_n (lv' := [(3, .int (0 : Int32)), (2, .int (0 : Int32)), (0, .ref (ad 64)), (1, .int a1)]) hx hb dX11_finds_18 rfl hl (by decide) rfl (fun ls hl => ?_)
    obtain ⟨o53, hL54, h⟩ := vz_b h
    refine L19 u v _ _ a1 fuel (0 : Int32) (0 : Int32) ls o53 hL54 hP hS (lv_sub hl [2, 3, 1, 0] rfl) (fun y56 ls e55 hl => ?_)
    try rw [e55] at h
    try dsimp only at h
    refine lv_iload_n hx hb dX11_finds_96 rfl (lv_at hl 0 rfl) ?_
    cases h
    exact W.iret hx hb hr (fun t ht _ => ⟨rfl, by rw [ht]; exact hP, hS.F ht⟩) hS.2.2 dX11_finds_97
  · have h := vz_t c52 h
    refine lv_aload_n hx hb dX11_finds_9 rfl (lv_at hl 0 rfl) ?_
    refine lv_iconst (v := (-1 : Int32)) hx hb dX11_finds_10 (by decide) ?_
    obtain ⟨⟨r61, u58, v59⟩, hc57, h⟩ := vz_b h
    try dsimp only at h
    refine za_callWi (va_runV (As := [.int (-1 : Int32)]) (rest := []) ⟨hx, hb, hml, hown, hts⟩ (k_X11_finding l (D := D) (cI := cI) (cJ := cJ) (ad := ad) hD hc57) (cwV 1 hts gX11_finds_X11_finding rfl rfl rfl ⟨rfl, zd_X11_finding⟩ ⟨Nat.le_of_ble_eq_true rfl, Nat.le_of_ble_eq_true rfl⟩) (xPreV (ci := 11) hK hP rfl zO_64) rfl rfl hl.1 rfl (lv_room (Nat.le_of_ble_eq_true rfl)) dX11_finds_11 ⟨Nat.zero_le _, Nat.zero_le _⟩) hS (fun H locs hP hS => ?_)
    cases h
    exact W.iret hx hb hr (fun t ht _ => ⟨rfl, by rw [ht]; exact hP, hS.F ht⟩) hS.2.2 dX11_finds_14
