abbrev rmX11_finding : Room := { frames := 0, cells := 0, slots := 0, locals := 0 }
set_option maxHeartbeats 4000000 in
set_option maxRecDepth 100000 in
theorem k_X11_finding (l : Launch) {D : va_G} {cI cJ : ClassId} {ad : Nat → Nat} {u : tU} {v : tV} {A : Nat → Prop} (hD : zD A cI cJ ad) {a1 : Int32}  {r : Int32} {uz : tU} {vz : tV} (h : pX11_finding u v a1 = some (r, uz, vz)) : Met l yX11_finding wsX11_finding rmX11_finding (va_Pc [.ref (ad 64), .int a1] (xPre D cI cJ (wA cI cJ ad u v))) (xWi D cI cJ ad A r uz vz) 0 0 A := by
  refine Met.ofW (cc := cX11_finding) (maxL := 2) (ret := (some .int)) (by decide) rfl ?_
  intro p e s m args below meth c s₁ B hml hv
  obtain ⟨rfl, hP, hK⟩ := hv
  have hx := B.exec
  have hb := B.bytes
  have hr := B.returns
  have hts := atoms_spec (ws := wsX11_finding) B.pre
  have hown : s.vm.findClass RX11 = some m.cls := findClass_of_methodNamed B.named
  have hlocks := B.notSynchronized
  have hS : va_S A s.heap s.heap [] := va_S.rf
  have hin11 : ∀ w ∈ u_ws RX11 TX11 10, w ∈ wsX11_finding := fun _ h => List.mem_cons_of_mem _ (List.mem_append_right _ h)
  have hw1 := hts (.fieldLink RX11 25 "InstallDeskModel" "found" "I") (List.mem_of_getElem? (i := 1) rfl)
  have hl := lv_entry ([.ref (ad 64), .int a1]) (n := 2) (Nat.le_of_ble_eq_true rfl)
  rw [lg_entry_eq]
  generalize (lg_sl ([.ref (ad 64), .int a1]) ++ List.replicate (2 - (lg_sl ([.ref (ad 64), .int a1])).length) Slot.unset).toArray = ls at hl ⊢
  have hl : lv_has ls 2 [(0, .ref (ad 64)), (1, .int a1)] := hl
  rw [pX11_finding] at h
  refine lv_aload_n hx hb dX11_finding_0 rfl (lv_at hl 0 rfl) ?_
  refine lv_dup hx hb dX11_finding_1 rfl ?_
  refine za_geti (k := 5) hx hb hts hin11 hown hK hP zF_64_5 rfl (Nat.le_of_ble_eq_true rfl) (Or.inl hw1) dX11_finding_2 ?_
  refine lv_iconst (v := (1 : Int32)) hx hb dX11_finding_5 (by decide) ?_
  refine lv_iadd hx hb dX11_finding_6 ?_
  refine za_puti (k := 5) hx hb hts hin11 tyX11 tyX11_ok nmX11 hown hK hP hD hS zF_64_5 rfl (Nat.le_of_ble_eq_true rfl) (Or.inl hw1) rfl rfl rfl dX11_finding_7 (fun H locs hP hS => ?_)
  refine lv_iload_n hx hb dX11_finding_10 rfl (lv_at hl 1 rfl) ?_
  cases h
  exact W.iret hx hb hr (fun t ht _ => ⟨rfl, by rw [ht]; exact hP, hS.F ht⟩) hS.2.2 dX11_finding_11
abbrev rmX11_all : Room := { frames := 6, cells := 0, slots := 0, locals := 142 }
set_option maxHeartbeats 4000000 in
set_option maxRecDepth 100000 in
theorem k_X11_all (l : Launch) {D : va_G} {cI cJ : ClassId} {ad : Nat → Nat} {u : tU} {v : tV} {A : Nat → Prop} (hD : zD A cI cJ ad) {a1 : Int32}  {r : Int32} {uz : tU} {vz : tV} (h : pX11_all u v a1 = some (r, uz, vz)) : Met l yX11_all wsX11_all rmX11_all (va_Pc [.ref (ad 64), .int a1] (xPre D cI cJ (wA cI cJ ad u v))) (xWi D cI cJ ad A r uz vz) 0 0 A := by
  refine Met.ofW (cc := cX11_all) (maxL := 4) (ret := (some .int)) (by decide) rfl ?_
  intro p e s m args below meth c s₁ B hml hv
  obtain ⟨rfl, hP, hK⟩ := hv
  have hx := B.exec
  have hb := B.bytes
  have hr := B.returns
  have hts := atoms_spec (ws := wsX11_all) B.pre
  have hown : s.vm.findClass RX11 = some m.cls := findClass_of_methodNamed B.named
  have hlocks := B.notSynchronized
  have hS : va_S A s.heap s.heap [] := va_S.rf
  have hin11 : ∀ w ∈ u_ws RX11 TX11 10, w ∈ wsX11_all := fun _ h => List.mem_cons_of_mem _ (List.mem_append_right _ h)
  have hw1 := hts (.fieldLink RX11 13 "InstallDeskModel" "book" "[I") (List.mem_of_getElem? (i := 1) rfl)
  have hl := lv_entry ([.ref (ad 64), .int a1]) (n := 4) (Nat.le_of_ble_eq_true rfl)
  rw [lg_entry_eq]
  generalize (lg_sl ([.ref (ad 64), .int a1]) ++ List.replicate (4 - (lg_sl ([.ref (ad 64), .int a1])).length) Slot.unset).toArray = ls at hl ⊢
  have hl : lv_has ls 4 [(0, .ref (ad 64)), (1, .int a1)] := hl
  have L23 : ∀ (u : tU) (v : tV) (H : Heap) (locs : List Loc) (x1 : Int32) (n : Nat) (x2 : Int32) (x3 : Int32) (ls : Array Slot) (o : Int32), pX11_all_L23 u v x1 n x2 x3 = some o → va_P D vwCl (wA cI cJ ad u v) H → va_S A s.heap H locs → lv_has ls 4 [(0, .ref (ad 64)), (1, .int x1), (2, .int x2), (3, .int x3)] → (∀ (y2 : Int32) (ls : Array Slot), o = y2 → lv_has ls 4 [(2, .int y2)] → W p l e (headSpec wsX11_all rmX11_all).room s m [Value.ref (ad 64), Value.int a1].toArray below meth c H locs 0 0 (MQ below (xWi D cI cJ ad A r uz vz) [Value.ref (ad 64), Value.int a1].toArray s 0 0 A) (F0 m 48 ls [])) → W p l e (headSpec wsX11_all rmX11_all).room s m [Value.ref (ad 64), Value.int a1].toArray below meth c H locs 0 0 (MQ below (xWi D cI cJ ad A r uz vz) [Value.ref (ad 64), Value.int a1].toArray s 0 0 A) (F0 m 23 ls []) := by
    intro u v H locs x1 n
    induction n with
    | zero => intro x2 x3 ls o h; cases h
    | succ n ih =>
      intro x2 x3 ls o h hP hS hl hk
      rw [pX11_all_L23] at h
      refine lv_iload_n hx hb dX11_all_23 rfl (lv_at hl 3 rfl) ?_
      refine lv_aload_n hx hb dX11_all_24 rfl (lv_at hl 0 rfl) ?_
      refine za_getr (k := 2) hx hb hts hin11 hown hK hP zF_64_2 rfl (Nat.le_of_ble_eq_true rfl) (Or.inl hw1) dX11_all_25 ?_
      refine lv_iconst (v := (0 : Int32)) hx hb dX11_all_28 (by decide) ?_
      refine za_ildc (j := 0) hx hb hK hP zI_66 (by unfold vp_in; decide) rfl dX11_all_29 ?_
      refine lv_icmp_ge (tgt := 48) hx hb dX11_all_30 (by decide) (fun c1 => ?_) (fun c1 => ?_)
      · have h := vz_t c1 h
        cases h
        exact hk x2 ls rfl (lv_sub hl [2] rfl)
      · have h := vz_f c1 h
        refine lv_iload_n hx hb dX11_all_33 rfl (lv_at hl 2 rfl) ?_
        refine lv_aload_n hx hb dX11_all_34 rfl (lv_at hl 0 rfl) ?_
        refine lv_iload_n hx hb dX11_all_35 rfl (lv_at hl 3 rfl) ?_
        refine lv_iload_n hx hb dX11_all_36 rfl (lv_at hl 1 rfl) ?_
        obtain ⟨r3, hc2, h⟩ := vz_b h
        refine za_callR (va_runV (As := [.int x3, .int x1]) (rest := [.int x2]) ⟨hx, hb, hml, hown, hts⟩ (k_X11_measureOf l (D := D) (cI := cI) (cJ := cJ) (ad := ad) hc2) (cwV 2 hts gX11_all_X11_measureOf rfl rfl rfl ⟨rfl, zd_X11_measureOf⟩ ⟨Nat.le_of_ble_eq_true rfl, Nat.le_of_ble_eq_true rfl⟩) (xPreV (ci := 11) hK hP rfl zO_64) rfl rfl hl.1 rfl (lv_room (Nat.le_of_ble_eq_true rfl)) dX11_all_37 ⟨Nat.zero_le _, Nat.zero_le _⟩) ?_
        refine lv_iadd hx hb dX11_all_40 ?_
        refine lv_istore_n (lv' := [(2, .int (x2 + r3)), (0, .ref (ad 64)), (1, .int x1), (3, .int x3)]) hx hb dX11_all_41 rfl hl (by decide) rfl (fun ls hl => ?_)
        refine lv_iinc (v := (x3 + 1)) (lv' := [(3, .int (x3 + 1)), (2, .int (x2 + r3)), (0, .ref (ad 64)), (1, .int x1)]) hx hb dX11_all_42 hl (k := 3) rfl rfl (by decide) rfl (fun ls hl => ?_)
        refine lv_goto (tgt := 23) hx hb dX11_all_45 (by decide) ?_
        exact ih (x2 + r3) (x3 + 1) ls o h hP hS (lv_sub hl [2, 3, 1, 0] rfl) hk
  rw [pX11_all] at h
  refine lv_iload_n hx hb dX11_all_0 rfl (lv_at hl 1 rfl) ?_
  refine lv_iconst (v := (0 : Int32)) hx hb dX11_all_1 (by decide) ?_
  refine lv_iconst (v := (3 : Int32)) hx hb dX11_all_2 (by decide) ?_
  obtain ⟨r5, hc4, h⟩ := vz_b h
  refine za_callR (va_runS (As := [.int a1, .int (0 : Int32), .int (3 : Int32)]) (rest := []) ⟨hx, hb, hml, hown, hts⟩ (k_X11_isIn l hc4) (va_cwS 3 hts gX11_all_X11_isIn rfl rfl rfl zd_X11_isIn ⟨Nat.le_of_ble_eq_true rfl, Nat.le_of_ble_eq_true rfl⟩) xPre0 rfl rfl hl.1 rfl (lv_room (Nat.le_of_ble_eq_true rfl)) dX11_all_3 ⟨Nat.zero_le _, Nat.zero_le _⟩) ?_
  refine lv_if_ne (tgt := 15) hx hb dX11_all_6 (by decide) (fun c6 => ?_) (fun c6 => ?_)
  · have h := vz_f c6 h
    refine lv_aload_n hx hb dX11_all_15 rfl (lv_at hl 0 rfl) ?_
    obtain ⟨⟨u8, v9⟩, hc7, h⟩ := vz_b h
    try dsimp only at h
    refine za_callWv (va_runV (As := []) (rest := []) ⟨hx, hb, hml, hown, hts⟩ (k_X11_tellHad l (D := D) (cI := cI) (cJ := cJ) (ad := ad) hD hc7) (cwV 0 hts gX11_all_X11_tellHad rfl rfl rfl ⟨rfl, zd_X11_tellHad⟩ ⟨Nat.le_of_ble_eq_true rfl, Nat.le_of_ble_eq_true rfl⟩) (xPreV (ci := 11) hK hP rfl zO_64) rfl rfl hl.1 rfl (lv_room (Nat.le_of_ble_eq_true rfl)) dX11_all_16 ⟨Nat.zero_le _, Nat.zero_le _⟩) hS (fun H locs hP hS => ?_)
    refine lv_iconst (v := (0 : Int32)) hx hb dX11_all_19 (by decide) ?_
    refine lv_istore_n (lv' := [(2, .int (0 : Int32)), (0, .ref (ad 64)), (1, .int a1)]) hx hb dX11_all_20 rfl hl (by decide) rfl (fun ls hl => ?_)
    refine lv_iconst (v := (0 : Int32)) hx hb dX11_all_21 (by decide) ?_
    refine lv_istore_n (lv' := [(3, .int (0 : Int32)), (2, .int (0 : Int32)), (0, .ref (ad 64)), (1, .int a1)]) hx hb dX11_all_22 rfl hl (by decide) rfl (fun ls hl => ?_)
    obtain ⟨o11, hL12, h⟩ := vz_b h
    refine L23 u8 v9 _ _ a1 fuel (0 : Int32) (0 : Int32) ls o11 hL12 hP hS (lv_sub hl [2, 3, 1, 0] rfl) (fun y14 ls e13 hl => ?_)
    try rw [e13] at h
    try dsimp only at h
    refine lv_iload_n hx hb dX11_all_48 rfl (lv_at hl 0 rfl) ?_
    cases h
    exact W.iret hx hb hr (fun t ht _ => ⟨rfl, by rw [ht]; exact hP, hS.F ht⟩) hS.2.2 dX11_all_49
  · have h := vz_t c6 h
    refine lv_aload_n hx hb dX11_all_9 rfl (lv_at hl 0 rfl) ?_
    refine lv_iconst (v := (-1 : Int32)) hx hb dX11_all_10 (by decide) ?_
    obtain ⟨⟨r19, u16, v17⟩, hc15, h⟩ := vz_b h
    try dsimp only at h
    refine za_callWi (va_runV (As := [.int (-1 : Int32)]) (rest := []) ⟨hx, hb, hml, hown, hts⟩ (k_X11_finding l (D := D) (cI := cI) (cJ := cJ) (ad := ad) hD hc15) (cwV 1 hts gX11_all_X11_finding rfl rfl rfl ⟨rfl, zd_X11_finding⟩ ⟨Nat.le_of_ble_eq_true rfl, Nat.le_of_ble_eq_true rfl⟩) (xPreV (ci := 11) hK hP rfl zO_64) rfl rfl hl.1 rfl (lv_room (Nat.le_of_ble_eq_true rfl)) dX11_all_11 ⟨Nat.zero_le _, Nat.zero_le _⟩) hS (fun H locs hP hS => ?_)
    cases h
    exact W.iret hx hb hr (fun t ht _ => ⟨rfl, by rw [ht]; exact hP, hS.F ht⟩) hS.2.2 dX11_all_14
abbrev rmX11_isRight : Room := { frames := 0, cells := 0, slots := 0, locals := 0 }
set_option maxHeartbeats 4000000 in
set_option maxRecDepth 100000 in
theorem k_X11_isRight (l : Launch) {D : va_G} {cI cJ : ClassId} {ad : Nat → Nat} {u : tU} {v : tV} {a1 : Int32}  {r : Int32}  (h : pX11_isRight u v a1 = some r) : Met l yX11_isRight wsX11_isRight rmX11_isRight (va_Pc [.ref (ad 64), .int a1] (xPre D cI cJ (wA cI cJ ad u v))) (QcRead r) 0 0 (fun _ => False) := by
  refine Met.ofW (cc := cX11_isRight) (maxL := 2) (ret := (some .boolean)) (by decide) rfl ?_
  intro p e s m args below meth c s₁ B hml hv
  obtain ⟨rfl, hP, hK⟩ := hv
  have hx := B.exec
  have hb := B.bytes
  have hr := B.returns
  have hts := atoms_spec (ws := wsX11_isRight) B.pre
  have hown : s.vm.findClass RX11 = some m.cls := findClass_of_methodNamed B.named
  have hlocks := B.notSynchronized
  have hin11 : ∀ w ∈ u_ws RX11 TX11 10, w ∈ wsX11_isRight := fun _ h => List.mem_cons_of_mem _ (List.mem_append_right _ h)
  have hw1 := hts (.fieldLink RX11 13 "InstallDeskModel" "book" "[I") (List.mem_of_getElem? (i := 1) rfl)
  have hl := lv_entry ([.ref (ad 64), .int a1]) (n := 2) (Nat.le_of_ble_eq_true rfl)
  rw [lg_entry_eq]
  generalize (lg_sl ([.ref (ad 64), .int a1]) ++ List.replicate (2 - (lg_sl ([.ref (ad 64), .int a1])).length) Slot.unset).toArray = ls at hl ⊢
  have hl : lv_has ls 2 [(0, .ref (ad 64)), (1, .int a1)] := hl
  rw [pX11_isRight] at h
  refine lv_iload_n hx hb dX11_isRight_0 rfl (lv_at hl 1 rfl) ?_
  refine lv_if_lt (tgt := 18) hx hb dX11_isRight_1 (by decide) (fun c1 => ?_) (fun c1 => ?_)
  · have h := vz_t c1 h
    refine lv_iconst (v := (0 : Int32)) hx hb dX11_isRight_18 (by decide) ?_
    cases h
    exact W.zret hx hb hr nb0 (fun t ht _ => ⟨rfl, ht⟩) (fun q hq => absurd hq List.not_mem_nil) dX11_isRight_19
  · have h := vz_f c1 h
    refine lv_iload_n hx hb dX11_isRight_4 rfl (lv_at hl 1 rfl) ?_
    refine lv_aload_n hx hb dX11_isRight_5 rfl (lv_at hl 0 rfl) ?_
    refine za_getr (k := 2) hx hb hts hin11 hown hK hP zF_64_2 rfl (Nat.le_of_ble_eq_true rfl) (Or.inl hw1) dX11_isRight_6 ?_
    refine lv_iconst (v := (5 : Int32)) hx hb dX11_isRight_9 (by decide) ?_
    refine za_ildc (j := 5) hx hb hK hP zI_66 (by unfold vp_in; decide) rfl dX11_isRight_10 ?_
    refine lv_icmp_ge (tgt := 18) hx hb dX11_isRight_11 (by decide) (fun c2 => ?_) (fun c2 => ?_)
    · have h := vz_t c2 h
      refine lv_iconst (v := (0 : Int32)) hx hb dX11_isRight_18 (by decide) ?_
      cases h
      exact W.zret hx hb hr nb0 (fun t ht _ => ⟨rfl, ht⟩) (fun q hq => absurd hq List.not_mem_nil) dX11_isRight_19
    · have h := vz_f c2 h
      refine lv_iconst (v := (1 : Int32)) hx hb dX11_isRight_14 (by decide) ?_
      refine lv_goto (tgt := 19) hx hb dX11_isRight_15 (by decide) ?_
      cases h
      exact W.zret hx hb hr nb1 (fun t ht _ => ⟨rfl, ht⟩) (fun q hq => absurd hq List.not_mem_nil) dX11_isRight_19
abbrev rmX11_rightAt : Room := { frames := 0, cells := 0, slots := 0, locals := 0 }
set_option maxHeartbeats 4000000 in
set_option maxRecDepth 100000 in
theorem k_X11_rightAt (l : Launch) {D : va_G} {cI cJ : ClassId} {ad : Nat → Nat} {u : tU} {v : tV} {a1 : Int32} {a2 : Int32}  {r : Int32}  (h : pX11_rightAt u v a1 a2 = some r) : Met l yX11_rightAt wsX11_rightAt rmX11_rightAt (va_Pc [.ref (ad 64), .int a1, .int a2] (xPre D cI cJ (wA cI cJ ad u v))) (QcRead r) 0 0 (fun _ => False) := by
  refine Met.ofW (cc := cX11_rightAt) (maxL := 3) (ret := (some .int)) (by decide) rfl ?_
  intro p e s m args below meth c s₁ B hml hv
  obtain ⟨rfl, hP, hK⟩ := hv
  have hx := B.exec
  have hb := B.bytes
  have hr := B.returns
  have hts := atoms_spec (ws := wsX11_rightAt) B.pre
  have hown : s.vm.findClass RX11 = some m.cls := findClass_of_methodNamed B.named
  have hlocks := B.notSynchronized
  have hin11 : ∀ w ∈ u_ws RX11 TX11 10, w ∈ wsX11_rightAt := fun _ h => List.mem_cons_of_mem _ (List.mem_append_right _ h)
  have hw1 := hts (.fieldLink RX11 13 "InstallDeskModel" "book" "[I") (List.mem_of_getElem? (i := 1) rfl)
  have hl := lv_entry ([.ref (ad 64), .int a1, .int a2]) (n := 3) (Nat.le_of_ble_eq_true rfl)
  rw [lg_entry_eq]
  generalize (lg_sl ([.ref (ad 64), .int a1, .int a2]) ++ List.replicate (3 - (lg_sl ([.ref (ad 64), .int a1, .int a2])).length) Slot.unset).toArray = ls at hl ⊢
  have hl : lv_has ls 3 [(0, .ref (ad 64)), (1, .int a1), (2, .int a2)] := hl
  rw [pX11_rightAt] at h
  refine lv_aload_n hx hb dX11_rightAt_0 rfl (lv_at hl 0 rfl) ?_
  refine za_getr (k := 2) hx hb hts hin11 hown hK hP zF_64_2 rfl (Nat.le_of_ble_eq_true rfl) (Or.inl hw1) dX11_rightAt_1 ?_
  refine lv_sipush (v := (1054 : Int32)) hx hb dX11_rightAt_4 (by decide) ?_
  refine lv_bipush (v := (6 : Int32)) hx hb dX11_rightAt_7 (by decide) ?_
  refine lv_iload_n hx hb dX11_rightAt_9 rfl (lv_at hl 1 rfl) ?_
  refine lv_imul hx hb dX11_rightAt_10 ?_
  refine lv_iadd hx hb dX11_rightAt_11 ?_
  refine lv_iload_n hx hb dX11_rightAt_12 rfl (lv_at hl 2 rfl) ?_
  refine lv_iadd hx hb dX11_rightAt_13 ?_
  obtain ⟨g1, h⟩ := gd_s h
  refine za_ild hx hb hK hP zI_66 g1 dX11_rightAt_14 ?_
  cases h
  exact W.iret hx hb hr (fun t ht _ => ⟨rfl, ht⟩) (fun q hq => absurd hq List.not_mem_nil) dX11_rightAt_15
abbrev rmX11_amount : Room := { frames := 1, cells := 0, slots := 0, locals := 22 }
set_option maxHeartbeats 4000000 in
set_option maxRecDepth 100000 in
theorem k_X11_amount (l : Launch) {D : va_G} {cI cJ : ClassId} {ad : Nat → Nat} {u : tU} {v : tV} {A : Nat → Prop} (hD : zD A cI cJ ad) {a1 : Int32} {a2 : Int32}  {r : Int32} {uz : tU} {vz : tV} (h : pX11_amount u v a1 a2 = some (r, uz, vz)) : Met l yX11_amount wsX11_amount rmX11_amount (va_Pc [.ref (ad 64), .int a1, .int a2] (xPre D cI cJ (wA cI cJ ad u v))) (xWi D cI cJ ad A r uz vz) 0 0 A := by
  refine Met.ofW (cc := cX11_amount) (maxL := 4) (ret := (some .int)) (by decide) rfl ?_
  intro p e s m args below meth c s₁ B hml hv
  obtain ⟨rfl, hP, hK⟩ := hv
  have hx := B.exec
  have hb := B.bytes
  have hr := B.returns
  have hts := atoms_spec (ws := wsX11_amount) B.pre
  have hown : s.vm.findClass RX11 = some m.cls := findClass_of_methodNamed B.named
  have hlocks := B.notSynchronized
  have hS : va_S A s.heap s.heap [] := va_S.rf
  have hin11 : ∀ w ∈ u_ws RX11 TX11 10, w ∈ wsX11_amount := fun _ h => List.mem_cons_of_mem _ (List.mem_append_right _ h)
  have hw1 := hts (.fieldLink RX11 13 "InstallDeskModel" "book" "[I") (List.mem_of_getElem? (i := 1) rfl)
  have hl := lv_entry ([.ref (ad 64), .int a1, .int a2]) (n := 4) (Nat.le_of_ble_eq_true rfl)
  rw [lg_entry_eq]
  generalize (lg_sl ([.ref (ad 64), .int a1, .int a2]) ++ List.replicate (4 - (lg_sl ([.ref (ad 64), .int a1, .int a2])).length) Slot.unset).toArray = ls at hl ⊢
  have hl : lv_has ls 4 [(0, .ref (ad 64)), (1, .int a1), (2, .int a2)] := hl
  rw [pX11_amount] at h
  refine lv_aload_n hx hb dX11_amount_0 rfl (lv_at hl 0 rfl) ?_
  refine lv_iload_n hx hb dX11_amount_1 rfl (lv_at hl 1 rfl) ?_
  obtain ⟨r2, hc1, h⟩ := vz_b h
  refine za_callR (va_runV (As := [.int a1]) (rest := []) ⟨hx, hb, hml, hown, hts⟩ (k_X11_isRight l (D := D) (cI := cI) (cJ := cJ) (ad := ad) hc1) (cwV 1 hts gX11_amount_X11_isRight rfl rfl rfl ⟨rfl, zd_X11_isRight⟩ ⟨Nat.le_of_ble_eq_true rfl, Nat.le_of_ble_eq_true rfl⟩) (xPreV (ci := 11) hK hP rfl zO_64) rfl rfl hl.1 rfl (lv_room (Nat.le_of_ble_eq_true rfl)) dX11_amount_2 ⟨Nat.zero_le _, Nat.zero_le _⟩) ?_
  refine lv_if_eq (tgt := 18) hx hb dX11_amount_5 (by decide) (fun c3 => ?_) (fun c3 => ?_)
  · have h := vz_t c3 h
    refine lv_aload_n hx hb dX11_amount_18 rfl (lv_at hl 0 rfl) ?_
    refine lv_iconst (v := (-1 : Int32)) hx hb dX11_amount_19 (by decide) ?_
    obtain ⟨⟨r8, u5, v6⟩, hc4, h⟩ := vz_b h
    try dsimp only at h
    refine za_callWi (va_runV (As := [.int (-1 : Int32)]) (rest := []) ⟨hx, hb, hml, hown, hts⟩ (k_X11_finding l (D := D) (cI := cI) (cJ := cJ) (ad := ad) hD hc4) (cwV 1 hts gX11_amount_X11_finding rfl rfl rfl ⟨rfl, zd_X11_finding⟩ ⟨Nat.le_of_ble_eq_true rfl, Nat.le_of_ble_eq_true rfl⟩) (xPreV (ci := 11) hK hP rfl zO_64) rfl rfl hl.1 rfl (lv_room (Nat.le_of_ble_eq_true rfl)) dX11_amount_20 ⟨Nat.zero_le _, Nat.zero_le _⟩) hS (fun H locs hP hS => ?_)
    cases h
    exact W.iret hx hb hr (fun t ht _ => ⟨rfl, by rw [ht]; exact hP, hS.F ht⟩) hS.2.2 dX11_amount_23
  · have h := vz_f c3 h
    refine lv_iload_n hx hb dX11_amount_8 rfl (lv_at hl 2 rfl) ?_
    refine lv_iconst (v := (0 : Int32)) hx hb dX11_amount_9 (by decide) ?_
    refine lv_bipush (v := (40 : Int32)) hx hb dX11_amount_10 (by decide) ?_
    obtain ⟨r10, hc9, h⟩ := vz_b h
    refine za_callR (va_runS (As := [.int a2, .int (0 : Int32), .int (40 : Int32)]) (rest := []) ⟨hx, hb, hml, hown, hts⟩ (k_X11_isIn l hc9) (va_cwS 3 hts gX11_amount_X11_isIn rfl rfl rfl zd_X11_isIn ⟨Nat.le_of_ble_eq_true rfl, Nat.le_of_ble_eq_true rfl⟩) xPre0 rfl rfl hl.1 rfl (lv_room (Nat.le_of_ble_eq_true rfl)) dX11_amount_12 ⟨Nat.zero_le _, Nat.zero_le _⟩) ?_
    refine lv_if_ne (tgt := 24) hx hb dX11_amount_15 (by decide) (fun c11 => ?_) (fun c11 => ?_)
    · have h := vz_f c11 h
      refine lv_aload_n hx hb dX11_amount_24 rfl (lv_at hl 0 rfl) ?_
      refine lv_iload_n hx hb dX11_amount_25 rfl (lv_at hl 1 rfl) ?_
      refine lv_iconst (v := (2 : Int32)) hx hb dX11_amount_26 (by decide) ?_
      obtain ⟨r13, hc12, h⟩ := vz_b h
      refine za_callR (va_runV (As := [.int a1, .int (2 : Int32)]) (rest := []) ⟨hx, hb, hml, hown, hts⟩ (k_X11_rightAt l (D := D) (cI := cI) (cJ := cJ) (ad := ad) hc12) (cwV 2 hts gX11_amount_X11_rightAt rfl rfl rfl ⟨rfl, zd_X11_rightAt⟩ ⟨Nat.le_of_ble_eq_true rfl, Nat.le_of_ble_eq_true rfl⟩) (xPreV (ci := 11) hK hP rfl zO_64) rfl rfl hl.1 rfl (lv_room (Nat.le_of_ble_eq_true rfl)) dX11_amount_27 ⟨Nat.zero_le _, Nat.zero_le _⟩) ?_
      refine lv_istore_n (lv' := [(3, .int r13), (0, .ref (ad 64)), (1, .int a1), (2, .int a2)]) hx hb dX11_amount_30 rfl hl (by decide) rfl (fun ls hl => ?_)
      refine lv_aload_n hx hb dX11_amount_31 rfl (lv_at hl 1 rfl) ?_
      refine za_getr (k := 2) hx hb hts hin11 hown hK hP zF_64_2 rfl (Nat.le_of_ble_eq_true rfl) (Or.inl hw1) dX11_amount_32 ?_
      refine lv_sipush (v := (1054 : Int32)) hx hb dX11_amount_35 (by decide) ?_
      refine lv_bipush (v := (6 : Int32)) hx hb dX11_amount_38 (by decide) ?_
      refine lv_iload_n hx hb dX11_amount_40 rfl (lv_at hl 2 rfl) ?_
      refine lv_imul hx hb dX11_amount_41 ?_
      refine lv_iadd hx hb dX11_amount_42 ?_
      refine lv_iconst (v := (2 : Int32)) hx hb dX11_amount_43 (by decide) ?_
      refine lv_iadd hx hb dX11_amount_44 ?_
      refine lv_iload_n hx hb dX11_amount_45 rfl (lv_at hl 3 rfl) ?_
      obtain ⟨g14, h⟩ := gd_s h
      refine za_ist hx hb hK hP hD hS zI_66 g14 dX11_amount_46 (fun H locs hP hS => ?_)
      refine lv_iload_n hx hb dX11_amount_47 rfl (lv_at hl 0 rfl) ?_
      cases h
      exact W.iret hx hb hr (fun t ht _ => ⟨rfl, by rw [ht]; exact hP, hS.F ht⟩) hS.2.2 dX11_amount_48
    · have h := vz_t c11 h
      refine lv_aload_n hx hb dX11_amount_18 rfl (lv_at hl 0 rfl) ?_
      refine lv_iconst (v := (-1 : Int32)) hx hb dX11_amount_19 (by decide) ?_
      obtain ⟨⟨r19, u16, v17⟩, hc15, h⟩ := vz_b h
      try dsimp only at h
      refine za_callWi (va_runV (As := [.int (-1 : Int32)]) (rest := []) ⟨hx, hb, hml, hown, hts⟩ (k_X11_finding l (D := D) (cI := cI) (cJ := cJ) (ad := ad) hD hc15) (cwV 1 hts gX11_amount_X11_finding rfl rfl rfl ⟨rfl, zd_X11_finding⟩ ⟨Nat.le_of_ble_eq_true rfl, Nat.le_of_ble_eq_true rfl⟩) (xPreV (ci := 11) hK hP rfl zO_64) rfl rfl hl.1 rfl (lv_room (Nat.le_of_ble_eq_true rfl)) dX11_amount_20 ⟨Nat.zero_le _, Nat.zero_le _⟩) hS (fun H locs hP hS => ?_)
      cases h
      exact W.iret hx hb hr (fun t ht _ => ⟨rfl, by rw [ht]; exact hP, hS.F ht⟩) hS.2.2 dX11_amount_23
abbrev rmX11_isProduct : Room := { frames := 0, cells := 0, slots := 0, locals := 0 }
set_option maxHeartbeats 4000000 in
set_option maxRecDepth 100000 in
theorem k_X11_isProduct (l : Launch) {D : va_G} {cI cJ : ClassId} {ad : Nat → Nat} {u : tU} {v : tV} {a1 : Int32}  {r : Int32}  (h : pX11_isProduct u v a1 = some r) : Met l yX11_isProduct wsX11_isProduct rmX11_isProduct (va_Pc [.ref (ad 64), .int a1] (xPre D cI cJ (wA cI cJ ad u v))) (QcRead r) 0 0 (fun _ => False) := by
  refine Met.ofW (cc := cX11_isProduct) (maxL := 2) (ret := (some .boolean)) (by decide) rfl ?_
  intro p e s m args below meth c s₁ B hml hv
  obtain ⟨rfl, hP, hK⟩ := hv
  have hx := B.exec
  have hb := B.bytes
  have hr := B.returns
  have hts := atoms_spec (ws := wsX11_isProduct) B.pre
  have hown : s.vm.findClass RX11 = some m.cls := findClass_of_methodNamed B.named
  have hlocks := B.notSynchronized
  have hin11 : ∀ w ∈ u_ws RX11 TX11 10, w ∈ wsX11_isProduct := fun _ h => List.mem_cons_of_mem _ (List.mem_append_right _ h)
  have hw1 := hts (.fieldLink RX11 13 "InstallDeskModel" "book" "[I") (List.mem_of_getElem? (i := 1) rfl)
  have hl := lv_entry ([.ref (ad 64), .int a1]) (n := 2) (Nat.le_of_ble_eq_true rfl)
  rw [lg_entry_eq]
  generalize (lg_sl ([.ref (ad 64), .int a1]) ++ List.replicate (2 - (lg_sl ([.ref (ad 64), .int a1])).length) Slot.unset).toArray = ls at hl ⊢
  have hl : lv_has ls 2 [(0, .ref (ad 64)), (1, .int a1)] := hl
  rw [pX11_isProduct] at h
  refine lv_iload_n hx hb dX11_isProduct_0 rfl (lv_at hl 1 rfl) ?_
  refine lv_if_lt (tgt := 18) hx hb dX11_isProduct_1 (by decide) (fun c1 => ?_) (fun c1 => ?_)
  · have h := vz_t c1 h
    refine lv_iconst (v := (0 : Int32)) hx hb dX11_isProduct_18 (by decide) ?_
    cases h
    exact W.zret hx hb hr nb0 (fun t ht _ => ⟨rfl, ht⟩) (fun q hq => absurd hq List.not_mem_nil) dX11_isProduct_19
  · have h := vz_f c1 h
    refine lv_iload_n hx hb dX11_isProduct_4 rfl (lv_at hl 1 rfl) ?_
    refine lv_aload_n hx hb dX11_isProduct_5 rfl (lv_at hl 0 rfl) ?_
    refine za_getr (k := 2) hx hb hts hin11 hown hK hP zF_64_2 rfl (Nat.le_of_ble_eq_true rfl) (Or.inl hw1) dX11_isProduct_6 ?_
    refine lv_iconst (v := (0 : Int32)) hx hb dX11_isProduct_9 (by decide) ?_
    refine za_ildc (j := 0) hx hb hK hP zI_66 (by unfold vp_in; decide) rfl dX11_isProduct_10 ?_
    refine lv_icmp_ge (tgt := 18) hx hb dX11_isProduct_11 (by decide) (fun c2 => ?_) (fun c2 => ?_)
    · have h := vz_t c2 h
      refine lv_iconst (v := (0 : Int32)) hx hb dX11_isProduct_18 (by decide) ?_
      cases h
      exact W.zret hx hb hr nb0 (fun t ht _ => ⟨rfl, ht⟩) (fun q hq => absurd hq List.not_mem_nil) dX11_isProduct_19
    · have h := vz_f c2 h
      refine lv_iconst (v := (1 : Int32)) hx hb dX11_isProduct_14 (by decide) ?_
      refine lv_goto (tgt := 19) hx hb dX11_isProduct_15 (by decide) ?_
      cases h
      exact W.zret hx hb hr nb1 (fun t ht _ => ⟨rfl, ht⟩) (fun q hq => absurd hq List.not_mem_nil) dX11_isProduct_19
abbrev rmX11_as : Room := { frames := 1, cells := 0, slots := 0, locals := 22 }
set_option maxHeartbeats 4000000 in
set_option maxRecDepth 100000 in
theorem k_X11_as (l : Launch) {D : va_G} {cI cJ : ClassId} {ad : Nat → Nat} {u : tU} {v : tV} {A : Nat → Prop} (hD : zD A cI cJ ad) {a1 : Int32} {a2 : Int32}  {r : Int32} {uz : tU} {vz : tV} (h : pX11_as u v a1 a2 = some (r, uz, vz)) : Met l yX11_as wsX11_as rmX11_as (va_Pc [.ref (ad 64), .int a1, .int a2] (xPre D cI cJ (wA cI cJ ad u v))) (xWi D cI cJ ad A r uz vz) 0 0 A := by
  refine Met.ofW (cc := cX11_as) (maxL := 4) (ret := (some .int)) (by decide) rfl ?_
  intro p e s m args below meth c s₁ B hml hv
  obtain ⟨rfl, hP, hK⟩ := hv
  have hx := B.exec
  have hb := B.bytes
  have hr := B.returns
  have hts := atoms_spec (ws := wsX11_as) B.pre
  have hown : s.vm.findClass RX11 = some m.cls := findClass_of_methodNamed B.named
  have hlocks := B.notSynchronized
  have hS : va_S A s.heap s.heap [] := va_S.rf
  have hl := lv_entry ([.ref (ad 64), .int a1, .int a2]) (n := 4) (Nat.le_of_ble_eq_true rfl)
  rw [lg_entry_eq]
  generalize (lg_sl ([.ref (ad 64), .int a1, .int a2]) ++ List.replicate (4 - (lg_sl ([.ref (ad 64), .int a1, .int a2])).length) Slot.unset).toArray = ls at hl ⊢
  have hl : lv_has ls 4 [(0, .ref (ad 64)), (1, .int a1), (2, .int a2)] := hl
  rw [pX11_as] at h
  refine lv_aload_n hx hb dX11_as_0 rfl (lv_at hl 0 rfl) ?_
  refine lv_iload_n hx hb dX11_as_1 rfl (lv_at hl 1 rfl) ?_
  obtain ⟨r2, hc1, h⟩ := vz_b h
  refine za_callR (va_runV (As := [.int a1]) (rest := []) ⟨hx, hb, hml, hown, hts⟩ (k_X11_isProduct l (D := D) (cI := cI) (cJ := cJ) (ad := ad) hc1) (cwV 1 hts gX11_as_X11_isProduct rfl rfl rfl ⟨rfl, zd_X11_isProduct⟩ ⟨Nat.le_of_ble_eq_true rfl, Nat.le_of_ble_eq_true rfl⟩) (xPreV (ci := 11) hK hP rfl zO_64) rfl rfl hl.1 rfl (lv_room (Nat.le_of_ble_eq_true rfl)) dX11_as_2 ⟨Nat.zero_le _, Nat.zero_le _⟩) ?_
  refine lv_if_eq (tgt := 17) hx hb dX11_as_5 (by decide) (fun c3 => ?_) (fun c3 => ?_)
  · have h := vz_t c3 h
    refine lv_aload_n hx hb dX11_as_17 rfl (lv_at hl 0 rfl) ?_
    refine lv_iconst (v := (-1 : Int32)) hx hb dX11_as_18 (by decide) ?_
    obtain ⟨⟨r8, u5, v6⟩, hc4, h⟩ := vz_b h
    try dsimp only at h
    refine za_callWi (va_runV (As := [.int (-1 : Int32)]) (rest := []) ⟨hx, hb, hml, hown, hts⟩ (k_X11_finding l (D := D) (cI := cI) (cJ := cJ) (ad := ad) hD hc4) (cwV 1 hts gX11_as_X11_finding rfl rfl rfl ⟨rfl, zd_X11_finding⟩ ⟨Nat.le_of_ble_eq_true rfl, Nat.le_of_ble_eq_true rfl⟩) (xPreV (ci := 11) hK hP rfl zO_64) rfl rfl hl.1 rfl (lv_room (Nat.le_of_ble_eq_true rfl)) dX11_as_19 ⟨Nat.zero_le _, Nat.zero_le _⟩) hS (fun H locs hP hS => ?_)
    cases h
    exact W.iret hx hb hr (fun t ht _ => ⟨rfl, by rw [ht]; exact hP, hS.F ht⟩) hS.2.2 dX11_as_22
  · have h := vz_f c3 h
    refine lv_iload_n hx hb dX11_as_8 rfl (lv_at hl 2 rfl) ?_
    refine lv_iconst (v := (0 : Int32)) hx hb dX11_as_9 (by decide) ?_
    refine lv_iconst (v := (3 : Int32)) hx hb dX11_as_10 (by decide) ?_
    obtain ⟨r10, hc9, h⟩ := vz_b h
    refine za_callR (va_runS (As := [.int a2, .int (0 : Int32), .int (3 : Int32)]) (rest := []) ⟨hx, hb, hml, hown, hts⟩ (k_X11_isIn l hc9) (va_cwS 3 hts gX11_as_X11_isIn rfl rfl rfl zd_X11_isIn ⟨Nat.le_of_ble_eq_true rfl, Nat.le_of_ble_eq_true rfl⟩) xPre0 rfl rfl hl.1 rfl (lv_room (Nat.le_of_ble_eq_true rfl)) dX11_as_11 ⟨Nat.zero_le _, Nat.zero_le _⟩) ?_
    refine lv_if_ne (tgt := 23) hx hb dX11_as_14 (by decide) (fun c11 => ?_) (fun c11 => ?_)
    · have h := vz_f c11 h
      refine lv_aload_n hx hb dX11_as_23 rfl (lv_at hl 0 rfl) ?_
      refine lv_iload_n hx hb dX11_as_24 rfl (lv_at hl 1 rfl) ?_
      refine lv_iconst (v := (0 : Int32)) hx hb dX11_as_25 (by decide) ?_
      obtain ⟨r13, hc12, h⟩ := vz_b h
      refine za_callR (va_runV (As := [.int a1, .int (0 : Int32)]) (rest := []) ⟨hx, hb, hml, hown, hts⟩ (k_X11_productAt l (D := D) (cI := cI) (cJ := cJ) (ad := ad) hc12) (cwV 2 hts gX11_as_X11_productAt rfl rfl rfl ⟨rfl, zd_X11_productAt⟩ ⟨Nat.le_of_ble_eq_true rfl, Nat.le_of_ble_eq_true rfl⟩) (xPreV (ci := 11) hK hP rfl zO_64) rfl rfl hl.1 rfl (lv_room (Nat.le_of_ble_eq_true rfl)) dX11_as_26 ⟨Nat.zero_le _, Nat.zero_le _⟩) ?_
      refine lv_istore_n (lv' := [(3, .int r13), (0, .ref (ad 64)), (1, .int a1), (2, .int a2)]) hx hb dX11_as_29 rfl hl (by decide) rfl (fun ls hl => ?_)
      refine lv_iload_n hx hb dX11_as_30 rfl (lv_at hl 3 rfl) ?_
      refine lv_if_eq (tgt := 49) hx hb dX11_as_31 (by decide) (fun c14 => ?_) (fun c14 => ?_)
      · have h := vz_t c14 h
        refine lv_iload_n hx hb dX11_as_49 rfl (lv_at hl 2 rfl) ?_
        refine lv_goto (tgt := 59) hx hb dX11_as_50 (by decide) ?_
        cases h
        exact W.iret hx hb hr (fun t ht _ => ⟨rfl, by rw [ht]; exact hP, hS.F ht⟩) hS.2.2 dX11_as_59
      · have h := vz_f c14 h
        refine lv_iload_n hx hb dX11_as_34 rfl (lv_at hl 3 rfl) ?_
        refine lv_iload_n hx hb dX11_as_35 rfl (lv_at hl 0 rfl) ?_
        refine lv_icmp_eq (tgt := 49) hx hb dX11_as_36 (by decide) (fun c15 => ?_) (fun c15 => ?_)
        · have h := vz_t c15 h
          refine lv_iload_n hx hb dX11_as_49 rfl (lv_at hl 2 rfl) ?_
          refine lv_goto (tgt := 59) hx hb dX11_as_50 (by decide) ?_
          cases h
          exact W.iret hx hb hr (fun t ht _ => ⟨rfl, by rw [ht]; exact hP, hS.F ht⟩) hS.2.2 dX11_as_59
        · have h := vz_f c15 h
          refine lv_iload_n hx hb dX11_as_39 rfl (lv_at hl 3 rfl) ?_
          refine lv_iconst (v := (1 : Int32)) hx hb dX11_as_40 (by decide) ?_
          refine lv_icmp_ne (tgt := 53) hx hb dX11_as_41 (by decide) (fun c16 => ?_) (fun c16 => ?_)
          · have h := vz_f c16 h
            refine lv_aload_n hx hb dX11_as_53 rfl (lv_at hl 1 rfl) ?_
            refine lv_bipush (v := (-4 : Int32)) hx hb dX11_as_54 (by decide) ?_
            obtain ⟨⟨r21, u18, v19⟩, hc17, h⟩ := vz_b h
            try dsimp only at h
            refine za_callWi (va_runV (As := [.int (-4 : Int32)]) (rest := []) ⟨hx, hb, hml, hown, hts⟩ (k_X11_finding l (D := D) (cI := cI) (cJ := cJ) (ad := ad) hD hc17) (cwV 1 hts gX11_as_X11_finding rfl rfl rfl ⟨rfl, zd_X11_finding⟩ ⟨Nat.le_of_ble_eq_true rfl, Nat.le_of_ble_eq_true rfl⟩) (xPreV (ci := 11) hK hP rfl zO_64) rfl rfl hl.1 rfl (lv_room (Nat.le_of_ble_eq_true rfl)) dX11_as_56 ⟨Nat.zero_le _, Nat.zero_le _⟩) hS (fun H locs hP hS => ?_)
            cases h
            exact W.iret hx hb hr (fun t ht _ => ⟨rfl, by rw [ht]; exact hP, hS.F ht⟩) hS.2.2 dX11_as_59
          · have h := vz_t c16 h
            refine lv_iload_n hx hb dX11_as_44 rfl (lv_at hl 0 rfl) ?_
            refine lv_iconst (v := (3 : Int32)) hx hb dX11_as_45 (by decide) ?_
            refine lv_icmp_ne (tgt := 53) hx hb dX11_as_46 (by decide) (fun c22 => ?_) (fun c22 => ?_)
            · have h := vz_f c22 h
              refine lv_aload_n hx hb dX11_as_53 rfl (lv_at hl 1 rfl) ?_
              refine lv_bipush (v := (-4 : Int32)) hx hb dX11_as_54 (by decide) ?_
              obtain ⟨⟨r27, u24, v25⟩, hc23, h⟩ := vz_b h
              try dsimp only at h
              refine za_callWi (va_runV (As := [.int (-4 : Int32)]) (rest := []) ⟨hx, hb, hml, hown, hts⟩ (k_X11_finding l (D := D) (cI := cI) (cJ := cJ) (ad := ad) hD hc23) (cwV 1 hts gX11_as_X11_finding rfl rfl rfl ⟨rfl, zd_X11_finding⟩ ⟨Nat.le_of_ble_eq_true rfl, Nat.le_of_ble_eq_true rfl⟩) (xPreV (ci := 11) hK hP rfl zO_64) rfl rfl hl.1 rfl (lv_room (Nat.le_of_ble_eq_true rfl)) dX11_as_56 ⟨Nat.zero_le _, Nat.zero_le _⟩) hS (fun H locs hP hS => ?_)
              cases h
              exact W.iret hx hb hr (fun t ht _ => ⟨rfl, by rw [ht]; exact hP, hS.F ht⟩) hS.2.2 dX11_as_59
            · have h := vz_t c22 h
              refine lv_iload_n hx hb dX11_as_49 rfl (lv_at hl 2 rfl) ?_
              refine lv_goto (tgt := 59) hx hb dX11_as_50 (by decide) ?_
              cases h
              exact W.iret hx hb hr (fun t ht _ => ⟨rfl, by rw [ht]; exact hP, hS.F ht⟩) hS.2.2 dX11_as_59
    · have h := vz_t c11 h
      refine lv_aload_n hx hb dX11_as_17 rfl (lv_at hl 0 rfl) ?_
      refine lv_iconst (v := (-1 : Int32)) hx hb dX11_as_18 (by decide) ?_
      obtain ⟨⟨r32, u29, v30⟩, hc28, h⟩ := vz_b h
      try dsimp only at h
      refine za_callWi (va_runV (As := [.int (-1 : Int32)]) (rest := []) ⟨hx, hb, hml, hown, hts⟩ (k_X11_finding l (D := D) (cI := cI) (cJ := cJ) (ad := ad) hD hc28) (cwV 1 hts gX11_as_X11_finding rfl rfl rfl ⟨rfl, zd_X11_finding⟩ ⟨Nat.le_of_ble_eq_true rfl, Nat.le_of_ble_eq_true rfl⟩) (xPreV (ci := 11) hK hP rfl zO_64) rfl rfl hl.1 rfl (lv_room (Nat.le_of_ble_eq_true rfl)) dX11_as_19 ⟨Nat.zero_le _, Nat.zero_le _⟩) hS (fun H locs hP hS => ?_)
      cases h
      exact W.iret hx hb hr (fun t ht _ => ⟨rfl, by rw [ht]; exact hP, hS.F ht⟩) hS.2.2 dX11_as_22
abbrev rmX11_at : Room := { frames := 2, cells := 0, slots := 0, locals := 46 }
set_option maxHeartbeats 4000000 in
set_option maxRecDepth 100000 in
theorem k_X11_at (l : Launch) {D : va_G} {cI cJ : ClassId} {ad : Nat → Nat} {u : tU} {v : tV} {A : Nat → Prop} (hD : zD A cI cJ ad) {a1 : Int32} {a2 : Int32}  {r : Int32} {uz : tU} {vz : tV} (h : pX11_at u v a1 a2 = some (r, uz, vz)) : Met l yX11_at wsX11_at rmX11_at (va_Pc [.ref (ad 64), .int a1, .int a2] (xPre D cI cJ (wA cI cJ ad u v))) (xWi D cI cJ ad A r uz vz) 0 0 A := by
  refine Met.ofW (cc := cX11_at) (maxL := 3) (ret := (some .int)) (by decide) rfl ?_
  intro p e s m args below meth c s₁ B hml hv
  obtain ⟨rfl, hP, hK⟩ := hv
  have hx := B.exec
  have hb := B.bytes
  have hr := B.returns
  have hts := atoms_spec (ws := wsX11_at) B.pre
  have hown : s.vm.findClass RX11 = some m.cls := findClass_of_methodNamed B.named
  have hlocks := B.notSynchronized
  have hS : va_S A s.heap s.heap [] := va_S.rf
  have hl := lv_entry ([.ref (ad 64), .int a1, .int a2]) (n := 3) (Nat.le_of_ble_eq_true rfl)
  rw [lg_entry_eq]
  generalize (lg_sl ([.ref (ad 64), .int a1, .int a2]) ++ List.replicate (3 - (lg_sl ([.ref (ad 64), .int a1, .int a2])).length) Slot.unset).toArray = ls at hl ⊢
  have hl : lv_has ls 3 [(0, .ref (ad 64)), (1, .int a1), (2, .int a2)] := hl
  rw [pX11_at] at h
  refine lv_aload_n hx hb dX11_at_0 rfl (lv_at hl 0 rfl) ?_
  refine lv_iload_n hx hb dX11_at_1 rfl (lv_at hl 1 rfl) ?_
  obtain ⟨r2, hc1, h⟩ := vz_b h
  refine za_callR (va_runV (As := [.int a1]) (rest := []) ⟨hx, hb, hml, hown, hts⟩ (k_X11_isProduct l (D := D) (cI := cI) (cJ := cJ) (ad := ad) hc1) (cwV 1 hts gX11_at_X11_isProduct rfl rfl rfl ⟨rfl, zd_X11_isProduct⟩ ⟨Nat.le_of_ble_eq_true rfl, Nat.le_of_ble_eq_true rfl⟩) (xPreV (ci := 11) hK hP rfl zO_64) rfl rfl hl.1 rfl (lv_room (Nat.le_of_ble_eq_true rfl)) dX11_at_2 ⟨Nat.zero_le _, Nat.zero_le _⟩) ?_
  refine lv_if_eq (tgt := 28) hx hb dX11_at_5 (by decide) (fun c3 => ?_) (fun c3 => ?_)
  · have h := vz_t c3 h
    refine lv_aload_n hx hb dX11_at_28 rfl (lv_at hl 0 rfl) ?_
    refine lv_iconst (v := (-1 : Int32)) hx hb dX11_at_29 (by decide) ?_
    obtain ⟨⟨r8, u5, v6⟩, hc4, h⟩ := vz_b h
    try dsimp only at h
    refine za_callWi (va_runV (As := [.int (-1 : Int32)]) (rest := []) ⟨hx, hb, hml, hown, hts⟩ (k_X11_finding l (D := D) (cI := cI) (cJ := cJ) (ad := ad) hD hc4) (cwV 1 hts gX11_at_X11_finding rfl rfl rfl ⟨rfl, zd_X11_finding⟩ ⟨Nat.le_of_ble_eq_true rfl, Nat.le_of_ble_eq_true rfl⟩) (xPreV (ci := 11) hK hP rfl zO_64) rfl rfl hl.1 rfl (lv_room (Nat.le_of_ble_eq_true rfl)) dX11_at_30 ⟨Nat.zero_le _, Nat.zero_le _⟩) hS (fun H locs hP hS => ?_)
    cases h
    exact W.iret hx hb hr (fun t ht _ => ⟨rfl, by rw [ht]; exact hP, hS.F ht⟩) hS.2.2 dX11_at_33
  · have h := vz_f c3 h
    refine lv_iload_n hx hb dX11_at_8 rfl (lv_at hl 2 rfl) ?_
    refine lv_iconst (v := (0 : Int32)) hx hb dX11_at_9 (by decide) ?_
    refine lv_sipush (v := (999 : Int32)) hx hb dX11_at_10 (by decide) ?_
    obtain ⟨r10, hc9, h⟩ := vz_b h
    refine za_callR (va_runS (As := [.int a2, .int (0 : Int32), .int (999 : Int32)]) (rest := []) ⟨hx, hb, hml, hown, hts⟩ (k_X11_isIn l hc9) (va_cwS 3 hts gX11_at_X11_isIn rfl rfl rfl zd_X11_isIn ⟨Nat.le_of_ble_eq_true rfl, Nat.le_of_ble_eq_true rfl⟩) xPre0 rfl rfl hl.1 rfl (lv_room (Nat.le_of_ble_eq_true rfl)) dX11_at_13 ⟨Nat.zero_le _, Nat.zero_le _⟩) ?_
    refine lv_if_eq (tgt := 28) hx hb dX11_at_16 (by decide) (fun c11 => ?_) (fun c11 => ?_)
    · have h := vz_t c11 h
      refine lv_aload_n hx hb dX11_at_28 rfl (lv_at hl 0 rfl) ?_
      refine lv_iconst (v := (-1 : Int32)) hx hb dX11_at_29 (by decide) ?_
      obtain ⟨⟨r16, u13, v14⟩, hc12, h⟩ := vz_b h
      try dsimp only at h
      refine za_callWi (va_runV (As := [.int (-1 : Int32)]) (rest := []) ⟨hx, hb, hml, hown, hts⟩ (k_X11_finding l (D := D) (cI := cI) (cJ := cJ) (ad := ad) hD hc12) (cwV 1 hts gX11_at_X11_finding rfl rfl rfl ⟨rfl, zd_X11_finding⟩ ⟨Nat.le_of_ble_eq_true rfl, Nat.le_of_ble_eq_true rfl⟩) (xPreV (ci := 11) hK hP rfl zO_64) rfl rfl hl.1 rfl (lv_room (Nat.le_of_ble_eq_true rfl)) dX11_at_30 ⟨Nat.zero_le _, Nat.zero_le _⟩) hS (fun H locs hP hS => ?_)
      cases h
      exact W.iret hx hb hr (fun t ht _ => ⟨rfl, by rw [ht]; exact hP, hS.F ht⟩) hS.2.2 dX11_at_33
    · have h := vz_f c11 h
      refine lv_aload_n hx hb dX11_at_19 rfl (lv_at hl 0 rfl) ?_
      refine lv_iload_n hx hb dX11_at_20 rfl (lv_at hl 1 rfl) ?_
      refine lv_iload_n hx hb dX11_at_21 rfl (lv_at hl 2 rfl) ?_
      obtain ⟨r18, hc17, h⟩ := vz_b h
      refine za_callR (va_runV (As := [.int a1, .int a2]) (rest := []) ⟨hx, hb, hml, hown, hts⟩ (k_X11_usesAt l (D := D) (cI := cI) (cJ := cJ) (ad := ad) hc17) (cwV 2 hts gX11_at_X11_usesAt rfl rfl rfl ⟨rfl, zd_X11_usesAt⟩ ⟨Nat.le_of_ble_eq_true rfl, Nat.le_of_ble_eq_true rfl⟩) (xPreV (ci := 11) hK hP rfl zO_64) rfl rfl hl.1 rfl (lv_room (Nat.le_of_ble_eq_true rfl)) dX11_at_22 ⟨Nat.zero_le _, Nat.zero_le _⟩) ?_
      refine lv_goto (tgt := 33) hx hb dX11_at_25 (by decide) ?_
      cases h
      exact W.iret hx hb hr (fun t ht _ => ⟨rfl, by rw [ht]; exact hP, hS.F ht⟩) hS.2.2 dX11_at_33
abbrev rmX11_back : Room := { frames := 1, cells := 0, slots := 0, locals := 21 }
set_option maxHeartbeats 4000000 in
set_option maxRecDepth 100000 in
theorem k_X11_back (l : Launch) {D : va_G} {cI cJ : ClassId} {ad : Nat → Nat} {u : tU} {v : tV} {A : Nat → Prop} (hD : zD A cI cJ ad) {r : Int32} {uz : tU} {vz : tV} (h : pX11_back u v  = some (r, uz, vz)) : Met l yX11_back wsX11_back rmX11_back (va_Pc [.ref (ad 64)] (xPre D cI cJ (wA cI cJ ad u v))) (xWi D cI cJ ad A r uz vz) 0 0 A := by
  refine Met.ofW (cc := cX11_back) (maxL := 2) (ret := (some .int)) (by decide) rfl ?_
  intro p e s m args below meth c s₁ B hml hv
  obtain ⟨rfl, hP, hK⟩ := hv
  have hx := B.exec
  have hb := B.bytes
  have hr := B.returns
  have hts := atoms_spec (ws := wsX11_back) B.pre
  have hown : s.vm.findClass RX11 = some m.cls := findClass_of_methodNamed B.named
  have hlocks := B.notSynchronized
  have hS : va_S A s.heap s.heap [] := va_S.rf
  have hin11 : ∀ w ∈ u_ws RX11 TX11 10, w ∈ wsX11_back := fun _ h => List.mem_cons_of_mem _ (List.mem_append_right _ h)
  have hw1 := hts (.fieldLink RX11 139 "InstallDeskModel" "isKept" "Z") (List.mem_of_getElem? (i := 1) rfl)
  have hw2 := hts (.fieldLink RX11 13 "InstallDeskModel" "book" "[I") (List.mem_of_getElem? (i := 2) rfl)
  have hw3 := hts (.fieldLink RX11 16 "InstallDeskModel" "keptBook" "[I") (List.mem_of_getElem? (i := 3) rfl)
  have hl := lv_entry ([.ref (ad 64)]) (n := 2) (Nat.le_of_ble_eq_true rfl)
  rw [lg_entry_eq]
  generalize (lg_sl ([.ref (ad 64)]) ++ List.replicate (2 - (lg_sl ([.ref (ad 64)])).length) Slot.unset).toArray = ls at hl ⊢
  have hl : lv_has ls 2 [(0, .ref (ad 64))] := hl
  have L16 : ∀ (n : Nat) (x1 : Int32) (u : tU) (v : tV) (H : Heap) (locs : List Loc) (ls : Array Slot) (o : tU × tV), pX11_back_L16 n x1 u v = some o → va_P D vwCl (wA cI cJ ad u v) H → va_S A s.heap H locs → lv_has ls 2 [(0, .ref (ad 64)), (1, .int x1)] → (∀ (u' : tU) (v' : tV) (H : Heap) (locs : List Loc) (ls : Array Slot), o = (u', v') → va_P D vwCl (wA cI cJ ad u' v') H → va_S A s.heap H locs → lv_has ls 2 [(0, .ref (ad 64))] → W p l e (headSpec wsX11_back rmX11_back).room s m [Value.ref (ad 64)].toArray below meth c H locs 0 0 (MQ below (xWi D cI cJ ad A r uz vz) [Value.ref (ad 64)].toArray s 0 0 A) (F0 m 41 ls [])) → W p l e (headSpec wsX11_back rmX11_back).room s m [Value.ref (ad 64)].toArray below meth c H locs 0 0 (MQ below (xWi D cI cJ ad A r uz vz) [Value.ref (ad 64)].toArray s 0 0 A) (F0 m 16 ls []) := by
    intro n
    induction n with
    | zero => intro x1 u v H locs ls o h; cases h
    | succ n ih =>
      intro x1 u v H locs ls o h hP hS hl hk
      rw [pX11_back_L16] at h
      refine lv_iload_n hx hb dX11_back_16 rfl (lv_at hl 1 rfl) ?_
      refine lv_sipush (v := (1114 : Int32)) hx hb dX11_back_17 (by decide) ?_
      refine lv_icmp_ge (tgt := 41) hx hb dX11_back_20 (by decide) (fun c1 => ?_) (fun c1 => ?_)
      · have h := vz_t c1 h
        cases h
        exact hk u v _ _ ls rfl hP hS (lv_sub hl [0] rfl)
      · have h := vz_f c1 h
        refine lv_aload_n hx hb dX11_back_23 rfl (lv_at hl 0 rfl) ?_
        refine za_getr (k := 2) hx hb hts hin11 hown hK hP zF_64_2 rfl (Nat.le_of_ble_eq_true rfl) (Or.inl hw2) dX11_back_24 ?_
        refine lv_iload_n hx hb dX11_back_27 rfl (lv_at hl 1 rfl) ?_
        refine lv_aload_n hx hb dX11_back_28 rfl (lv_at hl 0 rfl) ?_
        refine za_getr (k := 4) hx hb hts hin11 hown hK hP zF_64_4 rfl (Nat.le_of_ble_eq_true rfl) (Or.inl hw3) dX11_back_29 ?_
        refine lv_iload_n hx hb dX11_back_32 rfl (lv_at hl 1 rfl) ?_
        obtain ⟨g2, h⟩ := gd_s h
        refine za_ild hx hb hK hP zI_67 g2 dX11_back_33 ?_
        obtain ⟨g3, h⟩ := gd_s h
        refine za_ist hx hb hK hP hD hS zI_66 g3 dX11_back_34 (fun H locs hP hS => ?_)
        refine lv_iinc (v := (x1 + 1)) (lv' := [(1, .int (x1 + 1)), (0, .ref (ad 64))]) hx hb dX11_back_35 hl (k := 1) rfl rfl (by decide) rfl (fun ls hl => ?_)
        refine lv_goto (tgt := 16) hx hb dX11_back_38 (by decide) ?_
        exact ih (x1 + 1) (sU u 4 x1.toNatClampNeg (u 5 x1.toNatClampNeg)) v _ _ ls o h hP hS (lv_sub hl [1, 0] rfl) hk
  rw [pX11_back] at h
  refine lv_aload_n hx hb dX11_back_0 rfl (lv_at hl 0 rfl) ?_
  refine za_geti (k := 3) hx hb hts hin11 hown hK hP zF_64_3 rfl (Nat.le_of_ble_eq_true rfl) (Or.inl hw1) dX11_back_1 ?_
  refine lv_if_ne (tgt := 14) hx hb dX11_back_4 (by decide) (fun c4 => ?_) (fun c4 => ?_)
  · have h := vz_f c4 h
    refine lv_iconst (v := (0 : Int32)) hx hb dX11_back_14 (by decide) ?_
    refine lv_istore_n (lv' := [(1, .int (0 : Int32)), (0, .ref (ad 64))]) hx hb dX11_back_15 rfl hl (by decide) rfl (fun ls hl => ?_)
    obtain ⟨o5, hL6, h⟩ := vz_b h
    refine L16 fuel (0 : Int32) u v _ _ ls o5 hL6 hP hS (lv_sub hl [1, 0] rfl) (fun u8 v9 H locs ls e7 hP hS hl => ?_)
    try rw [e7] at h
    try dsimp only at h
    refine lv_aload_n hx hb dX11_back_41 rfl (lv_at hl 0 rfl) ?_
    refine za_getr (k := 2) hx hb hts hin11 hown hK hP zF_64_2 rfl (Nat.le_of_ble_eq_true rfl) (Or.inl hw2) dX11_back_42 ?_
    refine lv_iconst (v := (3 : Int32)) hx hb dX11_back_45 (by decide) ?_
    refine za_ildc (j := 3) hx hb hK hP zI_66 (by unfold vp_in; decide) rfl dX11_back_46 ?_
    cases h
    exact W.iret hx hb hr (fun t ht _ => ⟨rfl, by rw [ht]; exact hP, hS.F ht⟩) hS.2.2 dX11_back_47
  · have h := vz_t c4 h
    refine lv_aload_n hx hb dX11_back_7 rfl (lv_at hl 0 rfl) ?_
    refine lv_bipush (v := (-2 : Int32)) hx hb dX11_back_8 (by decide) ?_
    obtain ⟨⟨r14, u11, v12⟩, hc10, h⟩ := vz_b h
    try dsimp only at h
    refine za_callWi (va_runV (As := [.int (-2 : Int32)]) (rest := []) ⟨hx, hb, hml, hown, hts⟩ (k_X11_finding l (D := D) (cI := cI) (cJ := cJ) (ad := ad) hD hc10) (cwV 1 hts gX11_back_X11_finding rfl rfl rfl ⟨rfl, zd_X11_finding⟩ ⟨Nat.le_of_ble_eq_true rfl, Nat.le_of_ble_eq_true rfl⟩) (xPreV (ci := 11) hK hP rfl zO_64) rfl rfl hl.1 rfl (lv_room (Nat.le_of_ble_eq_true rfl)) dX11_back_10 ⟨Nat.zero_le _, Nat.zero_le _⟩) hS (fun H locs hP hS => ?_)
    cases h
    exact W.iret hx hb hr (fun t ht _ => ⟨rfl, by rw [ht]; exact hP, hS.F ht⟩) hS.2.2 dX11_back_13
abbrev rmX11_isFind : Room := { frames := 0, cells := 0, slots := 0, locals := 0 }
set_option maxHeartbeats 4000000 in
set_option maxRecDepth 100000 in
theorem k_X11_isFind (l : Launch) {D : va_G} {cI cJ : ClassId} {ad : Nat → Nat} {u : tU} {v : tV} {a1 : Int32}  {r : Int32}  (h : pX11_isFind u v a1 = some r) : Met l yX11_isFind wsX11_isFind rmX11_isFind (va_Pc [.ref (ad 64), .int a1] (xPre D cI cJ (wA cI cJ ad u v))) (QcRead r) 0 0 (fun _ => False) := by
  refine Met.ofW (cc := cX11_isFind) (maxL := 2) (ret := (some .boolean)) (by decide) rfl ?_
  intro p e s m args below meth c s₁ B hml hv
  obtain ⟨rfl, hP, hK⟩ := hv
  have hx := B.exec
  have hb := B.bytes
  have hr := B.returns
  have hts := atoms_spec (ws := wsX11_isFind) B.pre
  have hown : s.vm.findClass RX11 = some m.cls := findClass_of_methodNamed B.named
  have hlocks := B.notSynchronized
  have hin11 : ∀ w ∈ u_ws RX11 TX11 10, w ∈ wsX11_isFind := fun _ h => List.mem_cons_of_mem _ (List.mem_append_right _ h)
  have hw1 := hts (.fieldLink RX11 13 "InstallDeskModel" "book" "[I") (List.mem_of_getElem? (i := 1) rfl)
  have hl := lv_entry ([.ref (ad 64), .int a1]) (n := 2) (Nat.le_of_ble_eq_true rfl)
  rw [lg_entry_eq]
  generalize (lg_sl ([.ref (ad 64), .int a1]) ++ List.replicate (2 - (lg_sl ([.ref (ad 64), .int a1])).length) Slot.unset).toArray = ls at hl ⊢
  have hl : lv_has ls 2 [(0, .ref (ad 64)), (1, .int a1)] := hl
  rw [pX11_isFind] at h
  refine lv_iload_n hx hb dX11_isFind_0 rfl (lv_at hl 1 rfl) ?_
  refine lv_if_lt (tgt := 18) hx hb dX11_isFind_1 (by decide) (fun c1 => ?_) (fun c1 => ?_)
  · have h := vz_t c1 h
    refine lv_iconst (v := (0 : Int32)) hx hb dX11_isFind_18 (by decide) ?_
    cases h
    exact W.zret hx hb hr nb0 (fun t ht _ => ⟨rfl, ht⟩) (fun q hq => absurd hq List.not_mem_nil) dX11_isFind_19
  · have h := vz_f c1 h
    refine lv_iload_n hx hb dX11_isFind_4 rfl (lv_at hl 1 rfl) ?_
    refine lv_aload_n hx hb dX11_isFind_5 rfl (lv_at hl 0 rfl) ?_
    refine za_getr (k := 2) hx hb hts hin11 hown hK hP zF_64_2 rfl (Nat.le_of_ble_eq_true rfl) (Or.inl hw1) dX11_isFind_6 ?_
    refine lv_iconst (v := (3 : Int32)) hx hb dX11_isFind_9 (by decide) ?_
    refine za_ildc (j := 3) hx hb hK hP zI_66 (by unfold vp_in; decide) rfl dX11_isFind_10 ?_
    refine lv_icmp_ge (tgt := 18) hx hb dX11_isFind_11 (by decide) (fun c2 => ?_) (fun c2 => ?_)
    · have h := vz_t c2 h
      refine lv_iconst (v := (0 : Int32)) hx hb dX11_isFind_18 (by decide) ?_
      cases h
      exact W.zret hx hb hr nb0 (fun t ht _ => ⟨rfl, ht⟩) (fun q hq => absurd hq List.not_mem_nil) dX11_isFind_19
    · have h := vz_f c2 h
      refine lv_iconst (v := (1 : Int32)) hx hb dX11_isFind_14 (by decide) ?_
      refine lv_goto (tgt := 19) hx hb dX11_isFind_15 (by decide) ?_
      cases h
      exact W.zret hx hb hr nb1 (fun t ht _ => ⟨rfl, ht⟩) (fun q hq => absurd hq List.not_mem_nil) dX11_isFind_19
abbrev rmX11_by : Room := { frames := 3, cells := 0, slots := 0, locals := 74 }
set_option maxHeartbeats 4000000 in
set_option maxRecDepth 100000 in
theorem k_X11_by (l : Launch) {D : va_G} {cI cJ : ClassId} {ad : Nat → Nat} {u : tU} {v : tV} {A : Nat → Prop} (hD : zD A cI cJ ad) {a1 : Int32}  {r : Int32} {uz : tU} {vz : tV} (h : pX11_by u v a1 = some (r, uz, vz)) : Met l yX11_by wsX11_by rmX11_by (va_Pc [.ref (ad 64), .int a1] (xPre D cI cJ (wA cI cJ ad u v))) (xWi D cI cJ ad A r uz vz) 0 0 A := by
  refine Met.ofW (cc := cX11_by) (maxL := 3) (ret := (some .int)) (by decide) rfl ?_
  intro p e s m args below meth c s₁ B hml hv
  obtain ⟨rfl, hP, hK⟩ := hv
  have hx := B.exec
  have hb := B.bytes
  have hr := B.returns
  have hts := atoms_spec (ws := wsX11_by) B.pre
  have hown : s.vm.findClass RX11 = some m.cls := findClass_of_methodNamed B.named
  have hlocks := B.notSynchronized
  have hS : va_S A s.heap s.heap [] := va_S.rf
  have hl := lv_entry ([.ref (ad 64), .int a1]) (n := 3) (Nat.le_of_ble_eq_true rfl)
  rw [lg_entry_eq]
  generalize (lg_sl ([.ref (ad 64), .int a1]) ++ List.replicate (3 - (lg_sl ([.ref (ad 64), .int a1])).length) Slot.unset).toArray = ls at hl ⊢
  have hl : lv_has ls 3 [(0, .ref (ad 64)), (1, .int a1)] := hl
  rw [pX11_by] at h
  refine lv_aload_n hx hb dX11_by_0 rfl (lv_at hl 0 rfl) ?_
  refine lv_iload_n hx hb dX11_by_1 rfl (lv_at hl 1 rfl) ?_
  obtain ⟨r2, hc1, h⟩ := vz_b h
  refine za_callR (va_runV (As := [.int a1]) (rest := []) ⟨hx, hb, hml, hown, hts⟩ (k_X11_isFind l (D := D) (cI := cI) (cJ := cJ) (ad := ad) hc1) (cwV 1 hts gX11_by_X11_isFind rfl rfl rfl ⟨rfl, zd_X11_isFind⟩ ⟨Nat.le_of_ble_eq_true rfl, Nat.le_of_ble_eq_true rfl⟩) (xPreV (ci := 11) hK hP rfl zO_64) rfl rfl hl.1 rfl (lv_room (Nat.le_of_ble_eq_true rfl)) dX11_by_2 ⟨Nat.zero_le _, Nat.zero_le _⟩) ?_
  refine lv_if_ne (tgt := 14) hx hb dX11_by_5 (by decide) (fun c3 => ?_) (fun c3 => ?_)
  · have h := vz_f c3 h
    refine lv_aload_n hx hb dX11_by_14 rfl (lv_at hl 0 rfl) ?_
    refine lv_iload_n hx hb dX11_by_15 rfl (lv_at hl 1 rfl) ?_
    obtain ⟨r5, hc4, h⟩ := vz_b h
    refine za_callR (va_runV (As := [.int a1]) (rest := []) ⟨hx, hb, hml, hown, hts⟩ (k_X11_firstRule l (D := D) (cI := cI) (cJ := cJ) (ad := ad) hc4) (cwV 1 hts gX11_by_X11_firstRule rfl rfl rfl ⟨rfl, zd_X11_firstRule⟩ ⟨Nat.le_of_ble_eq_true rfl, Nat.le_of_ble_eq_true rfl⟩) (xPreV (ci := 11) hK hP rfl zO_64) rfl rfl hl.1 rfl (lv_room (Nat.le_of_ble_eq_true rfl)) dX11_by_16 ⟨Nat.zero_le _, Nat.zero_le _⟩) ?_
    refine lv_istore_n (lv' := [(2, .int r5), (0, .ref (ad 64)), (1, .int a1)]) hx hb dX11_by_19 rfl hl (by decide) rfl (fun ls hl => ?_)
    refine lv_iload_n hx hb dX11_by_20 rfl (lv_at hl 0 rfl) ?_
    refine lv_if_ge (tgt := 33) hx hb dX11_by_21 (by decide) (fun c6 => ?_) (fun c6 => ?_)
    · have h := vz_t c6 h
      refine lv_iload_n hx hb dX11_by_33 rfl (lv_at hl 0 rfl) ?_
      cases h
      exact W.iret hx hb hr (fun t ht _ => ⟨rfl, by rw [ht]; exact hP, hS.F ht⟩) hS.2.2 dX11_by_34
    · have h := vz_f c6 h
      refine lv_aload_n hx hb dX11_by_24 rfl (lv_at hl 1 rfl) ?_
      refine lv_bipush (v := (-6 : Int32)) hx hb dX11_by_25 (by decide) ?_
      obtain ⟨⟨r11, u8, v9⟩, hc7, h⟩ := vz_b h
      try dsimp only at h
      refine za_callWi (va_runV (As := [.int (-6 : Int32)]) (rest := []) ⟨hx, hb, hml, hown, hts⟩ (k_X11_finding l (D := D) (cI := cI) (cJ := cJ) (ad := ad) hD hc7) (cwV 1 hts gX11_by_X11_finding rfl rfl rfl ⟨rfl, zd_X11_finding⟩ ⟨Nat.le_of_ble_eq_true rfl, Nat.le_of_ble_eq_true rfl⟩) (xPreV (ci := 11) hK hP rfl zO_64) rfl rfl hl.1 rfl (lv_room (Nat.le_of_ble_eq_true rfl)) dX11_by_27 ⟨Nat.zero_le _, Nat.zero_le _⟩) hS (fun H locs hP hS => ?_)
      refine lv_goto (tgt := 34) hx hb dX11_by_30 (by decide) ?_
      cases h
      exact W.iret hx hb hr (fun t ht _ => ⟨rfl, by rw [ht]; exact hP, hS.F ht⟩) hS.2.2 dX11_by_34
  · have h := vz_t c3 h
    refine lv_aload_n hx hb dX11_by_8 rfl (lv_at hl 0 rfl) ?_
    refine lv_iconst (v := (-1 : Int32)) hx hb dX11_by_9 (by decide) ?_
    obtain ⟨⟨r16, u13, v14⟩, hc12, h⟩ := vz_b h
    try dsimp only at h
    refine za_callWi (va_runV (As := [.int (-1 : Int32)]) (rest := []) ⟨hx, hb, hml, hown, hts⟩ (k_X11_finding l (D := D) (cI := cI) (cJ := cJ) (ad := ad) hD hc12) (cwV 1 hts gX11_by_X11_finding rfl rfl rfl ⟨rfl, zd_X11_finding⟩ ⟨Nat.le_of_ble_eq_true rfl, Nat.le_of_ble_eq_true rfl⟩) (xPreV (ci := 11) hK hP rfl zO_64) rfl rfl hl.1 rfl (lv_room (Nat.le_of_ble_eq_true rfl)) dX11_by_10 ⟨Nat.zero_le _, Nat.zero_le _⟩) hS (fun H locs hP hS => ?_)
    cases h
    exact W.iret hx hb hr (fun t ht _ => ⟨rfl, by rw [ht]; exact hP, hS.F ht⟩) hS.2.2 dX11_by_13
abbrev rmX11_needsUpTo : Room := { frames := 1, cells := 0, slots := 0, locals := 22 }
set_option maxHeartbeats 4000000 in
set_option maxRecDepth 100000 in
theorem k_X11_needsUpTo (l : Launch) {D : va_G} {cI cJ : ClassId} {ad : Nat → Nat} {u : tU} {v : tV} {a1 : Int32} {a2 : Int32} {a3 : Int32}  {r : Int32}  (h : pX11_needsUpTo u v a1 a2 a3 = some r) : Met l yX11_needsUpTo wsX11_needsUpTo rmX11_needsUpTo (va_Pc [.ref (ad 64), .int a1, .int a2, .int a3] (xPre D cI cJ (wA cI cJ ad u v))) (QcRead r) 0 0 (fun _ => False) := by
  refine Met.ofW (cc := cX11_needsUpTo) (maxL := 7) (ret := (some .int)) (by decide) rfl ?_
  intro p e s m args below meth c s₁ B hml hv
  obtain ⟨rfl, hP, hK⟩ := hv
  have hx := B.exec
  have hb := B.bytes
  have hr := B.returns
  have hts := atoms_spec (ws := wsX11_needsUpTo) B.pre
  have hown : s.vm.findClass RX11 = some m.cls := findClass_of_methodNamed B.named
  have hlocks := B.notSynchronized
  have hin11 : ∀ w ∈ u_ws RX11 TX11 10, w ∈ wsX11_needsUpTo := fun _ h => List.mem_cons_of_mem _ (List.mem_append_right _ h)
  have hw1 := hts (.fieldLink RX11 13 "InstallDeskModel" "book" "[I") (List.mem_of_getElem? (i := 1) rfl)
  have hw2 := hts (.fieldLink RX11 19 "InstallDeskModel" "had" "[I") (List.mem_of_getElem? (i := 2) rfl)
  have hl := lv_entry ([.ref (ad 64), .int a1, .int a2, .int a3]) (n := 7) (Nat.le_of_ble_eq_true rfl)
  rw [lg_entry_eq]
  generalize (lg_sl ([.ref (ad 64), .int a1, .int a2, .int a3]) ++ List.replicate (7 - (lg_sl ([.ref (ad 64), .int a1, .int a2, .int a3])).length) Slot.unset).toArray = ls at hl ⊢
  have hl : lv_has ls 7 [(0, .ref (ad 64)), (1, .int a1), (2, .int a2), (3, .int a3)] := hl
  have L6 : ∀ (x1 : Int32) (x2 : Int32) (x3 : Int32) (n : Nat) (x4 : Int32) (x5 : Int32) (ls : Array Slot) (o : Int32), pX11_needsUpTo_L6 u v x1 x2 x3 n x4 x5 = some o → lv_has ls 7 [(0, .ref (ad 64)), (1, .int x1), (2, .int x2), (3, .int x3), (4, .int x4), (5, .int x5)] → (∀ (y4 : Int32) (ls : Array Slot), o = y4 → lv_has ls 7 [(4, .int y4)] → W p l e (headSpec wsX11_needsUpTo rmX11_needsUpTo).room s m [Value.ref (ad 64), Value.int a1, Value.int a2, Value.int a3].toArray below meth c s.heap [] 0 0 (MQ below (QcRead r) [Value.ref (ad 64), Value.int a1, Value.int a2, Value.int a3].toArray s 0 0 (fun _ => False)) (F0 m 74 ls [])) → W p l e (headSpec wsX11_needsUpTo rmX11_needsUpTo).room s m [Value.ref (ad 64), Value.int a1, Value.int a2, Value.int a3].toArray below meth c s.heap [] 0 0 (MQ below (QcRead r) [Value.ref (ad 64), Value.int a1, Value.int a2, Value.int a3].toArray s 0 0 (fun _ => False)) (F0 m 6 ls []) := by
    intro x1 x2 x3 n
    induction n with
    | zero => intro x4 x5 ls o h; cases h
    | succ n ih =>
      intro x4 x5 ls o h hl hk
      rw [pX11_needsUpTo_L6] at h
      refine lv_iload hx hb dX11_needsUpTo_6 (lv_at hl 5 rfl) ?_
      refine lv_aload_n hx hb dX11_needsUpTo_8 rfl (lv_at hl 0 rfl) ?_
      refine za_getr (k := 2) hx hb hts hin11 hown hK hP zF_64_2 rfl (Nat.le_of_ble_eq_true rfl) (Or.inl hw1) dX11_needsUpTo_9 ?_
      refine lv_iconst (v := (2 : Int32)) hx hb dX11_needsUpTo_12 (by decide) ?_
      refine za_ildc (j := 2) hx hb hK hP zI_66 (by unfold vp_in; decide) rfl dX11_needsUpTo_13 ?_
      refine lv_icmp_ge (tgt := 74) hx hb dX11_needsUpTo_14 (by decide) (fun c1 => ?_) (fun c1 => ?_)
      · have h := vz_t c1 h
        cases h
        exact hk x4 ls rfl (lv_sub hl [4] rfl)
      · have h := vz_f c1 h
        refine lv_aload_n hx hb dX11_needsUpTo_17 rfl (lv_at hl 0 rfl) ?_
        refine za_getr (k := 6) hx hb hts hin11 hown hK hP zF_64_6 rfl (Nat.le_of_ble_eq_true rfl) (Or.inl hw2) dX11_needsUpTo_18 ?_
        refine lv_bipush (v := (10 : Int32)) hx hb dX11_needsUpTo_21 (by decide) ?_
        refine lv_iload hx hb dX11_needsUpTo_23 (lv_at hl 5 rfl) ?_
        refine lv_imul hx hb dX11_needsUpTo_25 ?_
        refine lv_iload_n hx hb dX11_needsUpTo_26 rfl (lv_at hl 1 rfl) ?_
        refine lv_iadd hx hb dX11_needsUpTo_27 ?_
        obtain ⟨g2, h⟩ := gd_s h
        refine za_ild hx hb hK hP zI_68 g2 dX11_needsUpTo_28 ?_
        refine lv_istore (lv' := [(6, .int (u 6 (((10 : Int32) * x5) + x1).toNatClampNeg)), (0, .ref (ad 64)), (1, .int x1), (2, .int x2), (3, .int x3), (4, .int x4), (5, .int x5)]) hx hb dX11_needsUpTo_29 hl (by decide) rfl (fun ls hl => ?_)
        refine lv_iload hx hb dX11_needsUpTo_31 (lv_at hl 5 rfl) ?_
        refine lv_iload hx hb dX11_needsUpTo_33 (lv_at hl 6 rfl) ?_
        refine lv_iload_n hx hb dX11_needsUpTo_35 rfl (lv_at hl 4 rfl) ?_
        refine lv_icmp_eq (tgt := 64) hx hb dX11_needsUpTo_36 (by decide) (fun c3 => ?_) (fun c3 => ?_)
        · have h := vz_t c3 h
          refine lv_iconst (v := (0 : Int32)) hx hb dX11_needsUpTo_64 (by decide) ?_
          refine lv_iadd hx hb dX11_needsUpTo_65 ?_
          refine lv_istore (lv' := [(4, .int (x4 + (0 : Int32))), (6, .int (u 6 (((10 : Int32) * x5) + x1).toNatClampNeg)), (0, .ref (ad 64)), (1, .int x1), (2, .int x2), (3, .int x3), (5, .int x5)]) hx hb dX11_needsUpTo_66 hl (by decide) rfl (fun ls hl => ?_)
          refine lv_iinc (v := (x5 + 1)) (lv' := [(5, .int (x5 + 1)), (4, .int (x4 + (0 : Int32))), (6, .int (u 6 (((10 : Int32) * x5) + x1).toNatClampNeg)), (0, .ref (ad 64)), (1, .int x1), (2, .int x2), (3, .int x3)]) hx hb dX11_needsUpTo_68 hl (k := 6) rfl rfl (by decide) rfl (fun ls hl => ?_)
          refine lv_goto (tgt := 6) hx hb dX11_needsUpTo_71 (by decide) ?_
          exact ih (x4 + (0 : Int32)) (x5 + 1) ls o h (lv_sub hl [3, 4, 5, 6, 1, 0] rfl) hk
        · have h := vz_f c3 h
          refine lv_iload hx hb dX11_needsUpTo_39 (lv_at hl 0 rfl) ?_
          refine lv_if_le (tgt := 64) hx hb dX11_needsUpTo_41 (by decide) (fun c4 => ?_) (fun c4 => ?_)
          · have h := vz_t c4 h
            refine lv_iconst (v := (0 : Int32)) hx hb dX11_needsUpTo_64 (by decide) ?_
            refine lv_iadd hx hb dX11_needsUpTo_65 ?_
            refine lv_istore (lv' := [(4, .int (x4 + (0 : Int32))), (6, .int (u 6 (((10 : Int32) * x5) + x1).toNatClampNeg)), (0, .ref (ad 64)), (1, .int x1), (2, .int x2), (3, .int x3), (5, .int x5)]) hx hb dX11_needsUpTo_66 hl (by decide) rfl (fun ls hl => ?_)
            refine lv_iinc (v := (x5 + 1)) (lv' := [(5, .int (x5 + 1)), (4, .int (x4 + (0 : Int32))), (6, .int (u 6 (((10 : Int32) * x5) + x1).toNatClampNeg)), (0, .ref (ad 64)), (1, .int x1), (2, .int x2), (3, .int x3)]) hx hb dX11_needsUpTo_68 hl (k := 6) rfl rfl (by decide) rfl (fun ls hl => ?_)
            refine lv_goto (tgt := 6) hx hb dX11_needsUpTo_71 (by decide) ?_
            exact ih (x4 + (0 : Int32)) (x5 + 1) ls o h (lv_sub hl [3, 4, 5, 6, 1, 0] rfl) hk
          · have h := vz_f c4 h
            refine lv_iload hx hb dX11_needsUpTo_44 (lv_at hl 0 rfl) ?_
            refine lv_iload_n hx hb dX11_needsUpTo_46 rfl (lv_at hl 3 rfl) ?_
            refine lv_icmp_gt (tgt := 64) hx hb dX11_needsUpTo_47 (by decide) (fun c5 => ?_) (fun c5 => ?_)
            · have h := vz_t c5 h
              refine lv_iconst (v := (0 : Int32)) hx hb dX11_needsUpTo_64 (by decide) ?_
              refine lv_iadd hx hb dX11_needsUpTo_65 ?_
              refine lv_istore (lv' := [(4, .int (x4 + (0 : Int32))), (6, .int (u 6 (((10 : Int32) * x5) + x1).toNatClampNeg)), (0, .ref (ad 64)), (1, .int x1), (2, .int x2), (3, .int x3), (5, .int x5)]) hx hb dX11_needsUpTo_66 hl (by decide) rfl (fun ls hl => ?_)
              refine lv_iinc (v := (x5 + 1)) (lv' := [(5, .int (x5 + 1)), (4, .int (x4 + (0 : Int32))), (6, .int (u 6 (((10 : Int32) * x5) + x1).toNatClampNeg)), (0, .ref (ad 64)), (1, .int x1), (2, .int x2), (3, .int x3)]) hx hb dX11_needsUpTo_68 hl (k := 6) rfl rfl (by decide) rfl (fun ls hl => ?_)
              refine lv_goto (tgt := 6) hx hb dX11_needsUpTo_71 (by decide) ?_
              exact ih (x4 + (0 : Int32)) (x5 + 1) ls o h (lv_sub hl [3, 4, 5, 6, 1, 0] rfl) hk
            · have h := vz_f c5 h
              refine lv_aload_n hx hb dX11_needsUpTo_50 rfl (lv_at hl 1 rfl) ?_
              refine lv_iload_n hx hb dX11_needsUpTo_51 rfl (lv_at hl 2 rfl) ?_
              refine lv_iconst (v := (0 : Int32)) hx hb dX11_needsUpTo_52 (by decide) ?_
              obtain ⟨r7, hc6, h⟩ := vz_b h
              refine za_callR (va_runV (As := [.int x1, .int (0 : Int32)]) (rest := [.int x4]) ⟨hx, hb, hml, hown, hts⟩ (k_X11_productAt l (D := D) (cI := cI) (cJ := cJ) (ad := ad) hc6) (cwV 2 hts gX11_needsUpTo_X11_productAt rfl rfl rfl ⟨rfl, zd_X11_productAt⟩ ⟨Nat.le_of_ble_eq_true rfl, Nat.le_of_ble_eq_true rfl⟩) (xPreV (ci := 11) hK hP rfl zO_64) rfl rfl hl.1 rfl (lv_room (Nat.le_of_ble_eq_true rfl)) dX11_needsUpTo_53 ⟨Nat.zero_le _, Nat.zero_le _⟩) ?_
              refine lv_iconst (v := (2 : Int32)) hx hb dX11_needsUpTo_56 (by decide) ?_
              refine lv_icmp_eq (tgt := 64) hx hb dX11_needsUpTo_57 (by decide) (fun c8 => ?_) (fun c8 => ?_)
              · have h := vz_t c8 h
                refine lv_iconst (v := (0 : Int32)) hx hb dX11_needsUpTo_64 (by decide) ?_
                refine lv_iadd hx hb dX11_needsUpTo_65 ?_
                refine lv_istore (lv' := [(4, .int (x4 + (0 : Int32))), (6, .int (u 6 (((10 : Int32) * x5) + x1).toNatClampNeg)), (0, .ref (ad 64)), (1, .int x1), (2, .int x2), (3, .int x3), (5, .int x5)]) hx hb dX11_needsUpTo_66 hl (by decide) rfl (fun ls hl => ?_)
                refine lv_iinc (v := (x5 + 1)) (lv' := [(5, .int (x5 + 1)), (4, .int (x4 + (0 : Int32))), (6, .int (u 6 (((10 : Int32) * x5) + x1).toNatClampNeg)), (0, .ref (ad 64)), (1, .int x1), (2, .int x2), (3, .int x3)]) hx hb dX11_needsUpTo_68 hl (k := 6) rfl rfl (by decide) rfl (fun ls hl => ?_)
                refine lv_goto (tgt := 6) hx hb dX11_needsUpTo_71 (by decide) ?_
                exact ih (x4 + (0 : Int32)) (x5 + 1) ls o h (lv_sub hl [3, 4, 5, 6, 1, 0] rfl) hk
              · have h := vz_f c8 h
                refine lv_iconst (v := (1 : Int32)) hx hb dX11_needsUpTo_60 (by decide) ?_
                refine lv_goto (tgt := 65) hx hb dX11_needsUpTo_61 (by decide) ?_
                refine lv_iadd hx hb dX11_needsUpTo_65 ?_
                refine lv_istore (lv' := [(4, .int (x4 + (1 : Int32))), (6, .int (u 6 (((10 : Int32) * x5) + x1).toNatClampNeg)), (0, .ref (ad 64)), (1, .int x1), (2, .int x2), (3, .int x3), (5, .int x5)]) hx hb dX11_needsUpTo_66 hl (by decide) rfl (fun ls hl => ?_)
                refine lv_iinc (v := (x5 + 1)) (lv' := [(5, .int (x5 + 1)), (4, .int (x4 + (1 : Int32))), (6, .int (u 6 (((10 : Int32) * x5) + x1).toNatClampNeg)), (0, .ref (ad 64)), (1, .int x1), (2, .int x2), (3, .int x3)]) hx hb dX11_needsUpTo_68 hl (k := 6) rfl rfl (by decide) rfl (fun ls hl => ?_)
                refine lv_goto (tgt := 6) hx hb dX11_needsUpTo_71 (by decide) ?_
                exact ih (x4 + (1 : Int32)) (x5 + 1) ls o h (lv_sub hl [3, 4, 5, 6, 1, 0] rfl) hk
  rw [pX11_needsUpTo] at h
  refine lv_iconst (v := (0 : Int32)) hx hb dX11_needsUpTo_0 (by decide) ?_
  refine lv_istore (lv' := [(4, .int (0 : Int32)), (0, .ref (ad 64)), (1, .int a1), (2, .int a2), (3, .int a3)]) hx hb dX11_needsUpTo_1 hl (by decide) rfl (fun ls hl => ?_)
  refine lv_iconst (v := (0 : Int32)) hx hb dX11_needsUpTo_3 (by decide) ?_
  refine lv_istore (lv' := [(5, .int (0 : Int32)), (4, .int (0 : Int32)), (0, .ref (ad 64)), (1, .int a1), (2, .int a2), (3, .int a3)]) hx hb dX11_needsUpTo_4 hl (by decide) rfl (fun ls hl => ?_)
  obtain ⟨o9, hL10, h⟩ := vz_b h
  refine L6 a1 a2 a3 fuel (0 : Int32) (0 : Int32) ls o9 hL10 (lv_sub hl [2, 3, 4, 5, 1, 0] rfl) (fun y12 ls e11 hl => ?_)
  try rw [e11] at h
  try dsimp only at h
  refine lv_iload hx hb dX11_needsUpTo_74 (lv_at hl 0 rfl) ?_
  cases h
  exact W.iret hx hb hr (fun t ht _ => ⟨rfl, ht⟩) (fun q hq => absurd hq List.not_mem_nil) dX11_needsUpTo_76
abbrev rmX11_canTake : Room := { frames := 2, cells := 0, slots := 0, locals := 48 }
set_option maxHeartbeats 4000000 in
set_option maxRecDepth 100000 in
theorem k_X11_canTake (l : Launch) {D : va_G} {cI cJ : ClassId} {ad : Nat → Nat} {u : tU} {v : tV} {a1 : Int32} {a2 : Int32} {a3 : Int32}  {r : Int32}  (h : pX11_canTake u v a1 a2 a3 = some r) : Met l yX11_canTake wsX11_canTake rmX11_canTake (va_Pc [.ref (ad 64), .int a1, .int a2, .int a3] (xPre D cI cJ (wA cI cJ ad u v))) (QcRead r) 0 0 (fun _ => False) := by
  refine Met.ofW (cc := cX11_canTake) (maxL := 8) (ret := (some .boolean)) (by decide) rfl ?_
  intro p e s m args below meth c s₁ B hml hv
  obtain ⟨rfl, hP, hK⟩ := hv
  have hx := B.exec
  have hb := B.bytes
  have hr := B.returns
  have hts := atoms_spec (ws := wsX11_canTake) B.pre
  have hown : s.vm.findClass RX11 = some m.cls := findClass_of_methodNamed B.named
  have hlocks := B.notSynchronized
  have hin11 : ∀ w ∈ u_ws RX11 TX11 10, w ∈ wsX11_canTake := fun _ h => List.mem_cons_of_mem _ (List.mem_append_right _ h)
  have hw1 := hts (.fieldLink RX11 22 "InstallDeskModel" "taken" "[I") (List.mem_of_getElem? (i := 1) rfl)
  have hw2 := hts (.fieldLink RX11 13 "InstallDeskModel" "book" "[I") (List.mem_of_getElem? (i := 2) rfl)
  have hl := lv_entry ([.ref (ad 64), .int a1, .int a2, .int a3]) (n := 8) (Nat.le_of_ble_eq_true rfl)
  rw [lg_entry_eq]
  generalize (lg_sl ([.ref (ad 64), .int a1, .int a2, .int a3]) ++ List.replicate (8 - (lg_sl ([.ref (ad 64), .int a1, .int a2, .int a3])).length) Slot.unset).toArray = ls at hl ⊢
  have hl : lv_has ls 8 [(0, .ref (ad 64)), (1, .int a1), (2, .int a2), (3, .int a3)] := hl
  have L48 : ∀ (x2 : Int32) (x3 : Int32) (x5 : Int32) (n : Nat) (x6 : Int32) (x7 : Int32) (ls : Array Slot) (o : Int32), pX11_canTake_L48 u v x2 x3 x5 n x6 x7 = some o → lv_has ls 8 [(0, .ref (ad 64)), (2, .int x2), (3, .int x3), (5, .int x5), (6, .int x6), (7, .int x7)] → (∀ (y6 : Int32) (ls : Array Slot), o = y6 → lv_has ls 8 [(0, .ref (ad 64)), (2, .int x2), (3, .int x3), (5, .int x5), (6, .int y6)] → W p l e (headSpec wsX11_canTake rmX11_canTake).room s m [Value.ref (ad 64), Value.int a1, Value.int a2, Value.int a3].toArray below meth c s.heap [] 0 0 (MQ below (QcRead r) [Value.ref (ad 64), Value.int a1, Value.int a2, Value.int a3].toArray s 0 0 (fun _ => False)) (F0 m 104 ls [])) → W p l e (headSpec wsX11_canTake rmX11_canTake).room s m [Value.ref (ad 64), Value.int a1, Value.int a2, Value.int a3].toArray below meth c s.heap [] 0 0 (MQ below (QcRead r) [Value.ref (ad 64), Value.int a1, Value.int a2, Value.int a3].toArray s 0 0 (fun _ => False)) (F0 m 48 ls []) := by
    intro x2 x3 x5 n
    induction n with
    | zero => intro x6 x7 ls o h; cases h
    | succ n ih =>
      intro x6 x7 ls o h hl hk
      rw [pX11_canTake_L48] at h
      refine lv_iload hx hb dX11_canTake_48 (lv_at hl 5 rfl) ?_
      refine lv_aload_n hx hb dX11_canTake_50 rfl (lv_at hl 0 rfl) ?_
      refine za_getr (k := 2) hx hb hts hin11 hown hK hP zF_64_2 rfl (Nat.le_of_ble_eq_true rfl) (Or.inl hw2) dX11_canTake_51 ?_
      refine lv_iconst (v := (5 : Int32)) hx hb dX11_canTake_54 (by decide) ?_
      refine za_ildc (j := 5) hx hb hK hP zI_66 (by unfold vp_in; decide) rfl dX11_canTake_55 ?_
      refine lv_icmp_ge (tgt := 104) hx hb dX11_canTake_56 (by decide) (fun c1 => ?_) (fun c1 => ?_)
      · have h := vz_t c1 h
        cases h
        exact hk x6 ls rfl (lv_sub hl [0, 1, 2, 3, 4] rfl)
      · have h := vz_f c1 h
        refine lv_iload hx hb dX11_canTake_59 (lv_at hl 4 rfl) ?_
        refine lv_aload_n hx hb dX11_canTake_61 rfl (lv_at hl 0 rfl) ?_
        refine lv_iload hx hb dX11_canTake_62 (lv_at hl 5 rfl) ?_
        refine lv_iconst (v := (0 : Int32)) hx hb dX11_canTake_64 (by decide) ?_
        obtain ⟨r3, hc2, h⟩ := vz_b h
        refine za_callR (va_runV (As := [.int x7, .int (0 : Int32)]) (rest := [.int x6]) ⟨hx, hb, hml, hown, hts⟩ (k_X11_rightAt l (D := D) (cI := cI) (cJ := cJ) (ad := ad) hc2) (cwV 2 hts gX11_canTake_X11_rightAt rfl rfl rfl ⟨rfl, zd_X11_rightAt⟩ ⟨Nat.le_of_ble_eq_true rfl, Nat.le_of_ble_eq_true rfl⟩) (xPreV (ci := 11) hK hP rfl zO_64) rfl rfl hl.1 rfl (lv_room (Nat.le_of_ble_eq_true rfl)) dX11_canTake_65 ⟨Nat.zero_le _, Nat.zero_le _⟩) ?_
        refine lv_iload_n hx hb dX11_canTake_68 rfl (lv_at hl 1 rfl) ?_
        refine lv_icmp_ne (tgt := 94) hx hb dX11_canTake_69 (by decide) (fun c4 => ?_) (fun c4 => ?_)
        · have h := vz_f c4 h
          refine lv_iconst (v := (0 : Int32)) hx hb dX11_canTake_94 (by decide) ?_
          refine lv_iadd hx hb dX11_canTake_95 ?_
          refine lv_istore (lv' := [(6, .int (x6 + (0 : Int32))), (0, .ref (ad 64)), (2, .int x2), (3, .int x3), (5, .int x5), (7, .int x7)]) hx hb dX11_canTake_96 hl (by decide) rfl (fun ls hl => ?_)
          refine lv_iinc (v := (x7 + 1)) (lv' := [(7, .int (x7 + 1)), (6, .int (x6 + (0 : Int32))), (0, .ref (ad 64)), (2, .int x2), (3, .int x3), (5, .int x5)]) hx hb dX11_canTake_98 hl (k := 5) rfl rfl (by decide) rfl (fun ls hl => ?_)
          refine lv_goto (tgt := 48) hx hb dX11_canTake_101 (by decide) ?_
          exact ih (x6 + (0 : Int32)) (x7 + 1) ls o h (lv_sub hl [2, 3, 4, 5, 1, 0] rfl) hk
        · have h := vz_t c4 h
          refine lv_aload_n hx hb dX11_canTake_72 rfl (lv_at hl 0 rfl) ?_
          refine lv_iload hx hb dX11_canTake_73 (lv_at hl 5 rfl) ?_
          refine lv_iconst (v := (1 : Int32)) hx hb dX11_canTake_75 (by decide) ?_
          obtain ⟨r6, hc5, h⟩ := vz_b h
          refine za_callR (va_runV (As := [.int x7, .int (1 : Int32)]) (rest := [.int x6]) ⟨hx, hb, hml, hown, hts⟩ (k_X11_rightAt l (D := D) (cI := cI) (cJ := cJ) (ad := ad) hc5) (cwV 2 hts gX11_canTake_X11_rightAt rfl rfl rfl ⟨rfl, zd_X11_rightAt⟩ ⟨Nat.le_of_ble_eq_true rfl, Nat.le_of_ble_eq_true rfl⟩) (xPreV (ci := 11) hK hP rfl zO_64) rfl rfl hl.1 rfl (lv_room (Nat.le_of_ble_eq_true rfl)) dX11_canTake_76 ⟨Nat.zero_le _, Nat.zero_le _⟩) ?_
          refine lv_iload hx hb dX11_canTake_79 (lv_at hl 3 rfl) ?_
          refine lv_icmp_gt (tgt := 94) hx hb dX11_canTake_81 (by decide) (fun c7 => ?_) (fun c7 => ?_)
          · have h := vz_t c7 h
            refine lv_iconst (v := (0 : Int32)) hx hb dX11_canTake_94 (by decide) ?_
            refine lv_iadd hx hb dX11_canTake_95 ?_
            refine lv_istore (lv' := [(6, .int (x6 + (0 : Int32))), (0, .ref (ad 64)), (2, .int x2), (3, .int x3), (5, .int x5), (7, .int x7)]) hx hb dX11_canTake_96 hl (by decide) rfl (fun ls hl => ?_)
            refine lv_iinc (v := (x7 + 1)) (lv' := [(7, .int (x7 + 1)), (6, .int (x6 + (0 : Int32))), (0, .ref (ad 64)), (2, .int x2), (3, .int x3), (5, .int x5)]) hx hb dX11_canTake_98 hl (k := 5) rfl rfl (by decide) rfl (fun ls hl => ?_)
            refine lv_goto (tgt := 48) hx hb dX11_canTake_101 (by decide) ?_
            exact ih (x6 + (0 : Int32)) (x7 + 1) ls o h (lv_sub hl [2, 3, 4, 5, 1, 0] rfl) hk
          · have h := vz_f c7 h
            refine lv_aload_n hx hb dX11_canTake_84 rfl (lv_at hl 0 rfl) ?_
            refine za_getr (k := 7) hx hb hts hin11 hown hK hP zF_64_7 rfl (Nat.le_of_ble_eq_true rfl) (Or.inl hw1) dX11_canTake_85 ?_
            refine lv_iload hx hb dX11_canTake_88 (lv_at hl 5 rfl) ?_
            obtain ⟨g8, h⟩ := gd_s h
            refine za_ild hx hb hK hP zI_69 g8 dX11_canTake_90 ?_
            refine lv_goto (tgt := 95) hx hb dX11_canTake_91 (by decide) ?_
            refine lv_iadd hx hb dX11_canTake_95 ?_
            refine lv_istore (lv' := [(6, .int (x6 + (u 7 x7.toNatClampNeg))), (0, .ref (ad 64)), (2, .int x2), (3, .int x3), (5, .int x5), (7, .int x7)]) hx hb dX11_canTake_96 hl (by decide) rfl (fun ls hl => ?_)
            refine lv_iinc (v := (x7 + 1)) (lv' := [(7, .int (x7 + 1)), (6, .int (x6 + (u 7 x7.toNatClampNeg))), (0, .ref (ad 64)), (2, .int x2), (3, .int x3), (5, .int x5)]) hx hb dX11_canTake_98 hl (k := 5) rfl rfl (by decide) rfl (fun ls hl => ?_)
            refine lv_goto (tgt := 48) hx hb dX11_canTake_101 (by decide) ?_
            exact ih (x6 + (u 7 x7.toNatClampNeg)) (x7 + 1) ls o h (lv_sub hl [2, 3, 4, 5, 1, 0] rfl) hk
  have L30 : ∀ (x2 : Int32) (x3 : Int32) (n : Nat) (x4 : Int32) (x5 : Int32) (ls : Array Slot) (o : Int32), pX11_canTake_L30 u v x2 x3 n x4 x5 = some o → lv_has ls 8 [(0, .ref (ad 64)), (2, .int x2), (3, .int x3), (4, .int x4), (5, .int x5)] → (∀ (y4 : Int32) (ls : Array Slot), o = y4 → lv_has ls 8 [(4, .int y4)] → W p l e (headSpec wsX11_canTake rmX11_canTake).room s m [Value.ref (ad 64), Value.int a1, Value.int a2, Value.int a3].toArray below meth c s.heap [] 0 0 (MQ below (QcRead r) [Value.ref (ad 64), Value.int a1, Value.int a2, Value.int a3].toArray s 0 0 (fun _ => False)) (F0 m 130 ls [])) → W p l e (headSpec wsX11_canTake rmX11_canTake).room s m [Value.ref (ad 64), Value.int a1, Value.int a2, Value.int a3].toArray below meth c s.heap [] 0 0 (MQ below (QcRead r) [Value.ref (ad 64), Value.int a1, Value.int a2, Value.int a3].toArray s 0 0 (fun _ => False)) (F0 m 30 ls []) := by
    intro x2 x3 n
    induction n with
    | zero => intro x4 x5 ls o h; cases h
    | succ n ih =>
      intro x4 x5 ls o h hl hk
      rw [pX11_canTake_L30] at h
      refine lv_iload hx hb dX11_canTake_30 (lv_at hl 4 rfl) ?_
      refine lv_bipush (v := (9 : Int32)) hx hb dX11_canTake_32 (by decide) ?_
      refine lv_icmp_gt (tgt := 130) hx hb dX11_canTake_34 (by decide) (fun c9 => ?_) (fun c9 => ?_)
      · have h := vz_t c9 h
        cases h
        exact hk x4 ls rfl (lv_sub hl [3] rfl)
      · have h := vz_f c9 h
        refine lv_iload hx hb dX11_canTake_37 (lv_at hl 3 rfl) ?_
        refine lv_if_eq (tgt := 130) hx hb dX11_canTake_39 (by decide) (fun c10 => ?_) (fun c10 => ?_)
        · have h := vz_t c10 h
          cases h
          exact hk x4 ls rfl (lv_sub hl [3] rfl)
        · have h := vz_f c10 h
          refine lv_iconst (v := (1 : Int32)) hx hb dX11_canTake_42 (by decide) ?_
          refine lv_istore (lv' := [(6, .int (1 : Int32)), (0, .ref (ad 64)), (2, .int x2), (3, .int x3), (4, .int x4), (5, .int x5)]) hx hb dX11_canTake_43 hl (by decide) rfl (fun ls hl => ?_)
          refine lv_iconst (v := (0 : Int32)) hx hb dX11_canTake_45 (by decide) ?_
          refine lv_istore (lv' := [(7, .int (0 : Int32)), (6, .int (1 : Int32)), (0, .ref (ad 64)), (2, .int x2), (3, .int x3), (4, .int x4), (5, .int x5)]) hx hb dX11_canTake_46 hl (by decide) rfl (fun ls hl => ?_)
          obtain ⟨o11, hL12, h⟩ := vz_b h
          refine L48 x2 x3 x5 fuel (1 : Int32) (0 : Int32) ls o11 hL12 (lv_sub hl [2, 3, 4, 6, 1, 0] rfl) (fun y14 ls e13 hl => ?_)
          try rw [e13] at h
          try dsimp only at h
          refine lv_iload hx hb dX11_canTake_104 (lv_at hl 4 rfl) ?_
          refine lv_aload_n hx hb dX11_canTake_106 rfl (lv_at hl 0 rfl) ?_
          refine lv_iload_n hx hb dX11_canTake_107 rfl (lv_at hl 1 rfl) ?_
          refine lv_iload hx hb dX11_canTake_108 (lv_at hl 3 rfl) ?_
          refine lv_iload_n hx hb dX11_canTake_110 rfl (lv_at hl 2 rfl) ?_
          obtain ⟨r16, hc15, h⟩ := vz_b h
          refine za_callR (va_runV (As := [.int x2, .int x5, .int x3]) (rest := [.int y14]) ⟨hx, hb, hml, hown, hts⟩ (k_X11_needsUpTo l (D := D) (cI := cI) (cJ := cJ) (ad := ad) hc15) (cwV 3 hts gX11_canTake_X11_needsUpTo rfl rfl rfl ⟨rfl, zd_X11_needsUpTo⟩ ⟨Nat.le_of_ble_eq_true rfl, Nat.le_of_ble_eq_true rfl⟩) (xPreV (ci := 11) hK hP rfl zO_64) rfl rfl hl.1 rfl (lv_room (Nat.le_of_ble_eq_true rfl)) dX11_canTake_111 ⟨Nat.zero_le _, Nat.zero_le _⟩) ?_
          refine lv_icmp_gt (tgt := 121) hx hb dX11_canTake_114 (by decide) (fun c17 => ?_) (fun c17 => ?_)
          · have h := vz_t c17 h
            refine lv_iconst (v := (0 : Int32)) hx hb dX11_canTake_121 (by decide) ?_
            refine lv_istore (lv' := [(4, .int (0 : Int32)), (0, .ref (ad 64)), (2, .int x2), (3, .int x3), (5, .int x5), (6, .int y14)]) hx hb dX11_canTake_122 hl (by decide) rfl (fun ls hl => ?_)
            refine lv_iinc (v := (x5 + 1)) (lv' := [(5, .int (x5 + 1)), (4, .int (0 : Int32)), (0, .ref (ad 64)), (2, .int x2), (3, .int x3), (6, .int y14)]) hx hb dX11_canTake_124 hl (k := 4) rfl rfl (by decide) rfl (fun ls hl => ?_)
            refine lv_goto (tgt := 30) hx hb dX11_canTake_127 (by decide) ?_
            exact ih (0 : Int32) (x5 + 1) ls o h (lv_sub hl [2, 3, 4, 1, 0] rfl) hk
          · have h := vz_f c17 h
            refine lv_iconst (v := (1 : Int32)) hx hb dX11_canTake_117 (by decide) ?_
            refine lv_goto (tgt := 122) hx hb dX11_canTake_118 (by decide) ?_
            refine lv_istore (lv' := [(4, .int (1 : Int32)), (0, .ref (ad 64)), (2, .int x2), (3, .int x3), (5, .int x5), (6, .int y14)]) hx hb dX11_canTake_122 hl (by decide) rfl (fun ls hl => ?_)
            refine lv_iinc (v := (x5 + 1)) (lv' := [(5, .int (x5 + 1)), (4, .int (1 : Int32)), (0, .ref (ad 64)), (2, .int x2), (3, .int x3), (6, .int y14)]) hx hb dX11_canTake_124 hl (k := 4) rfl rfl (by decide) rfl (fun ls hl => ?_)
            refine lv_goto (tgt := 30) hx hb dX11_canTake_127 (by decide) ?_
            exact ih (1 : Int32) (x5 + 1) ls o h (lv_sub hl [2, 3, 4, 1, 0] rfl) hk
  rw [pX11_canTake] at h
  refine lv_aload_n hx hb dX11_canTake_0 rfl (lv_at hl 0 rfl) ?_
  refine za_getr (k := 7) hx hb hts hin11 hown hK hP zF_64_7 rfl (Nat.le_of_ble_eq_true rfl) (Or.inl hw1) dX11_canTake_1 ?_
  refine lv_iload_n hx hb dX11_canTake_4 rfl (lv_at hl 1 rfl) ?_
  obtain ⟨g18, h⟩ := gd_s h
  refine za_ild hx hb hK hP zI_69 g18 dX11_canTake_5 ?_
  refine lv_aload_n hx hb dX11_canTake_6 rfl (lv_at hl 0 rfl) ?_
  refine lv_iload_n hx hb dX11_canTake_7 rfl (lv_at hl 1 rfl) ?_
  refine lv_iconst (v := (2 : Int32)) hx hb dX11_canTake_8 (by decide) ?_
  obtain ⟨r20, hc19, h⟩ := vz_b h
  refine za_callR (va_runV (As := [.int a1, .int (2 : Int32)]) (rest := [.int (u 7 a1.toNatClampNeg)]) ⟨hx, hb, hml, hown, hts⟩ (k_X11_rightAt l (D := D) (cI := cI) (cJ := cJ) (ad := ad) hc19) (cwV 2 hts gX11_canTake_X11_rightAt rfl rfl rfl ⟨rfl, zd_X11_rightAt⟩ ⟨Nat.le_of_ble_eq_true rfl, Nat.le_of_ble_eq_true rfl⟩) (xPreV (ci := 11) hK hP rfl zO_64) rfl rfl hl.1 rfl (lv_room (Nat.le_of_ble_eq_true rfl)) dX11_canTake_9 ⟨Nat.zero_le _, Nat.zero_le _⟩) ?_
  refine lv_icmp_ge (tgt := 19) hx hb dX11_canTake_12 (by decide) (fun c21 => ?_) (fun c21 => ?_)
  · have h := vz_t c21 h
    refine lv_iconst (v := (0 : Int32)) hx hb dX11_canTake_19 (by decide) ?_
    refine lv_istore (lv' := [(4, .int (0 : Int32)), (0, .ref (ad 64)), (1, .int a1), (2, .int a2), (3, .int a3)]) hx hb dX11_canTake_20 hl (by decide) rfl (fun ls hl => ?_)
    refine lv_aload_n hx hb dX11_canTake_22 rfl (lv_at hl 1 rfl) ?_
    refine lv_iload_n hx hb dX11_canTake_23 rfl (lv_at hl 2 rfl) ?_
    refine lv_iconst (v := (1 : Int32)) hx hb dX11_canTake_24 (by decide) ?_
    obtain ⟨r23, hc22, h⟩ := vz_b h
    refine za_callR (va_runV (As := [.int a1, .int (1 : Int32)]) (rest := []) ⟨hx, hb, hml, hown, hts⟩ (k_X11_rightAt l (D := D) (cI := cI) (cJ := cJ) (ad := ad) hc22) (cwV 2 hts gX11_canTake_X11_rightAt rfl rfl rfl ⟨rfl, zd_X11_rightAt⟩ ⟨Nat.le_of_ble_eq_true rfl, Nat.le_of_ble_eq_true rfl⟩) (xPreV (ci := 11) hK hP rfl zO_64) rfl rfl hl.1 rfl (lv_room (Nat.le_of_ble_eq_true rfl)) dX11_canTake_25 ⟨Nat.zero_le _, Nat.zero_le _⟩) ?_
    refine lv_istore (lv' := [(5, .int r23), (4, .int (0 : Int32)), (0, .ref (ad 64)), (1, .int a1), (2, .int a2), (3, .int a3)]) hx hb dX11_canTake_28 hl (by decide) rfl (fun ls hl => ?_)
    obtain ⟨o24, hL25, h⟩ := vz_b h
    refine L30 a2 a3 fuel (0 : Int32) r23 ls o24 hL25 (lv_sub hl [2, 4, 5, 1, 0] rfl) (fun y27 ls e26 hl => ?_)
    try rw [e26] at h
    try dsimp only at h
    refine lv_iload hx hb dX11_canTake_130 (lv_at hl 0 rfl) ?_
    obtain ⟨hn, h⟩ := gb_s h
    cases h
    exact W.zret hx hb hr hn (fun t ht _ => ⟨rfl, ht⟩) (fun q hq => absurd hq List.not_mem_nil) dX11_canTake_132
  · have h := vz_f c21 h
    refine lv_iconst (v := (1 : Int32)) hx hb dX11_canTake_15 (by decide) ?_
    refine lv_goto (tgt := 20) hx hb dX11_canTake_16 (by decide) ?_
    refine lv_istore (lv' := [(4, .int (1 : Int32)), (0, .ref (ad 64)), (1, .int a1), (2, .int a2), (3, .int a3)]) hx hb dX11_canTake_20 hl (by decide) rfl (fun ls hl => ?_)
    refine lv_aload_n hx hb dX11_canTake_22 rfl (lv_at hl 1 rfl) ?_
    refine lv_iload_n hx hb dX11_canTake_23 rfl (lv_at hl 2 rfl) ?_
    refine lv_iconst (v := (1 : Int32)) hx hb dX11_canTake_24 (by decide) ?_
    obtain ⟨r29, hc28, h⟩ := vz_b h
    refine za_callR (va_runV (As := [.int a1, .int (1 : Int32)]) (rest := []) ⟨hx, hb, hml, hown, hts⟩ (k_X11_rightAt l (D := D) (cI := cI) (cJ := cJ) (ad := ad) hc28) (cwV 2 hts gX11_canTake_X11_rightAt rfl rfl rfl ⟨rfl, zd_X11_rightAt⟩ ⟨Nat.le_of_ble_eq_true rfl, Nat.le_of_ble_eq_true rfl⟩) (xPreV (ci := 11) hK hP rfl zO_64) rfl rfl hl.1 rfl (lv_room (Nat.le_of_ble_eq_true rfl)) dX11_canTake_25 ⟨Nat.zero_le _, Nat.zero_le _⟩) ?_
    refine lv_istore (lv' := [(5, .int r29), (4, .int (1 : Int32)), (0, .ref (ad 64)), (1, .int a1), (2, .int a2), (3, .int a3)]) hx hb dX11_canTake_28 hl (by decide) rfl (fun ls hl => ?_)
    obtain ⟨o30, hL31, h⟩ := vz_b h
    refine L30 a2 a3 fuel (1 : Int32) r29 ls o30 hL31 (lv_sub hl [2, 4, 5, 1, 0] rfl) (fun y33 ls e32 hl => ?_)
    try rw [e32] at h
    try dsimp only at h
    refine lv_iload hx hb dX11_canTake_130 (lv_at hl 0 rfl) ?_
    obtain ⟨hn, h⟩ := gb_s h
    cases h
    exact W.zret hx hb hr hn (fun t ht _ => ⟨rfl, ht⟩) (fun q hq => absurd hq List.not_mem_nil) dX11_canTake_132
abbrev rmX11_isOn : Room := { frames := 1, cells := 0, slots := 0, locals := 22 }
set_option maxHeartbeats 4000000 in
set_option maxRecDepth 100000 in
theorem k_X11_isOn (l : Launch) {D : va_G} {cI cJ : ClassId} {ad : Nat → Nat} {u : tU} {v : tV} {a1 : Int32} {a2 : Int32}  {r : Int32}  (h : pX11_isOn u v a1 a2 = some r) : Met l yX11_isOn wsX11_isOn rmX11_isOn (va_Pc [.ref (ad 64), .int a1, .int a2] (xPre D cI cJ (wA cI cJ ad u v))) (QcRead r) 0 0 (fun _ => False) := by
  refine Met.ofW (cc := cX11_isOn) (maxL := 3) (ret := (some .boolean)) (by decide) rfl ?_
  intro p e s m args below meth c s₁ B hml hv
  obtain ⟨rfl, hP, hK⟩ := hv
  have hx := B.exec
  have hb := B.bytes
  have hr := B.returns
  have hts := atoms_spec (ws := wsX11_isOn) B.pre
  have hown : s.vm.findClass RX11 = some m.cls := findClass_of_methodNamed B.named
  have hlocks := B.notSynchronized
  have hl := lv_entry ([.ref (ad 64), .int a1, .int a2]) (n := 3) (Nat.le_of_ble_eq_true rfl)
  rw [lg_entry_eq]
  generalize (lg_sl ([.ref (ad 64), .int a1, .int a2]) ++ List.replicate (3 - (lg_sl ([.ref (ad 64), .int a1, .int a2])).length) Slot.unset).toArray = ls at hl ⊢
  have hl : lv_has ls 3 [(0, .ref (ad 64)), (1, .int a1), (2, .int a2)] := hl
  rw [pX11_isOn] at h
  refine lv_aload_n hx hb dX11_isOn_0 rfl (lv_at hl 0 rfl) ?_
  refine lv_iload_n hx hb dX11_isOn_1 rfl (lv_at hl 1 rfl) ?_
  refine lv_iconst (v := (4 : Int32)) hx hb dX11_isOn_2 (by decide) ?_
  obtain ⟨r2, hc1, h⟩ := vz_b h
  refine za_callR (va_runV (As := [.int a1, .int (4 : Int32)]) (rest := []) ⟨hx, hb, hml, hown, hts⟩ (k_X11_rightAt l (D := D) (cI := cI) (cJ := cJ) (ad := ad) hc1) (cwV 2 hts gX11_isOn_X11_rightAt rfl rfl rfl ⟨rfl, zd_X11_rightAt⟩ ⟨Nat.le_of_ble_eq_true rfl, Nat.le_of_ble_eq_true rfl⟩) (xPreV (ci := 11) hK hP rfl zO_64) rfl rfl hl.1 rfl (lv_room (Nat.le_of_ble_eq_true rfl)) dX11_isOn_3 ⟨Nat.zero_le _, Nat.zero_le _⟩) ?_
  refine lv_iload_n hx hb dX11_isOn_6 rfl (lv_at hl 2 rfl) ?_
  refine lv_icmp_gt (tgt := 24) hx hb dX11_isOn_7 (by decide) (fun c3 => ?_) (fun c3 => ?_)
  · have h := vz_t c3 h
    refine lv_iconst (v := (0 : Int32)) hx hb dX11_isOn_24 (by decide) ?_
    cases h
    exact W.zret hx hb hr nb0 (fun t ht _ => ⟨rfl, ht⟩) (fun q hq => absurd hq List.not_mem_nil) dX11_isOn_25
  · have h := vz_f c3 h
    refine lv_iload_n hx hb dX11_isOn_10 rfl (lv_at hl 2 rfl) ?_
    refine lv_aload_n hx hb dX11_isOn_11 rfl (lv_at hl 0 rfl) ?_
    refine lv_iload_n hx hb dX11_isOn_12 rfl (lv_at hl 1 rfl) ?_
    refine lv_iconst (v := (5 : Int32)) hx hb dX11_isOn_13 (by decide) ?_
    obtain ⟨r5, hc4, h⟩ := vz_b h
    refine za_callR (va_runV (As := [.int a1, .int (5 : Int32)]) (rest := [.int a2]) ⟨hx, hb, hml, hown, hts⟩ (k_X11_rightAt l (D := D) (cI := cI) (cJ := cJ) (ad := ad) hc4) (cwV 2 hts gX11_isOn_X11_rightAt rfl rfl rfl ⟨rfl, zd_X11_rightAt⟩ ⟨Nat.le_of_ble_eq_true rfl, Nat.le_of_ble_eq_true rfl⟩) (xPreV (ci := 11) hK hP rfl zO_64) rfl rfl hl.1 rfl (lv_room (Nat.le_of_ble_eq_true rfl)) dX11_isOn_14 ⟨Nat.zero_le _, Nat.zero_le _⟩) ?_
    refine lv_icmp_gt (tgt := 24) hx hb dX11_isOn_17 (by decide) (fun c6 => ?_) (fun c6 => ?_)
    · have h := vz_t c6 h
      refine lv_iconst (v := (0 : Int32)) hx hb dX11_isOn_24 (by decide) ?_
      cases h
      exact W.zret hx hb hr nb0 (fun t ht _ => ⟨rfl, ht⟩) (fun q hq => absurd hq List.not_mem_nil) dX11_isOn_25
    · have h := vz_f c6 h
      refine lv_iconst (v := (1 : Int32)) hx hb dX11_isOn_20 (by decide) ?_
      refine lv_goto (tgt := 25) hx hb dX11_isOn_21 (by decide) ?_
      cases h
      exact W.zret hx hb hr nb1 (fun t ht _ => ⟨rfl, ht⟩) (fun q hq => absurd hq List.not_mem_nil) dX11_isOn_25
abbrev rmX11_match : Room := { frames := 3, cells := 0, slots := 0, locals := 75 }
set_option maxHeartbeats 4000000 in
set_option maxRecDepth 100000 in
theorem k_X11_match (l : Launch) {D : va_G} {cI cJ : ClassId} {ad : Nat → Nat} {u : tU} {v : tV} {A : Nat → Prop} (hD : zD A cI cJ ad) {a1 : Int32} {a2 : Int32} {a3 : Int32} {a4 : Int32}  {uz : tU} {vz : tV} (h : pX11_match u v a1 a2 a3 a4 = some (uz, vz)) : Met l yX11_match wsX11_match rmX11_match (va_Pc [.ref (ad 64), .int a1, .int a2, .int a3, .int a4] (xPre D cI cJ (wA cI cJ ad u v))) (xWv D cI cJ ad A uz vz) 0 0 A := by
  refine Met.ofW (cc := cX11_match) (maxL := 9) (ret := none) (by decide) rfl ?_
  intro p e s m args below meth c s₁ B hml hv
  obtain ⟨rfl, hP, hK⟩ := hv
  have hx := B.exec
  have hb := B.bytes
  have hr := B.returns
  have hts := atoms_spec (ws := wsX11_match) B.pre
  have hown : s.vm.findClass RX11 = some m.cls := findClass_of_methodNamed B.named
  have hlocks := B.notSynchronized
  have hS : va_S A s.heap s.heap [] := va_S.rf
  have hin11 : ∀ w ∈ u_ws RX11 TX11 10, w ∈ wsX11_match := fun _ h => List.mem_cons_of_mem _ (List.mem_append_right _ h)
  have hw1 := hts (.fieldLink RX11 22 "InstallDeskModel" "taken" "[I") (List.mem_of_getElem? (i := 1) rfl)
  have hw2 := hts (.fieldLink RX11 121 "InstallDeskModel" "cost" "I") (List.mem_of_getElem? (i := 2) rfl)
  have hw3 := hts (.fieldLink RX11 13 "InstallDeskModel" "book" "[I") (List.mem_of_getElem? (i := 3) rfl)
  have hw4 := hts (.fieldLink RX11 127 "InstallDeskModel" "lack" "I") (List.mem_of_getElem? (i := 4) rfl)
  have hl := lv_entry ([.ref (ad 64), .int a1, .int a2, .int a3, .int a4]) (n := 9) (Nat.le_of_ble_eq_true rfl)
  rw [lg_entry_eq]
  generalize (lg_sl ([.ref (ad 64), .int a1, .int a2, .int a3, .int a4]) ++ List.replicate (9 - (lg_sl ([.ref (ad 64), .int a1, .int a2, .int a3, .int a4])).length) Slot.unset).toArray = ls at hl ⊢
  have hl : lv_has ls 9 [(0, .ref (ad 64)), (1, .int a1), (2, .int a2), (3, .int a3), (4, .int a4)] := hl
  have L3 : ∀ (x1 : Int32) (x2 : Int32) (x3 : Int32) (x4 : Int32) (n : Nat) (x5 : Int32) (u : tU) (v : tV) (H : Heap) (locs : List Loc) (ls : Array Slot) (o : tU × tV), pX11_match_L3 x1 x2 x3 x4 n x5 u v = some o → va_P D vwCl (wA cI cJ ad u v) H → va_S A s.heap H locs → lv_has ls 9 [(0, .ref (ad 64)), (1, .int x1), (2, .int x2), (3, .int x3), (4, .int x4), (5, .int x5)] → (∀ (u' : tU) (v' : tV) (H : Heap) (locs : List Loc) (ls : Array Slot), o = (u', v') → va_P D vwCl (wA cI cJ ad u' v') H → va_S A s.heap H locs → lv_has ls 9 [(0, .ref (ad 64)), (1, .int x1), (2, .int x2), (3, .int x3), (4, .int x4)] → W p l e (headSpec wsX11_match rmX11_match).room s m [Value.ref (ad 64), Value.int a1, Value.int a2, Value.int a3, Value.int a4].toArray below meth c H locs 0 0 (MQ below (xWv D cI cJ ad A uz vz) [Value.ref (ad 64), Value.int a1, Value.int a2, Value.int a3, Value.int a4].toArray s 0 0 A) (F0 m 24 ls [])) → W p l e (headSpec wsX11_match rmX11_match).room s m [Value.ref (ad 64), Value.int a1, Value.int a2, Value.int a3, Value.int a4].toArray below meth c H locs 0 0 (MQ below (xWv D cI cJ ad A uz vz) [Value.ref (ad 64), Value.int a1, Value.int a2, Value.int a3, Value.int a4].toArray s 0 0 A) (F0 m 3 ls []) := by
    intro x1 x2 x3 x4 n
    induction n with
    | zero => intro x5 u v H locs ls o h; cases h
    | succ n ih =>
      intro x5 u v H locs ls o h hP hS hl hk
      rw [pX11_match_L3] at h
      refine lv_iload hx hb dX11_match_3 (lv_at hl 5 rfl) ?_
      refine lv_bipush (v := (10 : Int32)) hx hb dX11_match_5 (by decide) ?_
      refine lv_icmp_ge (tgt := 24) hx hb dX11_match_7 (by decide) (fun c1 => ?_) (fun c1 => ?_)
      · have h := vz_t c1 h
        cases h
        exact hk u v _ _ ls rfl hP hS (lv_sub hl [0, 1, 2, 3, 4] rfl)
      · have h := vz_f c1 h
        refine lv_aload_n hx hb dX11_match_10 rfl (lv_at hl 0 rfl) ?_
        refine za_getr (k := 7) hx hb hts hin11 hown hK hP zF_64_7 rfl (Nat.le_of_ble_eq_true rfl) (Or.inl hw1) dX11_match_11 ?_
        refine lv_iload hx hb dX11_match_14 (lv_at hl 5 rfl) ?_
        refine lv_iconst (v := (0 : Int32)) hx hb dX11_match_16 (by decide) ?_
        obtain ⟨g2, h⟩ := gd_s h
        refine za_ist hx hb hK hP hD hS zI_69 g2 dX11_match_17 (fun H locs hP hS => ?_)
        refine lv_iinc (v := (x5 + 1)) (lv' := [(5, .int (x5 + 1)), (0, .ref (ad 64)), (1, .int x1), (2, .int x2), (3, .int x3), (4, .int x4)]) hx hb dX11_match_18 hl (k := 5) rfl rfl (by decide) rfl (fun ls hl => ?_)
        refine lv_goto (tgt := 3) hx hb dX11_match_21 (by decide) ?_
        exact ih (x5 + 1) (sU u 7 x5.toNatClampNeg (0 : Int32)) v _ _ ls o h hP hS (lv_sub hl [1, 2, 3, 4, 5, 0] rfl) hk
  have L38 : ∀ (u : tU) (v : tV) (H : Heap) (locs : List Loc) (x1 : Int32) (x2 : Int32) (x3 : Int32) (x4 : Int32) (x5 : Int32) (n : Nat) (x6 : Int32) (x7 : Int32) (ls : Array Slot) (o : Int32), pX11_match_L38 u v x1 x2 x3 x4 x5 n x6 x7 = some o → va_P D vwCl (wA cI cJ ad u v) H → va_S A s.heap H locs → lv_has ls 9 [(0, .ref (ad 64)), (1, .int x1), (2, .int x2), (3, .int x3), (4, .int x4), (5, .int x5), (6, .int x6), (7, .int x7)] → (∀ (y6 : Int32) (ls : Array Slot), o = y6 → lv_has ls 9 [(0, .ref (ad 64)), (1, .int x1), (2, .int x2), (3, .int x3), (4, .int x4), (5, .int x5), (6, .int y6)] → W p l e (headSpec wsX11_match rmX11_match).room s m [Value.ref (ad 64), Value.int a1, Value.int a2, Value.int a3, Value.int a4].toArray below meth c H locs 0 0 (MQ below (xWv D cI cJ ad A uz vz) [Value.ref (ad 64), Value.int a1, Value.int a2, Value.int a3, Value.int a4].toArray s 0 0 A) (F0 m 137 ls [])) → W p l e (headSpec wsX11_match rmX11_match).room s m [Value.ref (ad 64), Value.int a1, Value.int a2, Value.int a3, Value.int a4].toArray below meth c H locs 0 0 (MQ below (xWv D cI cJ ad A uz vz) [Value.ref (ad 64), Value.int a1, Value.int a2, Value.int a3, Value.int a4].toArray s 0 0 A) (F0 m 38 ls []) := by
    intro u v H locs x1 x2 x3 x4 x5 n
    induction n with
    | zero => intro x6 x7 ls o h; cases h
    | succ n ih =>
      intro x6 x7 ls o h hP hS hl hk
      rw [pX11_match_L38] at h
      refine lv_iload hx hb dX11_match_38 (lv_at hl 7 rfl) ?_
      refine lv_aload_n hx hb dX11_match_40 rfl (lv_at hl 0 rfl) ?_
      refine za_getr (k := 2) hx hb hts hin11 hown hK hP zF_64_2 rfl (Nat.le_of_ble_eq_true rfl) (Or.inl hw3) dX11_match_41 ?_
      refine lv_iconst (v := (5 : Int32)) hx hb dX11_match_44 (by decide) ?_
      refine za_ildc (j := 5) hx hb hK hP zI_66 (by unfold vp_in; decide) rfl dX11_match_45 ?_
      refine lv_icmp_ge (tgt := 137) hx hb dX11_match_46 (by decide) (fun c3 => ?_) (fun c3 => ?_)
      · have h := vz_t c3 h
        cases h
        exact hk x6 ls rfl (lv_sub hl [0, 1, 2, 3, 4, 5, 6] rfl)
      · have h := vz_f c3 h
        refine lv_aload_n hx hb dX11_match_49 rfl (lv_at hl 0 rfl) ?_
        refine lv_iload hx hb dX11_match_50 (lv_at hl 7 rfl) ?_
        refine lv_iconst (v := (0 : Int32)) hx hb dX11_match_52 (by decide) ?_
        obtain ⟨r5, hc4, h⟩ := vz_b h
        refine za_callR (va_runV (As := [.int x7, .int (0 : Int32)]) (rest := []) ⟨hx, hb, hml, hown, hts⟩ (k_X11_rightAt l (D := D) (cI := cI) (cJ := cJ) (ad := ad) hc4) (cwV 2 hts gX11_match_X11_rightAt rfl rfl rfl ⟨rfl, zd_X11_rightAt⟩ ⟨Nat.le_of_ble_eq_true rfl, Nat.le_of_ble_eq_true rfl⟩) (xPreV (ci := 11) hK hP rfl zO_64) rfl rfl hl.1 rfl (lv_room (Nat.le_of_ble_eq_true rfl)) dX11_match_53 ⟨Nat.zero_le _, Nat.zero_le _⟩) ?_
        refine lv_iload_n hx hb dX11_match_56 rfl (lv_at hl 1 rfl) ?_
        refine lv_icmp_ne (tgt := 92) hx hb dX11_match_57 (by decide) (fun c6 => ?_) (fun c6 => ?_)
        · have h := vz_f c6 h
          refine lv_iconst (v := (0 : Int32)) hx hb dX11_match_92 (by decide) ?_
          refine lv_istore (lv' := [(8, .int (0 : Int32)), (0, .ref (ad 64)), (1, .int x1), (2, .int x2), (3, .int x3), (4, .int x4), (5, .int x5), (6, .int x6), (7, .int x7)]) hx hb dX11_match_93 hl (by decide) rfl (fun ls hl => ?_)
          refine lv_iload hx hb dX11_match_95 (lv_at hl 0 rfl) ?_
          refine lv_if_eq (tgt := 127) hx hb dX11_match_97 (by decide) (fun c7 => ?_) (fun c7 => ?_)
          rotate_left
          · exact absurd c7 (by decide)
          refine lv_iload hx hb dX11_match_127 (lv_at hl 7 rfl) ?_
          refine lv_istore (lv' := [(6, .int x6), (8, .int (0 : Int32)), (0, .ref (ad 64)), (1, .int x1), (2, .int x2), (3, .int x3), (4, .int x4), (5, .int x5), (7, .int x7)]) hx hb dX11_match_129 hl (by decide) rfl (fun ls hl => ?_)
          refine lv_iinc (v := (x7 + 1)) (lv' := [(7, .int (x7 + 1)), (6, .int x6), (8, .int (0 : Int32)), (0, .ref (ad 64)), (1, .int x1), (2, .int x2), (3, .int x3), (4, .int x4), (5, .int x5)]) hx hb dX11_match_131 hl (k := 8) rfl rfl (by decide) rfl (fun ls hl => ?_)
          refine lv_goto (tgt := 38) hx hb dX11_match_134 (by decide) ?_
          exact ih x6 (x7 + 1) ls o h hP hS (lv_sub hl [3, 4, 5, 6, 7, 8, 1, 0] rfl) hk
        · have h := vz_t c6 h
          refine lv_iload hx hb dX11_match_60 (lv_at hl 7 rfl) ?_
          refine lv_iload_n hx hb dX11_match_62 rfl (lv_at hl 3 rfl) ?_
          refine lv_icmp_eq (tgt := 92) hx hb dX11_match_63 (by decide) (fun c8 => ?_) (fun c8 => ?_)
          · have h := vz_t c8 h
            refine lv_iconst (v := (0 : Int32)) hx hb dX11_match_92 (by decide) ?_
            refine lv_istore (lv' := [(8, .int (0 : Int32)), (0, .ref (ad 64)), (1, .int x1), (2, .int x2), (3, .int x3), (4, .int x4), (5, .int x5), (6, .int x6), (7, .int x7)]) hx hb dX11_match_93 hl (by decide) rfl (fun ls hl => ?_)
            refine lv_iload hx hb dX11_match_95 (lv_at hl 0 rfl) ?_
            refine lv_if_eq (tgt := 127) hx hb dX11_match_97 (by decide) (fun c9 => ?_) (fun c9 => ?_)
            rotate_left
            · exact absurd c9 (by decide)
            refine lv_iload hx hb dX11_match_127 (lv_at hl 7 rfl) ?_
            refine lv_istore (lv' := [(6, .int x6), (8, .int (0 : Int32)), (0, .ref (ad 64)), (1, .int x1), (2, .int x2), (3, .int x3), (4, .int x4), (5, .int x5), (7, .int x7)]) hx hb dX11_match_129 hl (by decide) rfl (fun ls hl => ?_)
            refine lv_iinc (v := (x7 + 1)) (lv' := [(7, .int (x7 + 1)), (6, .int x6), (8, .int (0 : Int32)), (0, .ref (ad 64)), (1, .int x1), (2, .int x2), (3, .int x3), (4, .int x4), (5, .int x5)]) hx hb dX11_match_131 hl (k := 8) rfl rfl (by decide) rfl (fun ls hl => ?_)
            refine lv_goto (tgt := 38) hx hb dX11_match_134 (by decide) ?_
            exact ih x6 (x7 + 1) ls o h hP hS (lv_sub hl [3, 4, 5, 6, 7, 8, 1, 0] rfl) hk
          · have h := vz_f c8 h
            refine lv_aload_n hx hb dX11_match_66 rfl (lv_at hl 0 rfl) ?_
            refine lv_iload hx hb dX11_match_67 (lv_at hl 7 rfl) ?_
            refine lv_iload_n hx hb dX11_match_69 rfl (lv_at hl 2 rfl) ?_
            obtain ⟨r11, hc10, h⟩ := vz_b h
            refine za_callR (va_runV (As := [.int x7, .int x2]) (rest := []) ⟨hx, hb, hml, hown, hts⟩ (k_X11_isOn l (D := D) (cI := cI) (cJ := cJ) (ad := ad) hc10) (cwV 2 hts gX11_match_X11_isOn rfl rfl rfl ⟨rfl, zd_X11_isOn⟩ ⟨Nat.le_of_ble_eq_true rfl, Nat.le_of_ble_eq_true rfl⟩) (xPreV (ci := 11) hK hP rfl zO_64) rfl rfl hl.1 rfl (lv_room (Nat.le_of_ble_eq_true rfl)) dX11_match_70 ⟨Nat.zero_le _, Nat.zero_le _⟩) ?_
            refine lv_if_eq (tgt := 92) hx hb dX11_match_73 (by decide) (fun c12 => ?_) (fun c12 => ?_)
            · have h := vz_t c12 h
              refine lv_iconst (v := (0 : Int32)) hx hb dX11_match_92 (by decide) ?_
              refine lv_istore (lv' := [(8, .int (0 : Int32)), (0, .ref (ad 64)), (1, .int x1), (2, .int x2), (3, .int x3), (4, .int x4), (5, .int x5), (6, .int x6), (7, .int x7)]) hx hb dX11_match_93 hl (by decide) rfl (fun ls hl => ?_)
              refine lv_iload hx hb dX11_match_95 (lv_at hl 0 rfl) ?_
              refine lv_if_eq (tgt := 127) hx hb dX11_match_97 (by decide) (fun c13 => ?_) (fun c13 => ?_)
              rotate_left
              · exact absurd c13 (by decide)
              refine lv_iload hx hb dX11_match_127 (lv_at hl 7 rfl) ?_
              refine lv_istore (lv' := [(6, .int x6), (8, .int (0 : Int32)), (0, .ref (ad 64)), (1, .int x1), (2, .int x2), (3, .int x3), (4, .int x4), (5, .int x5), (7, .int x7)]) hx hb dX11_match_129 hl (by decide) rfl (fun ls hl => ?_)
              refine lv_iinc (v := (x7 + 1)) (lv' := [(7, .int (x7 + 1)), (6, .int x6), (8, .int (0 : Int32)), (0, .ref (ad 64)), (1, .int x1), (2, .int x2), (3, .int x3), (4, .int x4), (5, .int x5)]) hx hb dX11_match_131 hl (k := 8) rfl rfl (by decide) rfl (fun ls hl => ?_)
              refine lv_goto (tgt := 38) hx hb dX11_match_134 (by decide) ?_
              exact ih x6 (x7 + 1) ls o h hP hS (lv_sub hl [3, 4, 5, 6, 7, 8, 1, 0] rfl) hk
            · have h := vz_f c12 h
              refine lv_aload_n hx hb dX11_match_76 rfl (lv_at hl 0 rfl) ?_
              refine lv_iload hx hb dX11_match_77 (lv_at hl 7 rfl) ?_
              refine lv_iload_n hx hb dX11_match_79 rfl (lv_at hl 1 rfl) ?_
              refine lv_iload hx hb dX11_match_80 (lv_at hl 4 rfl) ?_
              obtain ⟨r15, hc14, h⟩ := vz_b h
              refine za_callR (va_runV (As := [.int x7, .int x1, .int x4]) (rest := []) ⟨hx, hb, hml, hown, hts⟩ (k_X11_canTake l (D := D) (cI := cI) (cJ := cJ) (ad := ad) hc14) (cwV 3 hts gX11_match_X11_canTake rfl rfl rfl ⟨rfl, zd_X11_canTake⟩ ⟨Nat.le_of_ble_eq_true rfl, Nat.le_of_ble_eq_true rfl⟩) (xPreV (ci := 11) hK hP rfl zO_64) rfl rfl hl.1 rfl (lv_room (Nat.le_of_ble_eq_true rfl)) dX11_match_82 ⟨Nat.zero_le _, Nat.zero_le _⟩) ?_
              refine lv_if_eq (tgt := 92) hx hb dX11_match_85 (by decide) (fun c16 => ?_) (fun c16 => ?_)
              · have h := vz_t c16 h
                refine lv_iconst (v := (0 : Int32)) hx hb dX11_match_92 (by decide) ?_
                refine lv_istore (lv' := [(8, .int (0 : Int32)), (0, .ref (ad 64)), (1, .int x1), (2, .int x2), (3, .int x3), (4, .int x4), (5, .int x5), (6, .int x6), (7, .int x7)]) hx hb dX11_match_93 hl (by decide) rfl (fun ls hl => ?_)
                refine lv_iload hx hb dX11_match_95 (lv_at hl 0 rfl) ?_
                refine lv_if_eq (tgt := 127) hx hb dX11_match_97 (by decide) (fun c17 => ?_) (fun c17 => ?_)
                rotate_left
                · exact absurd c17 (by decide)
                refine lv_iload hx hb dX11_match_127 (lv_at hl 7 rfl) ?_
                refine lv_istore (lv' := [(6, .int x6), (8, .int (0 : Int32)), (0, .ref (ad 64)), (1, .int x1), (2, .int x2), (3, .int x3), (4, .int x4), (5, .int x5), (7, .int x7)]) hx hb dX11_match_129 hl (by decide) rfl (fun ls hl => ?_)
                refine lv_iinc (v := (x7 + 1)) (lv' := [(7, .int (x7 + 1)), (6, .int x6), (8, .int (0 : Int32)), (0, .ref (ad 64)), (1, .int x1), (2, .int x2), (3, .int x3), (4, .int x4), (5, .int x5)]) hx hb dX11_match_131 hl (k := 8) rfl rfl (by decide) rfl (fun ls hl => ?_)
                refine lv_goto (tgt := 38) hx hb dX11_match_134 (by decide) ?_
                exact ih x6 (x7 + 1) ls o h hP hS (lv_sub hl [3, 4, 5, 6, 7, 8, 1, 0] rfl) hk
              · have h := vz_f c16 h
                refine lv_iconst (v := (1 : Int32)) hx hb dX11_match_88 (by decide) ?_
                refine lv_goto (tgt := 93) hx hb dX11_match_89 (by decide) ?_
                refine lv_istore (lv' := [(8, .int (1 : Int32)), (0, .ref (ad 64)), (1, .int x1), (2, .int x2), (3, .int x3), (4, .int x4), (5, .int x5), (6, .int x6), (7, .int x7)]) hx hb dX11_match_93 hl (by decide) rfl (fun ls hl => ?_)
                refine lv_iload hx hb dX11_match_95 (lv_at hl 0 rfl) ?_
                refine lv_if_eq (tgt := 127) hx hb dX11_match_97 (by decide) (fun c18 => ?_) (fun c18 => ?_)
                · exact absurd c18 (by decide)
                refine lv_iload hx hb dX11_match_100 (lv_at hl 7 rfl) ?_
                refine lv_if_lt (tgt := 122) hx hb dX11_match_102 (by decide) (fun c19 => ?_) (fun c19 => ?_)
                · have h := vz_t c19 h
                  refine lv_iload hx hb dX11_match_122 (lv_at hl 8 rfl) ?_
                  refine lv_goto (tgt := 129) hx hb dX11_match_124 (by decide) ?_
                  refine lv_istore (lv' := [(6, .int x7), (8, .int (1 : Int32)), (0, .ref (ad 64)), (1, .int x1), (2, .int x2), (3, .int x3), (4, .int x4), (5, .int x5), (7, .int x7)]) hx hb dX11_match_129 hl (by decide) rfl (fun ls hl => ?_)
                  refine lv_iinc (v := (x7 + 1)) (lv' := [(7, .int (x7 + 1)), (6, .int x7), (8, .int (1 : Int32)), (0, .ref (ad 64)), (1, .int x1), (2, .int x2), (3, .int x3), (4, .int x4), (5, .int x5)]) hx hb dX11_match_131 hl (k := 8) rfl rfl (by decide) rfl (fun ls hl => ?_)
                  refine lv_goto (tgt := 38) hx hb dX11_match_134 (by decide) ?_
                  exact ih x7 (x7 + 1) ls o h hP hS (lv_sub hl [3, 4, 5, 6, 7, 8, 1, 0] rfl) hk
                · have h := vz_f c19 h
                  refine lv_aload_n hx hb dX11_match_105 rfl (lv_at hl 1 rfl) ?_
                  refine lv_iload hx hb dX11_match_106 (lv_at hl 8 rfl) ?_
                  refine lv_iconst (v := (3 : Int32)) hx hb dX11_match_108 (by decide) ?_
                  obtain ⟨r21, hc20, h⟩ := vz_b h
                  refine za_callR (va_runV (As := [.int x7, .int (3 : Int32)]) (rest := []) ⟨hx, hb, hml, hown, hts⟩ (k_X11_rightAt l (D := D) (cI := cI) (cJ := cJ) (ad := ad) hc20) (cwV 2 hts gX11_match_X11_rightAt rfl rfl rfl ⟨rfl, zd_X11_rightAt⟩ ⟨Nat.le_of_ble_eq_true rfl, Nat.le_of_ble_eq_true rfl⟩) (xPreV (ci := 11) hK hP rfl zO_64) rfl rfl hl.1 rfl (lv_room (Nat.le_of_ble_eq_true rfl)) dX11_match_109 ⟨Nat.zero_le _, Nat.zero_le _⟩) ?_
                  refine lv_aload_n hx hb dX11_match_112 rfl (lv_at hl 1 rfl) ?_
                  refine lv_iload hx hb dX11_match_113 (lv_at hl 7 rfl) ?_
                  refine lv_iconst (v := (3 : Int32)) hx hb dX11_match_115 (by decide) ?_
                  obtain ⟨r23, hc22, h⟩ := vz_b h
                  refine za_callR (va_runV (As := [.int x6, .int (3 : Int32)]) (rest := [.int r21]) ⟨hx, hb, hml, hown, hts⟩ (k_X11_rightAt l (D := D) (cI := cI) (cJ := cJ) (ad := ad) hc22) (cwV 2 hts gX11_match_X11_rightAt rfl rfl rfl ⟨rfl, zd_X11_rightAt⟩ ⟨Nat.le_of_ble_eq_true rfl, Nat.le_of_ble_eq_true rfl⟩) (xPreV (ci := 11) hK hP rfl zO_64) rfl rfl hl.1 rfl (lv_room (Nat.le_of_ble_eq_true rfl)) dX11_match_116 ⟨Nat.zero_le _, Nat.zero_le _⟩) ?_
                  refine lv_icmp_ge (tgt := 127) hx hb dX11_match_119 (by decide) (fun c24 => ?_) (fun c24 => ?_)
                  · have h := vz_t c24 h
                    refine lv_iload hx hb dX11_match_127 (lv_at hl 7 rfl) ?_
                    refine lv_istore (lv' := [(6, .int x6), (8, .int (1 : Int32)), (0, .ref (ad 64)), (1, .int x1), (2, .int x2), (3, .int x3), (4, .int x4), (5, .int x5), (7, .int x7)]) hx hb dX11_match_129 hl (by decide) rfl (fun ls hl => ?_)
                    refine lv_iinc (v := (x7 + 1)) (lv' := [(7, .int (x7 + 1)), (6, .int x6), (8, .int (1 : Int32)), (0, .ref (ad 64)), (1, .int x1), (2, .int x2), (3, .int x3), (4, .int x4), (5, .int x5)]) hx hb dX11_match_131 hl (k := 8) rfl rfl (by decide) rfl (fun ls hl => ?_)
                    refine lv_goto (tgt := 38) hx hb dX11_match_134 (by decide) ?_
                    exact ih x6 (x7 + 1) ls o h hP hS (lv_sub hl [3, 4, 5, 6, 7, 8, 1, 0] rfl) hk
                  · have h := vz_f c24 h
                    refine lv_iload hx hb dX11_match_122 (lv_at hl 8 rfl) ?_
                    refine lv_goto (tgt := 129) hx hb dX11_match_124 (by decide) ?_
                    refine lv_istore (lv' := [(6, .int x7), (8, .int (1 : Int32)), (0, .ref (ad 64)), (1, .int x1), (2, .int x2), (3, .int x3), (4, .int x4), (5, .int x5), (7, .int x7)]) hx hb dX11_match_129 hl (by decide) rfl (fun ls hl => ?_)
                    refine lv_iinc (v := (x7 + 1)) (lv' := [(7, .int (x7 + 1)), (6, .int x7), (8, .int (1 : Int32)), (0, .ref (ad 64)), (1, .int x1), (2, .int x2), (3, .int x3), (4, .int x4), (5, .int x5)]) hx hb dX11_match_131 hl (k := 8) rfl rfl (by decide) rfl (fun ls hl => ?_)
                    refine lv_goto (tgt := 38) hx hb dX11_match_134 (by decide) ?_
                    exact ih x7 (x7 + 1) ls o h hP hS (lv_sub hl [3, 4, 5, 6, 7, 8, 1, 0] rfl) hk
  have L32 : ∀ (x1 : Int32) (x2 : Int32) (x3 : Int32) (x4 : Int32) (n : Nat) (x5 : Int32) (u : tU) (v : tV) (H : Heap) (locs : List Loc) (ls : Array Slot) (o : Int32 × tU × tV), pX11_match_L32 x1 x2 x3 x4 n x5 u v = some o → va_P D vwCl (wA cI cJ ad u v) H → va_S A s.heap H locs → lv_has ls 9 [(0, .ref (ad 64)), (1, .int x1), (2, .int x2), (3, .int x3), (4, .int x4), (5, .int x5)] → (∀ (y5 : Int32) (u' : tU) (v' : tV) (H : Heap) (locs : List Loc) (ls : Array Slot), o = (y5, u', v') → va_P D vwCl (wA cI cJ ad u' v') H → va_S A s.heap H locs → lv_has ls 9 [(0, .ref (ad 64)), (1, .int x1), (4, .int x4), (5, .int y5)] → W p l e (headSpec wsX11_match rmX11_match).room s m [Value.ref (ad 64), Value.int a1, Value.int a2, Value.int a3, Value.int a4].toArray below meth c H locs 0 0 (MQ below (xWv D cI cJ ad A uz vz) [Value.ref (ad 64), Value.int a1, Value.int a2, Value.int a3, Value.int a4].toArray s 0 0 A) (F0 m 142 ls [])) → W p l e (headSpec wsX11_match rmX11_match).room s m [Value.ref (ad 64), Value.int a1, Value.int a2, Value.int a3, Value.int a4].toArray below meth c H locs 0 0 (MQ below (xWv D cI cJ ad A uz vz) [Value.ref (ad 64), Value.int a1, Value.int a2, Value.int a3, Value.int a4].toArray s 0 0 A) (F0 m 32 ls []) := by
    intro x1 x2 x3 x4 n
    induction n with
    | zero => intro x5 u v H locs ls o h; cases h
    | succ n ih =>
      intro x5 u v H locs ls o h hP hS hl hk
      rw [pX11_match_L32] at h
      refine lv_iconst (v := (-1 : Int32)) hx hb dX11_match_32 (by decide) ?_
      refine lv_istore (lv' := [(6, .int (-1 : Int32)), (0, .ref (ad 64)), (1, .int x1), (2, .int x2), (3, .int x3), (4, .int x4), (5, .int x5)]) hx hb dX11_match_33 hl (by decide) rfl (fun ls hl => ?_)
      refine lv_iconst (v := (0 : Int32)) hx hb dX11_match_35 (by decide) ?_
      refine lv_istore (lv' := [(7, .int (0 : Int32)), (6, .int (-1 : Int32)), (0, .ref (ad 64)), (1, .int x1), (2, .int x2), (3, .int x3), (4, .int x4), (5, .int x5)]) hx hb dX11_match_36 hl (by decide) rfl (fun ls hl => ?_)
      obtain ⟨o25, hL26, h⟩ := vz_b h
      refine L38 u v _ _ x1 x2 x3 x4 x5 fuel (-1 : Int32) (0 : Int32) ls o25 hL26 hP hS (lv_sub hl [2, 3, 4, 5, 6, 7, 1, 0] rfl) (fun y28 ls e27 hl => ?_)
      try rw [e27] at h
      try dsimp only at h
      refine lv_iload hx hb dX11_match_137 (lv_at hl 6 rfl) ?_
      refine lv_if_ge (tgt := 145) hx hb dX11_match_139 (by decide) (fun c29 => ?_) (fun c29 => ?_)
      · have h := vz_t c29 h
        refine lv_aload_n hx hb dX11_match_145 rfl (lv_at hl 0 rfl) ?_
        refine za_getr (k := 7) hx hb hts hin11 hown hK hP zF_64_7 rfl (Nat.le_of_ble_eq_true rfl) (Or.inl hw1) dX11_match_146 ?_
        refine lv_iload hx hb dX11_match_149 (lv_at hl 6 rfl) ?_
        refine lv_dup2_11 hx hb dX11_match_151 rfl rfl ?_
        obtain ⟨g30, h⟩ := gd_s h
        refine za_ild hx hb hK hP zI_69 g30 dX11_match_152 ?_
        refine lv_iconst (v := (1 : Int32)) hx hb dX11_match_153 (by decide) ?_
        refine lv_iadd hx hb dX11_match_154 ?_
        obtain ⟨g31, h⟩ := gd_s h
        refine za_ist hx hb hK hP hD hS zI_69 g31 dX11_match_155 (fun H locs hP hS => ?_)
        refine lv_iinc (v := (x5 + 1)) (lv' := [(5, .int (x5 + 1)), (0, .ref (ad 64)), (1, .int x1), (2, .int x2), (3, .int x3), (4, .int x4), (6, .int y28)]) hx hb dX11_match_156 hl (k := 5) rfl rfl (by decide) rfl (fun ls hl => ?_)
        refine lv_aload_n hx hb dX11_match_159 rfl (lv_at hl 1 rfl) ?_
        refine lv_dup hx hb dX11_match_160 rfl ?_
        refine za_geti (k := 9) hx hb hts hin11 hown hK hP zF_64_9 rfl (Nat.le_of_ble_eq_true rfl) (Or.inl hw2) dX11_match_161 ?_
        refine lv_aload_n hx hb dX11_match_164 rfl (lv_at hl 1 rfl) ?_
        refine lv_iload hx hb dX11_match_165 (lv_at hl 6 rfl) ?_
        refine lv_iconst (v := (3 : Int32)) hx hb dX11_match_167 (by decide) ?_
        obtain ⟨r33, hc32, h⟩ := vz_b h
        refine za_callR (va_runV (As := [.int y28, .int (3 : Int32)]) (rest := [.int ((sU u 7 y28.toNatClampNeg ((u 7 y28.toNatClampNeg) + (1 : Int32))) 0 9), .ref (ad 64)]) ⟨hx, hb, hml, hown, hts⟩ (k_X11_rightAt l (D := D) (cI := cI) (cJ := cJ) (ad := ad) hc32) (cwV 2 hts gX11_match_X11_rightAt rfl rfl rfl ⟨rfl, zd_X11_rightAt⟩ ⟨Nat.le_of_ble_eq_true rfl, Nat.le_of_ble_eq_true rfl⟩) (xPreV (ci := 11) hK hP rfl zO_64) rfl rfl hl.1 rfl (lv_room (Nat.le_of_ble_eq_true rfl)) dX11_match_168 ⟨Nat.zero_le _, Nat.zero_le _⟩) ?_
        refine lv_iadd hx hb dX11_match_171 ?_
        refine za_puti (k := 9) hx hb hts hin11 tyX11 tyX11_ok nmX11 hown hK hP hD hS zF_64_9 rfl (Nat.le_of_ble_eq_true rfl) (Or.inl hw2) rfl rfl rfl dX11_match_172 (fun H locs hP hS => ?_)
        refine lv_goto (tgt := 32) hx hb dX11_match_175 (by decide) ?_
        exact ih (x5 + 1) (sU (sU u 7 y28.toNatClampNeg ((u 7 y28.toNatClampNeg) + (1 : Int32))) 0 9 (((sU u 7 y28.toNatClampNeg ((u 7 y28.toNatClampNeg) + (1 : Int32))) 0 9) + r33)) v _ _ ls o h hP hS (lv_sub hl [1, 2, 3, 4, 5, 0] rfl) hk
      · have h := vz_f c29 h
        cases h
        exact hk x5 u v _ _ ls rfl hP hS (lv_sub hl [0, 1, 4, 5] rfl)
  rw [pX11_match] at h
  refine lv_iconst (v := (0 : Int32)) hx hb dX11_match_0 (by decide) ?_
  refine lv_istore (lv' := [(5, .int (0 : Int32)), (0, .ref (ad 64)), (1, .int a1), (2, .int a2), (3, .int a3), (4, .int a4)]) hx hb dX11_match_1 hl (by decide) rfl (fun ls hl => ?_)
  obtain ⟨o34, hL35, h⟩ := vz_b h
  refine L3 a1 a2 a3 a4 fuel (0 : Int32) u v _ _ ls o34 hL35 hP hS (lv_sub hl [1, 2, 3, 4, 5, 0] rfl) (fun u37 v38 H locs ls e36 hP hS hl => ?_)
  try rw [e36] at h
  try dsimp only at h
  refine lv_iconst (v := (0 : Int32)) hx hb dX11_match_24 (by decide) ?_
  refine lv_istore (lv' := [(5, .int (0 : Int32)), (0, .ref (ad 64)), (1, .int a1), (2, .int a2), (3, .int a3), (4, .int a4)]) hx hb dX11_match_25 hl (by decide) rfl (fun ls hl => ?_)
  refine lv_aload_n hx hb dX11_match_27 rfl (lv_at hl 1 rfl) ?_
  refine lv_iconst (v := (0 : Int32)) hx hb dX11_match_28 (by decide) ?_
  refine za_puti (k := 9) hx hb hts hin11 tyX11 tyX11_ok nmX11 hown hK hP hD hS zF_64_9 rfl (Nat.le_of_ble_eq_true rfl) (Or.inl hw2) rfl rfl rfl dX11_match_29 (fun H locs hP hS => ?_)
  obtain ⟨o39, hL40, h⟩ := vz_b h
  refine L32 a1 a2 a3 a4 fuel (0 : Int32) (sU u37 0 9 (0 : Int32)) v38 _ _ ls o39 hL40 hP hS (lv_sub hl [1, 2, 3, 4, 5, 0] rfl) (fun y42 u43 v44 H locs ls e41 hP hS hl => ?_)
  try rw [e41] at h
  try dsimp only at h
  refine lv_goto (tgt := 178) hx hb dX11_match_142 (by decide) ?_
  refine lv_aload_n hx hb dX11_match_178 rfl (lv_at hl 0 rfl) ?_
  refine lv_aload_n hx hb dX11_match_179 rfl (lv_at hl 0 rfl) ?_
  refine lv_iload_n hx hb dX11_match_180 rfl (lv_at hl 1 rfl) ?_
  refine lv_bipush (v := (9 : Int32)) hx hb dX11_match_181 (by decide) ?_
  refine lv_iload hx hb dX11_match_183 (lv_at hl 2 rfl) ?_
  obtain ⟨r46, hc45, h⟩ := vz_b h
  refine za_callR (va_runV (As := [.int a1, .int (9 : Int32), .int a4]) (rest := [.ref (ad 64)]) ⟨hx, hb, hml, hown, hts⟩ (k_X11_needsUpTo l (D := D) (cI := cI) (cJ := cJ) (ad := ad) hc45) (cwV 3 hts gX11_match_X11_needsUpTo rfl rfl rfl ⟨rfl, zd_X11_needsUpTo⟩ ⟨Nat.le_of_ble_eq_true rfl, Nat.le_of_ble_eq_true rfl⟩) (xPreV (ci := 11) hK hP rfl zO_64) rfl rfl hl.1 rfl (lv_room (Nat.le_of_ble_eq_true rfl)) dX11_match_185 ⟨Nat.zero_le _, Nat.zero_le _⟩) ?_
  refine lv_iload hx hb dX11_match_188 (lv_at hl 3 rfl) ?_
  refine lv_isub hx hb dX11_match_190 ?_
  refine za_puti (k := 8) hx hb hts hin11 tyX11 tyX11_ok nmX11 hown hK hP hD hS zF_64_8 rfl (Nat.le_of_ble_eq_true rfl) (Or.inl hw4) rfl rfl rfl dX11_match_191 (fun H locs hP hS => ?_)
  cases h
  exact W.vret hx hb hr (fun t ht _ => ⟨rfl, by rw [ht]; exact hP, hS.F ht⟩) hS.2.2 dX11_match_194
