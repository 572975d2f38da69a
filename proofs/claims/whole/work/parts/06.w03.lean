abbrev rmX7_isOne : Room := { frames := 0, cells := 0, slots := 0, locals := 0 }
set_option maxHeartbeats 4000000 in
set_option maxRecDepth 100000 in
theorem k_X7_isOne (l : Launch) {D : va_G} {cI cJ : ClassId} {ad : Nat → Nat} {u : tU} {v : tV} {a1 : Int32}  {r : Int32}  (h : pX7_isOne u v a1 = some r) : Met l yX7_isOne wsX7_isOne rmX7_isOne (va_Pc [.ref (ad 24), .int a1] (xPre D cI cJ (wA cI cJ ad u v))) (QcRead r) 0 0 (fun _ => False) := by
  refine Met.ofW (cc := cX7_isOne) (maxL := 2) (ret := (some .boolean)) (by decide) rfl ?_
  intro p e s m args below meth c s₁ B hml hv
  obtain ⟨rfl, hP, hK⟩ := hv
  have hx := B.exec
  have hb := B.bytes
  have hr := B.returns
  have hts := atoms_spec (ws := wsX7_isOne) B.pre
  have hown : s.vm.findClass RX7 = some m.cls := findClass_of_methodNamed B.named
  have hlocks := B.notSynchronized
  have hin7 : ∀ w ∈ u_ws RX7 TX7 7, w ∈ wsX7_isOne := fun _ h => List.mem_cons_of_mem _ (List.mem_append_right _ h)
  have hw1 := hts (.fieldLink RX7 30 "InstallDesk$Rights" "count" "I") (List.mem_of_getElem? (i := 1) rfl)
  have hl := lv_entry ([.ref (ad 24), .int a1]) (n := 2) (Nat.le_of_ble_eq_true rfl)
  rw [lg_entry_eq]
  generalize (lg_sl ([.ref (ad 24), .int a1]) ++ List.replicate (2 - (lg_sl ([.ref (ad 24), .int a1])).length) Slot.unset).toArray = ls at hl ⊢
  have hl : lv_has ls 2 [(0, .ref (ad 24)), (1, .int a1)] := hl
  rw [pX7_isOne] at h
  refine lv_iload_n hx hb dX7_isOne_0 rfl (lv_at hl 1 rfl) ?_
  refine lv_if_lt (tgt := 16) hx hb dX7_isOne_1 (by decide) (fun c1 => ?_) (fun c1 => ?_)
  · have h := vz_t c1 h
    refine lv_iconst (v := (0 : Int32)) hx hb dX7_isOne_16 (by decide) ?_
    cases h
    exact W.zret hx hb hr nb0 (fun t ht _ => ⟨rfl, ht⟩) (fun q hq => absurd hq List.not_mem_nil) dX7_isOne_17
  · have h := vz_f c1 h
    refine lv_iload_n hx hb dX7_isOne_4 rfl (lv_at hl 1 rfl) ?_
    refine lv_aload_n hx hb dX7_isOne_5 rfl (lv_at hl 0 rfl) ?_
    refine za_geti (k := 0) hx hb hts hin7 hown hK hP zF_24_0 rfl (Nat.le_of_ble_eq_true rfl) (Or.inl hw1) dX7_isOne_6 ?_
    refine lv_icmp_ge (tgt := 16) hx hb dX7_isOne_9 (by decide) (fun c2 => ?_) (fun c2 => ?_)
    · have h := vz_t c2 h
      refine lv_iconst (v := (0 : Int32)) hx hb dX7_isOne_16 (by decide) ?_
      cases h
      exact W.zret hx hb hr nb0 (fun t ht _ => ⟨rfl, ht⟩) (fun q hq => absurd hq List.not_mem_nil) dX7_isOne_17
    · have h := vz_f c2 h
      refine lv_iconst (v := (1 : Int32)) hx hb dX7_isOne_12 (by decide) ?_
      refine lv_goto (tgt := 17) hx hb dX7_isOne_13 (by decide) ?_
      cases h
      exact W.zret hx hb hr nb1 (fun t ht _ => ⟨rfl, ht⟩) (fun q hq => absurd hq List.not_mem_nil) dX7_isOne_17
abbrev rmX10_amount : Room := { frames := 1, cells := 0, slots := 0, locals := 22 }
set_option maxHeartbeats 4000000 in
set_option maxRecDepth 100000 in
theorem k_X10_amount (l : Launch) {D : va_G} {cI cJ : ClassId} {ad : Nat → Nat} {u : tU} {v : tV} {A : Nat → Prop} (hD : zD A cI cJ ad) {a1 : Int32} {a2 : Int32}  {r : Int32} {uz : tU} {vz : tV} (h : pX10_amount u v a1 a2 = some (r, uz, vz)) : Met l yX10_amount wsX10_amount rmX10_amount (va_Pc [.ref (ad 0), .int a1, .int a2] (xPre D cI cJ (wA cI cJ ad u v))) (xWi D cI cJ ad A r uz vz) 0 0 A := by
  refine Met.ofW (cc := cX10_amount) (maxL := 4) (ret := (some .int)) (by decide) rfl ?_
  intro p e s m args below meth c s₁ B hml hv
  obtain ⟨rfl, hP, hK⟩ := hv
  have hx := B.exec
  have hb := B.bytes
  have hr := B.returns
  have hts := atoms_spec (ws := wsX10_amount) B.pre
  have hown : s.vm.findClass RX10 = some m.cls := findClass_of_methodNamed B.named
  have hlocks := B.notSynchronized
  have hS : va_S A s.heap s.heap [] := va_S.rf
  have hin0 : ∀ w ∈ u_ws RX0 TX0 8, w ∈ wsX10_amount := fun _ h => List.mem_cons_of_mem _ (List.mem_append_left _ (List.mem_append_right _ h))
  have hin7 : ∀ w ∈ u_ws RX7 TX7 7, w ∈ wsX10_amount := fun _ h => List.mem_cons_of_mem _ (List.mem_append_right _ h)
  have hin10 : ∀ w ∈ u_ws RX10 TX10 7, w ∈ wsX10_amount := fun _ h => List.mem_cons_of_mem _ (List.mem_append_left _ (List.mem_append_left _ (List.mem_append_right _ h)))
  have hw1 := hts (.fieldLink RX10 19 "InstallDesk" "books" "LInstallDesk$Books;") (List.mem_of_getElem? (i := 1) rfl)
  have hw2 := hts (.instanceMethod yX7_isOne) (List.mem_of_getElem? (i := 2) rfl)
  have hw3 := hts (.initialized RX7) (List.mem_of_getElem? (i := 3) rfl)
  have hw4 := hts (.selects RX7 yX7_isOne yX7_isOne) (List.mem_of_getElem? (i := 4) rfl)
  have hl := lv_entry ([.ref (ad 0), .int a1, .int a2]) (n := 4) (Nat.le_of_ble_eq_true rfl)
  rw [lg_entry_eq]
  generalize (lg_sl ([.ref (ad 0), .int a1, .int a2]) ++ List.replicate (4 - (lg_sl ([.ref (ad 0), .int a1, .int a2])).length) Slot.unset).toArray = ls at hl ⊢
  have hl : lv_has ls 4 [(0, .ref (ad 0)), (1, .int a1), (2, .int a2)] := hl
  rw [pX10_amount] at h
  refine lv_aload_n hx hb dX10_amount_0 rfl (lv_at hl 0 rfl) ?_
  refine za_getr (k := 1) hx hb hts hin10 hown hK hP zF_0_1 rfl (Nat.le_of_ble_eq_true rfl) (Or.inl hw1) dX10_amount_1 ?_
  refine za_getr (k := 5) hx hb hts hin0 hown hK hP zF_2_5 rfl (Nat.le_of_ble_eq_true rfl) (nw_226 hK.2) dX10_amount_4 ?_
  refine lv_iload_n hx hb dX10_amount_7 rfl (lv_at hl 1 rfl) ?_
  obtain ⟨r2, hc1, h⟩ := vz_b h
  refine za_callR (va_runVN (As := [.int a1]) (rest := []) ⟨hx, hb, hml, hown, hts⟩ (k_X7_isOne l (D := D) (cI := cI) (cJ := cJ) (ad := ad) hc1) ⟨va_cnB 1 hts gX10_amount_X7_isOne_n201 rfl rfl rfl (nw_593 hK.2) hw3 zd_X7_isOne ⟨Nat.le_of_ble_eq_true rfl, Nat.le_of_ble_eq_true rfl⟩, hw2, hw4⟩ (xPreV (ci := 7) hK hP rfl zO_24) rfl rfl hl.1 rfl (lv_room (Nat.le_of_ble_eq_true rfl)) dX10_amount_8 ⟨Nat.zero_le _, Nat.zero_le _⟩) ?_
  refine lv_if_eq (tgt := 24) hx hb dX10_amount_11 (by decide) (fun c3 => ?_) (fun c3 => ?_)
  · have h := vz_t c3 h
    refine lv_aload_n hx hb dX10_amount_24 rfl (lv_at hl 0 rfl) ?_
    refine lv_iconst (v := (-1 : Int32)) hx hb dX10_amount_25 (by decide) ?_
    obtain ⟨⟨r8, u5, v6⟩, hc4, h⟩ := vz_b h
    try dsimp only at h
    refine za_callWi (va_runV (As := [.int (-1 : Int32)]) (rest := []) ⟨hx, hb, hml, hown, hts⟩ (k_X10_finding l (D := D) (cI := cI) (cJ := cJ) (ad := ad) hD hc4) (cwV 1 hts gX10_amount_X10_finding rfl rfl rfl ⟨rfl, zd_X10_finding⟩ ⟨Nat.le_of_ble_eq_true rfl, Nat.le_of_ble_eq_true rfl⟩) (xPreV (ci := 10) hK hP rfl zO_0) rfl rfl hl.1 rfl (lv_room (Nat.le_of_ble_eq_true rfl)) dX10_amount_26 ⟨Nat.zero_le _, Nat.zero_le _⟩) hS (fun H locs hP hS => ?_)
    cases h
    exact W.iret hx hb hr (fun t ht _ => ⟨rfl, by rw [ht]; exact hP, hS.F ht⟩) hS.2.2 dX10_amount_29
  · have h := vz_f c3 h
    refine lv_iload_n hx hb dX10_amount_14 rfl (lv_at hl 2 rfl) ?_
    refine lv_iconst (v := (0 : Int32)) hx hb dX10_amount_15 (by decide) ?_
    refine lv_bipush (v := (40 : Int32)) hx hb dX10_amount_16 (by decide) ?_
    obtain ⟨r10, hc9, h⟩ := vz_b h
    refine za_callR (va_runS (As := [.int a2, .int (0 : Int32), .int (40 : Int32)]) (rest := []) ⟨hx, hb, hml, hown, hts⟩ (k_X10_isWithin l hc9) (va_cwS 3 hts gX10_amount_X10_isWithin rfl rfl rfl zd_X10_isWithin ⟨Nat.le_of_ble_eq_true rfl, Nat.le_of_ble_eq_true rfl⟩) xPre0 rfl rfl hl.1 rfl (lv_room (Nat.le_of_ble_eq_true rfl)) dX10_amount_18 ⟨Nat.zero_le _, Nat.zero_le _⟩) ?_
    refine lv_if_ne (tgt := 30) hx hb dX10_amount_21 (by decide) (fun c11 => ?_) (fun c11 => ?_)
    · have h := vz_f c11 h
      refine lv_aload_n hx hb dX10_amount_30 rfl (lv_at hl 0 rfl) ?_
      refine za_getr (k := 1) hx hb hts hin10 hown hK hP zF_0_1 rfl (Nat.le_of_ble_eq_true rfl) (Or.inl hw1) dX10_amount_31 ?_
      refine za_getr (k := 5) hx hb hts hin0 hown hK hP zF_2_5 rfl (Nat.le_of_ble_eq_true rfl) (nw_226 hK.2) dX10_amount_34 ?_
      refine za_getr (k := 3) hx hb hts hin7 hown hK hP zF_24_3 rfl (Nat.le_of_ble_eq_true rfl) (nw_186 hK.2) dX10_amount_37 ?_
      refine lv_iload_n hx hb dX10_amount_40 rfl (lv_at hl 1 rfl) ?_
      obtain ⟨g12, h⟩ := gd_s h
      refine za_ild hx hb hK hP zI_27 g12 dX10_amount_41 ?_
      refine lv_istore_n (lv' := [(3, .int (u 27 a1.toNatClampNeg)), (0, .ref (ad 0)), (1, .int a1), (2, .int a2)]) hx hb dX10_amount_42 rfl hl (by decide) rfl (fun ls hl => ?_)
      refine lv_aload_n hx hb dX10_amount_43 rfl (lv_at hl 1 rfl) ?_
      refine za_getr (k := 1) hx hb hts hin10 hown hK hP zF_0_1 rfl (Nat.le_of_ble_eq_true rfl) (Or.inl hw1) dX10_amount_44 ?_
      refine za_getr (k := 5) hx hb hts hin0 hown hK hP zF_2_5 rfl (Nat.le_of_ble_eq_true rfl) (nw_226 hK.2) dX10_amount_47 ?_
      refine za_getr (k := 3) hx hb hts hin7 hown hK hP zF_24_3 rfl (Nat.le_of_ble_eq_true rfl) (nw_186 hK.2) dX10_amount_50 ?_
      refine lv_iload_n hx hb dX10_amount_53 rfl (lv_at hl 2 rfl) ?_
      refine lv_iload_n hx hb dX10_amount_54 rfl (lv_at hl 3 rfl) ?_
      obtain ⟨g13, h⟩ := gd_s h
      refine za_ist hx hb hK hP hD hS zI_27 g13 dX10_amount_55 (fun H locs hP hS => ?_)
      refine lv_iload_n hx hb dX10_amount_56 rfl (lv_at hl 0 rfl) ?_
      cases h
      exact W.iret hx hb hr (fun t ht _ => ⟨rfl, by rw [ht]; exact hP, hS.F ht⟩) hS.2.2 dX10_amount_57
    · have h := vz_t c11 h
      refine lv_aload_n hx hb dX10_amount_24 rfl (lv_at hl 0 rfl) ?_
      refine lv_iconst (v := (-1 : Int32)) hx hb dX10_amount_25 (by decide) ?_
      obtain ⟨⟨r18, u15, v16⟩, hc14, h⟩ := vz_b h
      try dsimp only at h
      refine za_callWi (va_runV (As := [.int (-1 : Int32)]) (rest := []) ⟨hx, hb, hml, hown, hts⟩ (k_X10_finding l (D := D) (cI := cI) (cJ := cJ) (ad := ad) hD hc14) (cwV 1 hts gX10_amount_X10_finding rfl rfl rfl ⟨rfl, zd_X10_finding⟩ ⟨Nat.le_of_ble_eq_true rfl, Nat.le_of_ble_eq_true rfl⟩) (xPreV (ci := 10) hK hP rfl zO_0) rfl rfl hl.1 rfl (lv_room (Nat.le_of_ble_eq_true rfl)) dX10_amount_26 ⟨Nat.zero_le _, Nat.zero_le _⟩) hS (fun H locs hP hS => ?_)
      cases h
      exact W.iret hx hb hr (fun t ht _ => ⟨rfl, by rw [ht]; exact hP, hS.F ht⟩) hS.2.2 dX10_amount_29
abbrev rmX6_isOne : Room := { frames := 0, cells := 0, slots := 0, locals := 0 }
set_option maxHeartbeats 4000000 in
set_option maxRecDepth 100000 in
theorem k_X6_isOne (l : Launch) {D : va_G} {cI cJ : ClassId} {ad : Nat → Nat} {u : tU} {v : tV} {a1 : Int32}  {r : Int32}  (h : pX6_isOne u v a1 = some r) : Met l yX6_isOne wsX6_isOne rmX6_isOne (va_Pc [.ref (ad 3), .int a1] (xPre D cI cJ (wA cI cJ ad u v))) (QcRead r) 0 0 (fun _ => False) := by
  refine Met.ofW (cc := cX6_isOne) (maxL := 2) (ret := (some .boolean)) (by decide) rfl ?_
  intro p e s m args below meth c s₁ B hml hv
  obtain ⟨rfl, hP, hK⟩ := hv
  have hx := B.exec
  have hb := B.bytes
  have hr := B.returns
  have hts := atoms_spec (ws := wsX6_isOne) B.pre
  have hown : s.vm.findClass RX6 = some m.cls := findClass_of_methodNamed B.named
  have hlocks := B.notSynchronized
  have hin6 : ∀ w ∈ u_ws RX6 TX6 4, w ∈ wsX6_isOne := fun _ h => List.mem_cons_of_mem _ (List.mem_append_right _ h)
  have hw1 := hts (.fieldLink RX6 21 "InstallDesk$Products" "count" "I") (List.mem_of_getElem? (i := 1) rfl)
  have hl := lv_entry ([.ref (ad 3), .int a1]) (n := 2) (Nat.le_of_ble_eq_true rfl)
  rw [lg_entry_eq]
  generalize (lg_sl ([.ref (ad 3), .int a1]) ++ List.replicate (2 - (lg_sl ([.ref (ad 3), .int a1])).length) Slot.unset).toArray = ls at hl ⊢
  have hl : lv_has ls 2 [(0, .ref (ad 3)), (1, .int a1)] := hl
  rw [pX6_isOne] at h
  refine lv_iload_n hx hb dX6_isOne_0 rfl (lv_at hl 1 rfl) ?_
  refine lv_if_lt (tgt := 16) hx hb dX6_isOne_1 (by decide) (fun c1 => ?_) (fun c1 => ?_)
  · have h := vz_t c1 h
    refine lv_iconst (v := (0 : Int32)) hx hb dX6_isOne_16 (by decide) ?_
    cases h
    exact W.zret hx hb hr nb0 (fun t ht _ => ⟨rfl, ht⟩) (fun q hq => absurd hq List.not_mem_nil) dX6_isOne_17
  · have h := vz_f c1 h
    refine lv_iload_n hx hb dX6_isOne_4 rfl (lv_at hl 1 rfl) ?_
    refine lv_aload_n hx hb dX6_isOne_5 rfl (lv_at hl 0 rfl) ?_
    refine za_geti (k := 0) hx hb hts hin6 hown hK hP zF_3_0 rfl (Nat.le_of_ble_eq_true rfl) (Or.inl hw1) dX6_isOne_6 ?_
    refine lv_icmp_ge (tgt := 16) hx hb dX6_isOne_9 (by decide) (fun c2 => ?_) (fun c2 => ?_)
    · have h := vz_t c2 h
      refine lv_iconst (v := (0 : Int32)) hx hb dX6_isOne_16 (by decide) ?_
      cases h
      exact W.zret hx hb hr nb0 (fun t ht _ => ⟨rfl, ht⟩) (fun q hq => absurd hq List.not_mem_nil) dX6_isOne_17
    · have h := vz_f c2 h
      refine lv_iconst (v := (1 : Int32)) hx hb dX6_isOne_12 (by decide) ?_
      refine lv_goto (tgt := 17) hx hb dX6_isOne_13 (by decide) ?_
      cases h
      exact W.zret hx hb hr nb1 (fun t ht _ => ⟨rfl, ht⟩) (fun q hq => absurd hq List.not_mem_nil) dX6_isOne_17
abbrev rmX10_isKind : Room := { frames := 1, cells := 0, slots := 0, locals := 22 }
set_option maxHeartbeats 4000000 in
set_option maxRecDepth 100000 in
theorem k_X10_isKind (l : Launch) {a0 : Int32}  {r : Int32}  (h : pX10_isKind a0 = some r) : Met l yX10_isKind wsX10_isKind rmX10_isKind (va_Pc [.int a0] (fun _ => True)) (QcRead r) 0 0 (fun _ => False) := by
  refine Met.ofW (cc := cX10_isKind) (maxL := 1) (ret := (some .boolean)) (by decide) rfl ?_
  intro p e s m args below meth c s₁ B hml hv
  obtain ⟨rfl, -⟩ := hv
  have hx := B.exec
  have hb := B.bytes
  have hr := B.returns
  have hts := atoms_spec (ws := wsX10_isKind) B.pre
  have hown : s.vm.findClass RX10 = some m.cls := findClass_of_methodNamed B.named
  have hlocks := B.notSynchronized
  have hl := lv_entry ([.int a0]) (n := 1) (Nat.le_of_ble_eq_true rfl)
  rw [lg_entry_eq]
  generalize (lg_sl ([.int a0]) ++ List.replicate (1 - (lg_sl ([.int a0])).length) Slot.unset).toArray = ls at hl ⊢
  have hl : lv_has ls 1 [(0, .int a0)] := hl
  rw [pX10_isKind] at h
  refine lv_iload_n hx hb dX10_isKind_0 rfl (lv_at hl 0 rfl) ?_
  refine lv_iconst (v := (0 : Int32)) hx hb dX10_isKind_1 (by decide) ?_
  refine lv_iconst (v := (3 : Int32)) hx hb dX10_isKind_2 (by decide) ?_
  obtain ⟨r2, hc1, h⟩ := vz_b h
  refine za_callR (va_runS (As := [.int a0, .int (0 : Int32), .int (3 : Int32)]) (rest := []) ⟨hx, hb, hml, hown, hts⟩ (k_X10_isWithin l hc1) (va_cwS 3 hts gX10_isKind_X10_isWithin rfl rfl rfl zd_X10_isWithin ⟨Nat.le_of_ble_eq_true rfl, Nat.le_of_ble_eq_true rfl⟩) xPre0 rfl rfl hl.1 rfl (lv_room (Nat.le_of_ble_eq_true rfl)) dX10_isKind_3 ⟨Nat.zero_le _, Nat.zero_le _⟩) ?_
  obtain ⟨hn, h⟩ := gb_s h
  cases h
  exact W.zret hx hb hr hn (fun t ht _ => ⟨rfl, ht⟩) (fun q hq => absurd hq List.not_mem_nil) dX10_isKind_6
abbrev rmX10_as : Room := { frames := 2, cells := 0, slots := 0, locals := 42 }
set_option maxHeartbeats 4000000 in
set_option maxRecDepth 100000 in
theorem k_X10_as (l : Launch) {D : va_G} {cI cJ : ClassId} {ad : Nat → Nat} {u : tU} {v : tV} {A : Nat → Prop} (hD : zD A cI cJ ad) {a1 : Int32} {a2 : Int32}  {r : Int32} {uz : tU} {vz : tV} (h : pX10_as u v a1 a2 = some (r, uz, vz)) : Met l yX10_as wsX10_as rmX10_as (va_Pc [.ref (ad 0), .int a1, .int a2] (xPre D cI cJ (wA cI cJ ad u v))) (xWi D cI cJ ad A r uz vz) 0 0 A := by
  refine Met.ofW (cc := cX10_as) (maxL := 3) (ret := (some .int)) (by decide) rfl ?_
  intro p e s m args below meth c s₁ B hml hv
  obtain ⟨rfl, hP, hK⟩ := hv
  have hx := B.exec
  have hb := B.bytes
  have hr := B.returns
  have hts := atoms_spec (ws := wsX10_as) B.pre
  have hown : s.vm.findClass RX10 = some m.cls := findClass_of_methodNamed B.named
  have hlocks := B.notSynchronized
  have hS : va_S A s.heap s.heap [] := va_S.rf
  have hin0 : ∀ w ∈ u_ws RX0 TX0 8, w ∈ wsX10_as := fun _ h => List.mem_cons_of_mem _ (List.mem_append_left _ (List.mem_append_right _ h))
  have hin6 : ∀ w ∈ u_ws RX6 TX6 4, w ∈ wsX10_as := fun _ h => List.mem_cons_of_mem _ (List.mem_append_right _ h)
  have hin10 : ∀ w ∈ u_ws RX10 TX10 7, w ∈ wsX10_as := fun _ h => List.mem_cons_of_mem _ (List.mem_append_left _ (List.mem_append_left _ (List.mem_append_right _ h)))
  have hw1 := hts (.fieldLink RX10 19 "InstallDesk" "books" "LInstallDesk$Books;") (List.mem_of_getElem? (i := 1) rfl)
  have hw2 := hts (.instanceMethod yX6_isOne) (List.mem_of_getElem? (i := 2) rfl)
  have hw3 := hts (.initialized RX6) (List.mem_of_getElem? (i := 3) rfl)
  have hw4 := hts (.selects RX6 yX6_isOne yX6_isOne) (List.mem_of_getElem? (i := 4) rfl)
  have hl := lv_entry ([.ref (ad 0), .int a1, .int a2]) (n := 3) (Nat.le_of_ble_eq_true rfl)
  rw [lg_entry_eq]
  generalize (lg_sl ([.ref (ad 0), .int a1, .int a2]) ++ List.replicate (3 - (lg_sl ([.ref (ad 0), .int a1, .int a2])).length) Slot.unset).toArray = ls at hl ⊢
  have hl : lv_has ls 3 [(0, .ref (ad 0)), (1, .int a1), (2, .int a2)] := hl
  rw [pX10_as] at h
  refine lv_aload_n hx hb dX10_as_0 rfl (lv_at hl 0 rfl) ?_
  refine za_getr (k := 1) hx hb hts hin10 hown hK hP zF_0_1 rfl (Nat.le_of_ble_eq_true rfl) (Or.inl hw1) dX10_as_1 ?_
  refine za_getr (k := 0) hx hb hts hin0 hown hK hP zF_2_0 rfl (Nat.le_of_ble_eq_true rfl) (nw_210 hK.2) dX10_as_4 ?_
  refine lv_iload_n hx hb dX10_as_7 rfl (lv_at hl 1 rfl) ?_
  obtain ⟨r2, hc1, h⟩ := vz_b h
  refine za_callR (va_runVN (As := [.int a1]) (rest := []) ⟨hx, hb, hml, hown, hts⟩ (k_X6_isOne l (D := D) (cI := cI) (cJ := cJ) (ad := ad) hc1) ⟨va_cnB 1 hts gX10_as_X6_isOne_n74 rfl rfl rfl (nw_331 hK.2) hw3 zd_X6_isOne ⟨Nat.le_of_ble_eq_true rfl, Nat.le_of_ble_eq_true rfl⟩, hw2, hw4⟩ (xPreV (ci := 6) hK hP rfl zO_3) rfl rfl hl.1 rfl (lv_room (Nat.le_of_ble_eq_true rfl)) dX10_as_8 ⟨Nat.zero_le _, Nat.zero_le _⟩) ?_
  refine lv_if_eq (tgt := 21) hx hb dX10_as_11 (by decide) (fun c3 => ?_) (fun c3 => ?_)
  · have h := vz_t c3 h
    refine lv_aload_n hx hb dX10_as_21 rfl (lv_at hl 0 rfl) ?_
    refine lv_iconst (v := (-1 : Int32)) hx hb dX10_as_22 (by decide) ?_
    obtain ⟨⟨r8, u5, v6⟩, hc4, h⟩ := vz_b h
    try dsimp only at h
    refine za_callWi (va_runV (As := [.int (-1 : Int32)]) (rest := []) ⟨hx, hb, hml, hown, hts⟩ (k_X10_finding l (D := D) (cI := cI) (cJ := cJ) (ad := ad) hD hc4) (cwV 1 hts gX10_as_X10_finding rfl rfl rfl ⟨rfl, zd_X10_finding⟩ ⟨Nat.le_of_ble_eq_true rfl, Nat.le_of_ble_eq_true rfl⟩) (xPreV (ci := 10) hK hP rfl zO_0) rfl rfl hl.1 rfl (lv_room (Nat.le_of_ble_eq_true rfl)) dX10_as_23 ⟨Nat.zero_le _, Nat.zero_le _⟩) hS (fun H locs hP hS => ?_)
    cases h
    exact W.iret hx hb hr (fun t ht _ => ⟨rfl, by rw [ht]; exact hP, hS.F ht⟩) hS.2.2 dX10_as_26
  · have h := vz_f c3 h
    refine lv_iload_n hx hb dX10_as_14 rfl (lv_at hl 2 rfl) ?_
    obtain ⟨r10, hc9, h⟩ := vz_b h
    refine za_callR (va_runS (As := [.int a2]) (rest := []) ⟨hx, hb, hml, hown, hts⟩ (k_X10_isKind l hc9) (va_cwS 1 hts gX10_as_X10_isKind rfl rfl rfl zd_X10_isKind ⟨Nat.le_of_ble_eq_true rfl, Nat.le_of_ble_eq_true rfl⟩) xPre0 rfl rfl hl.1 rfl (lv_room (Nat.le_of_ble_eq_true rfl)) dX10_as_15 ⟨Nat.zero_le _, Nat.zero_le _⟩) ?_
    refine lv_if_ne (tgt := 27) hx hb dX10_as_18 (by decide) (fun c11 => ?_) (fun c11 => ?_)
    · have h := vz_f c11 h
      refine lv_aload_n hx hb dX10_as_27 rfl (lv_at hl 0 rfl) ?_
      refine za_getr (k := 1) hx hb hts hin10 hown hK hP zF_0_1 rfl (Nat.le_of_ble_eq_true rfl) (Or.inl hw1) dX10_as_28 ?_
      refine za_getr (k := 0) hx hb hts hin0 hown hK hP zF_2_0 rfl (Nat.le_of_ble_eq_true rfl) (nw_210 hK.2) dX10_as_31 ?_
      refine za_getr (k := 1) hx hb hts hin6 hown hK hP zF_3_1 rfl (Nat.le_of_ble_eq_true rfl) (nw_56 hK.2) dX10_as_34 ?_
      refine lv_iload_n hx hb dX10_as_37 rfl (lv_at hl 1 rfl) ?_
      obtain ⟨g12, h⟩ := gd_s h
      refine za_ild hx hb hK hP zI_4 g12 dX10_as_38 ?_
      refine lv_iload_n hx hb dX10_as_39 rfl (lv_at hl 2 rfl) ?_
      obtain ⟨r14, hc13, h⟩ := vz_b h
      refine za_callR (va_runS (As := [.int (u 11 a1.toNatClampNeg), .int a2]) (rest := []) ⟨hx, hb, hml, hown, hts⟩ (k_X10_isUnder l hc13) (va_cwS 2 hts gX10_as_X10_isUnder rfl rfl rfl zd_X10_isUnder ⟨Nat.le_of_ble_eq_true rfl, Nat.le_of_ble_eq_true rfl⟩) xPre0 rfl rfl hl.1 rfl (lv_room (Nat.le_of_ble_eq_true rfl)) dX10_as_40 ⟨Nat.zero_le _, Nat.zero_le _⟩) ?_
      refine lv_if_eq (tgt := 50) hx hb dX10_as_43 (by decide) (fun c15 => ?_) (fun c15 => ?_)
      · have h := vz_t c15 h
        refine lv_aload_n hx hb dX10_as_50 rfl (lv_at hl 0 rfl) ?_
        refine lv_bipush (v := (-4 : Int32)) hx hb dX10_as_51 (by decide) ?_
        obtain ⟨⟨r20, u17, v18⟩, hc16, h⟩ := vz_b h
        try dsimp only at h
        refine za_callWi (va_runV (As := [.int (-4 : Int32)]) (rest := []) ⟨hx, hb, hml, hown, hts⟩ (k_X10_finding l (D := D) (cI := cI) (cJ := cJ) (ad := ad) hD hc16) (cwV 1 hts gX10_as_X10_finding rfl rfl rfl ⟨rfl, zd_X10_finding⟩ ⟨Nat.le_of_ble_eq_true rfl, Nat.le_of_ble_eq_true rfl⟩) (xPreV (ci := 10) hK hP rfl zO_0) rfl rfl hl.1 rfl (lv_room (Nat.le_of_ble_eq_true rfl)) dX10_as_53 ⟨Nat.zero_le _, Nat.zero_le _⟩) hS (fun H locs hP hS => ?_)
        cases h
        exact W.iret hx hb hr (fun t ht _ => ⟨rfl, by rw [ht]; exact hP, hS.F ht⟩) hS.2.2 dX10_as_56
      · have h := vz_f c15 h
        refine lv_iload_n hx hb dX10_as_46 rfl (lv_at hl 1 rfl) ?_
        refine lv_goto (tgt := 56) hx hb dX10_as_47 (by decide) ?_
        cases h
        exact W.iret hx hb hr (fun t ht _ => ⟨rfl, by rw [ht]; exact hP, hS.F ht⟩) hS.2.2 dX10_as_56
    · have h := vz_t c11 h
      refine lv_aload_n hx hb dX10_as_21 rfl (lv_at hl 0 rfl) ?_
      refine lv_iconst (v := (-1 : Int32)) hx hb dX10_as_22 (by decide) ?_
      obtain ⟨⟨r25, u22, v23⟩, hc21, h⟩ := vz_b h
      try dsimp only at h
      refine za_callWi (va_runV (As := [.int (-1 : Int32)]) (rest := []) ⟨hx, hb, hml, hown, hts⟩ (k_X10_finding l (D := D) (cI := cI) (cJ := cJ) (ad := ad) hD hc21) (cwV 1 hts gX10_as_X10_finding rfl rfl rfl ⟨rfl, zd_X10_finding⟩ ⟨Nat.le_of_ble_eq_true rfl, Nat.le_of_ble_eq_true rfl⟩) (xPreV (ci := 10) hK hP rfl zO_0) rfl rfl hl.1 rfl (lv_room (Nat.le_of_ble_eq_true rfl)) dX10_as_23 ⟨Nat.zero_le _, Nat.zero_le _⟩) hS (fun H locs hP hS => ?_)
      cases h
      exact W.iret hx hb hr (fun t ht _ => ⟨rfl, by rw [ht]; exact hP, hS.F ht⟩) hS.2.2 dX10_as_26
abbrev rmX10_isTick : Room := { frames := 1, cells := 0, slots := 0, locals := 22 }
set_option maxHeartbeats 4000000 in
set_option maxRecDepth 100000 in
theorem k_X10_isTick (l : Launch) {a0 : Int32}  {r : Int32}  (h : pX10_isTick a0 = some r) : Met l yX10_isTick wsX10_isTick rmX10_isTick (va_Pc [.int a0] (fun _ => True)) (QcRead r) 0 0 (fun _ => False) := by
  refine Met.ofW (cc := cX10_isTick) (maxL := 1) (ret := (some .boolean)) (by decide) rfl ?_
  intro p e s m args below meth c s₁ B hml hv
  obtain ⟨rfl, -⟩ := hv
  have hx := B.exec
  have hb := B.bytes
  have hr := B.returns
  have hts := atoms_spec (ws := wsX10_isTick) B.pre
  have hown : s.vm.findClass RX10 = some m.cls := findClass_of_methodNamed B.named
  have hlocks := B.notSynchronized
  have hl := lv_entry ([.int a0]) (n := 1) (Nat.le_of_ble_eq_true rfl)
  rw [lg_entry_eq]
  generalize (lg_sl ([.int a0]) ++ List.replicate (1 - (lg_sl ([.int a0])).length) Slot.unset).toArray = ls at hl ⊢
  have hl : lv_has ls 1 [(0, .int a0)] := hl
  rw [pX10_isTick] at h
  refine lv_iload_n hx hb dX10_isTick_0 rfl (lv_at hl 0 rfl) ?_
  refine lv_iconst (v := (0 : Int32)) hx hb dX10_isTick_1 (by decide) ?_
  refine lv_sipush (v := (999 : Int32)) hx hb dX10_isTick_2 (by decide) ?_
  obtain ⟨r2, hc1, h⟩ := vz_b h
  refine za_callR (va_runS (As := [.int a0, .int (0 : Int32), .int (999 : Int32)]) (rest := []) ⟨hx, hb, hml, hown, hts⟩ (k_X10_isWithin l hc1) (va_cwS 3 hts gX10_isTick_X10_isWithin rfl rfl rfl zd_X10_isWithin ⟨Nat.le_of_ble_eq_true rfl, Nat.le_of_ble_eq_true rfl⟩) xPre0 rfl rfl hl.1 rfl (lv_room (Nat.le_of_ble_eq_true rfl)) dX10_isTick_5 ⟨Nat.zero_le _, Nat.zero_le _⟩) ?_
  obtain ⟨hn, h⟩ := gb_s h
  cases h
  exact W.zret hx hb hr hn (fun t ht _ => ⟨rfl, ht⟩) (fun q hq => absurd hq List.not_mem_nil) dX10_isTick_8
abbrev rmX10_at : Room := { frames := 2, cells := 0, slots := 0, locals := 42 }
set_option maxHeartbeats 4000000 in
set_option maxRecDepth 100000 in
theorem k_X10_at (l : Launch) {D : va_G} {cI cJ : ClassId} {ad : Nat → Nat} {u : tU} {v : tV} {A : Nat → Prop} (hD : zD A cI cJ ad) {a1 : Int32} {a2 : Int32}  {r : Int32} {uz : tU} {vz : tV} (h : pX10_at u v a1 a2 = some (r, uz, vz)) : Met l yX10_at wsX10_at rmX10_at (va_Pc [.ref (ad 0), .int a1, .int a2] (xPre D cI cJ (wA cI cJ ad u v))) (xWi D cI cJ ad A r uz vz) 0 0 A := by
  refine Met.ofW (cc := cX10_at) (maxL := 3) (ret := (some .int)) (by decide) rfl ?_
  intro p e s m args below meth c s₁ B hml hv
  obtain ⟨rfl, hP, hK⟩ := hv
  have hx := B.exec
  have hb := B.bytes
  have hr := B.returns
  have hts := atoms_spec (ws := wsX10_at) B.pre
  have hown : s.vm.findClass RX10 = some m.cls := findClass_of_methodNamed B.named
  have hlocks := B.notSynchronized
  have hS : va_S A s.heap s.heap [] := va_S.rf
  have hin0 : ∀ w ∈ u_ws RX0 TX0 8, w ∈ wsX10_at := fun _ h => List.mem_cons_of_mem _ (List.mem_append_left _ (List.mem_append_left _ (List.mem_append_right _ h)))
  have hin10 : ∀ w ∈ u_ws RX10 TX10 7, w ∈ wsX10_at := fun _ h => List.mem_cons_of_mem _ (List.mem_append_left _ (List.mem_append_left _ (List.mem_append_left _ (List.mem_append_right _ h))))
  have hw1 := hts (.fieldLink RX10 19 "InstallDesk" "books" "LInstallDesk$Books;") (List.mem_of_getElem? (i := 1) rfl)
  have hw2 := hts (.instanceMethod yX6_isOne) (List.mem_of_getElem? (i := 2) rfl)
  have hw3 := hts (.initialized RX6) (List.mem_of_getElem? (i := 3) rfl)
  have hw4 := hts (.selects RX6 yX6_isOne yX6_isOne) (List.mem_of_getElem? (i := 4) rfl)
  have hw19 := hts (.instanceMethod yX9_howManyAt) (List.mem_of_getElem? (i := 19) rfl)
  have hw20 := hts (.initialized RX9) (List.mem_of_getElem? (i := 20) rfl)
  have hw21 := hts (.selects RX9 yX9_howManyAt yX9_howManyAt) (List.mem_of_getElem? (i := 21) rfl)
  have hl := lv_entry ([.ref (ad 0), .int a1, .int a2]) (n := 3) (Nat.le_of_ble_eq_true rfl)
  rw [lg_entry_eq]
  generalize (lg_sl ([.ref (ad 0), .int a1, .int a2]) ++ List.replicate (3 - (lg_sl ([.ref (ad 0), .int a1, .int a2])).length) Slot.unset).toArray = ls at hl ⊢
  have hl : lv_has ls 3 [(0, .ref (ad 0)), (1, .int a1), (2, .int a2)] := hl
  rw [pX10_at] at h
  refine lv_aload_n hx hb dX10_at_0 rfl (lv_at hl 0 rfl) ?_
  refine za_getr (k := 1) hx hb hts hin10 hown hK hP zF_0_1 rfl (Nat.le_of_ble_eq_true rfl) (Or.inl hw1) dX10_at_1 ?_
  refine za_getr (k := 0) hx hb hts hin0 hown hK hP zF_2_0 rfl (Nat.le_of_ble_eq_true rfl) (nw_210 hK.2) dX10_at_4 ?_
  refine lv_iload_n hx hb dX10_at_7 rfl (lv_at hl 1 rfl) ?_
  obtain ⟨r2, hc1, h⟩ := vz_b h
  refine za_callR (va_runVN (As := [.int a1]) (rest := []) ⟨hx, hb, hml, hown, hts⟩ (k_X6_isOne l (D := D) (cI := cI) (cJ := cJ) (ad := ad) hc1) ⟨va_cnB 1 hts gX10_at_X6_isOne_n74 rfl rfl rfl (nw_331 hK.2) hw3 zd_X6_isOne ⟨Nat.le_of_ble_eq_true rfl, Nat.le_of_ble_eq_true rfl⟩, hw2, hw4⟩ (xPreV (ci := 6) hK hP rfl zO_3) rfl rfl hl.1 rfl (lv_room (Nat.le_of_ble_eq_true rfl)) dX10_at_8 ⟨Nat.zero_le _, Nat.zero_le _⟩) ?_
  refine lv_if_eq (tgt := 21) hx hb dX10_at_11 (by decide) (fun c3 => ?_) (fun c3 => ?_)
  · have h := vz_t c3 h
    refine lv_aload_n hx hb dX10_at_21 rfl (lv_at hl 0 rfl) ?_
    refine lv_iconst (v := (-1 : Int32)) hx hb dX10_at_22 (by decide) ?_
    obtain ⟨⟨r8, u5, v6⟩, hc4, h⟩ := vz_b h
    try dsimp only at h
    refine za_callWi (va_runV (As := [.int (-1 : Int32)]) (rest := []) ⟨hx, hb, hml, hown, hts⟩ (k_X10_finding l (D := D) (cI := cI) (cJ := cJ) (ad := ad) hD hc4) (cwV 1 hts gX10_at_X10_finding rfl rfl rfl ⟨rfl, zd_X10_finding⟩ ⟨Nat.le_of_ble_eq_true rfl, Nat.le_of_ble_eq_true rfl⟩) (xPreV (ci := 10) hK hP rfl zO_0) rfl rfl hl.1 rfl (lv_room (Nat.le_of_ble_eq_true rfl)) dX10_at_23 ⟨Nat.zero_le _, Nat.zero_le _⟩) hS (fun H locs hP hS => ?_)
    cases h
    exact W.iret hx hb hr (fun t ht _ => ⟨rfl, by rw [ht]; exact hP, hS.F ht⟩) hS.2.2 dX10_at_26
  · have h := vz_f c3 h
    refine lv_iload_n hx hb dX10_at_14 rfl (lv_at hl 2 rfl) ?_
    obtain ⟨r10, hc9, h⟩ := vz_b h
    refine za_callR (va_runS (As := [.int a2]) (rest := []) ⟨hx, hb, hml, hown, hts⟩ (k_X10_isTick l hc9) (va_cwS 1 hts gX10_at_X10_isTick rfl rfl rfl zd_X10_isTick ⟨Nat.le_of_ble_eq_true rfl, Nat.le_of_ble_eq_true rfl⟩) xPre0 rfl rfl hl.1 rfl (lv_room (Nat.le_of_ble_eq_true rfl)) dX10_at_15 ⟨Nat.zero_le _, Nat.zero_le _⟩) ?_
    refine lv_if_ne (tgt := 27) hx hb dX10_at_18 (by decide) (fun c11 => ?_) (fun c11 => ?_)
    · have h := vz_f c11 h
      refine lv_aload_n hx hb dX10_at_27 rfl (lv_at hl 0 rfl) ?_
      refine za_getr (k := 1) hx hb hts hin10 hown hK hP zF_0_1 rfl (Nat.le_of_ble_eq_true rfl) (Or.inl hw1) dX10_at_28 ?_
      refine za_getr (k := 4) hx hb hts hin0 hown hK hP zF_2_4 rfl (Nat.le_of_ble_eq_true rfl) (nw_223 hK.2) dX10_at_31 ?_
      refine lv_iload_n hx hb dX10_at_34 rfl (lv_at hl 1 rfl) ?_
      refine lv_iload_n hx hb dX10_at_35 rfl (lv_at hl 2 rfl) ?_
      obtain ⟨r13, hc12, h⟩ := vz_b h
      refine za_callR (va_runVN (As := [.int a1, .int a2]) (rest := []) ⟨hx, hb, hml, hown, hts⟩ (k_X9_howManyAt l (D := D) (cI := cI) (cJ := cJ) (ad := ad) hc12) ⟨va_cnB 2 hts gX10_at_X9_howManyAt_n185 rfl rfl rfl (nw_575 hK.2) hw20 zd_X9_howManyAt ⟨Nat.le_of_ble_eq_true rfl, Nat.le_of_ble_eq_true rfl⟩, hw19, hw21⟩ (xPreV (ci := 9) hK hP rfl zO_19) rfl rfl hl.1 rfl (lv_room (Nat.le_of_ble_eq_true rfl)) dX10_at_36 ⟨Nat.zero_le _, Nat.zero_le _⟩) ?_
      cases h
      exact W.iret hx hb hr (fun t ht _ => ⟨rfl, by rw [ht]; exact hP, hS.F ht⟩) hS.2.2 dX10_at_39
    · have h := vz_t c11 h
      refine lv_aload_n hx hb dX10_at_21 rfl (lv_at hl 0 rfl) ?_
      refine lv_iconst (v := (-1 : Int32)) hx hb dX10_at_22 (by decide) ?_
      obtain ⟨⟨r18, u15, v16⟩, hc14, h⟩ := vz_b h
      try dsimp only at h
      refine za_callWi (va_runV (As := [.int (-1 : Int32)]) (rest := []) ⟨hx, hb, hml, hown, hts⟩ (k_X10_finding l (D := D) (cI := cI) (cJ := cJ) (ad := ad) hD hc14) (cwV 1 hts gX10_at_X10_finding rfl rfl rfl ⟨rfl, zd_X10_finding⟩ ⟨Nat.le_of_ble_eq_true rfl, Nat.le_of_ble_eq_true rfl⟩) (xPreV (ci := 10) hK hP rfl zO_0) rfl rfl hl.1 rfl (lv_room (Nat.le_of_ble_eq_true rfl)) dX10_at_23 ⟨Nat.zero_le _, Nat.zero_le _⟩) hS (fun H locs hP hS => ?_)
      cases h
      exact W.iret hx hb hr (fun t ht _ => ⟨rfl, by rw [ht]; exact hP, hS.F ht⟩) hS.2.2 dX10_at_26
abbrev rmX6_copyFrom_B : Room := { frames := 1, cells := 0, slots := 0, locals := 18 }
set_option maxHeartbeats 4000000 in
set_option maxRecDepth 100000 in
theorem k_X6_copyFrom_B (l : Launch) {D : va_G} {cI cJ : ClassId} {ad : Nat → Nat} {u : tU} {v : tV} {A : Nat → Prop} (hD : zD A cI cJ ad) {uz : tU} {vz : tV} (h : pX6_copyFrom_B u v  = some (uz, vz)) : Met l yX6_copyFrom wsX6_copyFrom rmX6_copyFrom_B (va_Pc [.ref (ad 3), .ref (ad 32)] (xPre D cI cJ (wA cI cJ ad u v))) (xWv D cI cJ ad A uz vz) 0 0 A := by
  refine Met.ofW (cc := cX6_copyFrom) (maxL := 2) (ret := none) (by decide) rfl ?_
  intro p e s m args below meth c s₁ B hml hv
  obtain ⟨rfl, hP, hK⟩ := hv
  have hx := B.exec
  have hb := B.bytes
  have hr := B.returns
  have hts := atoms_spec (ws := wsX6_copyFrom) B.pre
  have hown : s.vm.findClass RX6 = some m.cls := findClass_of_methodNamed B.named
  have hlocks := B.notSynchronized
  have hS : va_S A s.heap s.heap [] := va_S.rf
  have hin6 : ∀ w ∈ u_ws RX6 TX6 4, w ∈ wsX6_copyFrom := fun _ h => List.mem_cons_of_mem _ (List.mem_append_right _ h)
  have hw1 := hts (.fieldLink RX6 21 "InstallDesk$Products" "count" "I") (List.mem_of_getElem? (i := 1) rfl)
  have hw2 := hts (.fieldLink RX6 9 "InstallDesk$Products" "kinds" "[I") (List.mem_of_getElem? (i := 2) rfl)
  have hw3 := hts (.methodLink RX6 29 arraycopyName) (List.mem_of_getElem? (i := 3) rfl)
  have hw4 := hts (.native arraycopyName) (List.mem_of_getElem? (i := 4) rfl)
  have hw5 := hts (.static arraycopyName) (List.mem_of_getElem? (i := 5) rfl)
  have hw6 := hts (.initialized "java/lang/System") (List.mem_of_getElem? (i := 6) rfl)
  have hw7 := hts (.fieldLink RX6 15 "InstallDesk$Products" "parts" "[I") (List.mem_of_getElem? (i := 7) rfl)
  have hw8 := hts (.fieldLink RX6 18 "InstallDesk$Products" "leasts" "[I") (List.mem_of_getElem? (i := 8) rfl)
  have hl := lv_entry ([.ref (ad 3), .ref (ad 32)]) (n := 2) (Nat.le_of_ble_eq_true rfl)
  rw [lg_entry_eq]
  generalize (lg_sl ([.ref (ad 3), .ref (ad 32)]) ++ List.replicate (2 - (lg_sl ([.ref (ad 3), .ref (ad 32)])).length) Slot.unset).toArray = ls at hl ⊢
  have hl : lv_has ls 2 [(0, .ref (ad 3)), (1, .ref (ad 32))] := hl
  rw [pX6_copyFrom_B] at h
  refine lv_aload_n hx hb dX6_copyFrom_0 rfl (lv_at hl 0 rfl) ?_
  refine lv_aload_n hx hb dX6_copyFrom_1 rfl (lv_at hl 1 rfl) ?_
  refine za_geti (k := 0) hx hb hts hin6 hown hK hP zF_32_0 rfl (Nat.le_of_ble_eq_true rfl) (Or.inl hw1) dX6_copyFrom_2 ?_
  refine za_puti (k := 0) hx hb hts hin6 tyX6 tyX6_ok nmX6 hown hK hP hD hS zF_3_0 rfl (Nat.le_of_ble_eq_true rfl) (Or.inl hw1) rfl rfl rfl dX6_copyFrom_5 (fun H locs hP hS => ?_)
  refine lv_aload_n hx hb dX6_copyFrom_8 rfl (lv_at hl 1 rfl) ?_
  refine za_getr (k := 1) hx hb hts hin6 hown hK hP zF_32_1 rfl (Nat.le_of_ble_eq_true rfl) (Or.inl hw2) dX6_copyFrom_9 ?_
  refine lv_iconst (v := (0 : Int32)) hx hb dX6_copyFrom_12 (by decide) ?_
  refine lv_aload_n hx hb dX6_copyFrom_13 rfl (lv_at hl 0 rfl) ?_
  refine za_getr (k := 1) hx hb hts hin6 hown hK hP zF_3_1 rfl (Nat.le_of_ble_eq_true rfl) (Or.inl hw2) dX6_copyFrom_14 ?_
  refine lv_iconst (v := (0 : Int32)) hx hb dX6_copyFrom_17 (by decide) ?_
  refine lv_bipush (v := (10 : Int32)) hx hb dX6_copyFrom_18 (by decide) ?_
  refine za_cpi0 (k' := 10) hx hb (by rw [hml]; exact hl.1.symm) hown hw3 hw4 hw5 hw6 hK hP hD hS zI_33 zI_4 (by decide) rfl (by decide) (by decide) (Nat.le_of_ble_eq_true rfl) (Nat.le_of_ble_eq_true rfl) dX6_copyFrom_20 (fun H locs hP hS => ?_)
  refine lv_aload_n hx hb dX6_copyFrom_23 rfl (lv_at hl 1 rfl) ?_
  refine za_getr (k := 2) hx hb hts hin6 hown hK hP zF_32_2 rfl (Nat.le_of_ble_eq_true rfl) (Or.inl hw7) dX6_copyFrom_24 ?_
  refine lv_iconst (v := (0 : Int32)) hx hb dX6_copyFrom_27 (by decide) ?_
  refine lv_aload_n hx hb dX6_copyFrom_28 rfl (lv_at hl 0 rfl) ?_
  refine za_getr (k := 2) hx hb hts hin6 hown hK hP zF_3_2 rfl (Nat.le_of_ble_eq_true rfl) (Or.inl hw7) dX6_copyFrom_29 ?_
  refine lv_iconst (v := (0 : Int32)) hx hb dX6_copyFrom_32 (by decide) ?_
  refine lv_bipush (v := (10 : Int32)) hx hb dX6_copyFrom_33 (by decide) ?_
  refine za_cpi0 (k' := 10) hx hb (by rw [hml]; exact hl.1.symm) hown hw3 hw4 hw5 hw6 hK hP hD hS zI_34 zI_5 (by decide) rfl (by decide) (by decide) (Nat.le_of_ble_eq_true rfl) (Nat.le_of_ble_eq_true rfl) dX6_copyFrom_35 (fun H locs hP hS => ?_)
  refine lv_aload_n hx hb dX6_copyFrom_38 rfl (lv_at hl 1 rfl) ?_
  refine za_getr (k := 3) hx hb hts hin6 hown hK hP zF_32_3 rfl (Nat.le_of_ble_eq_true rfl) (Or.inl hw8) dX6_copyFrom_39 ?_
  refine lv_iconst (v := (0 : Int32)) hx hb dX6_copyFrom_42 (by decide) ?_
  refine lv_aload_n hx hb dX6_copyFrom_43 rfl (lv_at hl 0 rfl) ?_
  refine za_getr (k := 3) hx hb hts hin6 hown hK hP zF_3_3 rfl (Nat.le_of_ble_eq_true rfl) (Or.inl hw8) dX6_copyFrom_44 ?_
  refine lv_iconst (v := (0 : Int32)) hx hb dX6_copyFrom_47 (by decide) ?_
  refine lv_bipush (v := (10 : Int32)) hx hb dX6_copyFrom_48 (by decide) ?_
  refine za_cpi0 (k' := 10) hx hb (by rw [hml]; exact hl.1.symm) hown hw3 hw4 hw5 hw6 hK hP hD hS zI_35 zI_6 (by decide) rfl (by decide) (by decide) (Nat.le_of_ble_eq_true rfl) (Nat.le_of_ble_eq_true rfl) dX6_copyFrom_50 (fun H locs hP hS => ?_)
  cases h
  exact W.vret hx hb hr (fun t ht _ => ⟨rfl, by rw [ht]; exact hP, hS.F ht⟩) hS.2.2 dX6_copyFrom_53
abbrev rmX8_copyFrom_B : Room := { frames := 1, cells := 0, slots := 0, locals := 18 }
set_option maxHeartbeats 4000000 in
set_option maxRecDepth 100000 in
theorem k_X8_copyFrom_B (l : Launch) {D : va_G} {cI cJ : ClassId} {ad : Nat → Nat} {u : tU} {v : tV} {A : Nat → Prop} (hD : zD A cI cJ ad) {uz : tU} {vz : tV} (h : pX8_copyFrom_B u v  = some (uz, vz)) : Met l yX8_copyFrom wsX8_copyFrom rmX8_copyFrom_B (va_Pc [.ref (ad 7), .ref (ad 36)] (xPre D cI cJ (wA cI cJ ad u v))) (xWv D cI cJ ad A uz vz) 0 0 A := by
  refine Met.ofW (cc := cX8_copyFrom) (maxL := 2) (ret := none) (by decide) rfl ?_
  intro p e s m args below meth c s₁ B hml hv
  obtain ⟨rfl, hP, hK⟩ := hv
  have hx := B.exec
  have hb := B.bytes
  have hr := B.returns
  have hts := atoms_spec (ws := wsX8_copyFrom) B.pre
  have hown : s.vm.findClass RX8 = some m.cls := findClass_of_methodNamed B.named
  have hlocks := B.notSynchronized
  have hS : va_S A s.heap s.heap [] := va_S.rf
  have hin8 : ∀ w ∈ u_ws RX8 TX8 4, w ∈ wsX8_copyFrom := fun _ h => List.mem_cons_of_mem _ (List.mem_append_right _ h)
  have hw1 := hts (.fieldLink RX8 22 "InstallDesk$Rules" "count" "I") (List.mem_of_getElem? (i := 1) rfl)
  have hw2 := hts (.fieldLink RX8 9 "InstallDesk$Rules" "patterns" "[J") (List.mem_of_getElem? (i := 2) rfl)
  have hw3 := hts (.methodLink RX8 26 arraycopyName) (List.mem_of_getElem? (i := 3) rfl)
  have hw4 := hts (.native arraycopyName) (List.mem_of_getElem? (i := 4) rfl)
  have hw5 := hts (.static arraycopyName) (List.mem_of_getElem? (i := 5) rfl)
  have hw6 := hts (.initialized "java/lang/System") (List.mem_of_getElem? (i := 6) rfl)
  have hw7 := hts (.fieldLink RX8 15 "InstallDesk$Rules" "ranks" "[I") (List.mem_of_getElem? (i := 7) rfl)
  have hw8 := hts (.fieldLink RX8 19 "InstallDesk$Rules" "products" "[I") (List.mem_of_getElem? (i := 8) rfl)
  have hl := lv_entry ([.ref (ad 7), .ref (ad 36)]) (n := 2) (Nat.le_of_ble_eq_true rfl)
  rw [lg_entry_eq]
  generalize (lg_sl ([.ref (ad 7), .ref (ad 36)]) ++ List.replicate (2 - (lg_sl ([.ref (ad 7), .ref (ad 36)])).length) Slot.unset).toArray = ls at hl ⊢
  have hl : lv_has ls 2 [(0, .ref (ad 7)), (1, .ref (ad 36))] := hl
  rw [pX8_copyFrom_B] at h
  refine lv_aload_n hx hb dX8_copyFrom_0 rfl (lv_at hl 0 rfl) ?_
  refine lv_aload_n hx hb dX8_copyFrom_1 rfl (lv_at hl 1 rfl) ?_
  refine za_geti (k := 0) hx hb hts hin8 hown hK hP zF_36_0 rfl (Nat.le_of_ble_eq_true rfl) (Or.inl hw1) dX8_copyFrom_2 ?_
  refine za_puti (k := 0) hx hb hts hin8 tyX8 tyX8_ok nmX8 hown hK hP hD hS zF_7_0 rfl (Nat.le_of_ble_eq_true rfl) (Or.inl hw1) rfl rfl rfl dX8_copyFrom_5 (fun H locs hP hS => ?_)
  refine lv_aload_n hx hb dX8_copyFrom_8 rfl (lv_at hl 1 rfl) ?_
  refine za_getr (k := 1) hx hb hts hin8 hown hK hP zF_36_1 rfl (Nat.le_of_ble_eq_true rfl) (Or.inl hw2) dX8_copyFrom_9 ?_
  refine lv_iconst (v := (0 : Int32)) hx hb dX8_copyFrom_12 (by decide) ?_
  refine lv_aload_n hx hb dX8_copyFrom_13 rfl (lv_at hl 0 rfl) ?_
  refine za_getr (k := 1) hx hb hts hin8 hown hK hP zF_7_1 rfl (Nat.le_of_ble_eq_true rfl) (Or.inl hw2) dX8_copyFrom_14 ?_
  refine lv_iconst (v := (0 : Int32)) hx hb dX8_copyFrom_17 (by decide) ?_
  refine lv_bipush (v := (16 : Int32)) hx hb dX8_copyFrom_18 (by decide) ?_
  refine za_cpl0 (k' := 16) hx hb (by rw [hml]; exact hl.1.symm) hown hw3 hw4 hw5 hw6 hK hP hD hS zJ_37 zJ_8 (by decide) rfl (by decide) (by decide) (Nat.le_of_ble_eq_true rfl) (Nat.le_of_ble_eq_true rfl) dX8_copyFrom_20 (fun H locs hP hS => ?_)
  refine lv_aload_n hx hb dX8_copyFrom_23 rfl (lv_at hl 1 rfl) ?_
  refine za_getr (k := 2) hx hb hts hin8 hown hK hP zF_36_2 rfl (Nat.le_of_ble_eq_true rfl) (Or.inl hw7) dX8_copyFrom_24 ?_
  refine lv_iconst (v := (0 : Int32)) hx hb dX8_copyFrom_27 (by decide) ?_
  refine lv_aload_n hx hb dX8_copyFrom_28 rfl (lv_at hl 0 rfl) ?_
  refine za_getr (k := 2) hx hb hts hin8 hown hK hP zF_7_2 rfl (Nat.le_of_ble_eq_true rfl) (Or.inl hw7) dX8_copyFrom_29 ?_
  refine lv_iconst (v := (0 : Int32)) hx hb dX8_copyFrom_32 (by decide) ?_
  refine lv_bipush (v := (16 : Int32)) hx hb dX8_copyFrom_33 (by decide) ?_
  refine za_cpi0 (k' := 16) hx hb (by rw [hml]; exact hl.1.symm) hown hw3 hw4 hw5 hw6 hK hP hD hS zI_38 zI_9 (by decide) rfl (by decide) (by decide) (Nat.le_of_ble_eq_true rfl) (Nat.le_of_ble_eq_true rfl) dX8_copyFrom_35 (fun H locs hP hS => ?_)
  refine lv_aload_n hx hb dX8_copyFrom_38 rfl (lv_at hl 1 rfl) ?_
  refine za_getr (k := 3) hx hb hts hin8 hown hK hP zF_36_3 rfl (Nat.le_of_ble_eq_true rfl) (Or.inl hw8) dX8_copyFrom_39 ?_
  refine lv_iconst (v := (0 : Int32)) hx hb dX8_copyFrom_42 (by decide) ?_
  refine lv_aload_n hx hb dX8_copyFrom_43 rfl (lv_at hl 0 rfl) ?_
  refine za_getr (k := 3) hx hb hts hin8 hown hK hP zF_7_3 rfl (Nat.le_of_ble_eq_true rfl) (Or.inl hw8) dX8_copyFrom_44 ?_
  refine lv_iconst (v := (0 : Int32)) hx hb dX8_copyFrom_47 (by decide) ?_
  refine lv_bipush (v := (16 : Int32)) hx hb dX8_copyFrom_48 (by decide) ?_
  refine za_cpi0 (k' := 16) hx hb (by rw [hml]; exact hl.1.symm) hown hw3 hw4 hw5 hw6 hK hP hD hS zI_39 zI_10 (by decide) rfl (by decide) (by decide) (Nat.le_of_ble_eq_true rfl) (Nat.le_of_ble_eq_true rfl) dX8_copyFrom_50 (fun H locs hP hS => ?_)
  cases h
  exact W.vret hx hb hr (fun t ht _ => ⟨rfl, by rw [ht]; exact hP, hS.F ht⟩) hS.2.2 dX8_copyFrom_53
abbrev rmX3_copyFrom_B : Room := { frames := 1, cells := 0, slots := 0, locals := 18 }
set_option maxHeartbeats 4000000 in
set_option maxRecDepth 100000 in
theorem k_X3_copyFrom_B (l : Launch) {D : va_G} {cI cJ : ClassId} {ad : Nat → Nat} {u : tU} {v : tV} {A : Nat → Prop} (hD : zD A cI cJ ad) {uz : tU} {vz : tV} (h : pX3_copyFrom_B u v  = some (uz, vz)) : Met l yX3_copyFrom wsX3_copyFrom rmX3_copyFrom_B (va_Pc [.ref (ad 11), .ref (ad 40)] (xPre D cI cJ (wA cI cJ ad u v))) (xWv D cI cJ ad A uz vz) 0 0 A := by
  refine Met.ofW (cc := cX3_copyFrom) (maxL := 2) (ret := none) (by decide) rfl ?_
  intro p e s m args below meth c s₁ B hml hv
  obtain ⟨rfl, hP, hK⟩ := hv
  have hx := B.exec
  have hb := B.bytes
  have hr := B.returns
  have hts := atoms_spec (ws := wsX3_copyFrom) B.pre
  have hown : s.vm.findClass RX3 = some m.cls := findClass_of_methodNamed B.named
  have hlocks := B.notSynchronized
  have hS : va_S A s.heap s.heap [] := va_S.rf
  have hin3 : ∀ w ∈ u_ws RX3 TX3 3, w ∈ wsX3_copyFrom := fun _ h => List.mem_cons_of_mem _ (List.mem_append_right _ h)
  have hw1 := hts (.fieldLink RX3 18 "InstallDesk$Hosts" "count" "I") (List.mem_of_getElem? (i := 1) rfl)
  have hw2 := hts (.fieldLink RX3 9 "InstallDesk$Hosts" "cores" "[I") (List.mem_of_getElem? (i := 2) rfl)
  have hw3 := hts (.methodLink RX3 22 arraycopyName) (List.mem_of_getElem? (i := 3) rfl)
  have hw4 := hts (.native arraycopyName) (List.mem_of_getElem? (i := 4) rfl)
  have hw5 := hts (.static arraycopyName) (List.mem_of_getElem? (i := 5) rfl)
  have hw6 := hts (.initialized "java/lang/System") (List.mem_of_getElem? (i := 6) rfl)
  have hw7 := hts (.fieldLink RX3 15 "InstallDesk$Hosts" "persons" "[I") (List.mem_of_getElem? (i := 7) rfl)
  have hl := lv_entry ([.ref (ad 11), .ref (ad 40)]) (n := 2) (Nat.le_of_ble_eq_true rfl)
  rw [lg_entry_eq]
  generalize (lg_sl ([.ref (ad 11), .ref (ad 40)]) ++ List.replicate (2 - (lg_sl ([.ref (ad 11), .ref (ad 40)])).length) Slot.unset).toArray = ls at hl ⊢
  have hl : lv_has ls 2 [(0, .ref (ad 11)), (1, .ref (ad 40))] := hl
  rw [pX3_copyFrom_B] at h
  refine lv_aload_n hx hb dX3_copyFrom_0 rfl (lv_at hl 0 rfl) ?_
  refine lv_aload_n hx hb dX3_copyFrom_1 rfl (lv_at hl 1 rfl) ?_
  refine za_geti (k := 0) hx hb hts hin3 hown hK hP zF_40_0 rfl (Nat.le_of_ble_eq_true rfl) (Or.inl hw1) dX3_copyFrom_2 ?_
  refine za_puti (k := 0) hx hb hts hin3 tyX3 tyX3_ok nmX3 hown hK hP hD hS zF_11_0 rfl (Nat.le_of_ble_eq_true rfl) (Or.inl hw1) rfl rfl rfl dX3_copyFrom_5 (fun H locs hP hS => ?_)
  refine lv_aload_n hx hb dX3_copyFrom_8 rfl (lv_at hl 1 rfl) ?_
  refine za_getr (k := 1) hx hb hts hin3 hown hK hP zF_40_1 rfl (Nat.le_of_ble_eq_true rfl) (Or.inl hw2) dX3_copyFrom_9 ?_
  refine lv_iconst (v := (0 : Int32)) hx hb dX3_copyFrom_12 (by decide) ?_
  refine lv_aload_n hx hb dX3_copyFrom_13 rfl (lv_at hl 0 rfl) ?_
  refine za_getr (k := 1) hx hb hts hin3 hown hK hP zF_11_1 rfl (Nat.le_of_ble_eq_true rfl) (Or.inl hw2) dX3_copyFrom_14 ?_
  refine lv_iconst (v := (0 : Int32)) hx hb dX3_copyFrom_17 (by decide) ?_
  refine lv_bipush (v := (8 : Int32)) hx hb dX3_copyFrom_18 (by decide) ?_
  refine za_cpi0 (k' := 8) hx hb (by rw [hml]; exact hl.1.symm) hown hw3 hw4 hw5 hw6 hK hP hD hS zI_41 zI_12 (by decide) rfl (by decide) (by decide) (Nat.le_of_ble_eq_true rfl) (Nat.le_of_ble_eq_true rfl) dX3_copyFrom_20 (fun H locs hP hS => ?_)
  refine lv_aload_n hx hb dX3_copyFrom_23 rfl (lv_at hl 1 rfl) ?_
  refine za_getr (k := 2) hx hb hts hin3 hown hK hP zF_40_2 rfl (Nat.le_of_ble_eq_true rfl) (Or.inl hw7) dX3_copyFrom_24 ?_
  refine lv_iconst (v := (0 : Int32)) hx hb dX3_copyFrom_27 (by decide) ?_
  refine lv_aload_n hx hb dX3_copyFrom_28 rfl (lv_at hl 0 rfl) ?_
  refine za_getr (k := 2) hx hb hts hin3 hown hK hP zF_11_2 rfl (Nat.le_of_ble_eq_true rfl) (Or.inl hw7) dX3_copyFrom_29 ?_
  refine lv_iconst (v := (0 : Int32)) hx hb dX3_copyFrom_32 (by decide) ?_
  refine lv_bipush (v := (8 : Int32)) hx hb dX3_copyFrom_33 (by decide) ?_
  refine za_cpi0 (k' := 8) hx hb (by rw [hml]; exact hl.1.symm) hown hw3 hw4 hw5 hw6 hK hP hD hS zI_42 zI_13 (by decide) rfl (by decide) (by decide) (Nat.le_of_ble_eq_true rfl) (Nat.le_of_ble_eq_true rfl) dX3_copyFrom_35 (fun H locs hP hS => ?_)
  cases h
  exact W.vret hx hb hr (fun t ht _ => ⟨rfl, by rw [ht]; exact hP, hS.F ht⟩) hS.2.2 dX3_copyFrom_38
abbrev rmX1_copyFrom_B : Room := { frames := 1, cells := 0, slots := 0, locals := 18 }
set_option maxHeartbeats 4000000 in
set_option maxRecDepth 100000 in
theorem k_X1_copyFrom_B (l : Launch) {D : va_G} {cI cJ : ClassId} {ad : Nat → Nat} {u : tU} {v : tV} {A : Nat → Prop} (hD : zD A cI cJ ad) {uz : tU} {vz : tV} (h : pX1_copyFrom_B u v  = some (uz, vz)) : Met l yX1_copyFrom wsX1_copyFrom rmX1_copyFrom_B (va_Pc [.ref (ad 14), .ref (ad 43)] (xPre D cI cJ (wA cI cJ ad u v))) (xWv D cI cJ ad A uz vz) 0 0 A := by
  refine Met.ofW (cc := cX1_copyFrom) (maxL := 2) (ret := none) (by decide) rfl ?_
  intro p e s m args below meth c s₁ B hml hv
  obtain ⟨rfl, hP, hK⟩ := hv
  have hx := B.exec
  have hb := B.bytes
  have hr := B.returns
  have hts := atoms_spec (ws := wsX1_copyFrom) B.pre
  have hown : s.vm.findClass RX1 = some m.cls := findClass_of_methodNamed B.named
  have hlocks := B.notSynchronized
  have hS : va_S A s.heap s.heap [] := va_S.rf
  have hin1 : ∀ w ∈ u_ws RX1 TX1 5, w ∈ wsX1_copyFrom := fun _ h => List.mem_cons_of_mem _ (List.mem_append_right _ h)
  have hw1 := hts (.fieldLink RX1 25 "InstallDesk$Finds" "count" "I") (List.mem_of_getElem? (i := 1) rfl)
  have hw2 := hts (.fieldLink RX1 9 "InstallDesk$Finds" "names" "[J") (List.mem_of_getElem? (i := 2) rfl)
  have hw3 := hts (.methodLink RX1 29 arraycopyName) (List.mem_of_getElem? (i := 3) rfl)
  have hw4 := hts (.native arraycopyName) (List.mem_of_getElem? (i := 4) rfl)
  have hw5 := hts (.static arraycopyName) (List.mem_of_getElem? (i := 5) rfl)
  have hw6 := hts (.initialized "java/lang/System") (List.mem_of_getElem? (i := 6) rfl)
  have hw7 := hts (.fieldLink RX1 15 "InstallDesk$Finds" "hosts" "[I") (List.mem_of_getElem? (i := 7) rfl)
  have hw8 := hts (.fieldLink RX1 19 "InstallDesk$Finds" "days" "[I") (List.mem_of_getElem? (i := 8) rfl)
  have hw9 := hts (.fieldLink RX1 22 "InstallDesk$Finds" "versions" "[I") (List.mem_of_getElem? (i := 9) rfl)
  have hl := lv_entry ([.ref (ad 14), .ref (ad 43)]) (n := 2) (Nat.le_of_ble_eq_true rfl)
  rw [lg_entry_eq]
  generalize (lg_sl ([.ref (ad 14), .ref (ad 43)]) ++ List.replicate (2 - (lg_sl ([.ref (ad 14), .ref (ad 43)])).length) Slot.unset).toArray = ls at hl ⊢
  have hl : lv_has ls 2 [(0, .ref (ad 14)), (1, .ref (ad 43))] := hl
  rw [pX1_copyFrom_B] at h
  refine lv_aload_n hx hb dX1_copyFrom_0 rfl (lv_at hl 0 rfl) ?_
  refine lv_aload_n hx hb dX1_copyFrom_1 rfl (lv_at hl 1 rfl) ?_
  refine za_geti (k := 0) hx hb hts hin1 hown hK hP zF_43_0 rfl (Nat.le_of_ble_eq_true rfl) (Or.inl hw1) dX1_copyFrom_2 ?_
  refine za_puti (k := 0) hx hb hts hin1 tyX1 tyX1_ok nmX1 hown hK hP hD hS zF_14_0 rfl (Nat.le_of_ble_eq_true rfl) (Or.inl hw1) rfl rfl rfl dX1_copyFrom_5 (fun H locs hP hS => ?_)
  refine lv_aload_n hx hb dX1_copyFrom_8 rfl (lv_at hl 1 rfl) ?_
  refine za_getr (k := 1) hx hb hts hin1 hown hK hP zF_43_1 rfl (Nat.le_of_ble_eq_true rfl) (Or.inl hw2) dX1_copyFrom_9 ?_
  refine lv_iconst (v := (0 : Int32)) hx hb dX1_copyFrom_12 (by decide) ?_
  refine lv_aload_n hx hb dX1_copyFrom_13 rfl (lv_at hl 0 rfl) ?_
  refine za_getr (k := 1) hx hb hts hin1 hown hK hP zF_14_1 rfl (Nat.le_of_ble_eq_true rfl) (Or.inl hw2) dX1_copyFrom_14 ?_
  refine lv_iconst (v := (0 : Int32)) hx hb dX1_copyFrom_17 (by decide) ?_
  refine lv_bipush (v := (40 : Int32)) hx hb dX1_copyFrom_18 (by decide) ?_
  refine za_cpl0 (k' := 40) hx hb (by rw [hml]; exact hl.1.symm) hown hw3 hw4 hw5 hw6 hK hP hD hS zJ_44 zJ_15 (by decide) rfl (by decide) (by decide) (Nat.le_of_ble_eq_true rfl) (Nat.le_of_ble_eq_true rfl) dX1_copyFrom_20 (fun H locs hP hS => ?_)
  refine lv_aload_n hx hb dX1_copyFrom_23 rfl (lv_at hl 1 rfl) ?_
  refine za_getr (k := 2) hx hb hts hin1 hown hK hP zF_43_2 rfl (Nat.le_of_ble_eq_true rfl) (Or.inl hw7) dX1_copyFrom_24 ?_
  refine lv_iconst (v := (0 : Int32)) hx hb dX1_copyFrom_27 (by decide) ?_
  refine lv_aload_n hx hb dX1_copyFrom_28 rfl (lv_at hl 0 rfl) ?_
  refine za_getr (k := 2) hx hb hts hin1 hown hK hP zF_14_2 rfl (Nat.le_of_ble_eq_true rfl) (Or.inl hw7) dX1_copyFrom_29 ?_
  refine lv_iconst (v := (0 : Int32)) hx hb dX1_copyFrom_32 (by decide) ?_
  refine lv_bipush (v := (40 : Int32)) hx hb dX1_copyFrom_33 (by decide) ?_
  refine za_cpi0 (k' := 40) hx hb (by rw [hml]; exact hl.1.symm) hown hw3 hw4 hw5 hw6 hK hP hD hS zI_45 zI_16 (by decide) rfl (by decide) (by decide) (Nat.le_of_ble_eq_true rfl) (Nat.le_of_ble_eq_true rfl) dX1_copyFrom_35 (fun H locs hP hS => ?_)
  refine lv_aload_n hx hb dX1_copyFrom_38 rfl (lv_at hl 1 rfl) ?_
  refine za_getr (k := 3) hx hb hts hin1 hown hK hP zF_43_3 rfl (Nat.le_of_ble_eq_true rfl) (Or.inl hw8) dX1_copyFrom_39 ?_
  refine lv_iconst (v := (0 : Int32)) hx hb dX1_copyFrom_42 (by decide) ?_
  refine lv_aload_n hx hb dX1_copyFrom_43 rfl (lv_at hl 0 rfl) ?_
  refine za_getr (k := 3) hx hb hts hin1 hown hK hP zF_14_3 rfl (Nat.le_of_ble_eq_true rfl) (Or.inl hw8) dX1_copyFrom_44 ?_
  refine lv_iconst (v := (0 : Int32)) hx hb dX1_copyFrom_47 (by decide) ?_
  refine lv_bipush (v := (40 : Int32)) hx hb dX1_copyFrom_48 (by decide) ?_
  refine za_cpi0 (k' := 40) hx hb (by rw [hml]; exact hl.1.symm) hown hw3 hw4 hw5 hw6 hK hP hD hS zI_46 zI_17 (by decide) rfl (by decide) (by decide) (Nat.le_of_ble_eq_true rfl) (Nat.le_of_ble_eq_true rfl) dX1_copyFrom_50 (fun H locs hP hS => ?_)
  refine lv_aload_n hx hb dX1_copyFrom_53 rfl (lv_at hl 1 rfl) ?_
  refine za_getr (k := 4) hx hb hts hin1 hown hK hP zF_43_4 rfl (Nat.le_of_ble_eq_true rfl) (Or.inl hw9) dX1_copyFrom_54 ?_
  refine lv_iconst (v := (0 : Int32)) hx hb dX1_copyFrom_57 (by decide) ?_
  refine lv_aload_n hx hb dX1_copyFrom_58 rfl (lv_at hl 0 rfl) ?_
  refine za_getr (k := 4) hx hb hts hin1 hown hK hP zF_14_4 rfl (Nat.le_of_ble_eq_true rfl) (Or.inl hw9) dX1_copyFrom_59 ?_
  refine lv_iconst (v := (0 : Int32)) hx hb dX1_copyFrom_62 (by decide) ?_
  refine lv_bipush (v := (40 : Int32)) hx hb dX1_copyFrom_63 (by decide) ?_
  refine za_cpi0 (k' := 40) hx hb (by rw [hml]; exact hl.1.symm) hown hw3 hw4 hw5 hw6 hK hP hD hS zI_47 zI_18 (by decide) rfl (by decide) (by decide) (Nat.le_of_ble_eq_true rfl) (Nat.le_of_ble_eq_true rfl) dX1_copyFrom_65 (fun H locs hP hS => ?_)
  cases h
  exact W.vret hx hb hr (fun t ht _ => ⟨rfl, by rw [ht]; exact hP, hS.F ht⟩) hS.2.2 dX1_copyFrom_68
abbrev rmX9_copyFrom_B : Room := { frames := 1, cells := 0, slots := 0, locals := 18 }
set_option maxHeartbeats 4000000 in
set_option maxRecDepth 100000 in
theorem k_X9_copyFrom_B (l : Launch) {D : va_G} {cI cJ : ClassId} {ad : Nat → Nat} {u : tU} {v : tV} {A : Nat → Prop} (hD : zD A cI cJ ad) {uz : tU} {vz : tV} (h : pX9_copyFrom_B u v  = some (uz, vz)) : Met l yX9_copyFrom wsX9_copyFrom rmX9_copyFrom_B (va_Pc [.ref (ad 19), .ref (ad 48)] (xPre D cI cJ (wA cI cJ ad u v))) (xWv D cI cJ ad A uz vz) 0 0 A := by
  refine Met.ofW (cc := cX9_copyFrom) (maxL := 2) (ret := none) (by decide) rfl ?_
  intro p e s m args below meth c s₁ B hml hv
  obtain ⟨rfl, hP, hK⟩ := hv
  have hx := B.exec
  have hb := B.bytes
  have hr := B.returns
  have hts := atoms_spec (ws := wsX9_copyFrom) B.pre
  have hown : s.vm.findClass RX9 = some m.cls := findClass_of_methodNamed B.named
  have hlocks := B.notSynchronized
  have hS : va_S A s.heap s.heap [] := va_S.rf
  have hin9 : ∀ w ∈ u_ws RX9 TX9 5, w ∈ wsX9_copyFrom := fun _ h => List.mem_cons_of_mem _ (List.mem_append_right _ h)
  have hw1 := hts (.fieldLink RX9 24 "InstallDesk$Uses" "count" "I") (List.mem_of_getElem? (i := 1) rfl)
  have hw2 := hts (.fieldLink RX9 9 "InstallDesk$Uses" "persons" "[I") (List.mem_of_getElem? (i := 2) rfl)
  have hw3 := hts (.methodLink RX9 36 arraycopyName) (List.mem_of_getElem? (i := 3) rfl)
  have hw4 := hts (.native arraycopyName) (List.mem_of_getElem? (i := 4) rfl)
  have hw5 := hts (.static arraycopyName) (List.mem_of_getElem? (i := 5) rfl)
  have hw6 := hts (.initialized "java/lang/System") (List.mem_of_getElem? (i := 6) rfl)
  have hw7 := hts (.fieldLink RX9 15 "InstallDesk$Uses" "products" "[I") (List.mem_of_getElem? (i := 7) rfl)
  have hw8 := hts (.fieldLink RX9 18 "InstallDesk$Uses" "starts" "[I") (List.mem_of_getElem? (i := 8) rfl)
  have hw9 := hts (.fieldLink RX9 21 "InstallDesk$Uses" "ends" "[I") (List.mem_of_getElem? (i := 9) rfl)
  have hl := lv_entry ([.ref (ad 19), .ref (ad 48)]) (n := 2) (Nat.le_of_ble_eq_true rfl)
  rw [lg_entry_eq]
  generalize (lg_sl ([.ref (ad 19), .ref (ad 48)]) ++ List.replicate (2 - (lg_sl ([.ref (ad 19), .ref (ad 48)])).length) Slot.unset).toArray = ls at hl ⊢
  have hl : lv_has ls 2 [(0, .ref (ad 19)), (1, .ref (ad 48))] := hl
  rw [pX9_copyFrom_B] at h
  refine lv_aload_n hx hb dX9_copyFrom_0 rfl (lv_at hl 0 rfl) ?_
  refine lv_aload_n hx hb dX9_copyFrom_1 rfl (lv_at hl 1 rfl) ?_
  refine za_geti (k := 0) hx hb hts hin9 hown hK hP zF_48_0 rfl (Nat.le_of_ble_eq_true rfl) (Or.inl hw1) dX9_copyFrom_2 ?_
  refine za_puti (k := 0) hx hb hts hin9 tyX9 tyX9_ok nmX9 hown hK hP hD hS zF_19_0 rfl (Nat.le_of_ble_eq_true rfl) (Or.inl hw1) rfl rfl rfl dX9_copyFrom_5 (fun H locs hP hS => ?_)
  refine lv_aload_n hx hb dX9_copyFrom_8 rfl (lv_at hl 1 rfl) ?_
  refine za_getr (k := 1) hx hb hts hin9 hown hK hP zF_48_1 rfl (Nat.le_of_ble_eq_true rfl) (Or.inl hw2) dX9_copyFrom_9 ?_
  refine lv_iconst (v := (0 : Int32)) hx hb dX9_copyFrom_12 (by decide) ?_
  refine lv_aload_n hx hb dX9_copyFrom_13 rfl (lv_at hl 0 rfl) ?_
  refine za_getr (k := 1) hx hb hts hin9 hown hK hP zF_19_1 rfl (Nat.le_of_ble_eq_true rfl) (Or.inl hw2) dX9_copyFrom_14 ?_
  refine lv_iconst (v := (0 : Int32)) hx hb dX9_copyFrom_17 (by decide) ?_
  refine lv_bipush (v := (30 : Int32)) hx hb dX9_copyFrom_18 (by decide) ?_
  refine za_cpi0 (k' := 30) hx hb (by rw [hml]; exact hl.1.symm) hown hw3 hw4 hw5 hw6 hK hP hD hS zI_49 zI_20 (by decide) rfl (by decide) (by decide) (Nat.le_of_ble_eq_true rfl) (Nat.le_of_ble_eq_true rfl) dX9_copyFrom_20 (fun H locs hP hS => ?_)
  refine lv_aload_n hx hb dX9_copyFrom_23 rfl (lv_at hl 1 rfl) ?_
  refine za_getr (k := 2) hx hb hts hin9 hown hK hP zF_48_2 rfl (Nat.le_of_ble_eq_true rfl) (Or.inl hw7) dX9_copyFrom_24 ?_
  refine lv_iconst (v := (0 : Int32)) hx hb dX9_copyFrom_27 (by decide) ?_
  refine lv_aload_n hx hb dX9_copyFrom_28 rfl (lv_at hl 0 rfl) ?_
  refine za_getr (k := 2) hx hb hts hin9 hown hK hP zF_19_2 rfl (Nat.le_of_ble_eq_true rfl) (Or.inl hw7) dX9_copyFrom_29 ?_
  refine lv_iconst (v := (0 : Int32)) hx hb dX9_copyFrom_32 (by decide) ?_
  refine lv_bipush (v := (30 : Int32)) hx hb dX9_copyFrom_33 (by decide) ?_
  refine za_cpi0 (k' := 30) hx hb (by rw [hml]; exact hl.1.symm) hown hw3 hw4 hw5 hw6 hK hP hD hS zI_50 zI_21 (by decide) rfl (by decide) (by decide) (Nat.le_of_ble_eq_true rfl) (Nat.le_of_ble_eq_true rfl) dX9_copyFrom_35 (fun H locs hP hS => ?_)
  refine lv_aload_n hx hb dX9_copyFrom_38 rfl (lv_at hl 1 rfl) ?_
  refine za_getr (k := 3) hx hb hts hin9 hown hK hP zF_48_3 rfl (Nat.le_of_ble_eq_true rfl) (Or.inl hw8) dX9_copyFrom_39 ?_
  refine lv_iconst (v := (0 : Int32)) hx hb dX9_copyFrom_42 (by decide) ?_
  refine lv_aload_n hx hb dX9_copyFrom_43 rfl (lv_at hl 0 rfl) ?_
  refine za_getr (k := 3) hx hb hts hin9 hown hK hP zF_19_3 rfl (Nat.le_of_ble_eq_true rfl) (Or.inl hw8) dX9_copyFrom_44 ?_
  refine lv_iconst (v := (0 : Int32)) hx hb dX9_copyFrom_47 (by decide) ?_
  refine lv_bipush (v := (30 : Int32)) hx hb dX9_copyFrom_48 (by decide) ?_
  refine za_cpi0 (k' := 30) hx hb (by rw [hml]; exact hl.1.symm) hown hw3 hw4 hw5 hw6 hK hP hD hS zI_51 zI_22 (by decide) rfl (by decide) (by decide) (Nat.le_of_ble_eq_true rfl) (Nat.le_of_ble_eq_true rfl) dX9_copyFrom_50 (fun H locs hP hS => ?_)
  refine lv_aload_n hx hb dX9_copyFrom_53 rfl (lv_at hl 1 rfl) ?_
  refine za_getr (k := 4) hx hb hts hin9 hown hK hP zF_48_4 rfl (Nat.le_of_ble_eq_true rfl) (Or.inl hw9) dX9_copyFrom_54 ?_
  refine lv_iconst (v := (0 : Int32)) hx hb dX9_copyFrom_57 (by decide) ?_
  refine lv_aload_n hx hb dX9_copyFrom_58 rfl (lv_at hl 0 rfl) ?_
  refine za_getr (k := 4) hx hb hts hin9 hown hK hP zF_19_4 rfl (Nat.le_of_ble_eq_true rfl) (Or.inl hw9) dX9_copyFrom_59 ?_
  refine lv_iconst (v := (0 : Int32)) hx hb dX9_copyFrom_62 (by decide) ?_
  refine lv_bipush (v := (30 : Int32)) hx hb dX9_copyFrom_63 (by decide) ?_
  refine za_cpi0 (k' := 30) hx hb (by rw [hml]; exact hl.1.symm) hown hw3 hw4 hw5 hw6 hK hP hD hS zI_52 zI_23 (by decide) rfl (by decide) (by decide) (Nat.le_of_ble_eq_true rfl) (Nat.le_of_ble_eq_true rfl) dX9_copyFrom_65 (fun H locs hP hS => ?_)
  cases h
  exact W.vret hx hb hr (fun t ht _ => ⟨rfl, by rw [ht]; exact hP, hS.F ht⟩) hS.2.2 dX9_copyFrom_68
abbrev rmX7_copyFrom_B : Room := { frames := 1, cells := 0, slots := 0, locals := 18 }
set_option maxHeartbeats 4000000 in
set_option maxRecDepth 100000 in
theorem k_X7_copyFrom_B (l : Launch) {D : va_G} {cI cJ : ClassId} {ad : Nat → Nat} {u : tU} {v : tV} {A : Nat → Prop} (hD : zD A cI cJ ad) {uz : tU} {vz : tV} (h : pX7_copyFrom_B u v  = some (uz, vz)) : Met l yX7_copyFrom wsX7_copyFrom rmX7_copyFrom_B (va_Pc [.ref (ad 24), .ref (ad 53)] (xPre D cI cJ (wA cI cJ ad u v))) (xWv D cI cJ ad A uz vz) 0 0 A := by
  refine Met.ofW (cc := cX7_copyFrom) (maxL := 2) (ret := none) (by decide) rfl ?_
  intro p e s m args below meth c s₁ B hml hv
  obtain ⟨rfl, hP, hK⟩ := hv
  have hx := B.exec
  have hb := B.bytes
  have hr := B.returns
  have hts := atoms_spec (ws := wsX7_copyFrom) B.pre
  have hown : s.vm.findClass RX7 = some m.cls := findClass_of_methodNamed B.named
  have hlocks := B.notSynchronized
  have hS : va_S A s.heap s.heap [] := va_S.rf
  have hin7 : ∀ w ∈ u_ws RX7 TX7 7, w ∈ wsX7_copyFrom := fun _ h => List.mem_cons_of_mem _ (List.mem_append_right _ h)
  have hw1 := hts (.fieldLink RX7 30 "InstallDesk$Rights" "count" "I") (List.mem_of_getElem? (i := 1) rfl)
  have hw2 := hts (.fieldLink RX7 9 "InstallDesk$Rights" "products" "[I") (List.mem_of_getElem? (i := 2) rfl)
  have hw3 := hts (.methodLink RX7 38 arraycopyName) (List.mem_of_getElem? (i := 3) rfl)
  have hw4 := hts (.native arraycopyName) (List.mem_of_getElem? (i := 4) rfl)
  have hw5 := hts (.static arraycopyName) (List.mem_of_getElem? (i := 5) rfl)
  have hw6 := hts (.initialized "java/lang/System") (List.mem_of_getElem? (i := 6) rfl)
  have hw7 := hts (.fieldLink RX7 15 "InstallDesk$Rights" "versions" "[I") (List.mem_of_getElem? (i := 7) rfl)
  have hw8 := hts (.fieldLink RX7 18 "InstallDesk$Rights" "amounts" "[I") (List.mem_of_getElem? (i := 8) rfl)
  have hw9 := hts (.fieldLink RX7 21 "InstallDesk$Rights" "prices" "[I") (List.mem_of_getElem? (i := 9) rfl)
  have hw10 := hts (.fieldLink RX7 24 "InstallDesk$Rights" "firstDays" "[I") (List.mem_of_getElem? (i := 10) rfl)
  have hw11 := hts (.fieldLink RX7 27 "InstallDesk$Rights" "lastDays" "[I") (List.mem_of_getElem? (i := 11) rfl)
  have hl := lv_entry ([.ref (ad 24), .ref (ad 53)]) (n := 2) (Nat.le_of_ble_eq_true rfl)
  rw [lg_entry_eq]
  generalize (lg_sl ([.ref (ad 24), .ref (ad 53)]) ++ List.replicate (2 - (lg_sl ([.ref (ad 24), .ref (ad 53)])).length) Slot.unset).toArray = ls at hl ⊢
  have hl : lv_has ls 2 [(0, .ref (ad 24)), (1, .ref (ad 53))] := hl
  rw [pX7_copyFrom_B] at h
  refine lv_aload_n hx hb dX7_copyFrom_0 rfl (lv_at hl 0 rfl) ?_
  refine lv_aload_n hx hb dX7_copyFrom_1 rfl (lv_at hl 1 rfl) ?_
  refine za_geti (k := 0) hx hb hts hin7 hown hK hP zF_53_0 rfl (Nat.le_of_ble_eq_true rfl) (Or.inl hw1) dX7_copyFrom_2 ?_
  refine za_puti (k := 0) hx hb hts hin7 tyX7 tyX7_ok nmX7 hown hK hP hD hS zF_24_0 rfl (Nat.le_of_ble_eq_true rfl) (Or.inl hw1) rfl rfl rfl dX7_copyFrom_5 (fun H locs hP hS => ?_)
  refine lv_aload_n hx hb dX7_copyFrom_8 rfl (lv_at hl 1 rfl) ?_
  refine za_getr (k := 1) hx hb hts hin7 hown hK hP zF_53_1 rfl (Nat.le_of_ble_eq_true rfl) (Or.inl hw2) dX7_copyFrom_9 ?_
  refine lv_iconst (v := (0 : Int32)) hx hb dX7_copyFrom_12 (by decide) ?_
  refine lv_aload_n hx hb dX7_copyFrom_13 rfl (lv_at hl 0 rfl) ?_
  refine za_getr (k := 1) hx hb hts hin7 hown hK hP zF_24_1 rfl (Nat.le_of_ble_eq_true rfl) (Or.inl hw2) dX7_copyFrom_14 ?_
  refine lv_iconst (v := (0 : Int32)) hx hb dX7_copyFrom_17 (by decide) ?_
  refine lv_bipush (v := (10 : Int32)) hx hb dX7_copyFrom_18 (by decide) ?_
  refine za_cpi0 (k' := 10) hx hb (by rw [hml]; exact hl.1.symm) hown hw3 hw4 hw5 hw6 hK hP hD hS zI_54 zI_25 (by decide) rfl (by decide) (by decide) (Nat.le_of_ble_eq_true rfl) (Nat.le_of_ble_eq_true rfl) dX7_copyFrom_20 (fun H locs hP hS => ?_)
  refine lv_aload_n hx hb dX7_copyFrom_23 rfl (lv_at hl 1 rfl) ?_
  refine za_getr (k := 2) hx hb hts hin7 hown hK hP zF_53_2 rfl (Nat.le_of_ble_eq_true rfl) (Or.inl hw7) dX7_copyFrom_24 ?_
  refine lv_iconst (v := (0 : Int32)) hx hb dX7_copyFrom_27 (by decide) ?_
  refine lv_aload_n hx hb dX7_copyFrom_28 rfl (lv_at hl 0 rfl) ?_
  refine za_getr (k := 2) hx hb hts hin7 hown hK hP zF_24_2 rfl (Nat.le_of_ble_eq_true rfl) (Or.inl hw7) dX7_copyFrom_29 ?_
  refine lv_iconst (v := (0 : Int32)) hx hb dX7_copyFrom_32 (by decide) ?_
  refine lv_bipush (v := (10 : Int32)) hx hb dX7_copyFrom_33 (by decide) ?_
  refine za_cpi0 (k' := 10) hx hb (by rw [hml]; exact hl.1.symm) hown hw3 hw4 hw5 hw6 hK hP hD hS zI_55 zI_26 (by decide) rfl (by decide) (by decide) (Nat.le_of_ble_eq_true rfl) (Nat.le_of_ble_eq_true rfl) dX7_copyFrom_35 (fun H locs hP hS => ?_)
  refine lv_aload_n hx hb dX7_copyFrom_38 rfl (lv_at hl 1 rfl) ?_
  refine za_getr (k := 3) hx hb hts hin7 hown hK hP zF_53_3 rfl (Nat.le_of_ble_eq_true rfl) (Or.inl hw8) dX7_copyFrom_39 ?_
  refine lv_iconst (v := (0 : Int32)) hx hb dX7_copyFrom_42 (by decide) ?_
  refine lv_aload_n hx hb dX7_copyFrom_43 rfl (lv_at hl 0 rfl) ?_
  refine za_getr (k := 3) hx hb hts hin7 hown hK hP zF_24_3 rfl (Nat.le_of_ble_eq_true rfl) (Or.inl hw8) dX7_copyFrom_44 ?_
  refine lv_iconst (v := (0 : Int32)) hx hb dX7_copyFrom_47 (by decide) ?_
  refine lv_bipush (v := (10 : Int32)) hx hb dX7_copyFrom_48 (by decide) ?_
  refine za_cpi0 (k' := 10) hx hb (by rw [hml]; exact hl.1.symm) hown hw3 hw4 hw5 hw6 hK hP hD hS zI_56 zI_27 (by decide) rfl (by decide) (by decide) (Nat.le_of_ble_eq_true rfl) (Nat.le_of_ble_eq_true rfl) dX7_copyFrom_50 (fun H locs hP hS => ?_)
  refine lv_aload_n hx hb dX7_copyFrom_53 rfl (lv_at hl 1 rfl) ?_
  refine za_getr (k := 4) hx hb hts hin7 hown hK hP zF_53_4 rfl (Nat.le_of_ble_eq_true rfl) (Or.inl hw9) dX7_copyFrom_54 ?_
  refine lv_iconst (v := (0 : Int32)) hx hb dX7_copyFrom_57 (by decide) ?_
  refine lv_aload_n hx hb dX7_copyFrom_58 rfl (lv_at hl 0 rfl) ?_
  refine za_getr (k := 4) hx hb hts hin7 hown hK hP zF_24_4 rfl (Nat.le_of_ble_eq_true rfl) (Or.inl hw9) dX7_copyFrom_59 ?_
  refine lv_iconst (v := (0 : Int32)) hx hb dX7_copyFrom_62 (by decide) ?_
  refine lv_bipush (v := (10 : Int32)) hx hb dX7_copyFrom_63 (by decide) ?_
  refine za_cpi0 (k' := 10) hx hb (by rw [hml]; exact hl.1.symm) hown hw3 hw4 hw5 hw6 hK hP hD hS zI_57 zI_28 (by decide) rfl (by decide) (by decide) (Nat.le_of_ble_eq_true rfl) (Nat.le_of_ble_eq_true rfl) dX7_copyFrom_65 (fun H locs hP hS => ?_)
  refine lv_aload_n hx hb dX7_copyFrom_68 rfl (lv_at hl 1 rfl) ?_
  refine za_getr (k := 5) hx hb hts hin7 hown hK hP zF_53_5 rfl (Nat.le_of_ble_eq_true rfl) (Or.inl hw10) dX7_copyFrom_69 ?_
  refine lv_iconst (v := (0 : Int32)) hx hb dX7_copyFrom_72 (by decide) ?_
  refine lv_aload_n hx hb dX7_copyFrom_73 rfl (lv_at hl 0 rfl) ?_
  refine za_getr (k := 5) hx hb hts hin7 hown hK hP zF_24_5 rfl (Nat.le_of_ble_eq_true rfl) (Or.inl hw10) dX7_copyFrom_74 ?_
  refine lv_iconst (v := (0 : Int32)) hx hb dX7_copyFrom_77 (by decide) ?_
  refine lv_bipush (v := (10 : Int32)) hx hb dX7_copyFrom_78 (by decide) ?_
  refine za_cpi0 (k' := 10) hx hb (by rw [hml]; exact hl.1.symm) hown hw3 hw4 hw5 hw6 hK hP hD hS zI_58 zI_29 (by decide) rfl (by decide) (by decide) (Nat.le_of_ble_eq_true rfl) (Nat.le_of_ble_eq_true rfl) dX7_copyFrom_80 (fun H locs hP hS => ?_)
  refine lv_aload_n hx hb dX7_copyFrom_83 rfl (lv_at hl 1 rfl) ?_
  refine za_getr (k := 6) hx hb hts hin7 hown hK hP zF_53_6 rfl (Nat.le_of_ble_eq_true rfl) (Or.inl hw11) dX7_copyFrom_84 ?_
  refine lv_iconst (v := (0 : Int32)) hx hb dX7_copyFrom_87 (by decide) ?_
  refine lv_aload_n hx hb dX7_copyFrom_88 rfl (lv_at hl 0 rfl) ?_
  refine za_getr (k := 6) hx hb hts hin7 hown hK hP zF_24_6 rfl (Nat.le_of_ble_eq_true rfl) (Or.inl hw11) dX7_copyFrom_89 ?_
  refine lv_iconst (v := (0 : Int32)) hx hb dX7_copyFrom_92 (by decide) ?_
  refine lv_bipush (v := (10 : Int32)) hx hb dX7_copyFrom_93 (by decide) ?_
  refine za_cpi0 (k' := 10) hx hb (by rw [hml]; exact hl.1.symm) hown hw3 hw4 hw5 hw6 hK hP hD hS zI_59 zI_30 (by decide) rfl (by decide) (by decide) (Nat.le_of_ble_eq_true rfl) (Nat.le_of_ble_eq_true rfl) dX7_copyFrom_95 (fun H locs hP hS => ?_)
  cases h
  exact W.vret hx hb hr (fun t ht _ => ⟨rfl, by rw [ht]; exact hP, hS.F ht⟩) hS.2.2 dX7_copyFrom_98
abbrev rmX0_copyFrom_B : Room := { frames := 2, cells := 0, slots := 0, locals := 39 }
set_option maxHeartbeats 4000000 in
set_option maxRecDepth 100000 in
theorem k_X0_copyFrom_B (l : Launch) {D : va_G} {cI cJ : ClassId} {ad : Nat → Nat} {u : tU} {v : tV} {A : Nat → Prop} (hD : zD A cI cJ ad) {uz : tU} {vz : tV} (h : pX0_copyFrom_B u v  = some (uz, vz)) : Met l yX0_copyFrom wsX0_copyFrom rmX0_copyFrom_B (va_Pc [.ref (ad 2), .ref (ad 31)] (xPre D cI cJ (wA cI cJ ad u v))) (xWv D cI cJ ad A uz vz) 0 0 A := by
  refine Met.ofW (cc := cX0_copyFrom) (maxL := 2) (ret := none) (by decide) rfl ?_
  intro p e s m args below meth c s₁ B hml hv
  obtain ⟨rfl, hP, hK⟩ := hv
  have hx := B.exec
  have hb := B.bytes
  have hr := B.returns
  have hts := atoms_spec (ws := wsX0_copyFrom) B.pre
  have hown : s.vm.findClass RX0 = some m.cls := findClass_of_methodNamed B.named
  have hlocks := B.notSynchronized
  have hS : va_S A s.heap s.heap [] := va_S.rf
  have hin0 : ∀ w ∈ u_ws RX0 TX0 8, w ∈ wsX0_copyFrom := fun _ h => List.mem_cons_of_mem _ (List.mem_append_left _ (List.mem_append_left _ (List.mem_append_left _ (List.mem_append_left _ (List.mem_append_left _ (List.mem_append_left _ (List.mem_append_right _ h)))))))
  have hw1 := hts (.fieldLink RX0 12 "InstallDesk$Books" "products" "LInstallDesk$Products;") (List.mem_of_getElem? (i := 1) rfl)
  have hw2 := hts (.fieldLink RX0 21 "InstallDesk$Books" "rules" "LInstallDesk$Rules;") (List.mem_of_getElem? (i := 2) rfl)
  have hw3 := hts (.fieldLink RX0 28 "InstallDesk$Books" "hosts" "LInstallDesk$Hosts;") (List.mem_of_getElem? (i := 3) rfl)
  have hw4 := hts (.fieldLink RX0 35 "InstallDesk$Books" "finds" "LInstallDesk$Finds;") (List.mem_of_getElem? (i := 4) rfl)
  have hw5 := hts (.fieldLink RX0 42 "InstallDesk$Books" "uses" "LInstallDesk$Uses;") (List.mem_of_getElem? (i := 5) rfl)
  have hw6 := hts (.fieldLink RX0 49 "InstallDesk$Books" "rights" "LInstallDesk$Rights;") (List.mem_of_getElem? (i := 6) rfl)
  have hw7 := hts (.fieldLink RX0 88 "InstallDesk$Books" "dayNow" "I") (List.mem_of_getElem? (i := 7) rfl)
  have hw8 := hts (.fieldLink RX0 53 "InstallDesk$Books" "keptDays" "I") (List.mem_of_getElem? (i := 8) rfl)
  have hw9 := hts (.instanceMethod yX6_copyFrom) (List.mem_of_getElem? (i := 9) rfl)
  have hw10 := hts (.initialized RX6) (List.mem_of_getElem? (i := 10) rfl)
  have hw11 := hts (.selects RX6 yX6_copyFrom yX6_copyFrom) (List.mem_of_getElem? (i := 11) rfl)
  have hw21 := hts (.instanceMethod yX8_copyFrom) (List.mem_of_getElem? (i := 21) rfl)
  have hw22 := hts (.initialized RX8) (List.mem_of_getElem? (i := 22) rfl)
  have hw23 := hts (.selects RX8 yX8_copyFrom yX8_copyFrom) (List.mem_of_getElem? (i := 23) rfl)
  have hw30 := hts (.instanceMethod yX3_copyFrom) (List.mem_of_getElem? (i := 30) rfl)
  have hw31 := hts (.initialized RX3) (List.mem_of_getElem? (i := 31) rfl)
  have hw32 := hts (.selects RX3 yX3_copyFrom yX3_copyFrom) (List.mem_of_getElem? (i := 32) rfl)
  have hw38 := hts (.instanceMethod yX1_copyFrom) (List.mem_of_getElem? (i := 38) rfl)
  have hw39 := hts (.initialized RX1) (List.mem_of_getElem? (i := 39) rfl)
  have hw40 := hts (.selects RX1 yX1_copyFrom yX1_copyFrom) (List.mem_of_getElem? (i := 40) rfl)
  have hw48 := hts (.instanceMethod yX9_copyFrom) (List.mem_of_getElem? (i := 48) rfl)
  have hw49 := hts (.initialized RX9) (List.mem_of_getElem? (i := 49) rfl)
  have hw50 := hts (.selects RX9 yX9_copyFrom yX9_copyFrom) (List.mem_of_getElem? (i := 50) rfl)
  have hw58 := hts (.instanceMethod yX7_copyFrom) (List.mem_of_getElem? (i := 58) rfl)
  have hw59 := hts (.initialized RX7) (List.mem_of_getElem? (i := 59) rfl)
  have hw60 := hts (.selects RX7 yX7_copyFrom yX7_copyFrom) (List.mem_of_getElem? (i := 60) rfl)
  have hl := lv_entry ([.ref (ad 2), .ref (ad 31)]) (n := 2) (Nat.le_of_ble_eq_true rfl)
  rw [lg_entry_eq]
  generalize (lg_sl ([.ref (ad 2), .ref (ad 31)]) ++ List.replicate (2 - (lg_sl ([.ref (ad 2), .ref (ad 31)])).length) Slot.unset).toArray = ls at hl ⊢
  have hl : lv_has ls 2 [(0, .ref (ad 2)), (1, .ref (ad 31))] := hl
  rw [pX0_copyFrom_B] at h
  refine lv_aload_n hx hb dX0_copyFrom_0 rfl (lv_at hl 0 rfl) ?_
  refine za_getr (k := 0) hx hb hts hin0 hown hK hP zF_2_0 rfl (Nat.le_of_ble_eq_true rfl) (Or.inl hw1) dX0_copyFrom_1 ?_
  refine lv_aload_n hx hb dX0_copyFrom_4 rfl (lv_at hl 1 rfl) ?_
  refine za_getr (k := 0) hx hb hts hin0 hown hK hP zF_31_0 rfl (Nat.le_of_ble_eq_true rfl) (Or.inl hw1) dX0_copyFrom_5 ?_
  obtain ⟨⟨u2, v3⟩, hc1, h⟩ := vz_b h
  try dsimp only at h
  refine za_callWv (va_runVN (As := [.ref (ad 32)]) (rest := []) ⟨hx, hb, hml, hown, hts⟩ (k_X6_copyFrom_B l (D := D) (cI := cI) (cJ := cJ) (ad := ad) hD hc1) ⟨va_cnB 1 hts gX0_copyFrom_X6_copyFrom_n105 rfl rfl rfl (nw_686 hK.2) hw10 zd_X6_copyFrom ⟨Nat.le_of_ble_eq_true rfl, Nat.le_of_ble_eq_true rfl⟩, hw9, hw11⟩ (xPreV (ci := 6) hK hP rfl zO_3) rfl rfl hl.1 rfl (lv_room (Nat.le_of_ble_eq_true rfl)) dX0_copyFrom_8 ⟨Nat.zero_le _, Nat.zero_le _⟩) hS (fun H locs hP hS => ?_)
  refine lv_aload_n hx hb dX0_copyFrom_11 rfl (lv_at hl 0 rfl) ?_
  refine za_getr (k := 1) hx hb hts hin0 hown hK hP zF_2_1 rfl (Nat.le_of_ble_eq_true rfl) (Or.inl hw2) dX0_copyFrom_12 ?_
  refine lv_aload_n hx hb dX0_copyFrom_15 rfl (lv_at hl 1 rfl) ?_
  refine za_getr (k := 1) hx hb hts hin0 hown hK hP zF_31_1 rfl (Nat.le_of_ble_eq_true rfl) (Or.inl hw2) dX0_copyFrom_16 ?_
  obtain ⟨⟨u6, v7⟩, hc5, h⟩ := vz_b h
  try dsimp only at h
  refine za_callWv (va_runVN (As := [.ref (ad 36)]) (rest := []) ⟨hx, hb, hml, hown, hts⟩ (k_X8_copyFrom_B l (D := D) (cI := cI) (cJ := cJ) (ad := ad) hD hc5) ⟨va_cnB 1 hts gX0_copyFrom_X8_copyFrom_n109 rfl rfl rfl (nw_693 hK.2) hw22 zd_X8_copyFrom ⟨Nat.le_of_ble_eq_true rfl, Nat.le_of_ble_eq_true rfl⟩, hw21, hw23⟩ (xPreV (ci := 8) hK hP rfl zO_7) rfl rfl hl.1 rfl (lv_room (Nat.le_of_ble_eq_true rfl)) dX0_copyFrom_19 ⟨Nat.zero_le _, Nat.zero_le _⟩) hS (fun H locs hP hS => ?_)
  refine lv_aload_n hx hb dX0_copyFrom_22 rfl (lv_at hl 0 rfl) ?_
  refine za_getr (k := 2) hx hb hts hin0 hown hK hP zF_2_2 rfl (Nat.le_of_ble_eq_true rfl) (Or.inl hw3) dX0_copyFrom_23 ?_
  refine lv_aload_n hx hb dX0_copyFrom_26 rfl (lv_at hl 1 rfl) ?_
  refine za_getr (k := 2) hx hb hts hin0 hown hK hP zF_31_2 rfl (Nat.le_of_ble_eq_true rfl) (Or.inl hw3) dX0_copyFrom_27 ?_
  obtain ⟨⟨u10, v11⟩, hc9, h⟩ := vz_b h
  try dsimp only at h
  refine za_callWv (va_runVN (As := [.ref (ad 40)]) (rest := []) ⟨hx, hb, hml, hown, hts⟩ (k_X3_copyFrom_B l (D := D) (cI := cI) (cJ := cJ) (ad := ad) hD hc9) ⟨va_cnB 1 hts gX0_copyFrom_X3_copyFrom_n112 rfl rfl rfl (nw_698 hK.2) hw31 zd_X3_copyFrom ⟨Nat.le_of_ble_eq_true rfl, Nat.le_of_ble_eq_true rfl⟩, hw30, hw32⟩ (xPreV (ci := 3) hK hP rfl zO_11) rfl rfl hl.1 rfl (lv_room (Nat.le_of_ble_eq_true rfl)) dX0_copyFrom_30 ⟨Nat.zero_le _, Nat.zero_le _⟩) hS (fun H locs hP hS => ?_)
  refine lv_aload_n hx hb dX0_copyFrom_33 rfl (lv_at hl 0 rfl) ?_
  refine za_getr (k := 3) hx hb hts hin0 hown hK hP zF_2_3 rfl (Nat.le_of_ble_eq_true rfl) (Or.inl hw4) dX0_copyFrom_34 ?_
  refine lv_aload_n hx hb dX0_copyFrom_37 rfl (lv_at hl 1 rfl) ?_
  refine za_getr (k := 3) hx hb hts hin0 hown hK hP zF_31_3 rfl (Nat.le_of_ble_eq_true rfl) (Or.inl hw4) dX0_copyFrom_38 ?_
  obtain ⟨⟨u14, v15⟩, hc13, h⟩ := vz_b h
  try dsimp only at h
  refine za_callWv (va_runVN (As := [.ref (ad 43)]) (rest := []) ⟨hx, hb, hml, hown, hts⟩ (k_X1_copyFrom_B l (D := D) (cI := cI) (cJ := cJ) (ad := ad) hD hc13) ⟨va_cnB 1 hts gX0_copyFrom_X1_copyFrom_n115 rfl rfl rfl (nw_703 hK.2) hw39 zd_X1_copyFrom ⟨Nat.le_of_ble_eq_true rfl, Nat.le_of_ble_eq_true rfl⟩, hw38, hw40⟩ (xPreV (ci := 1) hK hP rfl zO_14) rfl rfl hl.1 rfl (lv_room (Nat.le_of_ble_eq_true rfl)) dX0_copyFrom_41 ⟨Nat.zero_le _, Nat.zero_le _⟩) hS (fun H locs hP hS => ?_)
  refine lv_aload_n hx hb dX0_copyFrom_44 rfl (lv_at hl 0 rfl) ?_
  refine za_getr (k := 4) hx hb hts hin0 hown hK hP zF_2_4 rfl (Nat.le_of_ble_eq_true rfl) (Or.inl hw5) dX0_copyFrom_45 ?_
  refine lv_aload_n hx hb dX0_copyFrom_48 rfl (lv_at hl 1 rfl) ?_
  refine za_getr (k := 4) hx hb hts hin0 hown hK hP zF_31_4 rfl (Nat.le_of_ble_eq_true rfl) (Or.inl hw5) dX0_copyFrom_49 ?_
  obtain ⟨⟨u18, v19⟩, hc17, h⟩ := vz_b h
  try dsimp only at h
  refine za_callWv (va_runVN (As := [.ref (ad 48)]) (rest := []) ⟨hx, hb, hml, hown, hts⟩ (k_X9_copyFrom_B l (D := D) (cI := cI) (cJ := cJ) (ad := ad) hD hc17) ⟨va_cnB 1 hts gX0_copyFrom_X9_copyFrom_n118 rfl rfl rfl (nw_708 hK.2) hw49 zd_X9_copyFrom ⟨Nat.le_of_ble_eq_true rfl, Nat.le_of_ble_eq_true rfl⟩, hw48, hw50⟩ (xPreV (ci := 9) hK hP rfl zO_19) rfl rfl hl.1 rfl (lv_room (Nat.le_of_ble_eq_true rfl)) dX0_copyFrom_52 ⟨Nat.zero_le _, Nat.zero_le _⟩) hS (fun H locs hP hS => ?_)
  refine lv_aload_n hx hb dX0_copyFrom_55 rfl (lv_at hl 0 rfl) ?_
  refine za_getr (k := 5) hx hb hts hin0 hown hK hP zF_2_5 rfl (Nat.le_of_ble_eq_true rfl) (Or.inl hw6) dX0_copyFrom_56 ?_
  refine lv_aload_n hx hb dX0_copyFrom_59 rfl (lv_at hl 1 rfl) ?_
  refine za_getr (k := 5) hx hb hts hin0 hown hK hP zF_31_5 rfl (Nat.le_of_ble_eq_true rfl) (Or.inl hw6) dX0_copyFrom_60 ?_
  obtain ⟨⟨u22, v23⟩, hc21, h⟩ := vz_b h
  try dsimp only at h
  refine za_callWv (va_runVN (As := [.ref (ad 53)]) (rest := []) ⟨hx, hb, hml, hown, hts⟩ (k_X7_copyFrom_B l (D := D) (cI := cI) (cJ := cJ) (ad := ad) hD hc21) ⟨va_cnB 1 hts gX0_copyFrom_X7_copyFrom_n121 rfl rfl rfl (nw_713 hK.2) hw59 zd_X7_copyFrom ⟨Nat.le_of_ble_eq_true rfl, Nat.le_of_ble_eq_true rfl⟩, hw58, hw60⟩ (xPreV (ci := 7) hK hP rfl zO_24) rfl rfl hl.1 rfl (lv_room (Nat.le_of_ble_eq_true rfl)) dX0_copyFrom_63 ⟨Nat.zero_le _, Nat.zero_le _⟩) hS (fun H locs hP hS => ?_)
  refine lv_aload_n hx hb dX0_copyFrom_66 rfl (lv_at hl 0 rfl) ?_
  refine lv_aload_n hx hb dX0_copyFrom_67 rfl (lv_at hl 1 rfl) ?_
  refine za_geti (k := 6) hx hb hts hin0 hown hK hP zF_31_6 rfl (Nat.le_of_ble_eq_true rfl) (Or.inl hw7) dX0_copyFrom_68 ?_
  refine za_puti (k := 6) hx hb hts hin0 tyX0 tyX0_ok nmX0 hown hK hP hD hS zF_2_6 rfl (Nat.le_of_ble_eq_true rfl) (Or.inl hw7) rfl rfl rfl dX0_copyFrom_71 (fun H locs hP hS => ?_)
  refine lv_aload_n hx hb dX0_copyFrom_74 rfl (lv_at hl 0 rfl) ?_
  refine lv_aload_n hx hb dX0_copyFrom_75 rfl (lv_at hl 1 rfl) ?_
  refine za_geti (k := 7) hx hb hts hin0 hown hK hP zF_31_7 rfl (Nat.le_of_ble_eq_true rfl) (Or.inl hw8) dX0_copyFrom_76 ?_
  refine za_puti (k := 7) hx hb hts hin0 tyX0 tyX0_ok nmX0 hown hK hP hD hS zF_2_7 rfl (Nat.le_of_ble_eq_true rfl) (Or.inl hw8) rfl rfl rfl dX0_copyFrom_79 (fun H locs hP hS => ?_)
  cases h
  exact W.vret hx hb hr (fun t ht _ => ⟨rfl, by rw [ht]; exact hP, hS.F ht⟩) hS.2.2 dX0_copyFrom_82
abbrev rmX10_back : Room := { frames := 3, cells := 0, slots := 0, locals := 60 }
set_option maxHeartbeats 4000000 in
set_option maxRecDepth 100000 in
theorem k_X10_back (l : Launch) {D : va_G} {cI cJ : ClassId} {ad : Nat → Nat} {u : tU} {v : tV} {A : Nat → Prop} (hD : zD A cI cJ ad) {r : Int32} {uz : tU} {vz : tV} (h : pX10_back u v  = some (r, uz, vz)) : Met l yX10_back wsX10_back rmX10_back (va_Pc [.ref (ad 0)] (xPre D cI cJ (wA cI cJ ad u v))) (xWi D cI cJ ad A r uz vz) 0 0 A := by
  refine Met.ofW (cc := cX10_back) (maxL := 1) (ret := (some .int)) (by decide) rfl ?_
  intro p e s m args below meth c s₁ B hml hv
  obtain ⟨rfl, hP, hK⟩ := hv
  have hx := B.exec
  have hb := B.bytes
  have hr := B.returns
  have hts := atoms_spec (ws := wsX10_back) B.pre
  have hown : s.vm.findClass RX10 = some m.cls := findClass_of_methodNamed B.named
  have hlocks := B.notSynchronized
  have hS : va_S A s.heap s.heap [] := va_S.rf
  have hin0 : ∀ w ∈ u_ws RX0 TX0 8, w ∈ wsX10_back := fun _ h => List.mem_cons_of_mem _ (List.mem_append_left _ (List.mem_append_left _ (List.mem_append_left _ (List.mem_append_left _ (List.mem_append_left _ (List.mem_append_left _ (List.mem_append_right _ h)))))))
  have hin1 : ∀ w ∈ u_ws RX1 TX1 5, w ∈ wsX10_back := fun _ h => List.mem_cons_of_mem _ (List.mem_append_left _ (List.mem_append_left _ (List.mem_append_left _ (List.mem_append_left _ (List.mem_append_left _ (List.mem_append_right _ h))))))
  have hin10 : ∀ w ∈ u_ws RX10 TX10 7, w ∈ wsX10_back := fun _ h => List.mem_cons_of_mem _ (List.mem_append_left _ (List.mem_append_left _ (List.mem_append_left _ (List.mem_append_left _ (List.mem_append_left _ (List.mem_append_left _ (List.mem_append_left _ (List.mem_append_right _ h))))))))
  have hw1 := hts (.fieldLink RX10 244 "InstallDesk" "anySaved" "Z") (List.mem_of_getElem? (i := 1) rfl)
  have hw2 := hts (.fieldLink RX10 19 "InstallDesk" "books" "LInstallDesk$Books;") (List.mem_of_getElem? (i := 2) rfl)
  have hw3 := hts (.fieldLink RX10 23 "InstallDesk" "saved" "LInstallDesk$Books;") (List.mem_of_getElem? (i := 3) rfl)
  have hw10 := hts (.instanceMethod yX0_copyFrom) (List.mem_of_getElem? (i := 10) rfl)
  have hw11 := hts (.initialized RX0) (List.mem_of_getElem? (i := 11) rfl)
  have hw12 := hts (.selects RX0 yX0_copyFrom yX0_copyFrom) (List.mem_of_getElem? (i := 12) rfl)
  have hl := lv_entry ([.ref (ad 0)]) (n := 1) (Nat.le_of_ble_eq_true rfl)
  rw [lg_entry_eq]
  generalize (lg_sl ([.ref (ad 0)]) ++ List.replicate (1 - (lg_sl ([.ref (ad 0)])).length) Slot.unset).toArray = ls at hl ⊢
  have hl : lv_has ls 1 [(0, .ref (ad 0))] := hl
  rw [pX10_back] at h
  refine lv_aload_n hx hb dX10_back_0 rfl (lv_at hl 0 rfl) ?_
  refine za_geti (k := 5) hx hb hts hin10 hown hK hP zF_0_5 rfl (Nat.le_of_ble_eq_true rfl) (Or.inl hw1) dX10_back_1 ?_
  refine lv_if_ne (tgt := 14) hx hb dX10_back_4 (by decide) (fun c1 => ?_) (fun c1 => ?_)
  · have h := vz_f c1 h
    refine lv_aload_n hx hb dX10_back_14 rfl (lv_at hl 0 rfl) ?_
    refine za_getr (k := 1) hx hb hts hin10 hown hK hP zF_0_1 rfl (Nat.le_of_ble_eq_true rfl) (Or.inl hw2) dX10_back_15 ?_
    refine lv_aload_n hx hb dX10_back_18 rfl (lv_at hl 0 rfl) ?_
    refine za_getr (k := 2) hx hb hts hin10 hown hK hP zF_0_2 rfl (Nat.le_of_ble_eq_true rfl) (Or.inl hw3) dX10_back_19 ?_
    obtain ⟨⟨u3, v4⟩, hc2, h⟩ := vz_b h
    try dsimp only at h
    refine za_callWv (va_runVN (As := [.ref (ad 31)]) (rest := []) ⟨hx, hb, hml, hown, hts⟩ (k_X0_copyFrom_B l (D := D) (cI := cI) (cJ := cJ) (ad := ad) hD hc2) ⟨va_cnB 1 hts gX10_back_X0_copyFrom_n241 rfl rfl rfl (nw_682 hK.2) hw11 zd_X0_copyFrom ⟨Nat.le_of_ble_eq_true rfl, Nat.le_of_ble_eq_true rfl⟩, hw10, hw12⟩ (xPreV (ci := 0) hK hP rfl zO_2) rfl rfl hl.1 rfl (lv_room (Nat.le_of_ble_eq_true rfl)) dX10_back_22 ⟨Nat.zero_le _, Nat.zero_le _⟩) hS (fun H locs hP hS => ?_)
    refine lv_aload_n hx hb dX10_back_25 rfl (lv_at hl 0 rfl) ?_
    refine za_getr (k := 1) hx hb hts hin10 hown hK hP zF_0_1 rfl (Nat.le_of_ble_eq_true rfl) (Or.inl hw2) dX10_back_26 ?_
    refine za_getr (k := 3) hx hb hts hin0 hown hK hP zF_2_3 rfl (Nat.le_of_ble_eq_true rfl) (nw_221 hK.2) dX10_back_29 ?_
    refine za_geti (k := 0) hx hb hts hin1 hown hK hP zF_14_0 rfl (Nat.le_of_ble_eq_true rfl) (nw_127 hK.2) dX10_back_32 ?_
    cases h
    exact W.iret hx hb hr (fun t ht _ => ⟨rfl, by rw [ht]; exact hP, hS.F ht⟩) hS.2.2 dX10_back_35
  · have h := vz_t c1 h
    refine lv_aload_n hx hb dX10_back_7 rfl (lv_at hl 0 rfl) ?_
    refine lv_bipush (v := (-2 : Int32)) hx hb dX10_back_8 (by decide) ?_
    obtain ⟨⟨r10, u7, v8⟩, hc6, h⟩ := vz_b h
    try dsimp only at h
    refine za_callWi (va_runV (As := [.int (-2 : Int32)]) (rest := []) ⟨hx, hb, hml, hown, hts⟩ (k_X10_finding l (D := D) (cI := cI) (cJ := cJ) (ad := ad) hD hc6) (cwV 1 hts gX10_back_X10_finding rfl rfl rfl ⟨rfl, zd_X10_finding⟩ ⟨Nat.le_of_ble_eq_true rfl, Nat.le_of_ble_eq_true rfl⟩) (xPreV (ci := 10) hK hP rfl zO_0) rfl rfl hl.1 rfl (lv_room (Nat.le_of_ble_eq_true rfl)) dX10_back_10 ⟨Nat.zero_le _, Nat.zero_le _⟩) hS (fun H locs hP hS => ?_)
    cases h
    exact W.iret hx hb hr (fun t ht _ => ⟨rfl, by rw [ht]; exact hP, hS.F ht⟩) hS.2.2 dX10_back_13
abbrev rmX1_isOne : Room := { frames := 0, cells := 0, slots := 0, locals := 0 }
set_option maxHeartbeats 4000000 in
set_option maxRecDepth 100000 in
theorem k_X1_isOne (l : Launch) {D : va_G} {cI cJ : ClassId} {ad : Nat → Nat} {u : tU} {v : tV} {a1 : Int32}  {r : Int32}  (h : pX1_isOne u v a1 = some r) : Met l yX1_isOne wsX1_isOne rmX1_isOne (va_Pc [.ref (ad 14), .int a1] (xPre D cI cJ (wA cI cJ ad u v))) (QcRead r) 0 0 (fun _ => False) := by
  refine Met.ofW (cc := cX1_isOne) (maxL := 2) (ret := (some .boolean)) (by decide) rfl ?_
  intro p e s m args below meth c s₁ B hml hv
  obtain ⟨rfl, hP, hK⟩ := hv
  have hx := B.exec
  have hb := B.bytes
  have hr := B.returns
  have hts := atoms_spec (ws := wsX1_isOne) B.pre
  have hown : s.vm.findClass RX1 = some m.cls := findClass_of_methodNamed B.named
  have hlocks := B.notSynchronized
  have hin1 : ∀ w ∈ u_ws RX1 TX1 5, w ∈ wsX1_isOne := fun _ h => List.mem_cons_of_mem _ (List.mem_append_right _ h)
  have hw1 := hts (.fieldLink RX1 25 "InstallDesk$Finds" "count" "I") (List.mem_of_getElem? (i := 1) rfl)
  have hl := lv_entry ([.ref (ad 14), .int a1]) (n := 2) (Nat.le_of_ble_eq_true rfl)
  rw [lg_entry_eq]
  generalize (lg_sl ([.ref (ad 14), .int a1]) ++ List.replicate (2 - (lg_sl ([.ref (ad 14), .int a1])).length) Slot.unset).toArray = ls at hl ⊢
  have hl : lv_has ls 2 [(0, .ref (ad 14)), (1, .int a1)] := hl
  rw [pX1_isOne] at h
  refine lv_iload_n hx hb dX1_isOne_0 rfl (lv_at hl 1 rfl) ?_
  refine lv_if_lt (tgt := 16) hx hb dX1_isOne_1 (by decide) (fun c1 => ?_) (fun c1 => ?_)
  · have h := vz_t c1 h
    refine lv_iconst (v := (0 : Int32)) hx hb dX1_isOne_16 (by decide) ?_
    cases h
    exact W.zret hx hb hr nb0 (fun t ht _ => ⟨rfl, ht⟩) (fun q hq => absurd hq List.not_mem_nil) dX1_isOne_17
  · have h := vz_f c1 h
    refine lv_iload_n hx hb dX1_isOne_4 rfl (lv_at hl 1 rfl) ?_
    refine lv_aload_n hx hb dX1_isOne_5 rfl (lv_at hl 0 rfl) ?_
    refine za_geti (k := 0) hx hb hts hin1 hown hK hP zF_14_0 rfl (Nat.le_of_ble_eq_true rfl) (Or.inl hw1) dX1_isOne_6 ?_
    refine lv_icmp_ge (tgt := 16) hx hb dX1_isOne_9 (by decide) (fun c2 => ?_) (fun c2 => ?_)
    · have h := vz_t c2 h
      refine lv_iconst (v := (0 : Int32)) hx hb dX1_isOne_16 (by decide) ?_
      cases h
      exact W.zret hx hb hr nb0 (fun t ht _ => ⟨rfl, ht⟩) (fun q hq => absurd hq List.not_mem_nil) dX1_isOne_17
    · have h := vz_f c2 h
      refine lv_iconst (v := (1 : Int32)) hx hb dX1_isOne_12 (by decide) ?_
      refine lv_goto (tgt := 17) hx hb dX1_isOne_13 (by decide) ?_
      cases h
      exact W.zret hx hb hr nb1 (fun t ht _ => ⟨rfl, ht⟩) (fun q hq => absurd hq List.not_mem_nil) dX1_isOne_17
abbrev rmX10_by : Room := { frames := 3, cells := 0, slots := 0, locals := 75 }
set_option maxHeartbeats 4000000 in
set_option maxRecDepth 100000 in
theorem k_X10_by (l : Launch) {D : va_G} {cI cJ : ClassId} {ad : Nat → Nat} {u : tU} {v : tV} {A : Nat → Prop} (hD : zD A cI cJ ad) {a1 : Int32}  {r : Int32} {uz : tU} {vz : tV} (h : pX10_by u v a1 = some (r, uz, vz)) : Met l yX10_by wsX10_by rmX10_by (va_Pc [.ref (ad 0), .int a1] (xPre D cI cJ (wA cI cJ ad u v))) (xWi D cI cJ ad A r uz vz) 0 0 A := by
  refine Met.ofW (cc := cX10_by) (maxL := 3) (ret := (some .int)) (by decide) rfl ?_
  intro p e s m args below meth c s₁ B hml hv
  obtain ⟨rfl, hP, hK⟩ := hv
  have hx := B.exec
  have hb := B.bytes
  have hr := B.returns
  have hts := atoms_spec (ws := wsX10_by) B.pre
  have hown : s.vm.findClass RX10 = some m.cls := findClass_of_methodNamed B.named
  have hlocks := B.notSynchronized
  have hS : va_S A s.heap s.heap [] := va_S.rf
  have hin0 : ∀ w ∈ u_ws RX0 TX0 8, w ∈ wsX10_by := fun _ h => List.mem_cons_of_mem _ (List.mem_append_left _ (List.mem_append_left _ (List.mem_append_right _ h)))
  have hin10 : ∀ w ∈ u_ws RX10 TX10 7, w ∈ wsX10_by := fun _ h => List.mem_cons_of_mem _ (List.mem_append_left _ (List.mem_append_left _ (List.mem_append_left _ (List.mem_append_right _ h))))
  have hw1 := hts (.fieldLink RX10 19 "InstallDesk" "books" "LInstallDesk$Books;") (List.mem_of_getElem? (i := 1) rfl)
  have hw2 := hts (.instanceMethod yX1_isOne) (List.mem_of_getElem? (i := 2) rfl)
  have hw3 := hts (.initialized RX1) (List.mem_of_getElem? (i := 3) rfl)
  have hw4 := hts (.selects RX1 yX1_isOne yX1_isOne) (List.mem_of_getElem? (i := 4) rfl)
  have hw13 := hts (.instanceMethod yX0_firstRuleOf) (List.mem_of_getElem? (i := 13) rfl)
  have hw14 := hts (.initialized RX0) (List.mem_of_getElem? (i := 14) rfl)
  have hw15 := hts (.selects RX0 yX0_firstRuleOf yX0_firstRuleOf) (List.mem_of_getElem? (i := 15) rfl)
  have hl := lv_entry ([.ref (ad 0), .int a1]) (n := 3) (Nat.le_of_ble_eq_true rfl)
  rw [lg_entry_eq]
  generalize (lg_sl ([.ref (ad 0), .int a1]) ++ List.replicate (3 - (lg_sl ([.ref (ad 0), .int a1])).length) Slot.unset).toArray = ls at hl ⊢
  have hl : lv_has ls 3 [(0, .ref (ad 0)), (1, .int a1)] := hl
  rw [pX10_by] at h
  refine lv_aload_n hx hb dX10_by_0 rfl (lv_at hl 0 rfl) ?_
  refine za_getr (k := 1) hx hb hts hin10 hown hK hP zF_0_1 rfl (Nat.le_of_ble_eq_true rfl) (Or.inl hw1) dX10_by_1 ?_
  refine za_getr (k := 3) hx hb hts hin0 hown hK hP zF_2_3 rfl (Nat.le_of_ble_eq_true rfl) (nw_221 hK.2) dX10_by_4 ?_
  refine lv_iload_n hx hb dX10_by_7 rfl (lv_at hl 1 rfl) ?_
  obtain ⟨r2, hc1, h⟩ := vz_b h
  refine za_callR (va_runVN (As := [.int a1]) (rest := []) ⟨hx, hb, hml, hown, hts⟩ (k_X1_isOne l (D := D) (cI := cI) (cJ := cJ) (ad := ad) hc1) ⟨va_cnB 1 hts gX10_by_X1_isOne_n107 rfl rfl rfl (nw_370 hK.2) hw3 zd_X1_isOne ⟨Nat.le_of_ble_eq_true rfl, Nat.le_of_ble_eq_true rfl⟩, hw2, hw4⟩ (xPreV (ci := 1) hK hP rfl zO_14) rfl rfl hl.1 rfl (lv_room (Nat.le_of_ble_eq_true rfl)) dX10_by_8 ⟨Nat.zero_le _, Nat.zero_le _⟩) ?_
  refine lv_if_ne (tgt := 20) hx hb dX10_by_11 (by decide) (fun c3 => ?_) (fun c3 => ?_)
  · have h := vz_f c3 h
    refine lv_aload_n hx hb dX10_by_20 rfl (lv_at hl 0 rfl) ?_
    refine za_getr (k := 1) hx hb hts hin10 hown hK hP zF_0_1 rfl (Nat.le_of_ble_eq_true rfl) (Or.inl hw1) dX10_by_21 ?_
    refine lv_iload_n hx hb dX10_by_24 rfl (lv_at hl 1 rfl) ?_
    obtain ⟨r5, hc4, h⟩ := vz_b h
    refine za_callR (va_runVN (As := [.int a1]) (rest := []) ⟨hx, hb, hml, hown, hts⟩ (k_X0_firstRuleOf l (D := D) (cI := cI) (cJ := cJ) (ad := ad) hc4) ⟨va_cnB 1 hts gX10_by_X0_firstRuleOf_n143 rfl rfl rfl (nw_430 hK.2) hw14 zd_X0_firstRuleOf ⟨Nat.le_of_ble_eq_true rfl, Nat.le_of_ble_eq_true rfl⟩, hw13, hw15⟩ (xPreV (ci := 0) hK hP rfl zO_2) rfl rfl hl.1 rfl (lv_room (Nat.le_of_ble_eq_true rfl)) dX10_by_25 ⟨Nat.zero_le _, Nat.zero_le _⟩) ?_
    refine lv_istore_n (lv' := [(2, .int r5), (0, .ref (ad 0)), (1, .int a1)]) hx hb dX10_by_28 rfl hl (by decide) rfl (fun ls hl => ?_)
    refine lv_iload_n hx hb dX10_by_29 rfl (lv_at hl 0 rfl) ?_
    refine lv_if_ge (tgt := 41) hx hb dX10_by_30 (by decide) (fun c6 => ?_) (fun c6 => ?_)
    · have h := vz_t c6 h
      refine lv_iload_n hx hb dX10_by_41 rfl (lv_at hl 0 rfl) ?_
      cases h
      exact W.iret hx hb hr (fun t ht _ => ⟨rfl, by rw [ht]; exact hP, hS.F ht⟩) hS.2.2 dX10_by_42
    · have h := vz_f c6 h
      refine lv_aload_n hx hb dX10_by_33 rfl (lv_at hl 1 rfl) ?_
      refine lv_iload_n hx hb dX10_by_34 rfl (lv_at hl 0 rfl) ?_
      obtain ⟨⟨r11, u8, v9⟩, hc7, h⟩ := vz_b h
      try dsimp only at h
      refine za_callWi (va_runV (As := [.int r5]) (rest := []) ⟨hx, hb, hml, hown, hts⟩ (k_X10_finding l (D := D) (cI := cI) (cJ := cJ) (ad := ad) hD hc7) (cwV 1 hts gX10_by_X10_finding rfl rfl rfl ⟨rfl, zd_X10_finding⟩ ⟨Nat.le_of_ble_eq_true rfl, Nat.le_of_ble_eq_true rfl⟩) (xPreV (ci := 10) hK hP rfl zO_0) rfl rfl hl.1 rfl (lv_room (Nat.le_of_ble_eq_true rfl)) dX10_by_35 ⟨Nat.zero_le _, Nat.zero_le _⟩) hS (fun H locs hP hS => ?_)
      refine lv_goto (tgt := 42) hx hb dX10_by_38 (by decide) ?_
      cases h
      exact W.iret hx hb hr (fun t ht _ => ⟨rfl, by rw [ht]; exact hP, hS.F ht⟩) hS.2.2 dX10_by_42
  · have h := vz_t c3 h
    refine lv_aload_n hx hb dX10_by_14 rfl (lv_at hl 0 rfl) ?_
    refine lv_iconst (v := (-1 : Int32)) hx hb dX10_by_15 (by decide) ?_
    obtain ⟨⟨r16, u13, v14⟩, hc12, h⟩ := vz_b h
    try dsimp only at h
    refine za_callWi (va_runV (As := [.int (-1 : Int32)]) (rest := []) ⟨hx, hb, hml, hown, hts⟩ (k_X10_finding l (D := D) (cI := cI) (cJ := cJ) (ad := ad) hD hc12) (cwV 1 hts gX10_by_X10_finding rfl rfl rfl ⟨rfl, zd_X10_finding⟩ ⟨Nat.le_of_ble_eq_true rfl, Nat.le_of_ble_eq_true rfl⟩) (xPreV (ci := 10) hK hP rfl zO_0) rfl rfl hl.1 rfl (lv_room (Nat.le_of_ble_eq_true rfl)) dX10_by_16 ⟨Nat.zero_le _, Nat.zero_le _⟩) hS (fun H locs hP hS => ?_)
    cases h
    exact W.iret hx hb hr (fun t ht _ => ⟨rfl, by rw [ht]; exact hP, hS.F ht⟩) hS.2.2 dX10_by_19
abbrev rmX5_begin : Room := { frames := 1, cells := 0, slots := 0, locals := 22 }
set_option maxHeartbeats 4000000 in
set_option maxRecDepth 100000 in
theorem k_X5_begin (l : Launch) {D : va_G} {cI cJ : ClassId} {ad : Nat → Nat} {u : tU} {v : tV} {A : Nat → Prop} (hD : zD A cI cJ ad) {a2 : Int32}  {uz : tU} {vz : tV} (h : pX5_begin u v a2 = some (uz, vz)) : Met l yX5_begin wsX5_begin rmX5_begin (va_Pc [.ref (ad 62), .ref (ad 24), .int a2] (xPre D cI cJ (wA cI cJ ad u v))) (xWv D cI cJ ad A uz vz) 0 0 A := by
  refine Met.ofW (cc := cX5_begin) (maxL := 5) (ret := none) (by decide) rfl ?_
  intro p e s m args below meth c s₁ B hml hv
  obtain ⟨rfl, hP, hK⟩ := hv
  have hx := B.exec
  have hb := B.bytes
  have hr := B.returns
  have hts := atoms_spec (ws := wsX5_begin) B.pre
  have hown : s.vm.findClass RX5 = some m.cls := findClass_of_methodNamed B.named
  have hlocks := B.notSynchronized
  have hS : va_S A s.heap s.heap [] := va_S.rf
  have hin5 : ∀ w ∈ u_ws RX5 TX5 3, w ∈ wsX5_begin := fun _ h => List.mem_cons_of_mem _ (List.mem_append_left _ (List.mem_append_right _ h))
  have hin7 : ∀ w ∈ u_ws RX7 TX7 7, w ∈ wsX5_begin := fun _ h => List.mem_cons_of_mem _ (List.mem_append_right _ h)
  have hw1 := hts (.fieldLink RX5 15 "InstallDesk$Match" "lacking" "I") (List.mem_of_getElem? (i := 1) rfl)
  have hw2 := hts (.fieldLink RX5 19 "InstallDesk$Match" "paid" "I") (List.mem_of_getElem? (i := 2) rfl)
  have hw3 := hts (.fieldLink RX5 9 "InstallDesk$Match" "left" "[I") (List.mem_of_getElem? (i := 3) rfl)
  have hw4 := hts (.static yX10_isWithin) (List.mem_of_getElem? (i := 4) rfl)
  have hw5 := hts (.initialized RX10) (List.mem_of_getElem? (i := 5) rfl)
  have hl := lv_entry ([.ref (ad 62), .ref (ad 24), .int a2]) (n := 5) (Nat.le_of_ble_eq_true rfl)
  rw [lg_entry_eq]
  generalize (lg_sl ([.ref (ad 62), .ref (ad 24), .int a2]) ++ List.replicate (5 - (lg_sl ([.ref (ad 62), .ref (ad 24), .int a2])).length) Slot.unset).toArray = ls at hl ⊢
  have hl : lv_has ls 5 [(0, .ref (ad 62)), (1, .ref (ad 24)), (2, .int a2)] := hl
  have L12 : ∀ (x2 : Int32) (n : Nat) (x3 : Int32) (u : tU) (v : tV) (H : Heap) (locs : List Loc) (ls : Array Slot) (o : tU × tV), pX5_begin_L12 x2 n x3 u v = some o → va_P D vwCl (wA cI cJ ad u v) H → va_S A s.heap H locs → lv_has ls 5 [(0, .ref (ad 62)), (1, .ref (ad 24)), (2, .int x2), (3, .int x3)] → (∀ (u' : tU) (v' : tV) (H : Heap) (locs : List Loc) (ls : Array Slot), o = (u', v') → va_P D vwCl (wA cI cJ ad u' v') H → va_S A s.heap H locs → lv_has ls 5 [] → W p l e (headSpec wsX5_begin rmX5_begin).room s m [Value.ref (ad 62), Value.ref (ad 24), Value.int a2].toArray below meth c H locs 0 0 (MQ below (xWv D cI cJ ad A uz vz) [Value.ref (ad 62), Value.ref (ad 24), Value.int a2].toArray s 0 0 A) (F0 m 65 ls [])) → W p l e (headSpec wsX5_begin rmX5_begin).room s m [Value.ref (ad 62), Value.ref (ad 24), Value.int a2].toArray below meth c H locs 0 0 (MQ below (xWv D cI cJ ad A uz vz) [Value.ref (ad 62), Value.ref (ad 24), Value.int a2].toArray s 0 0 A) (F0 m 12 ls []) := by
    intro x2 n
    induction n with
    | zero => intro x3 u v H locs ls o h; cases h
    | succ n ih =>
      intro x3 u v H locs ls o h hP hS hl hk
      rw [pX5_begin_L12] at h
      refine lv_iload_n hx hb dX5_begin_12 rfl (lv_at hl 3 rfl) ?_
      refine lv_aload_n hx hb dX5_begin_13 rfl (lv_at hl 1 rfl) ?_
      refine za_geti (k := 0) hx hb hts hin7 hown hK hP zF_24_0 rfl (Nat.le_of_ble_eq_true rfl) (nw_177 hK.2) dX5_begin_14 ?_
      refine lv_icmp_ge (tgt := 65) hx hb dX5_begin_17 (by decide) (fun c1 => ?_) (fun c1 => ?_)
      · have h := vz_t c1 h
        cases h
        exact hk u v _ _ ls rfl hP hS (lv_sub hl [] rfl)
      · have h := vz_f c1 h
        refine lv_iload_n hx hb dX5_begin_20 rfl (lv_at hl 2 rfl) ?_
        refine lv_aload_n hx hb dX5_begin_21 rfl (lv_at hl 1 rfl) ?_
        refine za_getr (k := 5) hx hb hts hin7 hown hK hP zF_24_5 rfl (Nat.le_of_ble_eq_true rfl) (nw_190 hK.2) dX5_begin_22 ?_
        refine lv_iload_n hx hb dX5_begin_25 rfl (lv_at hl 3 rfl) ?_
        obtain ⟨g2, h⟩ := gd_s h
        refine za_ild hx hb hK hP zI_29 g2 dX5_begin_26 ?_
        refine lv_aload_n hx hb dX5_begin_27 rfl (lv_at hl 1 rfl) ?_
        refine za_getr (k := 6) hx hb hts hin7 hown hK hP zF_24_6 rfl (Nat.le_of_ble_eq_true rfl) (nw_192 hK.2) dX5_begin_28 ?_
        refine lv_iload_n hx hb dX5_begin_31 rfl (lv_at hl 3 rfl) ?_
        obtain ⟨g3, h⟩ := gd_s h
        refine za_ild hx hb hK hP zI_30 g3 dX5_begin_32 ?_
        obtain ⟨r5, hc4, h⟩ := vz_b h
        refine za_callR (va_runSN (As := [.int x2, .int (u 29 x3.toNatClampNeg), .int (u 30 x3.toNatClampNeg)]) (rest := []) ⟨hx, hb, hml, hown, hts⟩ (k_X10_isWithin l hc4) ⟨va_cnB 3 hts gX5_begin_X10_isWithin_n33 rfl rfl rfl (nw_626 hK.2) hw5 zd_X10_isWithin ⟨Nat.le_of_ble_eq_true rfl, Nat.le_of_ble_eq_true rfl⟩, hw4, trivial⟩ xPre0 rfl rfl hl.1 rfl (lv_room (Nat.le_of_ble_eq_true rfl)) dX5_begin_33 ⟨Nat.zero_le _, Nat.zero_le _⟩) ?_
        refine lv_istore (lv' := [(4, .int r5), (0, .ref (ad 62)), (1, .ref (ad 24)), (2, .int x2), (3, .int x3)]) hx hb dX5_begin_36 hl (by decide) rfl (fun ls hl => ?_)
        refine lv_aload_n hx hb dX5_begin_38 rfl (lv_at hl 1 rfl) ?_
        refine za_getr (k := 0) hx hb hts hin5 hown hK hP zF_62_0 rfl (Nat.le_of_ble_eq_true rfl) (Or.inl hw3) dX5_begin_39 ?_
        refine lv_iload_n hx hb dX5_begin_42 rfl (lv_at hl 4 rfl) ?_
        refine lv_iload hx hb dX5_begin_43 (lv_at hl 0 rfl) ?_
        refine lv_if_eq (tgt := 57) hx hb dX5_begin_45 (by decide) (fun c6 => ?_) (fun c6 => ?_)
        · have h := vz_t c6 h
          refine lv_iconst (v := (0 : Int32)) hx hb dX5_begin_57 (by decide) ?_
          obtain ⟨g7, h⟩ := gd_s h
          refine za_ist hx hb hK hP hD hS zI_63 g7 dX5_begin_58 (fun H locs hP hS => ?_)
          refine lv_iinc (v := (x3 + 1)) (lv' := [(3, .int (x3 + 1)), (4, .int r5), (0, .ref (ad 62)), (1, .ref (ad 24)), (2, .int x2)]) hx hb dX5_begin_59 hl (k := 4) rfl rfl (by decide) rfl (fun ls hl => ?_)
          refine lv_goto (tgt := 12) hx hb dX5_begin_62 (by decide) ?_
          exact ih (x3 + 1) (sU u 2 x3.toNatClampNeg (0 : Int32)) v _ _ ls o h hP hS (lv_sub hl [2, 3, 4, 0] rfl) hk
        · have h := vz_f c6 h
          refine lv_aload_n hx hb dX5_begin_48 rfl (lv_at hl 2 rfl) ?_
          refine za_getr (k := 3) hx hb hts hin7 hown hK hP zF_24_3 rfl (Nat.le_of_ble_eq_true rfl) (nw_185 hK.2) dX5_begin_49 ?_
          refine lv_iload_n hx hb dX5_begin_52 rfl (lv_at hl 4 rfl) ?_
          obtain ⟨g8, h⟩ := gd_s h
          refine za_ild hx hb hK hP zI_27 g8 dX5_begin_53 ?_
          refine lv_goto (tgt := 58) hx hb dX5_begin_54 (by decide) ?_
          obtain ⟨g9, h⟩ := gd_s h
          refine za_ist hx hb hK hP hD hS zI_63 g9 dX5_begin_58 (fun H locs hP hS => ?_)
          refine lv_iinc (v := (x3 + 1)) (lv' := [(3, .int (x3 + 1)), (4, .int r5), (0, .ref (ad 62)), (1, .ref (ad 24)), (2, .int x2)]) hx hb dX5_begin_59 hl (k := 4) rfl rfl (by decide) rfl (fun ls hl => ?_)
          refine lv_goto (tgt := 12) hx hb dX5_begin_62 (by decide) ?_
          exact ih (x3 + 1) (sU u 2 x3.toNatClampNeg (u 27 x3.toNatClampNeg)) v _ _ ls o h hP hS (lv_sub hl [2, 3, 4, 0] rfl) hk
  rw [pX5_begin] at h
  refine lv_aload_n hx hb dX5_begin_0 rfl (lv_at hl 0 rfl) ?_
  refine lv_iconst (v := (0 : Int32)) hx hb dX5_begin_1 (by decide) ?_
  refine za_puti (k := 1) hx hb hts hin5 tyX5 tyX5_ok nmX5 hown hK hP hD hS zF_62_1 rfl (Nat.le_of_ble_eq_true rfl) (Or.inl hw1) rfl rfl rfl dX5_begin_2 (fun H locs hP hS => ?_)
  refine lv_aload_n hx hb dX5_begin_5 rfl (lv_at hl 0 rfl) ?_
  refine lv_iconst (v := (0 : Int32)) hx hb dX5_begin_6 (by decide) ?_
  refine za_puti (k := 2) hx hb hts hin5 tyX5 tyX5_ok nmX5 hown hK hP hD hS zF_62_2 rfl (Nat.le_of_ble_eq_true rfl) (Or.inl hw2) rfl rfl rfl dX5_begin_7 (fun H locs hP hS => ?_)
  refine lv_iconst (v := (0 : Int32)) hx hb dX5_begin_10 (by decide) ?_
  refine lv_istore_n (lv' := [(3, .int (0 : Int32)), (0, .ref (ad 62)), (1, .ref (ad 24)), (2, .int a2)]) hx hb dX5_begin_11 rfl hl (by decide) rfl (fun ls hl => ?_)
  obtain ⟨o10, hL11, h⟩ := vz_b h
  refine L12 a2 fuel (0 : Int32) (sU (sU u 0 3 (0 : Int32)) 0 4 (0 : Int32)) v _ _ ls o10 hL11 hP hS (lv_sub hl [1, 2, 3, 0] rfl) (fun u13 v14 H locs ls e12 hP hS hl => ?_)
  try rw [e12] at h
  try dsimp only at h
  cases h
  exact W.vret hx hb hr (fun t ht _ => ⟨rfl, by rw [ht]; exact hP, hS.F ht⟩) hS.2.2 dX5_begin_65
