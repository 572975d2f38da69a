abbrev rmX11_isRule : Room := { frames := 0, cells := 0, slots := 0, locals := 0 }
set_option maxHeartbeats 4000000 in
set_option maxRecDepth 100000 in
theorem k_X11_isRule (l : Launch) {D : va_G} {cI cJ : ClassId} {ad : Nat → Nat} {u : tU} {v : tV} {a1 : Int32}  {r : Int32}  (h : pX11_isRule u v a1 = some r) : Met l yX11_isRule wsX11_isRule rmX11_isRule (va_Pc [.ref (ad 64), .int a1] (xPre D cI cJ (wA cI cJ ad u v))) (QcRead r) 0 0 (fun _ => False) := by
  refine Met.ofW (cc := cX11_isRule) (maxL := 2) (ret := (some .boolean)) (by decide) rfl ?_
  intro p e s m args below meth c s₁ B hml hv
  obtain ⟨rfl, hP, hK⟩ := hv
  have hx := B.exec
  have hb := B.bytes
  have hr := B.returns
  have hts := atoms_spec (ws := wsX11_isRule) B.pre
  have hown : s.vm.findClass RX11 = some m.cls := findClass_of_methodNamed B.named
  have hlocks := B.notSynchronized
  have hin11 : ∀ w ∈ u_ws RX11 TX11 10, w ∈ wsX11_isRule := fun _ h => List.mem_cons_of_mem _ (List.mem_append_right _ h)
  have hw1 := hts (.fieldLink RX11 13 "InstallDeskModel" "book" "[I") (List.mem_of_getElem? (i := 1) rfl)
  have hl := lv_entry ([.ref (ad 64), .int a1]) (n := 2) (Nat.le_of_ble_eq_true rfl)
  rw [lg_entry_eq]
  generalize (lg_sl ([.ref (ad 64), .int a1]) ++ List.replicate (2 - (lg_sl ([.ref (ad 64), .int a1])).length) Slot.unset).toArray = ls at hl ⊢
  have hl : lv_has ls 2 [(0, .ref (ad 64)), (1, .int a1)] := hl
  rw [pX11_isRule] at h
  refine lv_iload_n hx hb dX11_isRule_0 rfl (lv_at hl 1 rfl) ?_
  refine lv_if_lt (tgt := 18) hx hb dX11_isRule_1 (by decide) (fun c1 => ?_) (fun c1 => ?_)
  · have h := vz_t c1 h
    refine lv_iconst (v := (0 : Int32)) hx hb dX11_isRule_18 (by decide) ?_
    cases h
    exact W.zret hx hb hr nb0 (fun t ht _ => ⟨rfl, ht⟩) (fun q hq => absurd hq List.not_mem_nil) dX11_isRule_19
  · have h := vz_f c1 h
    refine lv_iload_n hx hb dX11_isRule_4 rfl (lv_at hl 1 rfl) ?_
    refine lv_aload_n hx hb dX11_isRule_5 rfl (lv_at hl 0 rfl) ?_
    refine za_getr (k := 2) hx hb hts hin11 hown hK hP zF_64_2 rfl (Nat.le_of_ble_eq_true rfl) (Or.inl hw1) dX11_isRule_6 ?_
    refine lv_iconst (v := (1 : Int32)) hx hb dX11_isRule_9 (by decide) ?_
    refine za_ildc (j := 1) hx hb hK hP zI_66 (by unfold vp_in; decide) rfl dX11_isRule_10 ?_
    refine lv_icmp_ge (tgt := 18) hx hb dX11_isRule_11 (by decide) (fun c2 => ?_) (fun c2 => ?_)
    · have h := vz_t c2 h
      refine lv_iconst (v := (0 : Int32)) hx hb dX11_isRule_18 (by decide) ?_
      cases h
      exact W.zret hx hb hr nb0 (fun t ht _ => ⟨rfl, ht⟩) (fun q hq => absurd hq List.not_mem_nil) dX11_isRule_19
    · have h := vz_f c2 h
      refine lv_iconst (v := (1 : Int32)) hx hb dX11_isRule_14 (by decide) ?_
      refine lv_goto (tgt := 19) hx hb dX11_isRule_15 (by decide) ?_
      cases h
      exact W.zret hx hb hr nb1 (fun t ht _ => ⟨rfl, ht⟩) (fun q hq => absurd hq List.not_mem_nil) dX11_isRule_19
abbrev rmX11_fits : Room := { frames := 2, cells := 0, slots := 0, locals := 51 }
set_option maxHeartbeats 4000000 in
set_option maxRecDepth 100000 in
theorem k_X11_fits (l : Launch) {D : va_G} {cI cJ : ClassId} {ad : Nat → Nat} {u : tU} {v : tV} {A : Nat → Prop} (hD : zD A cI cJ ad) {a1 : Int32} {a2 : Int32}  {r : Int32} {uz : tU} {vz : tV} (h : pX11_fits u v a1 a2 = some (r, uz, vz)) : Met l yX11_fits wsX11_fits rmX11_fits (va_Pc [.ref (ad 64), .int a1, .int a2] (xPre D cI cJ (wA cI cJ ad u v))) (xWi D cI cJ ad A r uz vz) 0 0 A := by
  refine Met.ofW (cc := cX11_fits) (maxL := 3) (ret := (some .int)) (by decide) rfl ?_
  intro p e s m args below meth c s₁ B hml hv
  obtain ⟨rfl, hP, hK⟩ := hv
  have hx := B.exec
  have hb := B.bytes
  have hr := B.returns
  have hts := atoms_spec (ws := wsX11_fits) B.pre
  have hown : s.vm.findClass RX11 = some m.cls := findClass_of_methodNamed B.named
  have hlocks := B.notSynchronized
  have hS : va_S A s.heap s.heap [] := va_S.rf
  have hl := lv_entry ([.ref (ad 64), .int a1, .int a2]) (n := 3) (Nat.le_of_ble_eq_true rfl)
  rw [lg_entry_eq]
  generalize (lg_sl ([.ref (ad 64), .int a1, .int a2]) ++ List.replicate (3 - (lg_sl ([.ref (ad 64), .int a1, .int a2])).length) Slot.unset).toArray = ls at hl ⊢
  have hl : lv_has ls 3 [(0, .ref (ad 64)), (1, .int a1), (2, .int a2)] := hl
  rw [pX11_fits] at h
  refine lv_aload_n hx hb dX11_fits_0 rfl (lv_at hl 0 rfl) ?_
  refine lv_iload_n hx hb dX11_fits_1 rfl (lv_at hl 1 rfl) ?_
  obtain ⟨r2, hc1, h⟩ := vz_b h
  refine za_callR (va_runV (As := [.int a1]) (rest := []) ⟨hx, hb, hml, hown, hts⟩ (k_X11_isRule l (D := D) (cI := cI) (cJ := cJ) (ad := ad) hc1) (cwV 1 hts gX11_fits_X11_isRule rfl rfl rfl ⟨rfl, zd_X11_isRule⟩ ⟨Nat.le_of_ble_eq_true rfl, Nat.le_of_ble_eq_true rfl⟩) (xPreV (ci := 11) hK hP rfl zO_64) rfl rfl hl.1 rfl (lv_room (Nat.le_of_ble_eq_true rfl)) dX11_fits_2 ⟨Nat.zero_le _, Nat.zero_le _⟩) ?_
  refine lv_if_eq (tgt := 16) hx hb dX11_fits_5 (by decide) (fun c3 => ?_) (fun c3 => ?_)
  · have h := vz_t c3 h
    refine lv_aload_n hx hb dX11_fits_16 rfl (lv_at hl 0 rfl) ?_
    refine lv_iconst (v := (-1 : Int32)) hx hb dX11_fits_17 (by decide) ?_
    obtain ⟨⟨r8, u5, v6⟩, hc4, h⟩ := vz_b h
    try dsimp only at h
    refine za_callWi (va_runV (As := [.int (-1 : Int32)]) (rest := []) ⟨hx, hb, hml, hown, hts⟩ (k_X11_finding l (D := D) (cI := cI) (cJ := cJ) (ad := ad) hD hc4) (cwV 1 hts gX11_fits_X11_finding rfl rfl rfl ⟨rfl, zd_X11_finding⟩ ⟨Nat.le_of_ble_eq_true rfl, Nat.le_of_ble_eq_true rfl⟩) (xPreV (ci := 11) hK hP rfl zO_64) rfl rfl hl.1 rfl (lv_room (Nat.le_of_ble_eq_true rfl)) dX11_fits_18 ⟨Nat.zero_le _, Nat.zero_le _⟩) hS (fun H locs hP hS => ?_)
    cases h
    exact W.iret hx hb hr (fun t ht _ => ⟨rfl, by rw [ht]; exact hP, hS.F ht⟩) hS.2.2 dX11_fits_21
  · have h := vz_f c3 h
    refine lv_aload_n hx hb dX11_fits_8 rfl (lv_at hl 0 rfl) ?_
    refine lv_iload_n hx hb dX11_fits_9 rfl (lv_at hl 2 rfl) ?_
    obtain ⟨r10, hc9, h⟩ := vz_b h
    refine za_callR (va_runV (As := [.int a2]) (rest := []) ⟨hx, hb, hml, hown, hts⟩ (k_X11_isFind l (D := D) (cI := cI) (cJ := cJ) (ad := ad) hc9) (cwV 1 hts gX11_fits_X11_isFind rfl rfl rfl ⟨rfl, zd_X11_isFind⟩ ⟨Nat.le_of_ble_eq_true rfl, Nat.le_of_ble_eq_true rfl⟩) (xPreV (ci := 11) hK hP rfl zO_64) rfl rfl hl.1 rfl (lv_room (Nat.le_of_ble_eq_true rfl)) dX11_fits_10 ⟨Nat.zero_le _, Nat.zero_le _⟩) ?_
    refine lv_if_ne (tgt := 22) hx hb dX11_fits_13 (by decide) (fun c11 => ?_) (fun c11 => ?_)
    · have h := vz_f c11 h
      refine lv_aload_n hx hb dX11_fits_22 rfl (lv_at hl 0 rfl) ?_
      refine lv_iload_n hx hb dX11_fits_23 rfl (lv_at hl 1 rfl) ?_
      refine lv_iload_n hx hb dX11_fits_24 rfl (lv_at hl 2 rfl) ?_
      obtain ⟨r13, hc12, h⟩ := vz_b h
      refine za_callR (va_runV (As := [.int a1, .int a2]) (rest := []) ⟨hx, hb, hml, hown, hts⟩ (k_X11_fitsOf l (D := D) (cI := cI) (cJ := cJ) (ad := ad) hc12) (cwV 2 hts gX11_fits_X11_fitsOf rfl rfl rfl ⟨rfl, zd_X11_fitsOf⟩ ⟨Nat.le_of_ble_eq_true rfl, Nat.le_of_ble_eq_true rfl⟩) (xPreV (ci := 11) hK hP rfl zO_64) rfl rfl hl.1 rfl (lv_room (Nat.le_of_ble_eq_true rfl)) dX11_fits_25 ⟨Nat.zero_le _, Nat.zero_le _⟩) ?_
      refine lv_if_eq (tgt := 35) hx hb dX11_fits_28 (by decide) (fun c14 => ?_) (fun c14 => ?_)
      · have h := vz_t c14 h
        refine lv_iconst (v := (0 : Int32)) hx hb dX11_fits_35 (by decide) ?_
        cases h
        exact W.iret hx hb hr (fun t ht _ => ⟨rfl, by rw [ht]; exact hP, hS.F ht⟩) hS.2.2 dX11_fits_36
      · have h := vz_f c14 h
        refine lv_iconst (v := (1 : Int32)) hx hb dX11_fits_31 (by decide) ?_
        refine lv_goto (tgt := 36) hx hb dX11_fits_32 (by decide) ?_
        cases h
        exact W.iret hx hb hr (fun t ht _ => ⟨rfl, by rw [ht]; exact hP, hS.F ht⟩) hS.2.2 dX11_fits_36
    · have h := vz_t c11 h
      refine lv_aload_n hx hb dX11_fits_16 rfl (lv_at hl 0 rfl) ?_
      refine lv_iconst (v := (-1 : Int32)) hx hb dX11_fits_17 (by decide) ?_
      obtain ⟨⟨r19, u16, v17⟩, hc15, h⟩ := vz_b h
      try dsimp only at h
      refine za_callWi (va_runV (As := [.int (-1 : Int32)]) (rest := []) ⟨hx, hb, hml, hown, hts⟩ (k_X11_finding l (D := D) (cI := cI) (cJ := cJ) (ad := ad) hD hc15) (cwV 1 hts gX11_fits_X11_finding rfl rfl rfl ⟨rfl, zd_X11_finding⟩ ⟨Nat.le_of_ble_eq_true rfl, Nat.le_of_ble_eq_true rfl⟩) (xPreV (ci := 11) hK hP rfl zO_64) rfl rfl hl.1 rfl (lv_room (Nat.le_of_ble_eq_true rfl)) dX11_fits_18 ⟨Nat.zero_le _, Nat.zero_le _⟩) hS (fun H locs hP hS => ?_)
      cases h
      exact W.iret hx hb hr (fun t ht _ => ⟨rfl, by rw [ht]; exact hP, hS.F ht⟩) hS.2.2 dX11_fits_21
abbrev rmX11_goes : Room := { frames := 4, cells := 0, slots := 0, locals := 98 }
set_option maxHeartbeats 4000000 in
set_option maxRecDepth 100000 in
theorem k_X11_goes (l : Launch) {D : va_G} {cI cJ : ClassId} {ad : Nat → Nat} {u : tU} {v : tV} {A : Nat → Prop} (hD : zD A cI cJ ad) {a1 : Int32}  {r : Int32} {uz : tU} {vz : tV} (h : pX11_goes u v a1 = some (r, uz, vz)) : Met l yX11_goes wsX11_goes rmX11_goes (va_Pc [.ref (ad 64), .int a1] (xPre D cI cJ (wA cI cJ ad u v))) (xWi D cI cJ ad A r uz vz) 0 0 A := by
  refine Met.ofW (cc := cX11_goes) (maxL := 3) (ret := (some .int)) (by decide) rfl ?_
  intro p e s m args below meth c s₁ B hml hv
  obtain ⟨rfl, hP, hK⟩ := hv
  have hx := B.exec
  have hb := B.bytes
  have hr := B.returns
  have hts := atoms_spec (ws := wsX11_goes) B.pre
  have hown : s.vm.findClass RX11 = some m.cls := findClass_of_methodNamed B.named
  have hlocks := B.notSynchronized
  have hS : va_S A s.heap s.heap [] := va_S.rf
  have hl := lv_entry ([.ref (ad 64), .int a1]) (n := 3) (Nat.le_of_ble_eq_true rfl)
  rw [lg_entry_eq]
  generalize (lg_sl ([.ref (ad 64), .int a1]) ++ List.replicate (3 - (lg_sl ([.ref (ad 64), .int a1])).length) Slot.unset).toArray = ls at hl ⊢
  have hl : lv_has ls 3 [(0, .ref (ad 64)), (1, .int a1)] := hl
  rw [pX11_goes] at h
  refine lv_aload_n hx hb dX11_goes_0 rfl (lv_at hl 0 rfl) ?_
  refine lv_iload_n hx hb dX11_goes_1 rfl (lv_at hl 1 rfl) ?_
  obtain ⟨r2, hc1, h⟩ := vz_b h
  refine za_callR (va_runV (As := [.int a1]) (rest := []) ⟨hx, hb, hml, hown, hts⟩ (k_X11_isFind l (D := D) (cI := cI) (cJ := cJ) (ad := ad) hc1) (cwV 1 hts gX11_goes_X11_isFind rfl rfl rfl ⟨rfl, zd_X11_isFind⟩ ⟨Nat.le_of_ble_eq_true rfl, Nat.le_of_ble_eq_true rfl⟩) (xPreV (ci := 11) hK hP rfl zO_64) rfl rfl hl.1 rfl (lv_room (Nat.le_of_ble_eq_true rfl)) dX11_goes_2 ⟨Nat.zero_le _, Nat.zero_le _⟩) ?_
  refine lv_if_ne (tgt := 14) hx hb dX11_goes_5 (by decide) (fun c3 => ?_) (fun c3 => ?_)
  · have h := vz_f c3 h
    refine lv_aload_n hx hb dX11_goes_14 rfl (lv_at hl 0 rfl) ?_
    refine lv_iload_n hx hb dX11_goes_15 rfl (lv_at hl 1 rfl) ?_
    obtain ⟨r5, hc4, h⟩ := vz_b h
    refine za_callR (va_runV (As := [.int a1]) (rest := []) ⟨hx, hb, hml, hown, hts⟩ (k_X11_goesTo l (D := D) (cI := cI) (cJ := cJ) (ad := ad) hc4) (cwV 1 hts gX11_goes_X11_goesTo rfl rfl rfl ⟨rfl, zd_X11_goesTo⟩ ⟨Nat.le_of_ble_eq_true rfl, Nat.le_of_ble_eq_true rfl⟩) (xPreV (ci := 11) hK hP rfl zO_64) rfl rfl hl.1 rfl (lv_room (Nat.le_of_ble_eq_true rfl)) dX11_goes_16 ⟨Nat.zero_le _, Nat.zero_le _⟩) ?_
    refine lv_istore_n (lv' := [(2, .int r5), (0, .ref (ad 64)), (1, .int a1)]) hx hb dX11_goes_19 rfl hl (by decide) rfl (fun ls hl => ?_)
    refine lv_iload_n hx hb dX11_goes_20 rfl (lv_at hl 0 rfl) ?_
    refine lv_if_ge (tgt := 32) hx hb dX11_goes_21 (by decide) (fun c6 => ?_) (fun c6 => ?_)
    · have h := vz_t c6 h
      refine lv_iload_n hx hb dX11_goes_32 rfl (lv_at hl 0 rfl) ?_
      cases h
      exact W.iret hx hb hr (fun t ht _ => ⟨rfl, by rw [ht]; exact hP, hS.F ht⟩) hS.2.2 dX11_goes_33
    · have h := vz_f c6 h
      refine lv_aload_n hx hb dX11_goes_24 rfl (lv_at hl 1 rfl) ?_
      refine lv_iload_n hx hb dX11_goes_25 rfl (lv_at hl 0 rfl) ?_
      obtain ⟨⟨r11, u8, v9⟩, hc7, h⟩ := vz_b h
      try dsimp only at h
      refine za_callWi (va_runV (As := [.int r5]) (rest := []) ⟨hx, hb, hml, hown, hts⟩ (k_X11_finding l (D := D) (cI := cI) (cJ := cJ) (ad := ad) hD hc7) (cwV 1 hts gX11_goes_X11_finding rfl rfl rfl ⟨rfl, zd_X11_finding⟩ ⟨Nat.le_of_ble_eq_true rfl, Nat.le_of_ble_eq_true rfl⟩) (xPreV (ci := 11) hK hP rfl zO_64) rfl rfl hl.1 rfl (lv_room (Nat.le_of_ble_eq_true rfl)) dX11_goes_26 ⟨Nat.zero_le _, Nat.zero_le _⟩) hS (fun H locs hP hS => ?_)
      refine lv_goto (tgt := 33) hx hb dX11_goes_29 (by decide) ?_
      cases h
      exact W.iret hx hb hr (fun t ht _ => ⟨rfl, by rw [ht]; exact hP, hS.F ht⟩) hS.2.2 dX11_goes_33
  · have h := vz_t c3 h
    refine lv_aload_n hx hb dX11_goes_8 rfl (lv_at hl 0 rfl) ?_
    refine lv_iconst (v := (-1 : Int32)) hx hb dX11_goes_9 (by decide) ?_
    obtain ⟨⟨r16, u13, v14⟩, hc12, h⟩ := vz_b h
    try dsimp only at h
    refine za_callWi (va_runV (As := [.int (-1 : Int32)]) (rest := []) ⟨hx, hb, hml, hown, hts⟩ (k_X11_finding l (D := D) (cI := cI) (cJ := cJ) (ad := ad) hD hc12) (cwV 1 hts gX11_goes_X11_finding rfl rfl rfl ⟨rfl, zd_X11_finding⟩ ⟨Nat.le_of_ble_eq_true rfl, Nat.le_of_ble_eq_true rfl⟩) (xPreV (ci := 11) hK hP rfl zO_64) rfl rfl hl.1 rfl (lv_room (Nat.le_of_ble_eq_true rfl)) dX11_goes_10 ⟨Nat.zero_le _, Nat.zero_le _⟩) hS (fun H locs hP hS => ?_)
    cases h
    exact W.iret hx hb hr (fun t ht _ => ⟨rfl, by rw [ht]; exact hP, hS.F ht⟩) hS.2.2 dX11_goes_13
abbrev rmX11_has : Room := { frames := 6, cells := 0, slots := 0, locals := 142 }
set_option maxHeartbeats 4000000 in
set_option maxRecDepth 100000 in
theorem k_X11_has (l : Launch) {D : va_G} {cI cJ : ClassId} {ad : Nat → Nat} {u : tU} {v : tV} {A : Nat → Prop} (hD : zD A cI cJ ad) {a1 : Int32} {a2 : Int32}  {r : Int32} {uz : tU} {vz : tV} (h : pX11_has u v a1 a2 = some (r, uz, vz)) : Met l yX11_has wsX11_has rmX11_has (va_Pc [.ref (ad 64), .int a1, .int a2] (xPre D cI cJ (wA cI cJ ad u v))) (xWi D cI cJ ad A r uz vz) 0 0 A := by
  refine Met.ofW (cc := cX11_has) (maxL := 4) (ret := (some .int)) (by decide) rfl ?_
  intro p e s m args below meth c s₁ B hml hv
  obtain ⟨rfl, hP, hK⟩ := hv
  have hx := B.exec
  have hb := B.bytes
  have hr := B.returns
  have hts := atoms_spec (ws := wsX11_has) B.pre
  have hown : s.vm.findClass RX11 = some m.cls := findClass_of_methodNamed B.named
  have hlocks := B.notSynchronized
  have hS : va_S A s.heap s.heap [] := va_S.rf
  have hin11 : ∀ w ∈ u_ws RX11 TX11 10, w ∈ wsX11_has := fun _ h => List.mem_cons_of_mem _ (List.mem_append_right _ h)
  have hw1 := hts (.fieldLink RX11 19 "InstallDeskModel" "had" "[I") (List.mem_of_getElem? (i := 1) rfl)
  have hl := lv_entry ([.ref (ad 64), .int a1, .int a2]) (n := 4) (Nat.le_of_ble_eq_true rfl)
  rw [lg_entry_eq]
  generalize (lg_sl ([.ref (ad 64), .int a1, .int a2]) ++ List.replicate (4 - (lg_sl ([.ref (ad 64), .int a1, .int a2])).length) Slot.unset).toArray = ls at hl ⊢
  have hl : lv_has ls 4 [(0, .ref (ad 64)), (1, .int a1), (2, .int a2)] := hl
  rw [pX11_has] at h
  refine lv_aload_n hx hb dX11_has_0 rfl (lv_at hl 0 rfl) ?_
  refine lv_iload_n hx hb dX11_has_1 rfl (lv_at hl 1 rfl) ?_
  obtain ⟨r2, hc1, h⟩ := vz_b h
  refine za_callR (va_runV (As := [.int a1]) (rest := []) ⟨hx, hb, hml, hown, hts⟩ (k_X11_isHost l (D := D) (cI := cI) (cJ := cJ) (ad := ad) hc1) (cwV 1 hts gX11_has_X11_isHost rfl rfl rfl ⟨rfl, zd_X11_isHost⟩ ⟨Nat.le_of_ble_eq_true rfl, Nat.le_of_ble_eq_true rfl⟩) (xPreV (ci := 11) hK hP rfl zO_64) rfl rfl hl.1 rfl (lv_room (Nat.le_of_ble_eq_true rfl)) dX11_has_2 ⟨Nat.zero_le _, Nat.zero_le _⟩) ?_
  refine lv_if_eq (tgt := 16) hx hb dX11_has_5 (by decide) (fun c3 => ?_) (fun c3 => ?_)
  · have h := vz_t c3 h
    refine lv_aload_n hx hb dX11_has_16 rfl (lv_at hl 0 rfl) ?_
    refine lv_iconst (v := (-1 : Int32)) hx hb dX11_has_17 (by decide) ?_
    obtain ⟨⟨r8, u5, v6⟩, hc4, h⟩ := vz_b h
    try dsimp only at h
    refine za_callWi (va_runV (As := [.int (-1 : Int32)]) (rest := []) ⟨hx, hb, hml, hown, hts⟩ (k_X11_finding l (D := D) (cI := cI) (cJ := cJ) (ad := ad) hD hc4) (cwV 1 hts gX11_has_X11_finding rfl rfl rfl ⟨rfl, zd_X11_finding⟩ ⟨Nat.le_of_ble_eq_true rfl, Nat.le_of_ble_eq_true rfl⟩) (xPreV (ci := 11) hK hP rfl zO_64) rfl rfl hl.1 rfl (lv_room (Nat.le_of_ble_eq_true rfl)) dX11_has_18 ⟨Nat.zero_le _, Nat.zero_le _⟩) hS (fun H locs hP hS => ?_)
    cases h
    exact W.iret hx hb hr (fun t ht _ => ⟨rfl, by rw [ht]; exact hP, hS.F ht⟩) hS.2.2 dX11_has_21
  · have h := vz_f c3 h
    refine lv_aload_n hx hb dX11_has_8 rfl (lv_at hl 0 rfl) ?_
    refine lv_iload_n hx hb dX11_has_9 rfl (lv_at hl 2 rfl) ?_
    obtain ⟨r10, hc9, h⟩ := vz_b h
    refine za_callR (va_runV (As := [.int a2]) (rest := []) ⟨hx, hb, hml, hown, hts⟩ (k_X11_isProduct l (D := D) (cI := cI) (cJ := cJ) (ad := ad) hc9) (cwV 1 hts gX11_has_X11_isProduct rfl rfl rfl ⟨rfl, zd_X11_isProduct⟩ ⟨Nat.le_of_ble_eq_true rfl, Nat.le_of_ble_eq_true rfl⟩) (xPreV (ci := 11) hK hP rfl zO_64) rfl rfl hl.1 rfl (lv_room (Nat.le_of_ble_eq_true rfl)) dX11_has_10 ⟨Nat.zero_le _, Nat.zero_le _⟩) ?_
    refine lv_if_ne (tgt := 22) hx hb dX11_has_13 (by decide) (fun c11 => ?_) (fun c11 => ?_)
    · have h := vz_f c11 h
      refine lv_aload_n hx hb dX11_has_22 rfl (lv_at hl 0 rfl) ?_
      obtain ⟨⟨u13, v14⟩, hc12, h⟩ := vz_b h
      try dsimp only at h
      refine za_callWv (va_runV (As := []) (rest := []) ⟨hx, hb, hml, hown, hts⟩ (k_X11_tellHad l (D := D) (cI := cI) (cJ := cJ) (ad := ad) hD hc12) (cwV 0 hts gX11_has_X11_tellHad rfl rfl rfl ⟨rfl, zd_X11_tellHad⟩ ⟨Nat.le_of_ble_eq_true rfl, Nat.le_of_ble_eq_true rfl⟩) (xPreV (ci := 11) hK hP rfl zO_64) rfl rfl hl.1 rfl (lv_room (Nat.le_of_ble_eq_true rfl)) dX11_has_23 ⟨Nat.zero_le _, Nat.zero_le _⟩) hS (fun H locs hP hS => ?_)
      refine lv_aload_n hx hb dX11_has_26 rfl (lv_at hl 0 rfl) ?_
      refine za_getr (k := 6) hx hb hts hin11 hown hK hP zF_64_6 rfl (Nat.le_of_ble_eq_true rfl) (Or.inl hw1) dX11_has_27 ?_
      refine lv_bipush (v := (10 : Int32)) hx hb dX11_has_30 (by decide) ?_
      refine lv_iload_n hx hb dX11_has_32 rfl (lv_at hl 1 rfl) ?_
      refine lv_imul hx hb dX11_has_33 ?_
      refine lv_iload_n hx hb dX11_has_34 rfl (lv_at hl 2 rfl) ?_
      refine lv_iadd hx hb dX11_has_35 ?_
      obtain ⟨g16, h⟩ := gd_s h
      refine za_ild hx hb hK hP zI_68 g16 dX11_has_36 ?_
      refine lv_istore_n (lv' := [(3, .int (u13 6 (((10 : Int32) * a1) + a2).toNatClampNeg)), (0, .ref (ad 64)), (1, .int a1), (2, .int a2)]) hx hb dX11_has_37 rfl hl (by decide) rfl (fun ls hl => ?_)
      refine lv_iload_n hx hb dX11_has_38 rfl (lv_at hl 0 rfl) ?_
      refine lv_if_ne (tgt := 51) hx hb dX11_has_39 (by decide) (fun c17 => ?_) (fun c17 => ?_)
      · have h := vz_f c17 h
        refine lv_iload_n hx hb dX11_has_51 rfl (lv_at hl 0 rfl) ?_
        cases h
        exact W.iret hx hb hr (fun t ht _ => ⟨rfl, by rw [ht]; exact hP, hS.F ht⟩) hS.2.2 dX11_has_52
      · have h := vz_t c17 h
        refine lv_aload_n hx hb dX11_has_42 rfl (lv_at hl 1 rfl) ?_
        refine lv_bipush (v := (-2 : Int32)) hx hb dX11_has_43 (by decide) ?_
        obtain ⟨⟨r22, u19, v20⟩, hc18, h⟩ := vz_b h
        try dsimp only at h
        refine za_callWi (va_runV (As := [.int (-2 : Int32)]) (rest := []) ⟨hx, hb, hml, hown, hts⟩ (k_X11_finding l (D := D) (cI := cI) (cJ := cJ) (ad := ad) hD hc18) (cwV 1 hts gX11_has_X11_finding rfl rfl rfl ⟨rfl, zd_X11_finding⟩ ⟨Nat.le_of_ble_eq_true rfl, Nat.le_of_ble_eq_true rfl⟩) (xPreV (ci := 11) hK hP rfl zO_64) rfl rfl hl.1 rfl (lv_room (Nat.le_of_ble_eq_true rfl)) dX11_has_45 ⟨Nat.zero_le _, Nat.zero_le _⟩) hS (fun H locs hP hS => ?_)
        refine lv_goto (tgt := 52) hx hb dX11_has_48 (by decide) ?_
        cases h
        exact W.iret hx hb hr (fun t ht _ => ⟨rfl, by rw [ht]; exact hP, hS.F ht⟩) hS.2.2 dX11_has_52
    · have h := vz_t c11 h
      refine lv_aload_n hx hb dX11_has_16 rfl (lv_at hl 0 rfl) ?_
      refine lv_iconst (v := (-1 : Int32)) hx hb dX11_has_17 (by decide) ?_
      obtain ⟨⟨r27, u24, v25⟩, hc23, h⟩ := vz_b h
      try dsimp only at h
      refine za_callWi (va_runV (As := [.int (-1 : Int32)]) (rest := []) ⟨hx, hb, hml, hown, hts⟩ (k_X11_finding l (D := D) (cI := cI) (cJ := cJ) (ad := ad) hD hc23) (cwV 1 hts gX11_has_X11_finding rfl rfl rfl ⟨rfl, zd_X11_finding⟩ ⟨Nat.le_of_ble_eq_true rfl, Nat.le_of_ble_eq_true rfl⟩) (xPreV (ci := 11) hK hP rfl zO_64) rfl rfl hl.1 rfl (lv_room (Nat.le_of_ble_eq_true rfl)) dX11_has_18 ⟨Nat.zero_le _, Nat.zero_le _⟩) hS (fun H locs hP hS => ?_)
      cases h
      exact W.iret hx hb hr (fun t ht _ => ⟨rfl, by rw [ht]; exact hP, hS.F ht⟩) hS.2.2 dX11_has_21
abbrev rmX11_host : Room := { frames := 1, cells := 0, slots := 0, locals := 22 }
set_option maxHeartbeats 4000000 in
set_option maxRecDepth 100000 in
theorem k_X11_host (l : Launch) {D : va_G} {cI cJ : ClassId} {ad : Nat → Nat} {u : tU} {v : tV} {A : Nat → Prop} (hD : zD A cI cJ ad) {a1 : Int32} {a2 : Int32}  {r : Int32} {uz : tU} {vz : tV} (h : pX11_host u v a1 a2 = some (r, uz, vz)) : Met l yX11_host wsX11_host rmX11_host (va_Pc [.ref (ad 64), .int a1, .int a2] (xPre D cI cJ (wA cI cJ ad u v))) (xWi D cI cJ ad A r uz vz) 0 0 A := by
  refine Met.ofW (cc := cX11_host) (maxL := 4) (ret := (some .int)) (by decide) rfl ?_
  intro p e s m args below meth c s₁ B hml hv
  obtain ⟨rfl, hP, hK⟩ := hv
  have hx := B.exec
  have hb := B.bytes
  have hr := B.returns
  have hts := atoms_spec (ws := wsX11_host) B.pre
  have hown : s.vm.findClass RX11 = some m.cls := findClass_of_methodNamed B.named
  have hlocks := B.notSynchronized
  have hS : va_S A s.heap s.heap [] := va_S.rf
  have hin11 : ∀ w ∈ u_ws RX11 TX11 10, w ∈ wsX11_host := fun _ h => List.mem_cons_of_mem _ (List.mem_append_right _ h)
  have hw1 := hts (.fieldLink RX11 13 "InstallDeskModel" "book" "[I") (List.mem_of_getElem? (i := 1) rfl)
  have hl := lv_entry ([.ref (ad 64), .int a1, .int a2]) (n := 4) (Nat.le_of_ble_eq_true rfl)
  rw [lg_entry_eq]
  generalize (lg_sl ([.ref (ad 64), .int a1, .int a2]) ++ List.replicate (4 - (lg_sl ([.ref (ad 64), .int a1, .int a2])).length) Slot.unset).toArray = ls at hl ⊢
  have hl : lv_has ls 4 [(0, .ref (ad 64)), (1, .int a1), (2, .int a2)] := hl
  rw [pX11_host] at h
  refine lv_iload_n hx hb dX11_host_0 rfl (lv_at hl 1 rfl) ?_
  refine lv_iconst (v := (1 : Int32)) hx hb dX11_host_1 (by decide) ?_
  refine lv_bipush (v := (64 : Int32)) hx hb dX11_host_2 (by decide) ?_
  obtain ⟨r2, hc1, h⟩ := vz_b h
  refine za_callR (va_runS (As := [.int a1, .int (1 : Int32), .int (64 : Int32)]) (rest := []) ⟨hx, hb, hml, hown, hts⟩ (k_X11_isIn l hc1) (va_cwS 3 hts gX11_host_X11_isIn rfl rfl rfl zd_X11_isIn ⟨Nat.le_of_ble_eq_true rfl, Nat.le_of_ble_eq_true rfl⟩) xPre0 rfl rfl hl.1 rfl (lv_room (Nat.le_of_ble_eq_true rfl)) dX11_host_4 ⟨Nat.zero_le _, Nat.zero_le _⟩) ?_
  refine lv_if_eq (tgt := 20) hx hb dX11_host_7 (by decide) (fun c3 => ?_) (fun c3 => ?_)
  · have h := vz_t c3 h
    refine lv_aload_n hx hb dX11_host_20 rfl (lv_at hl 0 rfl) ?_
    refine lv_iconst (v := (-1 : Int32)) hx hb dX11_host_21 (by decide) ?_
    obtain ⟨⟨r8, u5, v6⟩, hc4, h⟩ := vz_b h
    try dsimp only at h
    refine za_callWi (va_runV (As := [.int (-1 : Int32)]) (rest := []) ⟨hx, hb, hml, hown, hts⟩ (k_X11_finding l (D := D) (cI := cI) (cJ := cJ) (ad := ad) hD hc4) (cwV 1 hts gX11_host_X11_finding rfl rfl rfl ⟨rfl, zd_X11_finding⟩ ⟨Nat.le_of_ble_eq_true rfl, Nat.le_of_ble_eq_true rfl⟩) (xPreV (ci := 11) hK hP rfl zO_64) rfl rfl hl.1 rfl (lv_room (Nat.le_of_ble_eq_true rfl)) dX11_host_22 ⟨Nat.zero_le _, Nat.zero_le _⟩) hS (fun H locs hP hS => ?_)
    cases h
    exact W.iret hx hb hr (fun t ht _ => ⟨rfl, by rw [ht]; exact hP, hS.F ht⟩) hS.2.2 dX11_host_25
  · have h := vz_f c3 h
    refine lv_iload_n hx hb dX11_host_10 rfl (lv_at hl 2 rfl) ?_
    refine lv_iconst (v := (0 : Int32)) hx hb dX11_host_11 (by decide) ?_
    refine lv_bipush (v := (9 : Int32)) hx hb dX11_host_12 (by decide) ?_
    obtain ⟨r10, hc9, h⟩ := vz_b h
    refine za_callR (va_runS (As := [.int a2, .int (0 : Int32), .int (9 : Int32)]) (rest := []) ⟨hx, hb, hml, hown, hts⟩ (k_X11_isIn l hc9) (va_cwS 3 hts gX11_host_X11_isIn rfl rfl rfl zd_X11_isIn ⟨Nat.le_of_ble_eq_true rfl, Nat.le_of_ble_eq_true rfl⟩) xPre0 rfl rfl hl.1 rfl (lv_room (Nat.le_of_ble_eq_true rfl)) dX11_host_14 ⟨Nat.zero_le _, Nat.zero_le _⟩) ?_
    refine lv_if_ne (tgt := 26) hx hb dX11_host_17 (by decide) (fun c11 => ?_) (fun c11 => ?_)
    · have h := vz_f c11 h
      refine lv_aload_n hx hb dX11_host_26 rfl (lv_at hl 0 rfl) ?_
      refine za_getr (k := 2) hx hb hts hin11 hown hK hP zF_64_2 rfl (Nat.le_of_ble_eq_true rfl) (Or.inl hw1) dX11_host_27 ?_
      refine lv_iconst (v := (2 : Int32)) hx hb dX11_host_30 (by decide) ?_
      refine za_ildc (j := 2) hx hb hK hP zI_66 (by unfold vp_in; decide) rfl dX11_host_31 ?_
      refine lv_istore_n (lv' := [(3, .int (u 4 2)), (0, .ref (ad 64)), (1, .int a1), (2, .int a2)]) hx hb dX11_host_32 rfl hl (by decide) rfl (fun ls hl => ?_)
      refine lv_iload_n hx hb dX11_host_33 rfl (lv_at hl 0 rfl) ?_
      refine lv_bipush (v := (8 : Int32)) hx hb dX11_host_34 (by decide) ?_
      refine lv_icmp_ne (tgt := 46) hx hb dX11_host_36 (by decide) (fun c12 => ?_) (fun c12 => ?_)
      · have h := vz_f c12 h
        refine lv_aload_n hx hb dX11_host_46 rfl (lv_at hl 1 rfl) ?_
        refine za_getr (k := 2) hx hb hts hin11 hown hK hP zF_64_2 rfl (Nat.le_of_ble_eq_true rfl) (Or.inl hw1) dX11_host_47 ?_
        refine lv_sipush (v := (278 : Int32)) hx hb dX11_host_50 (by decide) ?_
        refine lv_iconst (v := (2 : Int32)) hx hb dX11_host_53 (by decide) ?_
        refine lv_iload_n hx hb dX11_host_54 rfl (lv_at hl 0 rfl) ?_
        refine lv_imul hx hb dX11_host_55 ?_
        refine lv_iadd hx hb dX11_host_56 ?_
        refine lv_iload_n hx hb dX11_host_57 rfl (lv_at hl 2 rfl) ?_
        obtain ⟨g13, h⟩ := gd_s h
        refine za_ist hx hb hK hP hD hS zI_66 g13 dX11_host_58 (fun H locs hP hS => ?_)
        refine lv_aload_n hx hb dX11_host_59 rfl (lv_at hl 1 rfl) ?_
        refine za_getr (k := 2) hx hb hts hin11 hown hK hP zF_64_2 rfl (Nat.le_of_ble_eq_true rfl) (Or.inl hw1) dX11_host_60 ?_
        refine lv_sipush (v := (278 : Int32)) hx hb dX11_host_63 (by decide) ?_
        refine lv_iconst (v := (2 : Int32)) hx hb dX11_host_66 (by decide) ?_
        refine lv_iload_n hx hb dX11_host_67 rfl (lv_at hl 0 rfl) ?_
        refine lv_imul hx hb dX11_host_68 ?_
        refine lv_iadd hx hb dX11_host_69 ?_
        refine lv_iconst (v := (1 : Int32)) hx hb dX11_host_70 (by decide) ?_
        refine lv_iadd hx hb dX11_host_71 ?_
        refine lv_iload_n hx hb dX11_host_72 rfl (lv_at hl 3 rfl) ?_
        obtain ⟨g14, h⟩ := gd_s h
        refine za_ist hx hb hK hP hD hS zI_66 g14 dX11_host_73 (fun H locs hP hS => ?_)
        refine lv_aload_n hx hb dX11_host_74 rfl (lv_at hl 1 rfl) ?_
        refine za_getr (k := 2) hx hb hts hin11 hown hK hP zF_64_2 rfl (Nat.le_of_ble_eq_true rfl) (Or.inl hw1) dX11_host_75 ?_
        refine lv_iconst (v := (2 : Int32)) hx hb dX11_host_78 (by decide) ?_
        refine lv_dup2_11 hx hb dX11_host_79 rfl rfl ?_
        refine za_ildc (j := 2) hx hb hK hP zI_66 (by unfold vp_in; decide) rfl dX11_host_80 ?_
        refine lv_iconst (v := (1 : Int32)) hx hb dX11_host_81 (by decide) ?_
        refine lv_iadd hx hb dX11_host_82 ?_
        refine za_istc (j := 2) hx hb hK hP hD hS zI_66 (by unfold vp_in; decide) rfl dX11_host_83 (fun H locs hP hS => ?_)
        refine lv_iload_n hx hb dX11_host_84 rfl (lv_at hl 0 rfl) ?_
        cases h
        exact W.iret hx hb hr (fun t ht _ => ⟨rfl, by rw [ht]; exact hP, hS.F ht⟩) hS.2.2 dX11_host_85
      · have h := vz_t c12 h
        refine lv_aload_n hx hb dX11_host_39 rfl (lv_at hl 1 rfl) ?_
        refine lv_bipush (v := (-3 : Int32)) hx hb dX11_host_40 (by decide) ?_
        obtain ⟨⟨r19, u16, v17⟩, hc15, h⟩ := vz_b h
        try dsimp only at h
        refine za_callWi (va_runV (As := [.int (-3 : Int32)]) (rest := []) ⟨hx, hb, hml, hown, hts⟩ (k_X11_finding l (D := D) (cI := cI) (cJ := cJ) (ad := ad) hD hc15) (cwV 1 hts gX11_host_X11_finding rfl rfl rfl ⟨rfl, zd_X11_finding⟩ ⟨Nat.le_of_ble_eq_true rfl, Nat.le_of_ble_eq_true rfl⟩) (xPreV (ci := 11) hK hP rfl zO_64) rfl rfl hl.1 rfl (lv_room (Nat.le_of_ble_eq_true rfl)) dX11_host_42 ⟨Nat.zero_le _, Nat.zero_le _⟩) hS (fun H locs hP hS => ?_)
        cases h
        exact W.iret hx hb hr (fun t ht _ => ⟨rfl, by rw [ht]; exact hP, hS.F ht⟩) hS.2.2 dX11_host_45
    · have h := vz_t c11 h
      refine lv_aload_n hx hb dX11_host_20 rfl (lv_at hl 0 rfl) ?_
      refine lv_iconst (v := (-1 : Int32)) hx hb dX11_host_21 (by decide) ?_
      obtain ⟨⟨r24, u21, v22⟩, hc20, h⟩ := vz_b h
      try dsimp only at h
      refine za_callWi (va_runV (As := [.int (-1 : Int32)]) (rest := []) ⟨hx, hb, hml, hown, hts⟩ (k_X11_finding l (D := D) (cI := cI) (cJ := cJ) (ad := ad) hD hc20) (cwV 1 hts gX11_host_X11_finding rfl rfl rfl ⟨rfl, zd_X11_finding⟩ ⟨Nat.le_of_ble_eq_true rfl, Nat.le_of_ble_eq_true rfl⟩) (xPreV (ci := 11) hK hP rfl zO_64) rfl rfl hl.1 rfl (lv_room (Nat.le_of_ble_eq_true rfl)) dX11_host_22 ⟨Nat.zero_le _, Nat.zero_le _⟩) hS (fun H locs hP hS => ?_)
      cases h
      exact W.iret hx hb hr (fun t ht _ => ⟨rfl, by rw [ht]; exact hP, hS.F ht⟩) hS.2.2 dX11_host_25
abbrev rmX11_keep : Room := { frames := 0, cells := 0, slots := 0, locals := 0 }
set_option maxHeartbeats 4000000 in
set_option maxRecDepth 100000 in
theorem k_X11_keep (l : Launch) {D : va_G} {cI cJ : ClassId} {ad : Nat → Nat} {u : tU} {v : tV} {A : Nat → Prop} (hD : zD A cI cJ ad) {r : Int32} {uz : tU} {vz : tV} (h : pX11_keep u v  = some (r, uz, vz)) : Met l yX11_keep wsX11_keep rmX11_keep (va_Pc [.ref (ad 64)] (xPre D cI cJ (wA cI cJ ad u v))) (xWi D cI cJ ad A r uz vz) 0 0 A := by
  refine Met.ofW (cc := cX11_keep) (maxL := 2) (ret := (some .int)) (by decide) rfl ?_
  intro p e s m args below meth c s₁ B hml hv
  obtain ⟨rfl, hP, hK⟩ := hv
  have hx := B.exec
  have hb := B.bytes
  have hr := B.returns
  have hts := atoms_spec (ws := wsX11_keep) B.pre
  have hown : s.vm.findClass RX11 = some m.cls := findClass_of_methodNamed B.named
  have hlocks := B.notSynchronized
  have hS : va_S A s.heap s.heap [] := va_S.rf
  have hin11 : ∀ w ∈ u_ws RX11 TX11 10, w ∈ wsX11_keep := fun _ h => List.mem_cons_of_mem _ (List.mem_append_right _ h)
  have hw1 := hts (.fieldLink RX11 16 "InstallDeskModel" "keptBook" "[I") (List.mem_of_getElem? (i := 1) rfl)
  have hw2 := hts (.fieldLink RX11 13 "InstallDeskModel" "book" "[I") (List.mem_of_getElem? (i := 2) rfl)
  have hw3 := hts (.fieldLink RX11 139 "InstallDeskModel" "isKept" "Z") (List.mem_of_getElem? (i := 3) rfl)
  have hl := lv_entry ([.ref (ad 64)]) (n := 2) (Nat.le_of_ble_eq_true rfl)
  rw [lg_entry_eq]
  generalize (lg_sl ([.ref (ad 64)]) ++ List.replicate (2 - (lg_sl ([.ref (ad 64)])).length) Slot.unset).toArray = ls at hl ⊢
  have hl : lv_has ls 2 [(0, .ref (ad 64))] := hl
  have L2 : ∀ (n : Nat) (x1 : Int32) (u : tU) (v : tV) (H : Heap) (locs : List Loc) (ls : Array Slot) (o : tU × tV), pX11_keep_L2 n x1 u v = some o → va_P D vwCl (wA cI cJ ad u v) H → va_S A s.heap H locs → lv_has ls 2 [(0, .ref (ad 64)), (1, .int x1)] → (∀ (u' : tU) (v' : tV) (H : Heap) (locs : List Loc) (ls : Array Slot), o = (u', v') → va_P D vwCl (wA cI cJ ad u' v') H → va_S A s.heap H locs → lv_has ls 2 [(0, .ref (ad 64))] → W p l e (headSpec wsX11_keep rmX11_keep).room s m [Value.ref (ad 64)].toArray below meth c H locs 0 0 (MQ below (xWi D cI cJ ad A r uz vz) [Value.ref (ad 64)].toArray s 0 0 A) (F0 m 27 ls [])) → W p l e (headSpec wsX11_keep rmX11_keep).room s m [Value.ref (ad 64)].toArray below meth c H locs 0 0 (MQ below (xWi D cI cJ ad A r uz vz) [Value.ref (ad 64)].toArray s 0 0 A) (F0 m 2 ls []) := by
    intro n
    induction n with
    | zero => intro x1 u v H locs ls o h; cases h
    | succ n ih =>
      intro x1 u v H locs ls o h hP hS hl hk
      rw [pX11_keep_L2] at h
      refine lv_iload_n hx hb dX11_keep_2 rfl (lv_at hl 1 rfl) ?_
      refine lv_sipush (v := (1114 : Int32)) hx hb dX11_keep_3 (by decide) ?_
      refine lv_icmp_ge (tgt := 27) hx hb dX11_keep_6 (by decide) (fun c1 => ?_) (fun c1 => ?_)
      · have h := vz_t c1 h
        cases h
        exact hk u v _ _ ls rfl hP hS (lv_sub hl [0] rfl)
      · have h := vz_f c1 h
        refine lv_aload_n hx hb dX11_keep_9 rfl (lv_at hl 0 rfl) ?_
        refine za_getr (k := 4) hx hb hts hin11 hown hK hP zF_64_4 rfl (Nat.le_of_ble_eq_true rfl) (Or.inl hw1) dX11_keep_10 ?_
        refine lv_iload_n hx hb dX11_keep_13 rfl (lv_at hl 1 rfl) ?_
        refine lv_aload_n hx hb dX11_keep_14 rfl (lv_at hl 0 rfl) ?_
        refine za_getr (k := 2) hx hb hts hin11 hown hK hP zF_64_2 rfl (Nat.le_of_ble_eq_true rfl) (Or.inl hw2) dX11_keep_15 ?_
        refine lv_iload_n hx hb dX11_keep_18 rfl (lv_at hl 1 rfl) ?_
        obtain ⟨g2, h⟩ := gd_s h
        refine za_ild hx hb hK hP zI_66 g2 dX11_keep_19 ?_
        obtain ⟨g3, h⟩ := gd_s h
        refine za_ist hx hb hK hP hD hS zI_67 g3 dX11_keep_20 (fun H locs hP hS => ?_)
        refine lv_iinc (v := (x1 + 1)) (lv' := [(1, .int (x1 + 1)), (0, .ref (ad 64))]) hx hb dX11_keep_21 hl (k := 1) rfl rfl (by decide) rfl (fun ls hl => ?_)
        refine lv_goto (tgt := 2) hx hb dX11_keep_24 (by decide) ?_
        exact ih (x1 + 1) (sU u 5 x1.toNatClampNeg (u 4 x1.toNatClampNeg)) v _ _ ls o h hP hS (lv_sub hl [1, 0] rfl) hk
  rw [pX11_keep] at h
  refine lv_iconst (v := (0 : Int32)) hx hb dX11_keep_0 (by decide) ?_
  refine lv_istore_n (lv' := [(1, .int (0 : Int32)), (0, .ref (ad 64))]) hx hb dX11_keep_1 rfl hl (by decide) rfl (fun ls hl => ?_)
  obtain ⟨o4, hL5, h⟩ := vz_b h
  refine L2 fuel (0 : Int32) u v _ _ ls o4 hL5 hP hS (lv_sub hl [1, 0] rfl) (fun u7 v8 H locs ls e6 hP hS hl => ?_)
  try rw [e6] at h
  try dsimp only at h
  refine lv_aload_n hx hb dX11_keep_27 rfl (lv_at hl 0 rfl) ?_
  refine lv_iconst (v := (1 : Int32)) hx hb dX11_keep_28 (by decide) ?_
  refine za_puti (k := 3) hx hb hts hin11 tyX11 tyX11_ok nmX11 hown hK hP hD hS zF_64_3 rfl (Nat.le_of_ble_eq_true rfl) (Or.inl hw3) rfl nb1 nbf1 dX11_keep_29 (fun H locs hP hS => ?_)
  refine lv_aload_n hx hb dX11_keep_32 rfl (lv_at hl 0 rfl) ?_
  refine za_getr (k := 2) hx hb hts hin11 hown hK hP zF_64_2 rfl (Nat.le_of_ble_eq_true rfl) (Or.inl hw2) dX11_keep_33 ?_
  refine lv_iconst (v := (3 : Int32)) hx hb dX11_keep_36 (by decide) ?_
  refine za_ildc (j := 3) hx hb hK hP zI_66 (by unfold vp_in; decide) rfl dX11_keep_37 ?_
  cases h
  exact W.iret hx hb hr (fun t ht _ => ⟨rfl, by rw [ht]; exact hP, hS.F ht⟩) hS.2.2 dX11_keep_38
abbrev rmX11_kept : Room := { frames := 1, cells := 0, slots := 0, locals := 22 }
set_option maxHeartbeats 4000000 in
set_option maxRecDepth 100000 in
theorem k_X11_kept (l : Launch) {D : va_G} {cI cJ : ClassId} {ad : Nat → Nat} {u : tU} {v : tV} {A : Nat → Prop} (hD : zD A cI cJ ad) {a1 : Int32}  {r : Int32} {uz : tU} {vz : tV} (h : pX11_kept u v a1 = some (r, uz, vz)) : Met l yX11_kept wsX11_kept rmX11_kept (va_Pc [.ref (ad 64), .int a1] (xPre D cI cJ (wA cI cJ ad u v))) (xWi D cI cJ ad A r uz vz) 0 0 A := by
  refine Met.ofW (cc := cX11_kept) (maxL := 3) (ret := (some .int)) (by decide) rfl ?_
  intro p e s m args below meth c s₁ B hml hv
  obtain ⟨rfl, hP, hK⟩ := hv
  have hx := B.exec
  have hb := B.bytes
  have hr := B.returns
  have hts := atoms_spec (ws := wsX11_kept) B.pre
  have hown : s.vm.findClass RX11 = some m.cls := findClass_of_methodNamed B.named
  have hlocks := B.notSynchronized
  have hS : va_S A s.heap s.heap [] := va_S.rf
  have hin11 : ∀ w ∈ u_ws RX11 TX11 10, w ∈ wsX11_kept := fun _ h => List.mem_cons_of_mem _ (List.mem_append_right _ h)
  have hw1 := hts (.fieldLink RX11 13 "InstallDeskModel" "book" "[I") (List.mem_of_getElem? (i := 1) rfl)
  have hl := lv_entry ([.ref (ad 64), .int a1]) (n := 3) (Nat.le_of_ble_eq_true rfl)
  rw [lg_entry_eq]
  generalize (lg_sl ([.ref (ad 64), .int a1]) ++ List.replicate (3 - (lg_sl ([.ref (ad 64), .int a1])).length) Slot.unset).toArray = ls at hl ⊢
  have hl : lv_has ls 3 [(0, .ref (ad 64)), (1, .int a1)] := hl
  rw [pX11_kept] at h
  refine lv_iload_n hx hb dX11_kept_0 rfl (lv_at hl 1 rfl) ?_
  refine lv_iconst (v := (0 : Int32)) hx hb dX11_kept_1 (by decide) ?_
  refine lv_sipush (v := (999 : Int32)) hx hb dX11_kept_2 (by decide) ?_
  obtain ⟨r2, hc1, h⟩ := vz_b h
  refine za_callR (va_runS (As := [.int a1, .int (0 : Int32), .int (999 : Int32)]) (rest := []) ⟨hx, hb, hml, hown, hts⟩ (k_X11_isIn l hc1) (va_cwS 3 hts gX11_kept_X11_isIn rfl rfl rfl zd_X11_isIn ⟨Nat.le_of_ble_eq_true rfl, Nat.le_of_ble_eq_true rfl⟩) xPre0 rfl rfl hl.1 rfl (lv_room (Nat.le_of_ble_eq_true rfl)) dX11_kept_5 ⟨Nat.zero_le _, Nat.zero_le _⟩) ?_
  refine lv_if_ne (tgt := 17) hx hb dX11_kept_8 (by decide) (fun c3 => ?_) (fun c3 => ?_)
  · have h := vz_f c3 h
    refine lv_aload_n hx hb dX11_kept_17 rfl (lv_at hl 0 rfl) ?_
    refine za_getr (k := 2) hx hb hts hin11 hown hK hP zF_64_2 rfl (Nat.le_of_ble_eq_true rfl) (Or.inl hw1) dX11_kept_18 ?_
    refine lv_bipush (v := (7 : Int32)) hx hb dX11_kept_21 (by decide) ?_
    refine za_ildc (j := 7) hx hb hK hP zI_66 (by unfold vp_in; decide) rfl dX11_kept_23 ?_
    refine lv_istore_n (lv' := [(2, .int (u 4 7)), (0, .ref (ad 64)), (1, .int a1)]) hx hb dX11_kept_24 rfl hl (by decide) rfl (fun ls hl => ?_)
    refine lv_aload_n hx hb dX11_kept_25 rfl (lv_at hl 1 rfl) ?_
    refine za_getr (k := 2) hx hb hts hin11 hown hK hP zF_64_2 rfl (Nat.le_of_ble_eq_true rfl) (Or.inl hw1) dX11_kept_26 ?_
    refine lv_bipush (v := (7 : Int32)) hx hb dX11_kept_29 (by decide) ?_
    refine lv_iload_n hx hb dX11_kept_31 rfl (lv_at hl 2 rfl) ?_
    refine za_istc (j := 7) hx hb hK hP hD hS zI_66 (by unfold vp_in; decide) rfl dX11_kept_32 (fun H locs hP hS => ?_)
    refine lv_iload_n hx hb dX11_kept_33 rfl (lv_at hl 0 rfl) ?_
    cases h
    exact W.iret hx hb hr (fun t ht _ => ⟨rfl, by rw [ht]; exact hP, hS.F ht⟩) hS.2.2 dX11_kept_34
  · have h := vz_t c3 h
    refine lv_aload_n hx hb dX11_kept_11 rfl (lv_at hl 0 rfl) ?_
    refine lv_iconst (v := (-1 : Int32)) hx hb dX11_kept_12 (by decide) ?_
    obtain ⟨⟨r8, u5, v6⟩, hc4, h⟩ := vz_b h
    try dsimp only at h
    refine za_callWi (va_runV (As := [.int (-1 : Int32)]) (rest := []) ⟨hx, hb, hml, hown, hts⟩ (k_X11_finding l (D := D) (cI := cI) (cJ := cJ) (ad := ad) hD hc4) (cwV 1 hts gX11_kept_X11_finding rfl rfl rfl ⟨rfl, zd_X11_finding⟩ ⟨Nat.le_of_ble_eq_true rfl, Nat.le_of_ble_eq_true rfl⟩) (xPreV (ci := 11) hK hP rfl zO_64) rfl rfl hl.1 rfl (lv_room (Nat.le_of_ble_eq_true rfl)) dX11_kept_13 ⟨Nat.zero_le _, Nat.zero_le _⟩) hS (fun H locs hP hS => ?_)
    cases h
    exact W.iret hx hb hr (fun t ht _ => ⟨rfl, by rw [ht]; exact hP, hS.F ht⟩) hS.2.2 dX11_kept_16
abbrev rmX11_lackOn : Room := { frames := 4, cells := 0, slots := 0, locals := 103 }
set_option maxHeartbeats 4000000 in
set_option maxRecDepth 100000 in
theorem k_X11_lackOn (l : Launch) {D : va_G} {cI cJ : ClassId} {ad : Nat → Nat} {u : tU} {v : tV} {A : Nat → Prop} (hD : zD A cI cJ ad) {a1 : Int32} {a2 : Int32} {a3 : Int32}  {r : Int32} {uz : tU} {vz : tV} (h : pX11_lackOn u v a1 a2 a3 = some (r, uz, vz)) : Met l yX11_lackOn wsX11_lackOn rmX11_lackOn (va_Pc [.ref (ad 64), .int a1, .int a2, .int a3] (xPre D cI cJ (wA cI cJ ad u v))) (xWi D cI cJ ad A r uz vz) 0 0 A := by
  refine Met.ofW (cc := cX11_lackOn) (maxL := 6) (ret := (some .int)) (by decide) rfl ?_
  intro p e s m args below meth c s₁ B hml hv
  obtain ⟨rfl, hP, hK⟩ := hv
  have hx := B.exec
  have hb := B.bytes
  have hr := B.returns
  have hts := atoms_spec (ws := wsX11_lackOn) B.pre
  have hown : s.vm.findClass RX11 = some m.cls := findClass_of_methodNamed B.named
  have hlocks := B.notSynchronized
  have hS : va_S A s.heap s.heap [] := va_S.rf
  have hin11 : ∀ w ∈ u_ws RX11 TX11 10, w ∈ wsX11_lackOn := fun _ h => List.mem_cons_of_mem _ (List.mem_append_right _ h)
  have hw1 := hts (.fieldLink RX11 13 "InstallDeskModel" "book" "[I") (List.mem_of_getElem? (i := 1) rfl)
  have hw2 := hts (.fieldLink RX11 127 "InstallDeskModel" "lack" "I") (List.mem_of_getElem? (i := 2) rfl)
  have hl := lv_entry ([.ref (ad 64), .int a1, .int a2, .int a3]) (n := 6) (Nat.le_of_ble_eq_true rfl)
  rw [lg_entry_eq]
  generalize (lg_sl ([.ref (ad 64), .int a1, .int a2, .int a3]) ++ List.replicate (6 - (lg_sl ([.ref (ad 64), .int a1, .int a2, .int a3])).length) Slot.unset).toArray = ls at hl ⊢
  have hl : lv_has ls 6 [(0, .ref (ad 64)), (1, .int a1), (2, .int a2), (3, .int a3)] := hl
  have L6 : ∀ (x1 : Int32) (x2 : Int32) (x3 : Int32) (n : Nat) (x4 : Int32) (x5 : Int32) (u : tU) (v : tV) (H : Heap) (locs : List Loc) (ls : Array Slot) (o : Int32 × tU × tV), pX11_lackOn_L6 x1 x2 x3 n x4 x5 u v = some o → va_P D vwCl (wA cI cJ ad u v) H → va_S A s.heap H locs → lv_has ls 6 [(0, .ref (ad 64)), (1, .int x1), (2, .int x2), (3, .int x3), (4, .int x4), (5, .int x5)] → (∀ (y4 : Int32) (u' : tU) (v' : tV) (H : Heap) (locs : List Loc) (ls : Array Slot), o = (y4, u', v') → va_P D vwCl (wA cI cJ ad u' v') H → va_S A s.heap H locs → lv_has ls 6 [(4, .int y4)] → W p l e (headSpec wsX11_lackOn rmX11_lackOn).room s m [Value.ref (ad 64), Value.int a1, Value.int a2, Value.int a3].toArray below meth c H locs 0 0 (MQ below (xWi D cI cJ ad A r uz vz) [Value.ref (ad 64), Value.int a1, Value.int a2, Value.int a3].toArray s 0 0 A) (F0 m 41 ls [])) → W p l e (headSpec wsX11_lackOn rmX11_lackOn).room s m [Value.ref (ad 64), Value.int a1, Value.int a2, Value.int a3].toArray below meth c H locs 0 0 (MQ below (xWi D cI cJ ad A r uz vz) [Value.ref (ad 64), Value.int a1, Value.int a2, Value.int a3].toArray s 0 0 A) (F0 m 6 ls []) := by
    intro x1 x2 x3 n
    induction n with
    | zero => intro x4 x5 u v H locs ls o h; cases h
    | succ n ih =>
      intro x4 x5 u v H locs ls o h hP hS hl hk
      rw [pX11_lackOn_L6] at h
      refine lv_iload hx hb dX11_lackOn_6 (lv_at hl 5 rfl) ?_
      refine lv_aload_n hx hb dX11_lackOn_8 rfl (lv_at hl 0 rfl) ?_
      refine za_getr (k := 2) hx hb hts hin11 hown hK hP zF_64_2 rfl (Nat.le_of_ble_eq_true rfl) (Or.inl hw1) dX11_lackOn_9 ?_
      refine lv_iconst (v := (0 : Int32)) hx hb dX11_lackOn_12 (by decide) ?_
      refine za_ildc (j := 0) hx hb hK hP zI_66 (by unfold vp_in; decide) rfl dX11_lackOn_13 ?_
      refine lv_icmp_ge (tgt := 41) hx hb dX11_lackOn_14 (by decide) (fun c1 => ?_) (fun c1 => ?_)
      · have h := vz_t c1 h
        cases h
        exact hk x4 u v _ _ ls rfl hP hS (lv_sub hl [4] rfl)
      · have h := vz_f c1 h
        refine lv_aload_n hx hb dX11_lackOn_17 rfl (lv_at hl 0 rfl) ?_
        refine lv_iload hx hb dX11_lackOn_18 (lv_at hl 5 rfl) ?_
        refine lv_iload_n hx hb dX11_lackOn_20 rfl (lv_at hl 1 rfl) ?_
        refine lv_iload_n hx hb dX11_lackOn_21 rfl (lv_at hl 2 rfl) ?_
        refine lv_iload_n hx hb dX11_lackOn_22 rfl (lv_at hl 3 rfl) ?_
        obtain ⟨⟨u3, v4⟩, hc2, h⟩ := vz_b h
        try dsimp only at h
        refine za_callWv (va_runV (As := [.int x5, .int x1, .int x2, .int x3]) (rest := []) ⟨hx, hb, hml, hown, hts⟩ (k_X11_match l (D := D) (cI := cI) (cJ := cJ) (ad := ad) hD hc2) (cwV 4 hts gX11_lackOn_X11_match rfl rfl rfl ⟨rfl, zd_X11_match⟩ ⟨Nat.le_of_ble_eq_true rfl, Nat.le_of_ble_eq_true rfl⟩) (xPreV (ci := 11) hK hP rfl zO_64) rfl rfl hl.1 rfl (lv_room (Nat.le_of_ble_eq_true rfl)) dX11_lackOn_23 ⟨Nat.zero_le _, Nat.zero_le _⟩) hS (fun H locs hP hS => ?_)
        refine lv_iload hx hb dX11_lackOn_26 (lv_at hl 4 rfl) ?_
        refine lv_aload_n hx hb dX11_lackOn_28 rfl (lv_at hl 0 rfl) ?_
        refine za_geti (k := 8) hx hb hts hin11 hown hK hP zF_64_8 rfl (Nat.le_of_ble_eq_true rfl) (Or.inl hw2) dX11_lackOn_29 ?_
        refine lv_iadd hx hb dX11_lackOn_32 ?_
        refine lv_istore (lv' := [(4, .int (x4 + (u3 0 8))), (0, .ref (ad 64)), (1, .int x1), (2, .int x2), (3, .int x3), (5, .int x5)]) hx hb dX11_lackOn_33 hl (by decide) rfl (fun ls hl => ?_)
        refine lv_iinc (v := (x5 + 1)) (lv' := [(5, .int (x5 + 1)), (4, .int (x4 + (u3 0 8))), (0, .ref (ad 64)), (1, .int x1), (2, .int x2), (3, .int x3)]) hx hb dX11_lackOn_35 hl (k := 5) rfl rfl (by decide) rfl (fun ls hl => ?_)
        refine lv_goto (tgt := 6) hx hb dX11_lackOn_38 (by decide) ?_
        exact ih (x4 + (u3 0 8)) (x5 + 1) u3 v4 _ _ ls o h hP hS (lv_sub hl [2, 3, 4, 5, 1, 0] rfl) hk
  rw [pX11_lackOn] at h
  refine lv_iconst (v := (0 : Int32)) hx hb dX11_lackOn_0 (by decide) ?_
  refine lv_istore (lv' := [(4, .int (0 : Int32)), (0, .ref (ad 64)), (1, .int a1), (2, .int a2), (3, .int a3)]) hx hb dX11_lackOn_1 hl (by decide) rfl (fun ls hl => ?_)
  refine lv_iconst (v := (0 : Int32)) hx hb dX11_lackOn_3 (by decide) ?_
  refine lv_istore (lv' := [(5, .int (0 : Int32)), (4, .int (0 : Int32)), (0, .ref (ad 64)), (1, .int a1), (2, .int a2), (3, .int a3)]) hx hb dX11_lackOn_4 hl (by decide) rfl (fun ls hl => ?_)
  obtain ⟨o6, hL7, h⟩ := vz_b h
  refine L6 a1 a2 a3 fuel (0 : Int32) (0 : Int32) u v _ _ ls o6 hL7 hP hS (lv_sub hl [2, 3, 4, 5, 1, 0] rfl) (fun y9 u10 v11 H locs ls e8 hP hS hl => ?_)
  try rw [e8] at h
  try dsimp only at h
  refine lv_iload hx hb dX11_lackOn_41 (lv_at hl 0 rfl) ?_
  cases h
  exact W.iret hx hb hr (fun t ht _ => ⟨rfl, by rw [ht]; exact hP, hS.F ht⟩) hS.2.2 dX11_lackOn_43
abbrev rmX11_lack : Room := { frames := 6, cells := 0, slots := 0, locals := 142 }
set_option maxHeartbeats 4000000 in
set_option maxRecDepth 100000 in
theorem k_X11_lack (l : Launch) {D : va_G} {cI cJ : ClassId} {ad : Nat → Nat} {u : tU} {v : tV} {A : Nat → Prop} (hD : zD A cI cJ ad) {r : Int32} {uz : tU} {vz : tV} (h : pX11_lack u v  = some (r, uz, vz)) : Met l yX11_lack wsX11_lack rmX11_lack (va_Pc [.ref (ad 64)] (xPre D cI cJ (wA cI cJ ad u v))) (xWi D cI cJ ad A r uz vz) 0 0 A := by
  refine Met.ofW (cc := cX11_lack) (maxL := 1) (ret := (some .int)) (by decide) rfl ?_
  intro p e s m args below meth c s₁ B hml hv
  obtain ⟨rfl, hP, hK⟩ := hv
  have hx := B.exec
  have hb := B.bytes
  have hr := B.returns
  have hts := atoms_spec (ws := wsX11_lack) B.pre
  have hown : s.vm.findClass RX11 = some m.cls := findClass_of_methodNamed B.named
  have hlocks := B.notSynchronized
  have hS : va_S A s.heap s.heap [] := va_S.rf
  have hin11 : ∀ w ∈ u_ws RX11 TX11 10, w ∈ wsX11_lack := fun _ h => List.mem_cons_of_mem _ (List.mem_append_right _ h)
  have hw1 := hts (.fieldLink RX11 13 "InstallDeskModel" "book" "[I") (List.mem_of_getElem? (i := 1) rfl)
  have hl := lv_entry ([.ref (ad 64)]) (n := 1) (Nat.le_of_ble_eq_true rfl)
  rw [lg_entry_eq]
  generalize (lg_sl ([.ref (ad 64)]) ++ List.replicate (1 - (lg_sl ([.ref (ad 64)])).length) Slot.unset).toArray = ls at hl ⊢
  have hl : lv_has ls 1 [(0, .ref (ad 64))] := hl
  rw [pX11_lack] at h
  refine lv_aload_n hx hb dX11_lack_0 rfl (lv_at hl 0 rfl) ?_
  obtain ⟨⟨u2, v3⟩, hc1, h⟩ := vz_b h
  try dsimp only at h
  refine za_callWv (va_runV (As := []) (rest := []) ⟨hx, hb, hml, hown, hts⟩ (k_X11_tellHad l (D := D) (cI := cI) (cJ := cJ) (ad := ad) hD hc1) (cwV 0 hts gX11_lack_X11_tellHad rfl rfl rfl ⟨rfl, zd_X11_tellHad⟩ ⟨Nat.le_of_ble_eq_true rfl, Nat.le_of_ble_eq_true rfl⟩) (xPreV (ci := 11) hK hP rfl zO_64) rfl rfl hl.1 rfl (lv_room (Nat.le_of_ble_eq_true rfl)) dX11_lack_1 ⟨Nat.zero_le _, Nat.zero_le _⟩) hS (fun H locs hP hS => ?_)
  refine lv_aload_n hx hb dX11_lack_4 rfl (lv_at hl 0 rfl) ?_
  refine lv_aload_n hx hb dX11_lack_5 rfl (lv_at hl 0 rfl) ?_
  refine za_getr (k := 2) hx hb hts hin11 hown hK hP zF_64_2 rfl (Nat.le_of_ble_eq_true rfl) (Or.inl hw1) dX11_lack_6 ?_
  refine lv_bipush (v := (6 : Int32)) hx hb dX11_lack_9 (by decide) ?_
  refine za_ildc (j := 6) hx hb hK hP zI_66 (by unfold vp_in; decide) rfl dX11_lack_11 ?_
  refine lv_iconst (v := (-1 : Int32)) hx hb dX11_lack_12 (by decide) ?_
  refine lv_iconst (v := (-1 : Int32)) hx hb dX11_lack_13 (by decide) ?_
  obtain ⟨⟨r9, u6, v7⟩, hc5, h⟩ := vz_b h
  try dsimp only at h
  refine za_callWi (va_runV (As := [.int (u2 4 6), .int (-1 : Int32), .int (-1 : Int32)]) (rest := []) ⟨hx, hb, hml, hown, hts⟩ (k_X11_lackOn l (D := D) (cI := cI) (cJ := cJ) (ad := ad) hD hc5) (cwV 3 hts gX11_lack_X11_lackOn rfl rfl rfl ⟨rfl, zd_X11_lackOn⟩ ⟨Nat.le_of_ble_eq_true rfl, Nat.le_of_ble_eq_true rfl⟩) (xPreV (ci := 11) hK hP rfl zO_64) rfl rfl hl.1 rfl (lv_room (Nat.le_of_ble_eq_true rfl)) dX11_lack_14 ⟨Nat.zero_le _, Nat.zero_le _⟩) hS (fun H locs hP hS => ?_)
  cases h
  exact W.iret hx hb hr (fun t ht _ => ⟨rfl, by rw [ht]; exact hP, hS.F ht⟩) hS.2.2 dX11_lack_17
abbrev rmX11_letter : Room := { frames := 1, cells := 0, slots := 0, locals := 22 }
set_option maxHeartbeats 4000000 in
set_option maxRecDepth 100000 in
theorem k_X11_letter (l : Launch) {D : va_G} {cI cJ : ClassId} {ad : Nat → Nat} {u : tU} {v : tV} {A : Nat → Prop} (hD : zD A cI cJ ad) {a1 : Int32}  {r : Int32} {uz : tU} {vz : tV} (h : pX11_letter u v a1 = some (r, uz, vz)) : Met l yX11_letter wsX11_letter rmX11_letter (va_Pc [.ref (ad 64), .int a1] (xPre D cI cJ (wA cI cJ ad u v))) (xWi D cI cJ ad A r uz vz) 0 0 A := by
  refine Met.ofW (cc := cX11_letter) (maxL := 2) (ret := (some .int)) (by decide) rfl ?_
  intro p e s m args below meth c s₁ B hml hv
  obtain ⟨rfl, hP, hK⟩ := hv
  have hx := B.exec
  have hb := B.bytes
  have hr := B.returns
  have hts := atoms_spec (ws := wsX11_letter) B.pre
  have hown : s.vm.findClass RX11 = some m.cls := findClass_of_methodNamed B.named
  have hlocks := B.notSynchronized
  have hS : va_S A s.heap s.heap [] := va_S.rf
  have hin11 : ∀ w ∈ u_ws RX11 TX11 10, w ∈ wsX11_letter := fun _ h => List.mem_cons_of_mem _ (List.mem_append_right _ h)
  have hw1 := hts (.fieldLink RX11 37 "InstallDeskModel" "waits" "I") (List.mem_of_getElem? (i := 1) rfl)
  have hw2 := hts (.fieldLink RX11 7 "InstallDeskModel" "waiting" "[I") (List.mem_of_getElem? (i := 2) rfl)
  have hl := lv_entry ([.ref (ad 64), .int a1]) (n := 2) (Nat.le_of_ble_eq_true rfl)
  rw [lg_entry_eq]
  generalize (lg_sl ([.ref (ad 64), .int a1]) ++ List.replicate (2 - (lg_sl ([.ref (ad 64), .int a1])).length) Slot.unset).toArray = ls at hl ⊢
  have hl : lv_has ls 2 [(0, .ref (ad 64)), (1, .int a1)] := hl
  rw [pX11_letter] at h
  refine lv_iload_n hx hb dX11_letter_0 rfl (lv_at hl 1 rfl) ?_
  refine lv_iconst (v := (1 : Int32)) hx hb dX11_letter_1 (by decide) ?_
  refine lv_bipush (v := (28 : Int32)) hx hb dX11_letter_2 (by decide) ?_
  obtain ⟨r2, hc1, h⟩ := vz_b h
  refine za_callR (va_runS (As := [.int a1, .int (1 : Int32), .int (28 : Int32)]) (rest := []) ⟨hx, hb, hml, hown, hts⟩ (k_X11_isIn l hc1) (va_cwS 3 hts gX11_letter_X11_isIn rfl rfl rfl zd_X11_isIn ⟨Nat.le_of_ble_eq_true rfl, Nat.le_of_ble_eq_true rfl⟩) xPre0 rfl rfl hl.1 rfl (lv_room (Nat.le_of_ble_eq_true rfl)) dX11_letter_4 ⟨Nat.zero_le _, Nat.zero_le _⟩) ?_
  refine lv_if_ne (tgt := 16) hx hb dX11_letter_7 (by decide) (fun c3 => ?_) (fun c3 => ?_)
  · have h := vz_f c3 h
    refine lv_aload_n hx hb dX11_letter_16 rfl (lv_at hl 0 rfl) ?_
    refine za_geti (k := 0) hx hb hts hin11 hown hK hP zF_64_0 rfl (Nat.le_of_ble_eq_true rfl) (Or.inl hw1) dX11_letter_17 ?_
    refine lv_bipush (v := (12 : Int32)) hx hb dX11_letter_20 (by decide) ?_
    refine lv_icmp_ne (tgt := 32) hx hb dX11_letter_22 (by decide) (fun c4 => ?_) (fun c4 => ?_)
    · have h := vz_f c4 h
      refine lv_aload_n hx hb dX11_letter_32 rfl (lv_at hl 0 rfl) ?_
      refine za_getr (k := 1) hx hb hts hin11 hown hK hP zF_64_1 rfl (Nat.le_of_ble_eq_true rfl) (Or.inl hw2) dX11_letter_33 ?_
      refine lv_aload_n hx hb dX11_letter_36 rfl (lv_at hl 0 rfl) ?_
      refine za_geti (k := 0) hx hb hts hin11 hown hK hP zF_64_0 rfl (Nat.le_of_ble_eq_true rfl) (Or.inl hw1) dX11_letter_37 ?_
      refine lv_iload_n hx hb dX11_letter_40 rfl (lv_at hl 1 rfl) ?_
      obtain ⟨g5, h⟩ := gd_s h
      refine za_ist hx hb hK hP hD hS zI_65 g5 dX11_letter_41 (fun H locs hP hS => ?_)
      refine lv_aload_n hx hb dX11_letter_42 rfl (lv_at hl 0 rfl) ?_
      refine lv_dup hx hb dX11_letter_43 rfl ?_
      refine za_geti (k := 0) hx hb hts hin11 hown hK hP zF_64_0 rfl (Nat.le_of_ble_eq_true rfl) (Or.inl hw1) dX11_letter_44 ?_
      refine lv_iconst (v := (1 : Int32)) hx hb dX11_letter_47 (by decide) ?_
      refine lv_iadd hx hb dX11_letter_48 ?_
      refine za_puti (k := 0) hx hb hts hin11 tyX11 tyX11_ok nmX11 hown hK hP hD hS zF_64_0 rfl (Nat.le_of_ble_eq_true rfl) (Or.inl hw1) rfl rfl rfl dX11_letter_49 (fun H locs hP hS => ?_)
      refine lv_aload_n hx hb dX11_letter_52 rfl (lv_at hl 0 rfl) ?_
      refine za_geti (k := 0) hx hb hts hin11 hown hK hP zF_64_0 rfl (Nat.le_of_ble_eq_true rfl) (Or.inl hw1) dX11_letter_53 ?_
      cases h
      exact W.iret hx hb hr (fun t ht _ => ⟨rfl, by rw [ht]; exact hP, hS.F ht⟩) hS.2.2 dX11_letter_56
    · have h := vz_t c4 h
      refine lv_aload_n hx hb dX11_letter_25 rfl (lv_at hl 0 rfl) ?_
      refine lv_bipush (v := (-3 : Int32)) hx hb dX11_letter_26 (by decide) ?_
      obtain ⟨⟨r10, u7, v8⟩, hc6, h⟩ := vz_b h
      try dsimp only at h
      refine za_callWi (va_runV (As := [.int (-3 : Int32)]) (rest := []) ⟨hx, hb, hml, hown, hts⟩ (k_X11_finding l (D := D) (cI := cI) (cJ := cJ) (ad := ad) hD hc6) (cwV 1 hts gX11_letter_X11_finding rfl rfl rfl ⟨rfl, zd_X11_finding⟩ ⟨Nat.le_of_ble_eq_true rfl, Nat.le_of_ble_eq_true rfl⟩) (xPreV (ci := 11) hK hP rfl zO_64) rfl rfl hl.1 rfl (lv_room (Nat.le_of_ble_eq_true rfl)) dX11_letter_28 ⟨Nat.zero_le _, Nat.zero_le _⟩) hS (fun H locs hP hS => ?_)
      cases h
      exact W.iret hx hb hr (fun t ht _ => ⟨rfl, by rw [ht]; exact hP, hS.F ht⟩) hS.2.2 dX11_letter_31
  · have h := vz_t c3 h
    refine lv_aload_n hx hb dX11_letter_10 rfl (lv_at hl 0 rfl) ?_
    refine lv_iconst (v := (-1 : Int32)) hx hb dX11_letter_11 (by decide) ?_
    obtain ⟨⟨r15, u12, v13⟩, hc11, h⟩ := vz_b h
    try dsimp only at h
    refine za_callWi (va_runV (As := [.int (-1 : Int32)]) (rest := []) ⟨hx, hb, hml, hown, hts⟩ (k_X11_finding l (D := D) (cI := cI) (cJ := cJ) (ad := ad) hD hc11) (cwV 1 hts gX11_letter_X11_finding rfl rfl rfl ⟨rfl, zd_X11_finding⟩ ⟨Nat.le_of_ble_eq_true rfl, Nat.le_of_ble_eq_true rfl⟩) (xPreV (ci := 11) hK hP rfl zO_64) rfl rfl hl.1 rfl (lv_room (Nat.le_of_ble_eq_true rfl)) dX11_letter_12 ⟨Nat.zero_le _, Nat.zero_le _⟩) hS (fun H locs hP hS => ?_)
    cases h
    exact W.iret hx hb hr (fun t ht _ => ⟨rfl, by rw [ht]; exact hP, hS.F ht⟩) hS.2.2 dX11_letter_15
abbrev rmX11_may : Room := { frames := 6, cells := 0, slots := 0, locals := 142 }
set_option maxHeartbeats 4000000 in
set_option maxRecDepth 100000 in
theorem k_X11_may (l : Launch) {D : va_G} {cI cJ : ClassId} {ad : Nat → Nat} {u : tU} {v : tV} {A : Nat → Prop} (hD : zD A cI cJ ad) {a1 : Int32} {a2 : Int32}  {r : Int32} {uz : tU} {vz : tV} (h : pX11_may u v a1 a2 = some (r, uz, vz)) : Met l yX11_may wsX11_may rmX11_may (va_Pc [.ref (ad 64), .int a1, .int a2] (xPre D cI cJ (wA cI cJ ad u v))) (xWi D cI cJ ad A r uz vz) 0 0 A := by
  refine Met.ofW (cc := cX11_may) (maxL := 5) (ret := (some .int)) (by decide) rfl ?_
  intro p e s m args below meth c s₁ B hml hv
  obtain ⟨rfl, hP, hK⟩ := hv
  have hx := B.exec
  have hb := B.bytes
  have hr := B.returns
  have hts := atoms_spec (ws := wsX11_may) B.pre
  have hown : s.vm.findClass RX11 = some m.cls := findClass_of_methodNamed B.named
  have hlocks := B.notSynchronized
  have hS : va_S A s.heap s.heap [] := va_S.rf
  have hin11 : ∀ w ∈ u_ws RX11 TX11 10, w ∈ wsX11_may := fun _ h => List.mem_cons_of_mem _ (List.mem_append_right _ h)
  have hw1 := hts (.fieldLink RX11 19 "InstallDeskModel" "had" "[I") (List.mem_of_getElem? (i := 1) rfl)
  have hw2 := hts (.fieldLink RX11 13 "InstallDeskModel" "book" "[I") (List.mem_of_getElem? (i := 2) rfl)
  have hl := lv_entry ([.ref (ad 64), .int a1, .int a2]) (n := 5) (Nat.le_of_ble_eq_true rfl)
  rw [lg_entry_eq]
  generalize (lg_sl ([.ref (ad 64), .int a1, .int a2]) ++ List.replicate (5 - (lg_sl ([.ref (ad 64), .int a1, .int a2])).length) Slot.unset).toArray = ls at hl ⊢
  have hl : lv_has ls 5 [(0, .ref (ad 64)), (1, .int a1), (2, .int a2)] := hl
  rw [pX11_may] at h
  refine lv_aload_n hx hb dX11_may_0 rfl (lv_at hl 0 rfl) ?_
  refine lv_iload_n hx hb dX11_may_1 rfl (lv_at hl 1 rfl) ?_
  obtain ⟨r2, hc1, h⟩ := vz_b h
  refine za_callR (va_runV (As := [.int a1]) (rest := []) ⟨hx, hb, hml, hown, hts⟩ (k_X11_isRight l (D := D) (cI := cI) (cJ := cJ) (ad := ad) hc1) (cwV 1 hts gX11_may_X11_isRight rfl rfl rfl ⟨rfl, zd_X11_isRight⟩ ⟨Nat.le_of_ble_eq_true rfl, Nat.le_of_ble_eq_true rfl⟩) (xPreV (ci := 11) hK hP rfl zO_64) rfl rfl hl.1 rfl (lv_room (Nat.le_of_ble_eq_true rfl)) dX11_may_2 ⟨Nat.zero_le _, Nat.zero_le _⟩) ?_
  refine lv_if_eq (tgt := 16) hx hb dX11_may_5 (by decide) (fun c3 => ?_) (fun c3 => ?_)
  · have h := vz_t c3 h
    refine lv_aload_n hx hb dX11_may_16 rfl (lv_at hl 0 rfl) ?_
    refine lv_iconst (v := (-1 : Int32)) hx hb dX11_may_17 (by decide) ?_
    obtain ⟨⟨r8, u5, v6⟩, hc4, h⟩ := vz_b h
    try dsimp only at h
    refine za_callWi (va_runV (As := [.int (-1 : Int32)]) (rest := []) ⟨hx, hb, hml, hown, hts⟩ (k_X11_finding l (D := D) (cI := cI) (cJ := cJ) (ad := ad) hD hc4) (cwV 1 hts gX11_may_X11_finding rfl rfl rfl ⟨rfl, zd_X11_finding⟩ ⟨Nat.le_of_ble_eq_true rfl, Nat.le_of_ble_eq_true rfl⟩) (xPreV (ci := 11) hK hP rfl zO_64) rfl rfl hl.1 rfl (lv_room (Nat.le_of_ble_eq_true rfl)) dX11_may_18 ⟨Nat.zero_le _, Nat.zero_le _⟩) hS (fun H locs hP hS => ?_)
    cases h
    exact W.iret hx hb hr (fun t ht _ => ⟨rfl, by rw [ht]; exact hP, hS.F ht⟩) hS.2.2 dX11_may_21
  · have h := vz_f c3 h
    refine lv_aload_n hx hb dX11_may_8 rfl (lv_at hl 0 rfl) ?_
    refine lv_iload_n hx hb dX11_may_9 rfl (lv_at hl 2 rfl) ?_
    obtain ⟨r10, hc9, h⟩ := vz_b h
    refine za_callR (va_runV (As := [.int a2]) (rest := []) ⟨hx, hb, hml, hown, hts⟩ (k_X11_isHost l (D := D) (cI := cI) (cJ := cJ) (ad := ad) hc9) (cwV 1 hts gX11_may_X11_isHost rfl rfl rfl ⟨rfl, zd_X11_isHost⟩ ⟨Nat.le_of_ble_eq_true rfl, Nat.le_of_ble_eq_true rfl⟩) (xPreV (ci := 11) hK hP rfl zO_64) rfl rfl hl.1 rfl (lv_room (Nat.le_of_ble_eq_true rfl)) dX11_may_10 ⟨Nat.zero_le _, Nat.zero_le _⟩) ?_
    refine lv_if_ne (tgt := 22) hx hb dX11_may_13 (by decide) (fun c11 => ?_) (fun c11 => ?_)
    · have h := vz_f c11 h
      refine lv_aload_n hx hb dX11_may_22 rfl (lv_at hl 0 rfl) ?_
      obtain ⟨⟨u13, v14⟩, hc12, h⟩ := vz_b h
      try dsimp only at h
      refine za_callWv (va_runV (As := []) (rest := []) ⟨hx, hb, hml, hown, hts⟩ (k_X11_tellHad l (D := D) (cI := cI) (cJ := cJ) (ad := ad) hD hc12) (cwV 0 hts gX11_may_X11_tellHad rfl rfl rfl ⟨rfl, zd_X11_tellHad⟩ ⟨Nat.le_of_ble_eq_true rfl, Nat.le_of_ble_eq_true rfl⟩) (xPreV (ci := 11) hK hP rfl zO_64) rfl rfl hl.1 rfl (lv_room (Nat.le_of_ble_eq_true rfl)) dX11_may_23 ⟨Nat.zero_le _, Nat.zero_le _⟩) hS (fun H locs hP hS => ?_)
      refine lv_aload_n hx hb dX11_may_26 rfl (lv_at hl 0 rfl) ?_
      refine lv_iload_n hx hb dX11_may_27 rfl (lv_at hl 1 rfl) ?_
      refine lv_iconst (v := (0 : Int32)) hx hb dX11_may_28 (by decide) ?_
      obtain ⟨r17, hc16, h⟩ := vz_b h
      refine za_callR (va_runV (As := [.int a1, .int (0 : Int32)]) (rest := []) ⟨hx, hb, hml, hown, hts⟩ (k_X11_rightAt l (D := D) (cI := cI) (cJ := cJ) (ad := ad) hc16) (cwV 2 hts gX11_may_X11_rightAt rfl rfl rfl ⟨rfl, zd_X11_rightAt⟩ ⟨Nat.le_of_ble_eq_true rfl, Nat.le_of_ble_eq_true rfl⟩) (xPreV (ci := 11) hK hP rfl zO_64) rfl rfl hl.1 rfl (lv_room (Nat.le_of_ble_eq_true rfl)) dX11_may_29 ⟨Nat.zero_le _, Nat.zero_le _⟩) ?_
      refine lv_istore_n (lv' := [(3, .int r17), (0, .ref (ad 64)), (1, .int a1), (2, .int a2)]) hx hb dX11_may_32 rfl hl (by decide) rfl (fun ls hl => ?_)
      refine lv_aload_n hx hb dX11_may_33 rfl (lv_at hl 1 rfl) ?_
      refine za_getr (k := 6) hx hb hts hin11 hown hK hP zF_64_6 rfl (Nat.le_of_ble_eq_true rfl) (Or.inl hw1) dX11_may_34 ?_
      refine lv_bipush (v := (10 : Int32)) hx hb dX11_may_37 (by decide) ?_
      refine lv_iload_n hx hb dX11_may_39 rfl (lv_at hl 3 rfl) ?_
      refine lv_imul hx hb dX11_may_40 ?_
      refine lv_iload_n hx hb dX11_may_41 rfl (lv_at hl 0 rfl) ?_
      refine lv_iadd hx hb dX11_may_42 ?_
      obtain ⟨g18, h⟩ := gd_s h
      refine za_ild hx hb hK hP zI_68 g18 dX11_may_43 ?_
      refine lv_istore (lv' := [(4, .int (u13 6 (((10 : Int32) * a2) + r17).toNatClampNeg)), (3, .int r17), (0, .ref (ad 64)), (1, .int a1), (2, .int a2)]) hx hb dX11_may_44 hl (by decide) rfl (fun ls hl => ?_)
      refine lv_iload hx hb dX11_may_46 (lv_at hl 0 rfl) ?_
      refine lv_if_eq (tgt := 61) hx hb dX11_may_48 (by decide) (fun c19 => ?_) (fun c19 => ?_)
      · have h := vz_t c19 h
        refine lv_aload_n hx hb dX11_may_61 rfl (lv_at hl 2 rfl) ?_
        refine lv_bipush (v := (-2 : Int32)) hx hb dX11_may_62 (by decide) ?_
        obtain ⟨⟨r24, u21, v22⟩, hc20, h⟩ := vz_b h
        try dsimp only at h
        refine za_callWi (va_runV (As := [.int (-2 : Int32)]) (rest := []) ⟨hx, hb, hml, hown, hts⟩ (k_X11_finding l (D := D) (cI := cI) (cJ := cJ) (ad := ad) hD hc20) (cwV 1 hts gX11_may_X11_finding rfl rfl rfl ⟨rfl, zd_X11_finding⟩ ⟨Nat.le_of_ble_eq_true rfl, Nat.le_of_ble_eq_true rfl⟩) (xPreV (ci := 11) hK hP rfl zO_64) rfl rfl hl.1 rfl (lv_room (Nat.le_of_ble_eq_true rfl)) dX11_may_64 ⟨Nat.zero_le _, Nat.zero_le _⟩) hS (fun H locs hP hS => ?_)
        cases h
        exact W.iret hx hb hr (fun t ht _ => ⟨rfl, by rw [ht]; exact hP, hS.F ht⟩) hS.2.2 dX11_may_67
      · have h := vz_f c19 h
        refine lv_aload_n hx hb dX11_may_51 rfl (lv_at hl 2 rfl) ?_
        refine lv_iload_n hx hb dX11_may_52 rfl (lv_at hl 1 rfl) ?_
        refine lv_iconst (v := (0 : Int32)) hx hb dX11_may_53 (by decide) ?_
        obtain ⟨r26, hc25, h⟩ := vz_b h
        refine za_callR (va_runV (As := [.int r17, .int (0 : Int32)]) (rest := []) ⟨hx, hb, hml, hown, hts⟩ (k_X11_productAt l (D := D) (cI := cI) (cJ := cJ) (ad := ad) hc25) (cwV 2 hts gX11_may_X11_productAt rfl rfl rfl ⟨rfl, zd_X11_productAt⟩ ⟨Nat.le_of_ble_eq_true rfl, Nat.le_of_ble_eq_true rfl⟩) (xPreV (ci := 11) hK hP rfl zO_64) rfl rfl hl.1 rfl (lv_room (Nat.le_of_ble_eq_true rfl)) dX11_may_54 ⟨Nat.zero_le _, Nat.zero_le _⟩) ?_
        refine lv_iconst (v := (2 : Int32)) hx hb dX11_may_57 (by decide) ?_
        refine lv_icmp_ne (tgt := 68) hx hb dX11_may_58 (by decide) (fun c27 => ?_) (fun c27 => ?_)
        · have h := vz_f c27 h
          refine lv_iload hx hb dX11_may_68 (lv_at hl 0 rfl) ?_
          refine lv_aload_n hx hb dX11_may_70 rfl (lv_at hl 2 rfl) ?_
          refine lv_iload_n hx hb dX11_may_71 rfl (lv_at hl 3 rfl) ?_
          refine lv_iconst (v := (1 : Int32)) hx hb dX11_may_72 (by decide) ?_
          obtain ⟨r29, hc28, h⟩ := vz_b h
          refine za_callR (va_runV (As := [.int a1, .int (1 : Int32)]) (rest := [.int (u13 6 (((10 : Int32) * a2) + r17).toNatClampNeg)]) ⟨hx, hb, hml, hown, hts⟩ (k_X11_rightAt l (D := D) (cI := cI) (cJ := cJ) (ad := ad) hc28) (cwV 2 hts gX11_may_X11_rightAt rfl rfl rfl ⟨rfl, zd_X11_rightAt⟩ ⟨Nat.le_of_ble_eq_true rfl, Nat.le_of_ble_eq_true rfl⟩) (xPreV (ci := 11) hK hP rfl zO_64) rfl rfl hl.1 rfl (lv_room (Nat.le_of_ble_eq_true rfl)) dX11_may_73 ⟨Nat.zero_le _, Nat.zero_le _⟩) ?_
          refine lv_icmp_gt (tgt := 98) hx hb dX11_may_76 (by decide) (fun c30 => ?_) (fun c30 => ?_)
          · have h := vz_t c30 h
            refine lv_iconst (v := (0 : Int32)) hx hb dX11_may_98 (by decide) ?_
            cases h
            exact W.iret hx hb hr (fun t ht _ => ⟨rfl, by rw [ht]; exact hP, hS.F ht⟩) hS.2.2 dX11_may_99
          · have h := vz_f c30 h
            refine lv_aload_n hx hb dX11_may_79 rfl (lv_at hl 2 rfl) ?_
            refine lv_iload_n hx hb dX11_may_80 rfl (lv_at hl 3 rfl) ?_
            refine lv_aload_n hx hb dX11_may_81 rfl (lv_at hl 2 rfl) ?_
            refine za_getr (k := 2) hx hb hts hin11 hown hK hP zF_64_2 rfl (Nat.le_of_ble_eq_true rfl) (Or.inl hw2) dX11_may_82 ?_
            refine lv_bipush (v := (6 : Int32)) hx hb dX11_may_85 (by decide) ?_
            refine za_ildc (j := 6) hx hb hK hP zI_66 (by unfold vp_in; decide) rfl dX11_may_87 ?_
            obtain ⟨r32, hc31, h⟩ := vz_b h
            refine za_callR (va_runV (As := [.int a1, .int (u13 4 6)]) (rest := []) ⟨hx, hb, hml, hown, hts⟩ (k_X11_isOn l (D := D) (cI := cI) (cJ := cJ) (ad := ad) hc31) (cwV 2 hts gX11_may_X11_isOn rfl rfl rfl ⟨rfl, zd_X11_isOn⟩ ⟨Nat.le_of_ble_eq_true rfl, Nat.le_of_ble_eq_true rfl⟩) (xPreV (ci := 11) hK hP rfl zO_64) rfl rfl hl.1 rfl (lv_room (Nat.le_of_ble_eq_true rfl)) dX11_may_88 ⟨Nat.zero_le _, Nat.zero_le _⟩) ?_
            refine lv_if_eq (tgt := 98) hx hb dX11_may_91 (by decide) (fun c33 => ?_) (fun c33 => ?_)
            · have h := vz_t c33 h
              refine lv_iconst (v := (0 : Int32)) hx hb dX11_may_98 (by decide) ?_
              cases h
              exact W.iret hx hb hr (fun t ht _ => ⟨rfl, by rw [ht]; exact hP, hS.F ht⟩) hS.2.2 dX11_may_99
            · have h := vz_f c33 h
              refine lv_iconst (v := (1 : Int32)) hx hb dX11_may_94 (by decide) ?_
              refine lv_goto (tgt := 99) hx hb dX11_may_95 (by decide) ?_
              cases h
              exact W.iret hx hb hr (fun t ht _ => ⟨rfl, by rw [ht]; exact hP, hS.F ht⟩) hS.2.2 dX11_may_99
        · have h := vz_t c27 h
          refine lv_aload_n hx hb dX11_may_61 rfl (lv_at hl 2 rfl) ?_
          refine lv_bipush (v := (-2 : Int32)) hx hb dX11_may_62 (by decide) ?_
          obtain ⟨⟨r38, u35, v36⟩, hc34, h⟩ := vz_b h
          try dsimp only at h
          refine za_callWi (va_runV (As := [.int (-2 : Int32)]) (rest := []) ⟨hx, hb, hml, hown, hts⟩ (k_X11_finding l (D := D) (cI := cI) (cJ := cJ) (ad := ad) hD hc34) (cwV 1 hts gX11_may_X11_finding rfl rfl rfl ⟨rfl, zd_X11_finding⟩ ⟨Nat.le_of_ble_eq_true rfl, Nat.le_of_ble_eq_true rfl⟩) (xPreV (ci := 11) hK hP rfl zO_64) rfl rfl hl.1 rfl (lv_room (Nat.le_of_ble_eq_true rfl)) dX11_may_64 ⟨Nat.zero_le _, Nat.zero_le _⟩) hS (fun H locs hP hS => ?_)
          cases h
          exact W.iret hx hb hr (fun t ht _ => ⟨rfl, by rw [ht]; exact hP, hS.F ht⟩) hS.2.2 dX11_may_67
    · have h := vz_t c11 h
      refine lv_aload_n hx hb dX11_may_16 rfl (lv_at hl 0 rfl) ?_
      refine lv_iconst (v := (-1 : Int32)) hx hb dX11_may_17 (by decide) ?_
      obtain ⟨⟨r43, u40, v41⟩, hc39, h⟩ := vz_b h
      try dsimp only at h
      refine za_callWi (va_runV (As := [.int (-1 : Int32)]) (rest := []) ⟨hx, hb, hml, hown, hts⟩ (k_X11_finding l (D := D) (cI := cI) (cJ := cJ) (ad := ad) hD hc39) (cwV 1 hts gX11_may_X11_finding rfl rfl rfl ⟨rfl, zd_X11_finding⟩ ⟨Nat.le_of_ble_eq_true rfl, Nat.le_of_ble_eq_true rfl⟩) (xPreV (ci := 11) hK hP rfl zO_64) rfl rfl hl.1 rfl (lv_room (Nat.le_of_ble_eq_true rfl)) dX11_may_18 ⟨Nat.zero_le _, Nat.zero_le _⟩) hS (fun H locs hP hS => ?_)
      cases h
      exact W.iret hx hb hr (fun t ht _ => ⟨rfl, by rw [ht]; exact hP, hS.F ht⟩) hS.2.2 dX11_may_21
abbrev rmX11_measure : Room := { frames := 6, cells := 0, slots := 0, locals := 142 }
set_option maxHeartbeats 4000000 in
set_option maxRecDepth 100000 in
theorem k_X11_measure (l : Launch) {D : va_G} {cI cJ : ClassId} {ad : Nat → Nat} {u : tU} {v : tV} {A : Nat → Prop} (hD : zD A cI cJ ad) {a1 : Int32} {a2 : Int32}  {r : Int32} {uz : tU} {vz : tV} (h : pX11_measure u v a1 a2 = some (r, uz, vz)) : Met l yX11_measure wsX11_measure rmX11_measure (va_Pc [.ref (ad 64), .int a1, .int a2] (xPre D cI cJ (wA cI cJ ad u v))) (xWi D cI cJ ad A r uz vz) 0 0 A := by
  refine Met.ofW (cc := cX11_measure) (maxL := 3) (ret := (some .int)) (by decide) rfl ?_
  intro p e s m args below meth c s₁ B hml hv
  obtain ⟨rfl, hP, hK⟩ := hv
  have hx := B.exec
  have hb := B.bytes
  have hr := B.returns
  have hts := atoms_spec (ws := wsX11_measure) B.pre
  have hown : s.vm.findClass RX11 = some m.cls := findClass_of_methodNamed B.named
  have hlocks := B.notSynchronized
  have hS : va_S A s.heap s.heap [] := va_S.rf
  have hl := lv_entry ([.ref (ad 64), .int a1, .int a2]) (n := 3) (Nat.le_of_ble_eq_true rfl)
  rw [lg_entry_eq]
  generalize (lg_sl ([.ref (ad 64), .int a1, .int a2]) ++ List.replicate (3 - (lg_sl ([.ref (ad 64), .int a1, .int a2])).length) Slot.unset).toArray = ls at hl ⊢
  have hl : lv_has ls 3 [(0, .ref (ad 64)), (1, .int a1), (2, .int a2)] := hl
  rw [pX11_measure] at h
  refine lv_aload_n hx hb dX11_measure_0 rfl (lv_at hl 0 rfl) ?_
  refine lv_iload_n hx hb dX11_measure_1 rfl (lv_at hl 1 rfl) ?_
  obtain ⟨r2, hc1, h⟩ := vz_b h
  refine za_callR (va_runV (As := [.int a1]) (rest := []) ⟨hx, hb, hml, hown, hts⟩ (k_X11_isProduct l (D := D) (cI := cI) (cJ := cJ) (ad := ad) hc1) (cwV 1 hts gX11_measure_X11_isProduct rfl rfl rfl ⟨rfl, zd_X11_isProduct⟩ ⟨Nat.le_of_ble_eq_true rfl, Nat.le_of_ble_eq_true rfl⟩) (xPreV (ci := 11) hK hP rfl zO_64) rfl rfl hl.1 rfl (lv_room (Nat.le_of_ble_eq_true rfl)) dX11_measure_2 ⟨Nat.zero_le _, Nat.zero_le _⟩) ?_
  refine lv_if_eq (tgt := 17) hx hb dX11_measure_5 (by decide) (fun c3 => ?_) (fun c3 => ?_)
  · have h := vz_t c3 h
    refine lv_aload_n hx hb dX11_measure_17 rfl (lv_at hl 0 rfl) ?_
    refine lv_iconst (v := (-1 : Int32)) hx hb dX11_measure_18 (by decide) ?_
    obtain ⟨⟨r8, u5, v6⟩, hc4, h⟩ := vz_b h
    try dsimp only at h
    refine za_callWi (va_runV (As := [.int (-1 : Int32)]) (rest := []) ⟨hx, hb, hml, hown, hts⟩ (k_X11_finding l (D := D) (cI := cI) (cJ := cJ) (ad := ad) hD hc4) (cwV 1 hts gX11_measure_X11_finding rfl rfl rfl ⟨rfl, zd_X11_finding⟩ ⟨Nat.le_of_ble_eq_true rfl, Nat.le_of_ble_eq_true rfl⟩) (xPreV (ci := 11) hK hP rfl zO_64) rfl rfl hl.1 rfl (lv_room (Nat.le_of_ble_eq_true rfl)) dX11_measure_19 ⟨Nat.zero_le _, Nat.zero_le _⟩) hS (fun H locs hP hS => ?_)
    cases h
    exact W.iret hx hb hr (fun t ht _ => ⟨rfl, by rw [ht]; exact hP, hS.F ht⟩) hS.2.2 dX11_measure_22
  · have h := vz_f c3 h
    refine lv_iload_n hx hb dX11_measure_8 rfl (lv_at hl 2 rfl) ?_
    refine lv_iconst (v := (0 : Int32)) hx hb dX11_measure_9 (by decide) ?_
    refine lv_iconst (v := (3 : Int32)) hx hb dX11_measure_10 (by decide) ?_
    obtain ⟨r10, hc9, h⟩ := vz_b h
    refine za_callR (va_runS (As := [.int a2, .int (0 : Int32), .int (3 : Int32)]) (rest := []) ⟨hx, hb, hml, hown, hts⟩ (k_X11_isIn l hc9) (va_cwS 3 hts gX11_measure_X11_isIn rfl rfl rfl zd_X11_isIn ⟨Nat.le_of_ble_eq_true rfl, Nat.le_of_ble_eq_true rfl⟩) xPre0 rfl rfl hl.1 rfl (lv_room (Nat.le_of_ble_eq_true rfl)) dX11_measure_11 ⟨Nat.zero_le _, Nat.zero_le _⟩) ?_
    refine lv_if_ne (tgt := 23) hx hb dX11_measure_14 (by decide) (fun c11 => ?_) (fun c11 => ?_)
    · have h := vz_f c11 h
      refine lv_aload_n hx hb dX11_measure_23 rfl (lv_at hl 0 rfl) ?_
      obtain ⟨⟨u13, v14⟩, hc12, h⟩ := vz_b h
      try dsimp only at h
      refine za_callWv (va_runV (As := []) (rest := []) ⟨hx, hb, hml, hown, hts⟩ (k_X11_tellHad l (D := D) (cI := cI) (cJ := cJ) (ad := ad) hD hc12) (cwV 0 hts gX11_measure_X11_tellHad rfl rfl rfl ⟨rfl, zd_X11_tellHad⟩ ⟨Nat.le_of_ble_eq_true rfl, Nat.le_of_ble_eq_true rfl⟩) (xPreV (ci := 11) hK hP rfl zO_64) rfl rfl hl.1 rfl (lv_room (Nat.le_of_ble_eq_true rfl)) dX11_measure_24 ⟨Nat.zero_le _, Nat.zero_le _⟩) hS (fun H locs hP hS => ?_)
      refine lv_aload_n hx hb dX11_measure_27 rfl (lv_at hl 0 rfl) ?_
      refine lv_iload_n hx hb dX11_measure_28 rfl (lv_at hl 1 rfl) ?_
      refine lv_iload_n hx hb dX11_measure_29 rfl (lv_at hl 2 rfl) ?_
      obtain ⟨r17, hc16, h⟩ := vz_b h
      refine za_callR (va_runV (As := [.int a1, .int a2]) (rest := []) ⟨hx, hb, hml, hown, hts⟩ (k_X11_measureOf l (D := D) (cI := cI) (cJ := cJ) (ad := ad) hc16) (cwV 2 hts gX11_measure_X11_measureOf rfl rfl rfl ⟨rfl, zd_X11_measureOf⟩ ⟨Nat.le_of_ble_eq_true rfl, Nat.le_of_ble_eq_true rfl⟩) (xPreV (ci := 11) hK hP rfl zO_64) rfl rfl hl.1 rfl (lv_room (Nat.le_of_ble_eq_true rfl)) dX11_measure_30 ⟨Nat.zero_le _, Nat.zero_le _⟩) ?_
      cases h
      exact W.iret hx hb hr (fun t ht _ => ⟨rfl, by rw [ht]; exact hP, hS.F ht⟩) hS.2.2 dX11_measure_33
    · have h := vz_t c11 h
      refine lv_aload_n hx hb dX11_measure_17 rfl (lv_at hl 0 rfl) ?_
      refine lv_iconst (v := (-1 : Int32)) hx hb dX11_measure_18 (by decide) ?_
      obtain ⟨⟨r22, u19, v20⟩, hc18, h⟩ := vz_b h
      try dsimp only at h
      refine za_callWi (va_runV (As := [.int (-1 : Int32)]) (rest := []) ⟨hx, hb, hml, hown, hts⟩ (k_X11_finding l (D := D) (cI := cI) (cJ := cJ) (ad := ad) hD hc18) (cwV 1 hts gX11_measure_X11_finding rfl rfl rfl ⟨rfl, zd_X11_finding⟩ ⟨Nat.le_of_ble_eq_true rfl, Nat.le_of_ble_eq_true rfl⟩) (xPreV (ci := 11) hK hP rfl zO_64) rfl rfl hl.1 rfl (lv_room (Nat.le_of_ble_eq_true rfl)) dX11_measure_19 ⟨Nat.zero_le _, Nat.zero_le _⟩) hS (fun H locs hP hS => ?_)
      cases h
      exact W.iret hx hb hr (fun t ht _ => ⟨rfl, by rw [ht]; exact hP, hS.F ht⟩) hS.2.2 dX11_measure_22
abbrev rmX11_moved : Room := { frames := 1, cells := 0, slots := 0, locals := 22 }
set_option maxHeartbeats 4000000 in
set_option maxRecDepth 100000 in
theorem k_X11_moved (l : Launch) {D : va_G} {cI cJ : ClassId} {ad : Nat → Nat} {u : tU} {v : tV} {A : Nat → Prop} (hD : zD A cI cJ ad) {a1 : Int32} {a2 : Int32}  {r : Int32} {uz : tU} {vz : tV} (h : pX11_moved u v a1 a2 = some (r, uz, vz)) : Met l yX11_moved wsX11_moved rmX11_moved (va_Pc [.ref (ad 64), .int a1, .int a2] (xPre D cI cJ (wA cI cJ ad u v))) (xWi D cI cJ ad A r uz vz) 0 0 A := by
  refine Met.ofW (cc := cX11_moved) (maxL := 4) (ret := (some .int)) (by decide) rfl ?_
  intro p e s m args below meth c s₁ B hml hv
  obtain ⟨rfl, hP, hK⟩ := hv
  have hx := B.exec
  have hb := B.bytes
  have hr := B.returns
  have hts := atoms_spec (ws := wsX11_moved) B.pre
  have hown : s.vm.findClass RX11 = some m.cls := findClass_of_methodNamed B.named
  have hlocks := B.notSynchronized
  have hS : va_S A s.heap s.heap [] := va_S.rf
  have hin11 : ∀ w ∈ u_ws RX11 TX11 10, w ∈ wsX11_moved := fun _ h => List.mem_cons_of_mem _ (List.mem_append_right _ h)
  have hw1 := hts (.fieldLink RX11 13 "InstallDeskModel" "book" "[I") (List.mem_of_getElem? (i := 1) rfl)
  have hl := lv_entry ([.ref (ad 64), .int a1, .int a2]) (n := 4) (Nat.le_of_ble_eq_true rfl)
  rw [lg_entry_eq]
  generalize (lg_sl ([.ref (ad 64), .int a1, .int a2]) ++ List.replicate (4 - (lg_sl ([.ref (ad 64), .int a1, .int a2])).length) Slot.unset).toArray = ls at hl ⊢
  have hl : lv_has ls 4 [(0, .ref (ad 64)), (1, .int a1), (2, .int a2)] := hl
  rw [pX11_moved] at h
  refine lv_aload_n hx hb dX11_moved_0 rfl (lv_at hl 0 rfl) ?_
  refine lv_iload_n hx hb dX11_moved_1 rfl (lv_at hl 1 rfl) ?_
  obtain ⟨r2, hc1, h⟩ := vz_b h
  refine za_callR (va_runV (As := [.int a1]) (rest := []) ⟨hx, hb, hml, hown, hts⟩ (k_X11_isHost l (D := D) (cI := cI) (cJ := cJ) (ad := ad) hc1) (cwV 1 hts gX11_moved_X11_isHost rfl rfl rfl ⟨rfl, zd_X11_isHost⟩ ⟨Nat.le_of_ble_eq_true rfl, Nat.le_of_ble_eq_true rfl⟩) (xPreV (ci := 11) hK hP rfl zO_64) rfl rfl hl.1 rfl (lv_room (Nat.le_of_ble_eq_true rfl)) dX11_moved_2 ⟨Nat.zero_le _, Nat.zero_le _⟩) ?_
  refine lv_if_eq (tgt := 18) hx hb dX11_moved_5 (by decide) (fun c3 => ?_) (fun c3 => ?_)
  · have h := vz_t c3 h
    refine lv_aload_n hx hb dX11_moved_18 rfl (lv_at hl 0 rfl) ?_
    refine lv_iconst (v := (-1 : Int32)) hx hb dX11_moved_19 (by decide) ?_
    obtain ⟨⟨r8, u5, v6⟩, hc4, h⟩ := vz_b h
    try dsimp only at h
    refine za_callWi (va_runV (As := [.int (-1 : Int32)]) (rest := []) ⟨hx, hb, hml, hown, hts⟩ (k_X11_finding l (D := D) (cI := cI) (cJ := cJ) (ad := ad) hD hc4) (cwV 1 hts gX11_moved_X11_finding rfl rfl rfl ⟨rfl, zd_X11_finding⟩ ⟨Nat.le_of_ble_eq_true rfl, Nat.le_of_ble_eq_true rfl⟩) (xPreV (ci := 11) hK hP rfl zO_64) rfl rfl hl.1 rfl (lv_room (Nat.le_of_ble_eq_true rfl)) dX11_moved_20 ⟨Nat.zero_le _, Nat.zero_le _⟩) hS (fun H locs hP hS => ?_)
    cases h
    exact W.iret hx hb hr (fun t ht _ => ⟨rfl, by rw [ht]; exact hP, hS.F ht⟩) hS.2.2 dX11_moved_23
  · have h := vz_f c3 h
    refine lv_iload_n hx hb dX11_moved_8 rfl (lv_at hl 2 rfl) ?_
    refine lv_iconst (v := (0 : Int32)) hx hb dX11_moved_9 (by decide) ?_
    refine lv_bipush (v := (9 : Int32)) hx hb dX11_moved_10 (by decide) ?_
    obtain ⟨r10, hc9, h⟩ := vz_b h
    refine za_callR (va_runS (As := [.int a2, .int (0 : Int32), .int (9 : Int32)]) (rest := []) ⟨hx, hb, hml, hown, hts⟩ (k_X11_isIn l hc9) (va_cwS 3 hts gX11_moved_X11_isIn rfl rfl rfl zd_X11_isIn ⟨Nat.le_of_ble_eq_true rfl, Nat.le_of_ble_eq_true rfl⟩) xPre0 rfl rfl hl.1 rfl (lv_room (Nat.le_of_ble_eq_true rfl)) dX11_moved_12 ⟨Nat.zero_le _, Nat.zero_le _⟩) ?_
    refine lv_if_ne (tgt := 24) hx hb dX11_moved_15 (by decide) (fun c11 => ?_) (fun c11 => ?_)
    · have h := vz_f c11 h
      refine lv_aload_n hx hb dX11_moved_24 rfl (lv_at hl 0 rfl) ?_
      refine lv_iload_n hx hb dX11_moved_25 rfl (lv_at hl 1 rfl) ?_
      refine lv_iconst (v := (1 : Int32)) hx hb dX11_moved_26 (by decide) ?_
      obtain ⟨r13, hc12, h⟩ := vz_b h
      refine za_callR (va_runV (As := [.int a1, .int (1 : Int32)]) (rest := []) ⟨hx, hb, hml, hown, hts⟩ (k_X11_hostAt l (D := D) (cI := cI) (cJ := cJ) (ad := ad) hc12) (cwV 2 hts gX11_moved_X11_hostAt rfl rfl rfl ⟨rfl, zd_X11_hostAt⟩ ⟨Nat.le_of_ble_eq_true rfl, Nat.le_of_ble_eq_true rfl⟩) (xPreV (ci := 11) hK hP rfl zO_64) rfl rfl hl.1 rfl (lv_room (Nat.le_of_ble_eq_true rfl)) dX11_moved_27 ⟨Nat.zero_le _, Nat.zero_le _⟩) ?_
      refine lv_istore_n (lv' := [(3, .int r13), (0, .ref (ad 64)), (1, .int a1), (2, .int a2)]) hx hb dX11_moved_30 rfl hl (by decide) rfl (fun ls hl => ?_)
      refine lv_aload_n hx hb dX11_moved_31 rfl (lv_at hl 1 rfl) ?_
      refine za_getr (k := 2) hx hb hts hin11 hown hK hP zF_64_2 rfl (Nat.le_of_ble_eq_true rfl) (Or.inl hw1) dX11_moved_32 ?_
      refine lv_sipush (v := (278 : Int32)) hx hb dX11_moved_35 (by decide) ?_
      refine lv_iconst (v := (2 : Int32)) hx hb dX11_moved_38 (by decide) ?_
      refine lv_iload_n hx hb dX11_moved_39 rfl (lv_at hl 2 rfl) ?_
      refine lv_imul hx hb dX11_moved_40 ?_
      refine lv_iadd hx hb dX11_moved_41 ?_
      refine lv_iconst (v := (1 : Int32)) hx hb dX11_moved_42 (by decide) ?_
      refine lv_iadd hx hb dX11_moved_43 ?_
      refine lv_iload_n hx hb dX11_moved_44 rfl (lv_at hl 3 rfl) ?_
      obtain ⟨g14, h⟩ := gd_s h
      refine za_ist hx hb hK hP hD hS zI_66 g14 dX11_moved_45 (fun H locs hP hS => ?_)
      refine lv_iload_n hx hb dX11_moved_46 rfl (lv_at hl 0 rfl) ?_
      cases h
      exact W.iret hx hb hr (fun t ht _ => ⟨rfl, by rw [ht]; exact hP, hS.F ht⟩) hS.2.2 dX11_moved_47
    · have h := vz_t c11 h
      refine lv_aload_n hx hb dX11_moved_18 rfl (lv_at hl 0 rfl) ?_
      refine lv_iconst (v := (-1 : Int32)) hx hb dX11_moved_19 (by decide) ?_
      obtain ⟨⟨r19, u16, v17⟩, hc15, h⟩ := vz_b h
      try dsimp only at h
      refine za_callWi (va_runV (As := [.int (-1 : Int32)]) (rest := []) ⟨hx, hb, hml, hown, hts⟩ (k_X11_finding l (D := D) (cI := cI) (cJ := cJ) (ad := ad) hD hc15) (cwV 1 hts gX11_moved_X11_finding rfl rfl rfl ⟨rfl, zd_X11_finding⟩ ⟨Nat.le_of_ble_eq_true rfl, Nat.le_of_ble_eq_true rfl⟩) (xPreV (ci := 11) hK hP rfl zO_64) rfl rfl hl.1 rfl (lv_room (Nat.le_of_ble_eq_true rfl)) dX11_moved_20 ⟨Nat.zero_le _, Nat.zero_le _⟩) hS (fun H locs hP hS => ?_)
      cases h
      exact W.iret hx hb hr (fun t ht _ => ⟨rfl, by rw [ht]; exact hP, hS.F ht⟩) hS.2.2 dX11_moved_23
abbrev rmX11_needs : Room := { frames := 6, cells := 0, slots := 0, locals := 142 }
set_option maxHeartbeats 4000000 in
set_option maxRecDepth 100000 in
theorem k_X11_needs (l : Launch) {D : va_G} {cI cJ : ClassId} {ad : Nat → Nat} {u : tU} {v : tV} {A : Nat → Prop} (hD : zD A cI cJ ad) {r : Int32} {uz : tU} {vz : tV} (h : pX11_needs u v  = some (r, uz, vz)) : Met l yX11_needs wsX11_needs rmX11_needs (va_Pc [.ref (ad 64)] (xPre D cI cJ (wA cI cJ ad u v))) (xWi D cI cJ ad A r uz vz) 0 0 A := by
  refine Met.ofW (cc := cX11_needs) (maxL := 3) (ret := (some .int)) (by decide) rfl ?_
  intro p e s m args below meth c s₁ B hml hv
  obtain ⟨rfl, hP, hK⟩ := hv
  have hx := B.exec
  have hb := B.bytes
  have hr := B.returns
  have hts := atoms_spec (ws := wsX11_needs) B.pre
  have hown : s.vm.findClass RX11 = some m.cls := findClass_of_methodNamed B.named
  have hlocks := B.notSynchronized
  have hS : va_S A s.heap s.heap [] := va_S.rf
  have hin11 : ∀ w ∈ u_ws RX11 TX11 10, w ∈ wsX11_needs := fun _ h => List.mem_cons_of_mem _ (List.mem_append_right _ h)
  have hw1 := hts (.fieldLink RX11 13 "InstallDeskModel" "book" "[I") (List.mem_of_getElem? (i := 1) rfl)
  have hl := lv_entry ([.ref (ad 64)]) (n := 3) (Nat.le_of_ble_eq_true rfl)
  rw [lg_entry_eq]
  generalize (lg_sl ([.ref (ad 64)]) ++ List.replicate (3 - (lg_sl ([.ref (ad 64)])).length) Slot.unset).toArray = ls at hl ⊢
  have hl : lv_has ls 3 [(0, .ref (ad 64))] := hl
  have L8 : ∀ (u : tU) (v : tV) (H : Heap) (locs : List Loc)  (n : Nat) (x1 : Int32) (x2 : Int32) (ls : Array Slot) (o : Int32), pX11_needs_L8 u v n x1 x2 = some o → va_P D vwCl (wA cI cJ ad u v) H → va_S A s.heap H locs → lv_has ls 3 [(0, .ref (ad 64)), (1, .int x1), (2, .int x2)] → (∀ (y1 : Int32) (ls : Array Slot), o = y1 → lv_has ls 3 [(1, .int y1)] → W p l e (headSpec wsX11_needs rmX11_needs).room s m [Value.ref (ad 64)].toArray below meth c H locs 0 0 (MQ below (xWi D cI cJ ad A r uz vz) [Value.ref (ad 64)].toArray s 0 0 A) (F0 m 35 ls [])) → W p l e (headSpec wsX11_needs rmX11_needs).room s m [Value.ref (ad 64)].toArray below meth c H locs 0 0 (MQ below (xWi D cI cJ ad A r uz vz) [Value.ref (ad 64)].toArray s 0 0 A) (F0 m 8 ls []) := by
    intro u v H locs n
    induction n with
    | zero => intro x1 x2 ls o h; cases h
    | succ n ih =>
      intro x1 x2 ls o h hP hS hl hk
      rw [pX11_needs_L8] at h
      refine lv_iload_n hx hb dX11_needs_8 rfl (lv_at hl 2 rfl) ?_
      refine lv_aload_n hx hb dX11_needs_9 rfl (lv_at hl 0 rfl) ?_
      refine za_getr (k := 2) hx hb hts hin11 hown hK hP zF_64_2 rfl (Nat.le_of_ble_eq_true rfl) (Or.inl hw1) dX11_needs_10 ?_
      refine lv_iconst (v := (0 : Int32)) hx hb dX11_needs_13 (by decide) ?_
      refine za_ildc (j := 0) hx hb hK hP zI_66 (by unfold vp_in; decide) rfl dX11_needs_14 ?_
      refine lv_icmp_ge (tgt := 35) hx hb dX11_needs_15 (by decide) (fun c1 => ?_) (fun c1 => ?_)
      · have h := vz_t c1 h
        cases h
        exact hk x1 ls rfl (lv_sub hl [1] rfl)
      · have h := vz_f c1 h
        refine lv_iload_n hx hb dX11_needs_18 rfl (lv_at hl 1 rfl) ?_
        refine lv_aload_n hx hb dX11_needs_19 rfl (lv_at hl 0 rfl) ?_
        refine lv_iload_n hx hb dX11_needs_20 rfl (lv_at hl 2 rfl) ?_
        refine lv_bipush (v := (9 : Int32)) hx hb dX11_needs_21 (by decide) ?_
        refine lv_iconst (v := (-1 : Int32)) hx hb dX11_needs_23 (by decide) ?_
        obtain ⟨r3, hc2, h⟩ := vz_b h
        refine za_callR (va_runV (As := [.int x2, .int (9 : Int32), .int (-1 : Int32)]) (rest := [.int x1]) ⟨hx, hb, hml, hown, hts⟩ (k_X11_needsUpTo l (D := D) (cI := cI) (cJ := cJ) (ad := ad) hc2) (cwV 3 hts gX11_needs_X11_needsUpTo rfl rfl rfl ⟨rfl, zd_X11_needsUpTo⟩ ⟨Nat.le_of_ble_eq_true rfl, Nat.le_of_ble_eq_true rfl⟩) (xPreV (ci := 11) hK hP rfl zO_64) rfl rfl hl.1 rfl (lv_room (Nat.le_of_ble_eq_true rfl)) dX11_needs_24 ⟨Nat.zero_le _, Nat.zero_le _⟩) ?_
        refine lv_iadd hx hb dX11_needs_27 ?_
        refine lv_istore_n (lv' := [(1, .int (x1 + r3)), (0, .ref (ad 64)), (2, .int x2)]) hx hb dX11_needs_28 rfl hl (by decide) rfl (fun ls hl => ?_)
        refine lv_iinc (v := (x2 + 1)) (lv' := [(2, .int (x2 + 1)), (1, .int (x1 + r3)), (0, .ref (ad 64))]) hx hb dX11_needs_29 hl (k := 2) rfl rfl (by decide) rfl (fun ls hl => ?_)
        refine lv_goto (tgt := 8) hx hb dX11_needs_32 (by decide) ?_
        exact ih (x1 + r3) (x2 + 1) ls o h hP hS (lv_sub hl [2, 1, 0] rfl) hk
  rw [pX11_needs] at h
  refine lv_aload_n hx hb dX11_needs_0 rfl (lv_at hl 0 rfl) ?_
  obtain ⟨⟨u5, v6⟩, hc4, h⟩ := vz_b h
  try dsimp only at h
  refine za_callWv (va_runV (As := []) (rest := []) ⟨hx, hb, hml, hown, hts⟩ (k_X11_tellHad l (D := D) (cI := cI) (cJ := cJ) (ad := ad) hD hc4) (cwV 0 hts gX11_needs_X11_tellHad rfl rfl rfl ⟨rfl, zd_X11_tellHad⟩ ⟨Nat.le_of_ble_eq_true rfl, Nat.le_of_ble_eq_true rfl⟩) (xPreV (ci := 11) hK hP rfl zO_64) rfl rfl hl.1 rfl (lv_room (Nat.le_of_ble_eq_true rfl)) dX11_needs_1 ⟨Nat.zero_le _, Nat.zero_le _⟩) hS (fun H locs hP hS => ?_)
  refine lv_iconst (v := (0 : Int32)) hx hb dX11_needs_4 (by decide) ?_
  refine lv_istore_n (lv' := [(1, .int (0 : Int32)), (0, .ref (ad 64))]) hx hb dX11_needs_5 rfl hl (by decide) rfl (fun ls hl => ?_)
  refine lv_iconst (v := (0 : Int32)) hx hb dX11_needs_6 (by decide) ?_
  refine lv_istore_n (lv' := [(2, .int (0 : Int32)), (1, .int (0 : Int32)), (0, .ref (ad 64))]) hx hb dX11_needs_7 rfl hl (by decide) rfl (fun ls hl => ?_)
  obtain ⟨o8, hL9, h⟩ := vz_b h
  refine L8 u5 v6 _ _ fuel (0 : Int32) (0 : Int32) ls o8 hL9 hP hS (lv_sub hl [2, 1, 0] rfl) (fun y11 ls e10 hl => ?_)
  try rw [e10] at h
  try dsimp only at h
  refine lv_iload_n hx hb dX11_needs_35 rfl (lv_at hl 0 rfl) ?_
  cases h
  exact W.iret hx hb hr (fun t ht _ => ⟨rfl, by rw [ht]; exact hP, hS.F ht⟩) hS.2.2 dX11_needs_36
abbrev rmX11_nextDay : Room := { frames := 1, cells := 0, slots := 0, locals := 22 }
set_option maxHeartbeats 4000000 in
set_option maxRecDepth 100000 in
theorem k_X11_nextDay (l : Launch) {D : va_G} {cI cJ : ClassId} {ad : Nat → Nat} {u : tU} {v : tV} {a1 : Int32}  {r : Int32}  (h : pX11_nextDay u v a1 = some r) : Met l yX11_nextDay wsX11_nextDay rmX11_nextDay (va_Pc [.ref (ad 64), .int a1] (xPre D cI cJ (wA cI cJ ad u v))) (QcRead r) 0 0 (fun _ => False) := by
  refine Met.ofW (cc := cX11_nextDay) (maxL := 6) (ret := (some .int)) (by decide) rfl ?_
  intro p e s m args below meth c s₁ B hml hv
  obtain ⟨rfl, hP, hK⟩ := hv
  have hx := B.exec
  have hb := B.bytes
  have hr := B.returns
  have hts := atoms_spec (ws := wsX11_nextDay) B.pre
  have hown : s.vm.findClass RX11 = some m.cls := findClass_of_methodNamed B.named
  have hlocks := B.notSynchronized
  have hin11 : ∀ w ∈ u_ws RX11 TX11 10, w ∈ wsX11_nextDay := fun _ h => List.mem_cons_of_mem _ (List.mem_append_right _ h)
  have hw1 := hts (.fieldLink RX11 13 "InstallDeskModel" "book" "[I") (List.mem_of_getElem? (i := 1) rfl)
  have hl := lv_entry ([.ref (ad 64), .int a1]) (n := 6) (Nat.le_of_ble_eq_true rfl)
  rw [lg_entry_eq]
  generalize (lg_sl ([.ref (ad 64), .int a1]) ++ List.replicate (6 - (lg_sl ([.ref (ad 64), .int a1])).length) Slot.unset).toArray = ls at hl ⊢
  have hl : lv_has ls 6 [(0, .ref (ad 64)), (1, .int a1)] := hl
  have L6 : ∀ (x1 : Int32) (n : Nat) (x2 : Int32) (x3 : Int32) (ls : Array Slot) (o : Int32), pX11_nextDay_L6 u v x1 n x2 x3 = some o → lv_has ls 6 [(0, .ref (ad 64)), (1, .int x1), (2, .int x2), (3, .int x3)] → (∀ (y2 : Int32) (ls : Array Slot), o = y2 → lv_has ls 6 [(2, .int y2)] → W p l e (headSpec wsX11_nextDay rmX11_nextDay).room s m [Value.ref (ad 64), Value.int a1].toArray below meth c s.heap [] 0 0 (MQ below (QcRead r) [Value.ref (ad 64), Value.int a1].toArray s 0 0 (fun _ => False)) (F0 m 78 ls [])) → W p l e (headSpec wsX11_nextDay rmX11_nextDay).room s m [Value.ref (ad 64), Value.int a1].toArray below meth c s.heap [] 0 0 (MQ below (QcRead r) [Value.ref (ad 64), Value.int a1].toArray s 0 0 (fun _ => False)) (F0 m 6 ls []) := by
    intro x1 n
    induction n with
    | zero => intro x2 x3 ls o h; cases h
    | succ n ih =>
      intro x2 x3 ls o h hl hk
      rw [pX11_nextDay_L6] at h
      refine lv_iload_n hx hb dX11_nextDay_6 rfl (lv_at hl 3 rfl) ?_
      refine lv_aload_n hx hb dX11_nextDay_7 rfl (lv_at hl 0 rfl) ?_
      refine za_getr (k := 2) hx hb hts hin11 hown hK hP zF_64_2 rfl (Nat.le_of_ble_eq_true rfl) (Or.inl hw1) dX11_nextDay_8 ?_
      refine lv_iconst (v := (5 : Int32)) hx hb dX11_nextDay_11 (by decide) ?_
      refine za_ildc (j := 5) hx hb hK hP zI_66 (by unfold vp_in; decide) rfl dX11_nextDay_12 ?_
      refine lv_icmp_ge (tgt := 78) hx hb dX11_nextDay_13 (by decide) (fun c1 => ?_) (fun c1 => ?_)
      · have h := vz_t c1 h
        cases h
        exact hk x2 ls rfl (lv_sub hl [2] rfl)
      · have h := vz_f c1 h
        refine lv_aload_n hx hb dX11_nextDay_16 rfl (lv_at hl 0 rfl) ?_
        refine lv_iload_n hx hb dX11_nextDay_17 rfl (lv_at hl 3 rfl) ?_
        refine lv_iconst (v := (4 : Int32)) hx hb dX11_nextDay_18 (by decide) ?_
        obtain ⟨r3, hc2, h⟩ := vz_b h
        refine za_callR (va_runV (As := [.int x3, .int (4 : Int32)]) (rest := []) ⟨hx, hb, hml, hown, hts⟩ (k_X11_rightAt l (D := D) (cI := cI) (cJ := cJ) (ad := ad) hc2) (cwV 2 hts gX11_nextDay_X11_rightAt rfl rfl rfl ⟨rfl, zd_X11_rightAt⟩ ⟨Nat.le_of_ble_eq_true rfl, Nat.le_of_ble_eq_true rfl⟩) (xPreV (ci := 11) hK hP rfl zO_64) rfl rfl hl.1 rfl (lv_room (Nat.le_of_ble_eq_true rfl)) dX11_nextDay_19 ⟨Nat.zero_le _, Nat.zero_le _⟩) ?_
        refine lv_istore (lv' := [(4, .int r3), (0, .ref (ad 64)), (1, .int x1), (2, .int x2), (3, .int x3)]) hx hb dX11_nextDay_22 hl (by decide) rfl (fun ls hl => ?_)
        refine lv_aload_n hx hb dX11_nextDay_24 rfl (lv_at hl 1 rfl) ?_
        refine lv_iload_n hx hb dX11_nextDay_25 rfl (lv_at hl 4 rfl) ?_
        refine lv_iconst (v := (5 : Int32)) hx hb dX11_nextDay_26 (by decide) ?_
        obtain ⟨r5, hc4, h⟩ := vz_b h
        refine za_callR (va_runV (As := [.int x3, .int (5 : Int32)]) (rest := []) ⟨hx, hb, hml, hown, hts⟩ (k_X11_rightAt l (D := D) (cI := cI) (cJ := cJ) (ad := ad) hc4) (cwV 2 hts gX11_nextDay_X11_rightAt rfl rfl rfl ⟨rfl, zd_X11_rightAt⟩ ⟨Nat.le_of_ble_eq_true rfl, Nat.le_of_ble_eq_true rfl⟩) (xPreV (ci := 11) hK hP rfl zO_64) rfl rfl hl.1 rfl (lv_room (Nat.le_of_ble_eq_true rfl)) dX11_nextDay_27 ⟨Nat.zero_le _, Nat.zero_le _⟩) ?_
        refine lv_iconst (v := (1 : Int32)) hx hb dX11_nextDay_30 (by decide) ?_
        refine lv_iadd hx hb dX11_nextDay_31 ?_
        refine lv_istore (lv' := [(5, .int (r5 + (1 : Int32))), (4, .int r3), (0, .ref (ad 64)), (1, .int x1), (2, .int x2), (3, .int x3)]) hx hb dX11_nextDay_32 hl (by decide) rfl (fun ls hl => ?_)
        refine lv_iload hx hb dX11_nextDay_34 (lv_at hl 1 rfl) ?_
        refine lv_iload_n hx hb dX11_nextDay_36 rfl (lv_at hl 3 rfl) ?_
        refine lv_icmp_le (tgt := 51) hx hb dX11_nextDay_37 (by decide) (fun c6 => ?_) (fun c6 => ?_)
        · have h := vz_t c6 h
          refine lv_iload_n hx hb dX11_nextDay_51 rfl (lv_at hl 4 rfl) ?_
          refine lv_istore_n (lv' := [(2, .int x2), (5, .int (r5 + (1 : Int32))), (4, .int r3), (0, .ref (ad 64)), (1, .int x1), (3, .int x3)]) hx hb dX11_nextDay_52 rfl hl (by decide) rfl (fun ls hl => ?_)
          refine lv_iload hx hb dX11_nextDay_53 (lv_at hl 1 rfl) ?_
          refine lv_iload_n hx hb dX11_nextDay_55 rfl (lv_at hl 4 rfl) ?_
          refine lv_icmp_le (tgt := 70) hx hb dX11_nextDay_56 (by decide) (fun c7 => ?_) (fun c7 => ?_)
          · have h := vz_t c7 h
            refine lv_iload_n hx hb dX11_nextDay_70 rfl (lv_at hl 0 rfl) ?_
            refine lv_istore_n (lv' := [(2, .int x2), (5, .int (r5 + (1 : Int32))), (4, .int r3), (0, .ref (ad 64)), (1, .int x1), (3, .int x3)]) hx hb dX11_nextDay_71 rfl hl (by decide) rfl (fun ls hl => ?_)
            refine lv_iinc (v := (x3 + 1)) (lv' := [(3, .int (x3 + 1)), (2, .int x2), (5, .int (r5 + (1 : Int32))), (4, .int r3), (0, .ref (ad 64)), (1, .int x1)]) hx hb dX11_nextDay_72 hl (k := 5) rfl rfl (by decide) rfl (fun ls hl => ?_)
            refine lv_goto (tgt := 6) hx hb dX11_nextDay_75 (by decide) ?_
            exact ih x2 (x3 + 1) ls o h (lv_sub hl [4, 5, 1, 0] rfl) hk
          · have h := vz_f c7 h
            refine lv_iload hx hb dX11_nextDay_59 (lv_at hl 1 rfl) ?_
            refine lv_iload_n hx hb dX11_nextDay_61 rfl (lv_at hl 0 rfl) ?_
            refine lv_icmp_ge (tgt := 70) hx hb dX11_nextDay_62 (by decide) (fun c8 => ?_) (fun c8 => ?_)
            · have h := vz_t c8 h
              refine lv_iload_n hx hb dX11_nextDay_70 rfl (lv_at hl 0 rfl) ?_
              refine lv_istore_n (lv' := [(2, .int x2), (5, .int (r5 + (1 : Int32))), (4, .int r3), (0, .ref (ad 64)), (1, .int x1), (3, .int x3)]) hx hb dX11_nextDay_71 rfl hl (by decide) rfl (fun ls hl => ?_)
              refine lv_iinc (v := (x3 + 1)) (lv' := [(3, .int (x3 + 1)), (2, .int x2), (5, .int (r5 + (1 : Int32))), (4, .int r3), (0, .ref (ad 64)), (1, .int x1)]) hx hb dX11_nextDay_72 hl (k := 5) rfl rfl (by decide) rfl (fun ls hl => ?_)
              refine lv_goto (tgt := 6) hx hb dX11_nextDay_75 (by decide) ?_
              exact ih x2 (x3 + 1) ls o h (lv_sub hl [4, 5, 1, 0] rfl) hk
            · have h := vz_f c8 h
              refine lv_iload hx hb dX11_nextDay_65 (lv_at hl 1 rfl) ?_
              refine lv_goto (tgt := 71) hx hb dX11_nextDay_67 (by decide) ?_
              refine lv_istore_n (lv' := [(2, .int (r5 + (1 : Int32))), (5, .int (r5 + (1 : Int32))), (4, .int r3), (0, .ref (ad 64)), (1, .int x1), (3, .int x3)]) hx hb dX11_nextDay_71 rfl hl (by decide) rfl (fun ls hl => ?_)
              refine lv_iinc (v := (x3 + 1)) (lv' := [(3, .int (x3 + 1)), (2, .int (r5 + (1 : Int32))), (5, .int (r5 + (1 : Int32))), (4, .int r3), (0, .ref (ad 64)), (1, .int x1)]) hx hb dX11_nextDay_72 hl (k := 5) rfl rfl (by decide) rfl (fun ls hl => ?_)
              refine lv_goto (tgt := 6) hx hb dX11_nextDay_75 (by decide) ?_
              exact ih (r5 + (1 : Int32)) (x3 + 1) ls o h (lv_sub hl [4, 5, 1, 0] rfl) hk
        · have h := vz_f c6 h
          refine lv_iload hx hb dX11_nextDay_40 (lv_at hl 1 rfl) ?_
          refine lv_iload_n hx hb dX11_nextDay_42 rfl (lv_at hl 4 rfl) ?_
          refine lv_icmp_ge (tgt := 51) hx hb dX11_nextDay_43 (by decide) (fun c9 => ?_) (fun c9 => ?_)
          · have h := vz_t c9 h
            refine lv_iload_n hx hb dX11_nextDay_51 rfl (lv_at hl 4 rfl) ?_
            refine lv_istore_n (lv' := [(2, .int x2), (5, .int (r5 + (1 : Int32))), (4, .int r3), (0, .ref (ad 64)), (1, .int x1), (3, .int x3)]) hx hb dX11_nextDay_52 rfl hl (by decide) rfl (fun ls hl => ?_)
            refine lv_iload hx hb dX11_nextDay_53 (lv_at hl 1 rfl) ?_
            refine lv_iload_n hx hb dX11_nextDay_55 rfl (lv_at hl 4 rfl) ?_
            refine lv_icmp_le (tgt := 70) hx hb dX11_nextDay_56 (by decide) (fun c10 => ?_) (fun c10 => ?_)
            · have h := vz_t c10 h
              refine lv_iload_n hx hb dX11_nextDay_70 rfl (lv_at hl 0 rfl) ?_
              refine lv_istore_n (lv' := [(2, .int x2), (5, .int (r5 + (1 : Int32))), (4, .int r3), (0, .ref (ad 64)), (1, .int x1), (3, .int x3)]) hx hb dX11_nextDay_71 rfl hl (by decide) rfl (fun ls hl => ?_)
              refine lv_iinc (v := (x3 + 1)) (lv' := [(3, .int (x3 + 1)), (2, .int x2), (5, .int (r5 + (1 : Int32))), (4, .int r3), (0, .ref (ad 64)), (1, .int x1)]) hx hb dX11_nextDay_72 hl (k := 5) rfl rfl (by decide) rfl (fun ls hl => ?_)
              refine lv_goto (tgt := 6) hx hb dX11_nextDay_75 (by decide) ?_
              exact ih x2 (x3 + 1) ls o h (lv_sub hl [4, 5, 1, 0] rfl) hk
            · have h := vz_f c10 h
              refine lv_iload hx hb dX11_nextDay_59 (lv_at hl 1 rfl) ?_
              refine lv_iload_n hx hb dX11_nextDay_61 rfl (lv_at hl 0 rfl) ?_
              refine lv_icmp_ge (tgt := 70) hx hb dX11_nextDay_62 (by decide) (fun c11 => ?_) (fun c11 => ?_)
              · have h := vz_t c11 h
                refine lv_iload_n hx hb dX11_nextDay_70 rfl (lv_at hl 0 rfl) ?_
                refine lv_istore_n (lv' := [(2, .int x2), (5, .int (r5 + (1 : Int32))), (4, .int r3), (0, .ref (ad 64)), (1, .int x1), (3, .int x3)]) hx hb dX11_nextDay_71 rfl hl (by decide) rfl (fun ls hl => ?_)
                refine lv_iinc (v := (x3 + 1)) (lv' := [(3, .int (x3 + 1)), (2, .int x2), (5, .int (r5 + (1 : Int32))), (4, .int r3), (0, .ref (ad 64)), (1, .int x1)]) hx hb dX11_nextDay_72 hl (k := 5) rfl rfl (by decide) rfl (fun ls hl => ?_)
                refine lv_goto (tgt := 6) hx hb dX11_nextDay_75 (by decide) ?_
                exact ih x2 (x3 + 1) ls o h (lv_sub hl [4, 5, 1, 0] rfl) hk
              · have h := vz_f c11 h
                refine lv_iload hx hb dX11_nextDay_65 (lv_at hl 1 rfl) ?_
                refine lv_goto (tgt := 71) hx hb dX11_nextDay_67 (by decide) ?_
                refine lv_istore_n (lv' := [(2, .int (r5 + (1 : Int32))), (5, .int (r5 + (1 : Int32))), (4, .int r3), (0, .ref (ad 64)), (1, .int x1), (3, .int x3)]) hx hb dX11_nextDay_71 rfl hl (by decide) rfl (fun ls hl => ?_)
                refine lv_iinc (v := (x3 + 1)) (lv' := [(3, .int (x3 + 1)), (2, .int (r5 + (1 : Int32))), (5, .int (r5 + (1 : Int32))), (4, .int r3), (0, .ref (ad 64)), (1, .int x1)]) hx hb dX11_nextDay_72 hl (k := 5) rfl rfl (by decide) rfl (fun ls hl => ?_)
                refine lv_goto (tgt := 6) hx hb dX11_nextDay_75 (by decide) ?_
                exact ih (r5 + (1 : Int32)) (x3 + 1) ls o h (lv_sub hl [4, 5, 1, 0] rfl) hk
          · have h := vz_f c9 h
            refine lv_iload hx hb dX11_nextDay_46 (lv_at hl 1 rfl) ?_
            refine lv_goto (tgt := 52) hx hb dX11_nextDay_48 (by decide) ?_
            refine lv_istore_n (lv' := [(2, .int r3), (5, .int (r5 + (1 : Int32))), (4, .int r3), (0, .ref (ad 64)), (1, .int x1), (3, .int x3)]) hx hb dX11_nextDay_52 rfl hl (by decide) rfl (fun ls hl => ?_)
            refine lv_iload hx hb dX11_nextDay_53 (lv_at hl 1 rfl) ?_
            refine lv_iload_n hx hb dX11_nextDay_55 rfl (lv_at hl 4 rfl) ?_
            refine lv_icmp_le (tgt := 70) hx hb dX11_nextDay_56 (by decide) (fun c12 => ?_) (fun c12 => ?_)
            · have h := vz_t c12 h
              refine lv_iload_n hx hb dX11_nextDay_70 rfl (lv_at hl 0 rfl) ?_
              refine lv_istore_n (lv' := [(2, .int r3), (5, .int (r5 + (1 : Int32))), (4, .int r3), (0, .ref (ad 64)), (1, .int x1), (3, .int x3)]) hx hb dX11_nextDay_71 rfl hl (by decide) rfl (fun ls hl => ?_)
              refine lv_iinc (v := (x3 + 1)) (lv' := [(3, .int (x3 + 1)), (2, .int r3), (5, .int (r5 + (1 : Int32))), (4, .int r3), (0, .ref (ad 64)), (1, .int x1)]) hx hb dX11_nextDay_72 hl (k := 5) rfl rfl (by decide) rfl (fun ls hl => ?_)
              refine lv_goto (tgt := 6) hx hb dX11_nextDay_75 (by decide) ?_
              exact ih r3 (x3 + 1) ls o h (lv_sub hl [4, 5, 1, 0] rfl) hk
            · have h := vz_f c12 h
              refine lv_iload hx hb dX11_nextDay_59 (lv_at hl 1 rfl) ?_
              refine lv_iload_n hx hb dX11_nextDay_61 rfl (lv_at hl 0 rfl) ?_
              refine lv_icmp_ge (tgt := 70) hx hb dX11_nextDay_62 (by decide) (fun c13 => ?_) (fun c13 => ?_)
              · have h := vz_t c13 h
                refine lv_iload_n hx hb dX11_nextDay_70 rfl (lv_at hl 0 rfl) ?_
                refine lv_istore_n (lv' := [(2, .int r3), (5, .int (r5 + (1 : Int32))), (4, .int r3), (0, .ref (ad 64)), (1, .int x1), (3, .int x3)]) hx hb dX11_nextDay_71 rfl hl (by decide) rfl (fun ls hl => ?_)
                refine lv_iinc (v := (x3 + 1)) (lv' := [(3, .int (x3 + 1)), (2, .int r3), (5, .int (r5 + (1 : Int32))), (4, .int r3), (0, .ref (ad 64)), (1, .int x1)]) hx hb dX11_nextDay_72 hl (k := 5) rfl rfl (by decide) rfl (fun ls hl => ?_)
                refine lv_goto (tgt := 6) hx hb dX11_nextDay_75 (by decide) ?_
                exact ih r3 (x3 + 1) ls o h (lv_sub hl [4, 5, 1, 0] rfl) hk
              · have h := vz_f c13 h
                refine lv_iload hx hb dX11_nextDay_65 (lv_at hl 1 rfl) ?_
                refine lv_goto (tgt := 71) hx hb dX11_nextDay_67 (by decide) ?_
                refine lv_istore_n (lv' := [(2, .int (r5 + (1 : Int32))), (5, .int (r5 + (1 : Int32))), (4, .int r3), (0, .ref (ad 64)), (1, .int x1), (3, .int x3)]) hx hb dX11_nextDay_71 rfl hl (by decide) rfl (fun ls hl => ?_)
                refine lv_iinc (v := (x3 + 1)) (lv' := [(3, .int (x3 + 1)), (2, .int (r5 + (1 : Int32))), (5, .int (r5 + (1 : Int32))), (4, .int r3), (0, .ref (ad 64)), (1, .int x1)]) hx hb dX11_nextDay_72 hl (k := 5) rfl rfl (by decide) rfl (fun ls hl => ?_)
                refine lv_goto (tgt := 6) hx hb dX11_nextDay_75 (by decide) ?_
                exact ih (r5 + (1 : Int32)) (x3 + 1) ls o h (lv_sub hl [4, 5, 1, 0] rfl) hk
  rw [pX11_nextDay] at h
  refine lv_sipush (v := (10000 : Int32)) hx hb dX11_nextDay_0 (by decide) ?_
  refine lv_istore_n (lv' := [(2, .int (10000 : Int32)), (0, .ref (ad 64)), (1, .int a1)]) hx hb dX11_nextDay_3 rfl hl (by decide) rfl (fun ls hl => ?_)
  refine lv_iconst (v := (0 : Int32)) hx hb dX11_nextDay_4 (by decide) ?_
  refine lv_istore_n (lv' := [(3, .int (0 : Int32)), (2, .int (10000 : Int32)), (0, .ref (ad 64)), (1, .int a1)]) hx hb dX11_nextDay_5 rfl hl (by decide) rfl (fun ls hl => ?_)
  obtain ⟨o14, hL15, h⟩ := vz_b h
  refine L6 a1 fuel (10000 : Int32) (0 : Int32) ls o14 hL15 (lv_sub hl [2, 3, 1, 0] rfl) (fun y17 ls e16 hl => ?_)
  try rw [e16] at h
  try dsimp only at h
  refine lv_iload_n hx hb dX11_nextDay_78 rfl (lv_at hl 0 rfl) ?_
  cases h
  exact W.iret hx hb hr (fun t ht _ => ⟨rfl, ht⟩) (fun q hq => absurd hq List.not_mem_nil) dX11_nextDay_79
