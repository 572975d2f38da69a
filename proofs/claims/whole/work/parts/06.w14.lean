abbrev rmX11_told : Room := { frames := 1, cells := 0, slots := 0, locals := 21 }
set_option maxHeartbeats 4000000 in
set_option maxRecDepth 100000 in
theorem k_X11_told (l : Launch) {D : va_G} {cI cJ : ClassId} {ad : Nat → Nat} {u : tU} {v : tV} {A : Nat → Prop} (hD : zD A cI cJ ad) {a1 : Int32}  {r : Int32} {uz : tU} {vz : tV} (h : pX11_told u v a1 = some (r, uz, vz)) : Met l yX11_told wsX11_told rmX11_told (va_Pc [.ref (ad 64), .int a1] (xPre D cI cJ (wA cI cJ ad u v))) (xWi D cI cJ ad A r uz vz) 0 0 A := by
  refine Met.ofW (cc := cX11_told) (maxL := 2) (ret := (some .int)) (by decide) rfl ?_
  intro p e s m args below meth c s₁ B hml hv
  obtain ⟨rfl, hP, hK⟩ := hv
  have hx := B.exec
  have hb := B.bytes
  have hr := B.returns
  have hts := atoms_spec (ws := wsX11_told) B.pre
  have hown : s.vm.findClass RX11 = some m.cls := findClass_of_methodNamed B.named
  have hlocks := B.notSynchronized
  have hS : va_S A s.heap s.heap [] := va_S.rf
  have hin11 : ∀ w ∈ u_ws RX11 TX11 10, w ∈ wsX11_told := fun _ h => List.mem_cons_of_mem _ (List.mem_append_right _ h)
  have hw1 := hts (.fieldLink RX11 13 "InstallDeskModel" "book" "[I") (List.mem_of_getElem? (i := 1) rfl)
  have hw2 := hts (.fieldLink RX11 25 "InstallDeskModel" "found" "I") (List.mem_of_getElem? (i := 2) rfl)
  have hw3 := hts (.fieldLink RX11 37 "InstallDeskModel" "waits" "I") (List.mem_of_getElem? (i := 3) rfl)
  have hl := lv_entry ([.ref (ad 64), .int a1]) (n := 2) (Nat.le_of_ble_eq_true rfl)
  rw [lg_entry_eq]
  generalize (lg_sl ([.ref (ad 64), .int a1]) ++ List.replicate (2 - (lg_sl ([.ref (ad 64), .int a1])).length) Slot.unset).toArray = ls at hl ⊢
  have hl : lv_has ls 2 [(0, .ref (ad 64)), (1, .int a1)] := hl
  rw [pX11_told] at h
  refine lv_iload_n hx hb dX11_told_0 rfl (lv_at hl 1 rfl) ?_
  by_cases c1 : a1 = (0 : Int32)
  · have h := vz_t c1 h
    refine lv_tableIn (tgt := 44) hx hb dX11_told_1 (by rw [c1]; decide) (by rw [c1]; decide) (by rw [c1]; rfl) (by decide) ?_
    refine lv_aload_n hx hb dX11_told_44 rfl (lv_at hl 0 rfl) ?_
    refine za_getr (k := 2) hx hb hts hin11 hown hK hP zF_64_2 rfl (Nat.le_of_ble_eq_true rfl) (Or.inl hw1) dX11_told_45 ?_
    refine lv_iconst (v := (0 : Int32)) hx hb dX11_told_48 (by decide) ?_
    refine za_ildc (j := 0) hx hb hK hP zI_66 (by unfold vp_in; decide) rfl dX11_told_49 ?_
    cases h
    exact W.iret hx hb hr (fun t ht _ => ⟨rfl, by rw [ht]; exact hP, hS.F ht⟩) hS.2.2 dX11_told_50
  have h := vz_f c1 h
  by_cases c2 : a1 = (1 : Int32)
  · have h := vz_t c2 h
    refine lv_tableIn (tgt := 51) hx hb dX11_told_1 (by rw [c2]; decide) (by rw [c2]; decide) (by rw [c2]; rfl) (by decide) ?_
    refine lv_aload_n hx hb dX11_told_51 rfl (lv_at hl 0 rfl) ?_
    refine za_getr (k := 2) hx hb hts hin11 hown hK hP zF_64_2 rfl (Nat.le_of_ble_eq_true rfl) (Or.inl hw1) dX11_told_52 ?_
    refine lv_iconst (v := (1 : Int32)) hx hb dX11_told_55 (by decide) ?_
    refine za_ildc (j := 1) hx hb hK hP zI_66 (by unfold vp_in; decide) rfl dX11_told_56 ?_
    cases h
    exact W.iret hx hb hr (fun t ht _ => ⟨rfl, by rw [ht]; exact hP, hS.F ht⟩) hS.2.2 dX11_told_57
  have h := vz_f c2 h
  by_cases c3 : a1 = (2 : Int32)
  · have h := vz_t c3 h
    refine lv_tableIn (tgt := 58) hx hb dX11_told_1 (by rw [c3]; decide) (by rw [c3]; decide) (by rw [c3]; rfl) (by decide) ?_
    refine lv_aload_n hx hb dX11_told_58 rfl (lv_at hl 0 rfl) ?_
    refine za_getr (k := 2) hx hb hts hin11 hown hK hP zF_64_2 rfl (Nat.le_of_ble_eq_true rfl) (Or.inl hw1) dX11_told_59 ?_
    refine lv_iconst (v := (2 : Int32)) hx hb dX11_told_62 (by decide) ?_
    refine za_ildc (j := 2) hx hb hK hP zI_66 (by unfold vp_in; decide) rfl dX11_told_63 ?_
    cases h
    exact W.iret hx hb hr (fun t ht _ => ⟨rfl, by rw [ht]; exact hP, hS.F ht⟩) hS.2.2 dX11_told_64
  have h := vz_f c3 h
  by_cases c4 : a1 = (3 : Int32)
  · have h := vz_t c4 h
    refine lv_tableIn (tgt := 65) hx hb dX11_told_1 (by rw [c4]; decide) (by rw [c4]; decide) (by rw [c4]; rfl) (by decide) ?_
    refine lv_aload_n hx hb dX11_told_65 rfl (lv_at hl 0 rfl) ?_
    refine za_getr (k := 2) hx hb hts hin11 hown hK hP zF_64_2 rfl (Nat.le_of_ble_eq_true rfl) (Or.inl hw1) dX11_told_66 ?_
    refine lv_iconst (v := (4 : Int32)) hx hb dX11_told_69 (by decide) ?_
    refine za_ildc (j := 4) hx hb hK hP zI_66 (by unfold vp_in; decide) rfl dX11_told_70 ?_
    cases h
    exact W.iret hx hb hr (fun t ht _ => ⟨rfl, by rw [ht]; exact hP, hS.F ht⟩) hS.2.2 dX11_told_71
  have h := vz_f c4 h
  by_cases c5 : a1 = (4 : Int32)
  · have h := vz_t c5 h
    refine lv_tableIn (tgt := 72) hx hb dX11_told_1 (by rw [c5]; decide) (by rw [c5]; decide) (by rw [c5]; rfl) (by decide) ?_
    refine lv_aload_n hx hb dX11_told_72 rfl (lv_at hl 0 rfl) ?_
    refine za_getr (k := 2) hx hb hts hin11 hown hK hP zF_64_2 rfl (Nat.le_of_ble_eq_true rfl) (Or.inl hw1) dX11_told_73 ?_
    refine lv_iconst (v := (5 : Int32)) hx hb dX11_told_76 (by decide) ?_
    refine za_ildc (j := 5) hx hb hK hP zI_66 (by unfold vp_in; decide) rfl dX11_told_77 ?_
    cases h
    exact W.iret hx hb hr (fun t ht _ => ⟨rfl, by rw [ht]; exact hP, hS.F ht⟩) hS.2.2 dX11_told_78
  have h := vz_f c5 h
  by_cases c6 : a1 = (5 : Int32)
  · have h := vz_t c6 h
    refine lv_tableIn (tgt := 79) hx hb dX11_told_1 (by rw [c6]; decide) (by rw [c6]; decide) (by rw [c6]; rfl) (by decide) ?_
    refine lv_aload_n hx hb dX11_told_79 rfl (lv_at hl 0 rfl) ?_
    refine za_geti (k := 5) hx hb hts hin11 hown hK hP zF_64_5 rfl (Nat.le_of_ble_eq_true rfl) (Or.inl hw2) dX11_told_80 ?_
    cases h
    exact W.iret hx hb hr (fun t ht _ => ⟨rfl, by rw [ht]; exact hP, hS.F ht⟩) hS.2.2 dX11_told_83
  have h := vz_f c6 h
  by_cases c7 : a1 = (6 : Int32)
  · have h := vz_t c7 h
    refine lv_tableIn (tgt := 84) hx hb dX11_told_1 (by rw [c7]; decide) (by rw [c7]; decide) (by rw [c7]; rfl) (by decide) ?_
    refine lv_aload_n hx hb dX11_told_84 rfl (lv_at hl 0 rfl) ?_
    refine za_geti (k := 0) hx hb hts hin11 hown hK hP zF_64_0 rfl (Nat.le_of_ble_eq_true rfl) (Or.inl hw3) dX11_told_85 ?_
    cases h
    exact W.iret hx hb hr (fun t ht _ => ⟨rfl, by rw [ht]; exact hP, hS.F ht⟩) hS.2.2 dX11_told_88
  have h := vz_f c7 h
  refine lv_tableOut (tgt := 89) hx hb dX11_told_1 (tsw6 c1 c2 c3 c4 c5 c6 c7) (by decide) ?_
  refine lv_aload_n hx hb dX11_told_89 rfl (lv_at hl 0 rfl) ?_
  refine lv_iconst (v := (-1 : Int32)) hx hb dX11_told_90 (by decide) ?_
  obtain ⟨⟨r12, u9, v10⟩, hc8, h⟩ := vz_b h
  try dsimp only at h
  refine za_callWi (va_runV (As := [.int (-1 : Int32)]) (rest := []) ⟨hx, hb, hml, hown, hts⟩ (k_X11_finding l (D := D) (cI := cI) (cJ := cJ) (ad := ad) hD hc8) (cwV 1 hts gX11_told_X11_finding rfl rfl rfl ⟨rfl, zd_X11_finding⟩ ⟨Nat.le_of_ble_eq_true rfl, Nat.le_of_ble_eq_true rfl⟩) (xPreV (ci := 11) hK hP rfl zO_64) rfl rfl hl.1 rfl (lv_room (Nat.le_of_ble_eq_true rfl)) dX11_told_91 ⟨Nat.zero_le _, Nat.zero_le _⟩) hS (fun H locs hP hS => ?_)
  cases h
  exact W.iret hx hb hr (fun t ht _ => ⟨rfl, by rw [ht]; exact hP, hS.F ht⟩) hS.2.2 dX11_told_94
abbrev rmX11_unrule : Room := { frames := 1, cells := 0, slots := 0, locals := 25 }
set_option maxHeartbeats 4000000 in
set_option maxRecDepth 100000 in
theorem k_X11_unrule (l : Launch) {D : va_G} {cI cJ : ClassId} {ad : Nat → Nat} {u : tU} {v : tV} {A : Nat → Prop} (hD : zD A cI cJ ad) {a1 : Int32}  {r : Int32} {uz : tU} {vz : tV} (h : pX11_unrule u v a1 = some (r, uz, vz)) : Met l yX11_unrule wsX11_unrule rmX11_unrule (va_Pc [.ref (ad 64), .int a1] (xPre D cI cJ (wA cI cJ ad u v))) (xWi D cI cJ ad A r uz vz) 0 0 A := by
  refine Met.ofW (cc := cX11_unrule) (maxL := 2) (ret := (some .int)) (by decide) rfl ?_
  intro p e s m args below meth c s₁ B hml hv
  obtain ⟨rfl, hP, hK⟩ := hv
  have hx := B.exec
  have hb := B.bytes
  have hr := B.returns
  have hts := atoms_spec (ws := wsX11_unrule) B.pre
  have hown : s.vm.findClass RX11 = some m.cls := findClass_of_methodNamed B.named
  have hlocks := B.notSynchronized
  have hS : va_S A s.heap s.heap [] := va_S.rf
  have hin11 : ∀ w ∈ u_ws RX11 TX11 10, w ∈ wsX11_unrule := fun _ h => List.mem_cons_of_mem _ (List.mem_append_right _ h)
  have hw1 := hts (.fieldLink RX11 13 "InstallDeskModel" "book" "[I") (List.mem_of_getElem? (i := 1) rfl)
  have hl := lv_entry ([.ref (ad 64), .int a1]) (n := 2) (Nat.le_of_ble_eq_true rfl)
  rw [lg_entry_eq]
  generalize (lg_sl ([.ref (ad 64), .int a1]) ++ List.replicate (2 - (lg_sl ([.ref (ad 64), .int a1])).length) Slot.unset).toArray = ls at hl ⊢
  have hl : lv_has ls 2 [(0, .ref (ad 64)), (1, .int a1)] := hl
  rw [pX11_unrule] at h
  refine lv_aload_n hx hb dX11_unrule_0 rfl (lv_at hl 0 rfl) ?_
  refine lv_iload_n hx hb dX11_unrule_1 rfl (lv_at hl 1 rfl) ?_
  obtain ⟨r2, hc1, h⟩ := vz_b h
  refine za_callR (va_runV (As := [.int a1]) (rest := []) ⟨hx, hb, hml, hown, hts⟩ (k_X11_isRule l (D := D) (cI := cI) (cJ := cJ) (ad := ad) hc1) (cwV 1 hts gX11_unrule_X11_isRule rfl rfl rfl ⟨rfl, zd_X11_isRule⟩ ⟨Nat.le_of_ble_eq_true rfl, Nat.le_of_ble_eq_true rfl⟩) (xPreV (ci := 11) hK hP rfl zO_64) rfl rfl hl.1 rfl (lv_room (Nat.le_of_ble_eq_true rfl)) dX11_unrule_2 ⟨Nat.zero_le _, Nat.zero_le _⟩) ?_
  refine lv_if_ne (tgt := 14) hx hb dX11_unrule_5 (by decide) (fun c3 => ?_) (fun c3 => ?_)
  · have h := vz_f c3 h
    refine lv_aload_n hx hb dX11_unrule_14 rfl (lv_at hl 0 rfl) ?_
    refine lv_bipush (v := (38 : Int32)) hx hb dX11_unrule_15 (by decide) ?_
    refine lv_bipush (v := (15 : Int32)) hx hb dX11_unrule_17 (by decide) ?_
    refine lv_iload_n hx hb dX11_unrule_19 rfl (lv_at hl 1 rfl) ?_
    refine lv_aload_n hx hb dX11_unrule_20 rfl (lv_at hl 0 rfl) ?_
    refine za_getr (k := 2) hx hb hts hin11 hown hK hP zF_64_2 rfl (Nat.le_of_ble_eq_true rfl) (Or.inl hw1) dX11_unrule_21 ?_
    refine lv_iconst (v := (1 : Int32)) hx hb dX11_unrule_24 (by decide) ?_
    refine za_ildc (j := 1) hx hb hK hP zI_66 (by unfold vp_in; decide) rfl dX11_unrule_25 ?_
    obtain ⟨⟨u5, v6⟩, hc4, h⟩ := vz_b h
    try dsimp only at h
    refine za_callWv (va_runV (As := [.int (38 : Int32), .int (15 : Int32), .int a1, .int (u 4 1)]) (rest := []) ⟨hx, hb, hml, hown, hts⟩ (k_X11_remove l (D := D) (cI := cI) (cJ := cJ) (ad := ad) hD hc4) (cwV 4 hts gX11_unrule_X11_remove rfl rfl rfl ⟨rfl, zd_X11_remove⟩ ⟨Nat.le_of_ble_eq_true rfl, Nat.le_of_ble_eq_true rfl⟩) (xPreV (ci := 11) hK hP rfl zO_64) rfl rfl hl.1 rfl (lv_room (Nat.le_of_ble_eq_true rfl)) dX11_unrule_26 ⟨Nat.zero_le _, Nat.zero_le _⟩) hS (fun H locs hP hS => ?_)
    refine lv_aload_n hx hb dX11_unrule_29 rfl (lv_at hl 0 rfl) ?_
    refine za_getr (k := 2) hx hb hts hin11 hown hK hP zF_64_2 rfl (Nat.le_of_ble_eq_true rfl) (Or.inl hw1) dX11_unrule_30 ?_
    refine lv_iconst (v := (1 : Int32)) hx hb dX11_unrule_33 (by decide) ?_
    refine lv_dup2_11 hx hb dX11_unrule_34 rfl rfl ?_
    refine za_ildc (j := 1) hx hb hK hP zI_66 (by unfold vp_in; decide) rfl dX11_unrule_35 ?_
    refine lv_iconst (v := (1 : Int32)) hx hb dX11_unrule_36 (by decide) ?_
    refine lv_isub hx hb dX11_unrule_37 ?_
    refine za_istc (j := 1) hx hb hK hP hD hS zI_66 (by unfold vp_in; decide) rfl dX11_unrule_38 (fun H locs hP hS => ?_)
    refine lv_aload_n hx hb dX11_unrule_39 rfl (lv_at hl 0 rfl) ?_
    refine za_getr (k := 2) hx hb hts hin11 hown hK hP zF_64_2 rfl (Nat.le_of_ble_eq_true rfl) (Or.inl hw1) dX11_unrule_40 ?_
    refine lv_iconst (v := (1 : Int32)) hx hb dX11_unrule_43 (by decide) ?_
    refine za_ildc (j := 1) hx hb hK hP zI_66 (by unfold vp_in; decide) rfl dX11_unrule_44 ?_
    cases h
    exact W.iret hx hb hr (fun t ht _ => ⟨rfl, by rw [ht]; exact hP, hS.F ht⟩) hS.2.2 dX11_unrule_45
  · have h := vz_t c3 h
    refine lv_aload_n hx hb dX11_unrule_8 rfl (lv_at hl 0 rfl) ?_
    refine lv_iconst (v := (-1 : Int32)) hx hb dX11_unrule_9 (by decide) ?_
    obtain ⟨⟨r12, u9, v10⟩, hc8, h⟩ := vz_b h
    try dsimp only at h
    refine za_callWi (va_runV (As := [.int (-1 : Int32)]) (rest := []) ⟨hx, hb, hml, hown, hts⟩ (k_X11_finding l (D := D) (cI := cI) (cJ := cJ) (ad := ad) hD hc8) (cwV 1 hts gX11_unrule_X11_finding rfl rfl rfl ⟨rfl, zd_X11_finding⟩ ⟨Nat.le_of_ble_eq_true rfl, Nat.le_of_ble_eq_true rfl⟩) (xPreV (ci := 11) hK hP rfl zO_64) rfl rfl hl.1 rfl (lv_room (Nat.le_of_ble_eq_true rfl)) dX11_unrule_10 ⟨Nat.zero_le _, Nat.zero_le _⟩) hS (fun H locs hP hS => ?_)
    cases h
    exact W.iret hx hb hr (fun t ht _ => ⟨rfl, by rw [ht]; exact hP, hS.F ht⟩) hS.2.2 dX11_unrule_13
abbrev rmX11_use : Room := { frames := 1, cells := 0, slots := 0, locals := 22 }
set_option maxHeartbeats 4000000 in
set_option maxRecDepth 100000 in
theorem k_X11_use (l : Launch) {D : va_G} {cI cJ : ClassId} {ad : Nat → Nat} {u : tU} {v : tV} {A : Nat → Prop} (hD : zD A cI cJ ad) {a1 : Int32} {a2 : Int32} {a3 : Int32} {a4 : Int32}  {r : Int32} {uz : tU} {vz : tV} (h : pX11_use u v a1 a2 a3 a4 = some (r, uz, vz)) : Met l yX11_use wsX11_use rmX11_use (va_Pc [.ref (ad 64), .int a1, .int a2, .int a3, .int a4] (xPre D cI cJ (wA cI cJ ad u v))) (xWi D cI cJ ad A r uz vz) 0 0 A := by
  refine Met.ofW (cc := cX11_use) (maxL := 7) (ret := (some .int)) (by decide) rfl ?_
  intro p e s m args below meth c s₁ B hml hv
  obtain ⟨rfl, hP, hK⟩ := hv
  have hx := B.exec
  have hb := B.bytes
  have hr := B.returns
  have hts := atoms_spec (ws := wsX11_use) B.pre
  have hown : s.vm.findClass RX11 = some m.cls := findClass_of_methodNamed B.named
  have hlocks := B.notSynchronized
  have hS : va_S A s.heap s.heap [] := va_S.rf
  have hin11 : ∀ w ∈ u_ws RX11 TX11 10, w ∈ wsX11_use := fun _ h => List.mem_cons_of_mem _ (List.mem_append_right _ h)
  have hw1 := hts (.fieldLink RX11 13 "InstallDeskModel" "book" "[I") (List.mem_of_getElem? (i := 1) rfl)
  have hl := lv_entry ([.ref (ad 64), .int a1, .int a2, .int a3, .int a4]) (n := 7) (Nat.le_of_ble_eq_true rfl)
  rw [lg_entry_eq]
  generalize (lg_sl ([.ref (ad 64), .int a1, .int a2, .int a3, .int a4]) ++ List.replicate (7 - (lg_sl ([.ref (ad 64), .int a1, .int a2, .int a3, .int a4])).length) Slot.unset).toArray = ls at hl ⊢
  have hl : lv_has ls 7 [(0, .ref (ad 64)), (1, .int a1), (2, .int a2), (3, .int a3), (4, .int a4)] := hl
  rw [pX11_use] at h
  refine lv_iload_n hx hb dX11_use_0 rfl (lv_at hl 1 rfl) ?_
  refine lv_iconst (v := (0 : Int32)) hx hb dX11_use_1 (by decide) ?_
  refine lv_bipush (v := (9 : Int32)) hx hb dX11_use_2 (by decide) ?_
  obtain ⟨r2, hc1, h⟩ := vz_b h
  refine za_callR (va_runS (As := [.int a1, .int (0 : Int32), .int (9 : Int32)]) (rest := []) ⟨hx, hb, hml, hown, hts⟩ (k_X11_isIn l hc1) (va_cwS 3 hts gX11_use_X11_isIn rfl rfl rfl zd_X11_isIn ⟨Nat.le_of_ble_eq_true rfl, Nat.le_of_ble_eq_true rfl⟩) xPre0 rfl rfl hl.1 rfl (lv_room (Nat.le_of_ble_eq_true rfl)) dX11_use_4 ⟨Nat.zero_le _, Nat.zero_le _⟩) ?_
  refine lv_if_eq (tgt := 47) hx hb dX11_use_7 (by decide) (fun c3 => ?_) (fun c3 => ?_)
  · have h := vz_t c3 h
    refine lv_aload_n hx hb dX11_use_47 rfl (lv_at hl 0 rfl) ?_
    refine lv_iconst (v := (-1 : Int32)) hx hb dX11_use_48 (by decide) ?_
    obtain ⟨⟨r8, u5, v6⟩, hc4, h⟩ := vz_b h
    try dsimp only at h
    refine za_callWi (va_runV (As := [.int (-1 : Int32)]) (rest := []) ⟨hx, hb, hml, hown, hts⟩ (k_X11_finding l (D := D) (cI := cI) (cJ := cJ) (ad := ad) hD hc4) (cwV 1 hts gX11_use_X11_finding rfl rfl rfl ⟨rfl, zd_X11_finding⟩ ⟨Nat.le_of_ble_eq_true rfl, Nat.le_of_ble_eq_true rfl⟩) (xPreV (ci := 11) hK hP rfl zO_64) rfl rfl hl.1 rfl (lv_room (Nat.le_of_ble_eq_true rfl)) dX11_use_49 ⟨Nat.zero_le _, Nat.zero_le _⟩) hS (fun H locs hP hS => ?_)
    cases h
    exact W.iret hx hb hr (fun t ht _ => ⟨rfl, by rw [ht]; exact hP, hS.F ht⟩) hS.2.2 dX11_use_52
  · have h := vz_f c3 h
    refine lv_aload_n hx hb dX11_use_10 rfl (lv_at hl 0 rfl) ?_
    refine lv_iload_n hx hb dX11_use_11 rfl (lv_at hl 2 rfl) ?_
    obtain ⟨r10, hc9, h⟩ := vz_b h
    refine za_callR (va_runV (As := [.int a2]) (rest := []) ⟨hx, hb, hml, hown, hts⟩ (k_X11_isProduct l (D := D) (cI := cI) (cJ := cJ) (ad := ad) hc9) (cwV 1 hts gX11_use_X11_isProduct rfl rfl rfl ⟨rfl, zd_X11_isProduct⟩ ⟨Nat.le_of_ble_eq_true rfl, Nat.le_of_ble_eq_true rfl⟩) (xPreV (ci := 11) hK hP rfl zO_64) rfl rfl hl.1 rfl (lv_room (Nat.le_of_ble_eq_true rfl)) dX11_use_12 ⟨Nat.zero_le _, Nat.zero_le _⟩) ?_
    refine lv_if_eq (tgt := 47) hx hb dX11_use_15 (by decide) (fun c11 => ?_) (fun c11 => ?_)
    · have h := vz_t c11 h
      refine lv_aload_n hx hb dX11_use_47 rfl (lv_at hl 0 rfl) ?_
      refine lv_iconst (v := (-1 : Int32)) hx hb dX11_use_48 (by decide) ?_
      obtain ⟨⟨r16, u13, v14⟩, hc12, h⟩ := vz_b h
      try dsimp only at h
      refine za_callWi (va_runV (As := [.int (-1 : Int32)]) (rest := []) ⟨hx, hb, hml, hown, hts⟩ (k_X11_finding l (D := D) (cI := cI) (cJ := cJ) (ad := ad) hD hc12) (cwV 1 hts gX11_use_X11_finding rfl rfl rfl ⟨rfl, zd_X11_finding⟩ ⟨Nat.le_of_ble_eq_true rfl, Nat.le_of_ble_eq_true rfl⟩) (xPreV (ci := 11) hK hP rfl zO_64) rfl rfl hl.1 rfl (lv_room (Nat.le_of_ble_eq_true rfl)) dX11_use_49 ⟨Nat.zero_le _, Nat.zero_le _⟩) hS (fun H locs hP hS => ?_)
      cases h
      exact W.iret hx hb hr (fun t ht _ => ⟨rfl, by rw [ht]; exact hP, hS.F ht⟩) hS.2.2 dX11_use_52
    · have h := vz_f c11 h
      refine lv_iload_n hx hb dX11_use_18 rfl (lv_at hl 3 rfl) ?_
      refine lv_iconst (v := (0 : Int32)) hx hb dX11_use_19 (by decide) ?_
      refine lv_sipush (v := (999 : Int32)) hx hb dX11_use_20 (by decide) ?_
      obtain ⟨r18, hc17, h⟩ := vz_b h
      refine za_callR (va_runS (As := [.int a3, .int (0 : Int32), .int (999 : Int32)]) (rest := []) ⟨hx, hb, hml, hown, hts⟩ (k_X11_isIn l hc17) (va_cwS 3 hts gX11_use_X11_isIn rfl rfl rfl zd_X11_isIn ⟨Nat.le_of_ble_eq_true rfl, Nat.le_of_ble_eq_true rfl⟩) xPre0 rfl rfl hl.1 rfl (lv_room (Nat.le_of_ble_eq_true rfl)) dX11_use_23 ⟨Nat.zero_le _, Nat.zero_le _⟩) ?_
      refine lv_if_eq (tgt := 47) hx hb dX11_use_26 (by decide) (fun c19 => ?_) (fun c19 => ?_)
      · have h := vz_t c19 h
        refine lv_aload_n hx hb dX11_use_47 rfl (lv_at hl 0 rfl) ?_
        refine lv_iconst (v := (-1 : Int32)) hx hb dX11_use_48 (by decide) ?_
        obtain ⟨⟨r24, u21, v22⟩, hc20, h⟩ := vz_b h
        try dsimp only at h
        refine za_callWi (va_runV (As := [.int (-1 : Int32)]) (rest := []) ⟨hx, hb, hml, hown, hts⟩ (k_X11_finding l (D := D) (cI := cI) (cJ := cJ) (ad := ad) hD hc20) (cwV 1 hts gX11_use_X11_finding rfl rfl rfl ⟨rfl, zd_X11_finding⟩ ⟨Nat.le_of_ble_eq_true rfl, Nat.le_of_ble_eq_true rfl⟩) (xPreV (ci := 11) hK hP rfl zO_64) rfl rfl hl.1 rfl (lv_room (Nat.le_of_ble_eq_true rfl)) dX11_use_49 ⟨Nat.zero_le _, Nat.zero_le _⟩) hS (fun H locs hP hS => ?_)
        cases h
        exact W.iret hx hb hr (fun t ht _ => ⟨rfl, by rw [ht]; exact hP, hS.F ht⟩) hS.2.2 dX11_use_52
      · have h := vz_f c19 h
        refine lv_iload hx hb dX11_use_29 (lv_at hl 4 rfl) ?_
        refine lv_iconst (v := (0 : Int32)) hx hb dX11_use_31 (by decide) ?_
        refine lv_sipush (v := (999 : Int32)) hx hb dX11_use_32 (by decide) ?_
        obtain ⟨r26, hc25, h⟩ := vz_b h
        refine za_callR (va_runS (As := [.int a4, .int (0 : Int32), .int (999 : Int32)]) (rest := []) ⟨hx, hb, hml, hown, hts⟩ (k_X11_isIn l hc25) (va_cwS 3 hts gX11_use_X11_isIn rfl rfl rfl zd_X11_isIn ⟨Nat.le_of_ble_eq_true rfl, Nat.le_of_ble_eq_true rfl⟩) xPre0 rfl rfl hl.1 rfl (lv_room (Nat.le_of_ble_eq_true rfl)) dX11_use_35 ⟨Nat.zero_le _, Nat.zero_le _⟩) ?_
        refine lv_if_eq (tgt := 47) hx hb dX11_use_38 (by decide) (fun c27 => ?_) (fun c27 => ?_)
        · have h := vz_t c27 h
          refine lv_aload_n hx hb dX11_use_47 rfl (lv_at hl 0 rfl) ?_
          refine lv_iconst (v := (-1 : Int32)) hx hb dX11_use_48 (by decide) ?_
          obtain ⟨⟨r32, u29, v30⟩, hc28, h⟩ := vz_b h
          try dsimp only at h
          refine za_callWi (va_runV (As := [.int (-1 : Int32)]) (rest := []) ⟨hx, hb, hml, hown, hts⟩ (k_X11_finding l (D := D) (cI := cI) (cJ := cJ) (ad := ad) hD hc28) (cwV 1 hts gX11_use_X11_finding rfl rfl rfl ⟨rfl, zd_X11_finding⟩ ⟨Nat.le_of_ble_eq_true rfl, Nat.le_of_ble_eq_true rfl⟩) (xPreV (ci := 11) hK hP rfl zO_64) rfl rfl hl.1 rfl (lv_room (Nat.le_of_ble_eq_true rfl)) dX11_use_49 ⟨Nat.zero_le _, Nat.zero_le _⟩) hS (fun H locs hP hS => ?_)
          cases h
          exact W.iret hx hb hr (fun t ht _ => ⟨rfl, by rw [ht]; exact hP, hS.F ht⟩) hS.2.2 dX11_use_52
        · have h := vz_f c27 h
          refine lv_iload_n hx hb dX11_use_41 rfl (lv_at hl 3 rfl) ?_
          refine lv_iload hx hb dX11_use_42 (lv_at hl 4 rfl) ?_
          refine lv_icmp_lt (tgt := 53) hx hb dX11_use_44 (by decide) (fun c33 => ?_) (fun c33 => ?_)
          · have h := vz_t c33 h
            refine lv_aload_n hx hb dX11_use_53 rfl (lv_at hl 0 rfl) ?_
            refine za_getr (k := 2) hx hb hts hin11 hown hK hP zF_64_2 rfl (Nat.le_of_ble_eq_true rfl) (Or.inl hw1) dX11_use_54 ?_
            refine lv_iconst (v := (4 : Int32)) hx hb dX11_use_57 (by decide) ?_
            refine za_ildc (j := 4) hx hb hK hP zI_66 (by unfold vp_in; decide) rfl dX11_use_58 ?_
            refine lv_istore (lv' := [(5, .int (u 4 4)), (0, .ref (ad 64)), (1, .int a1), (2, .int a2), (3, .int a3), (4, .int a4)]) hx hb dX11_use_59 hl (by decide) rfl (fun ls hl => ?_)
            refine lv_iload hx hb dX11_use_61 (lv_at hl 0 rfl) ?_
            refine lv_bipush (v := (30 : Int32)) hx hb dX11_use_63 (by decide) ?_
            refine lv_icmp_ne (tgt := 75) hx hb dX11_use_65 (by decide) (fun c34 => ?_) (fun c34 => ?_)
            · have h := vz_f c34 h
              refine lv_sipush (v := (934 : Int32)) hx hb dX11_use_75 (by decide) ?_
              refine lv_iconst (v := (4 : Int32)) hx hb dX11_use_78 (by decide) ?_
              refine lv_iload hx hb dX11_use_79 (lv_at hl 0 rfl) ?_
              refine lv_imul hx hb dX11_use_81 ?_
              refine lv_iadd hx hb dX11_use_82 ?_
              refine lv_istore (lv' := [(6, .int ((934 : Int32) + ((4 : Int32) * (u 4 4)))), (5, .int (u 4 4)), (0, .ref (ad 64)), (1, .int a1), (2, .int a2), (3, .int a3), (4, .int a4)]) hx hb dX11_use_83 hl (by decide) rfl (fun ls hl => ?_)
              refine lv_aload_n hx hb dX11_use_85 rfl (lv_at hl 2 rfl) ?_
              refine za_getr (k := 2) hx hb hts hin11 hown hK hP zF_64_2 rfl (Nat.le_of_ble_eq_true rfl) (Or.inl hw1) dX11_use_86 ?_
              refine lv_iload hx hb dX11_use_89 (lv_at hl 0 rfl) ?_
              refine lv_iload_n hx hb dX11_use_91 rfl (lv_at hl 3 rfl) ?_
              obtain ⟨g35, h⟩ := gd_s h
              refine za_ist hx hb hK hP hD hS zI_66 g35 dX11_use_92 (fun H locs hP hS => ?_)
              refine lv_aload_n hx hb dX11_use_93 rfl (lv_at hl 2 rfl) ?_
              refine za_getr (k := 2) hx hb hts hin11 hown hK hP zF_64_2 rfl (Nat.le_of_ble_eq_true rfl) (Or.inl hw1) dX11_use_94 ?_
              refine lv_iload hx hb dX11_use_97 (lv_at hl 0 rfl) ?_
              refine lv_iconst (v := (1 : Int32)) hx hb dX11_use_99 (by decide) ?_
              refine lv_iadd hx hb dX11_use_100 ?_
              refine lv_iload_n hx hb dX11_use_101 rfl (lv_at hl 4 rfl) ?_
              obtain ⟨g36, h⟩ := gd_s h
              refine za_ist hx hb hK hP hD hS zI_66 g36 dX11_use_102 (fun H locs hP hS => ?_)
              refine lv_aload_n hx hb dX11_use_103 rfl (lv_at hl 2 rfl) ?_
              refine za_getr (k := 2) hx hb hts hin11 hown hK hP zF_64_2 rfl (Nat.le_of_ble_eq_true rfl) (Or.inl hw1) dX11_use_104 ?_
              refine lv_iload hx hb dX11_use_107 (lv_at hl 0 rfl) ?_
              refine lv_iconst (v := (2 : Int32)) hx hb dX11_use_109 (by decide) ?_
              refine lv_iadd hx hb dX11_use_110 ?_
              refine lv_iload_n hx hb dX11_use_111 rfl (lv_at hl 5 rfl) ?_
              obtain ⟨g37, h⟩ := gd_s h
              refine za_ist hx hb hK hP hD hS zI_66 g37 dX11_use_112 (fun H locs hP hS => ?_)
              refine lv_aload_n hx hb dX11_use_113 rfl (lv_at hl 2 rfl) ?_
              refine za_getr (k := 2) hx hb hts hin11 hown hK hP zF_64_2 rfl (Nat.le_of_ble_eq_true rfl) (Or.inl hw1) dX11_use_114 ?_
              refine lv_iload hx hb dX11_use_117 (lv_at hl 0 rfl) ?_
              refine lv_iconst (v := (3 : Int32)) hx hb dX11_use_119 (by decide) ?_
              refine lv_iadd hx hb dX11_use_120 ?_
              refine lv_iload hx hb dX11_use_121 (lv_at hl 6 rfl) ?_
              obtain ⟨g38, h⟩ := gd_s h
              refine za_ist hx hb hK hP hD hS zI_66 g38 dX11_use_123 (fun H locs hP hS => ?_)
              refine lv_aload_n hx hb dX11_use_124 rfl (lv_at hl 2 rfl) ?_
              refine za_getr (k := 2) hx hb hts hin11 hown hK hP zF_64_2 rfl (Nat.le_of_ble_eq_true rfl) (Or.inl hw1) dX11_use_125 ?_
              refine lv_iconst (v := (4 : Int32)) hx hb dX11_use_128 (by decide) ?_
              refine lv_dup2_11 hx hb dX11_use_129 rfl rfl ?_
              refine za_ildc (j := 4) hx hb hK hP zI_66 (by unfold vp_in; decide) rfl dX11_use_130 ?_
              refine lv_iconst (v := (1 : Int32)) hx hb dX11_use_131 (by decide) ?_
              refine lv_iadd hx hb dX11_use_132 ?_
              refine za_istc (j := 4) hx hb hK hP hD hS zI_66 (by unfold vp_in; decide) rfl dX11_use_133 (fun H locs hP hS => ?_)
              refine lv_iload hx hb dX11_use_134 (lv_at hl 1 rfl) ?_
              cases h
              exact W.iret hx hb hr (fun t ht _ => ⟨rfl, by rw [ht]; exact hP, hS.F ht⟩) hS.2.2 dX11_use_136
            · have h := vz_t c34 h
              refine lv_aload_n hx hb dX11_use_68 rfl (lv_at hl 1 rfl) ?_
              refine lv_bipush (v := (-3 : Int32)) hx hb dX11_use_69 (by decide) ?_
              obtain ⟨⟨r43, u40, v41⟩, hc39, h⟩ := vz_b h
              try dsimp only at h
              refine za_callWi (va_runV (As := [.int (-3 : Int32)]) (rest := []) ⟨hx, hb, hml, hown, hts⟩ (k_X11_finding l (D := D) (cI := cI) (cJ := cJ) (ad := ad) hD hc39) (cwV 1 hts gX11_use_X11_finding rfl rfl rfl ⟨rfl, zd_X11_finding⟩ ⟨Nat.le_of_ble_eq_true rfl, Nat.le_of_ble_eq_true rfl⟩) (xPreV (ci := 11) hK hP rfl zO_64) rfl rfl hl.1 rfl (lv_room (Nat.le_of_ble_eq_true rfl)) dX11_use_71 ⟨Nat.zero_le _, Nat.zero_le _⟩) hS (fun H locs hP hS => ?_)
              cases h
              exact W.iret hx hb hr (fun t ht _ => ⟨rfl, by rw [ht]; exact hP, hS.F ht⟩) hS.2.2 dX11_use_74
          · have h := vz_f c33 h
            refine lv_aload_n hx hb dX11_use_47 rfl (lv_at hl 0 rfl) ?_
            refine lv_iconst (v := (-1 : Int32)) hx hb dX11_use_48 (by decide) ?_
            obtain ⟨⟨r48, u45, v46⟩, hc44, h⟩ := vz_b h
            try dsimp only at h
            refine za_callWi (va_runV (As := [.int (-1 : Int32)]) (rest := []) ⟨hx, hb, hml, hown, hts⟩ (k_X11_finding l (D := D) (cI := cI) (cJ := cJ) (ad := ad) hD hc44) (cwV 1 hts gX11_use_X11_finding rfl rfl rfl ⟨rfl, zd_X11_finding⟩ ⟨Nat.le_of_ble_eq_true rfl, Nat.le_of_ble_eq_true rfl⟩) (xPreV (ci := 11) hK hP rfl zO_64) rfl rfl hl.1 rfl (lv_room (Nat.le_of_ble_eq_true rfl)) dX11_use_49 ⟨Nat.zero_le _, Nat.zero_le _⟩) hS (fun H locs hP hS => ?_)
            cases h
            exact W.iret hx hb hr (fun t ht _ => ⟨rfl, by rw [ht]; exact hP, hS.F ht⟩) hS.2.2 dX11_use_52
abbrev rmX11_when : Room := { frames := 6, cells := 0, slots := 0, locals := 142 }
set_option maxHeartbeats 4000000 in
set_option maxRecDepth 100000 in
theorem k_X11_when (l : Launch) {D : va_G} {cI cJ : ClassId} {ad : Nat → Nat} {u : tU} {v : tV} {A : Nat → Prop} (hD : zD A cI cJ ad) {a1 : Int32}  {r : Int32} {uz : tU} {vz : tV} (h : pX11_when u v a1 = some (r, uz, vz)) : Met l yX11_when wsX11_when rmX11_when (va_Pc [.ref (ad 64), .int a1] (xPre D cI cJ (wA cI cJ ad u v))) (xWi D cI cJ ad A r uz vz) 0 0 A := by
  refine Met.ofW (cc := cX11_when) (maxL := 3) (ret := (some .int)) (by decide) rfl ?_
  intro p e s m args below meth c s₁ B hml hv
  obtain ⟨rfl, hP, hK⟩ := hv
  have hx := B.exec
  have hb := B.bytes
  have hr := B.returns
  have hts := atoms_spec (ws := wsX11_when) B.pre
  have hown : s.vm.findClass RX11 = some m.cls := findClass_of_methodNamed B.named
  have hlocks := B.notSynchronized
  have hS : va_S A s.heap s.heap [] := va_S.rf
  have hin11 : ∀ w ∈ u_ws RX11 TX11 10, w ∈ wsX11_when := fun _ h => List.mem_cons_of_mem _ (List.mem_append_right _ h)
  have hw1 := hts (.fieldLink RX11 13 "InstallDeskModel" "book" "[I") (List.mem_of_getElem? (i := 1) rfl)
  have hl := lv_entry ([.ref (ad 64), .int a1]) (n := 3) (Nat.le_of_ble_eq_true rfl)
  rw [lg_entry_eq]
  generalize (lg_sl ([.ref (ad 64), .int a1]) ++ List.replicate (3 - (lg_sl ([.ref (ad 64), .int a1])).length) Slot.unset).toArray = ls at hl ⊢
  have hl : lv_has ls 3 [(0, .ref (ad 64)), (1, .int a1)] := hl
  have L28 : ∀ (x1 : Int32) (n : Nat) (x2 : Int32) (u : tU) (v : tV) (H : Heap) (locs : List Loc) (ls : Array Slot) (o : (Int32 × tU × tV) ⊕ (tU × tV)), pX11_when_L28 x1 n x2 u v = some o → va_P D vwCl (wA cI cJ ad u v) H → va_S A s.heap H locs → lv_has ls 3 [(0, .ref (ad 64)), (1, .int x1), (2, .int x2)] → (∀ rr : Int32 × tU × tV, o = .inl rr → rr = (r, uz, vz)) → (∀ (u' : tU) (v' : tV) (H : Heap) (locs : List Loc) (ls : Array Slot), o = .inr (u', v') → va_P D vwCl (wA cI cJ ad u' v') H → va_S A s.heap H locs → lv_has ls 3 [(0, .ref (ad 64))] → W p l e (headSpec wsX11_when rmX11_when).room s m [Value.ref (ad 64), Value.int a1].toArray below meth c H locs 0 0 (MQ below (xWi D cI cJ ad A r uz vz) [Value.ref (ad 64), Value.int a1].toArray s 0 0 A) (F0 m 57 ls [])) → W p l e (headSpec wsX11_when rmX11_when).room s m [Value.ref (ad 64), Value.int a1].toArray below meth c H locs 0 0 (MQ below (xWi D cI cJ ad A r uz vz) [Value.ref (ad 64), Value.int a1].toArray s 0 0 A) (F0 m 28 ls []) := by
    intro x1 n
    induction n with
    | zero => intro x2 u v H locs ls o h; cases h
    | succ n ih =>
      intro x2 u v H locs ls o h hP hS hl hret hk
      rw [pX11_when_L28] at h
      refine lv_iload_n hx hb dX11_when_28 rfl (lv_at hl 2 rfl) ?_
      refine lv_sipush (v := (9999 : Int32)) hx hb dX11_when_29 (by decide) ?_
      refine lv_icmp_gt (tgt := 57) hx hb dX11_when_32 (by decide) (fun c1 => ?_) (fun c1 => ?_)
      · have h := vz_t c1 h
        cases h
        exact hk u v _ _ ls rfl hP hS (lv_sub hl [0] rfl)
      · have h := vz_f c1 h
        refine lv_aload_n hx hb dX11_when_35 rfl (lv_at hl 0 rfl) ?_
        refine lv_iload_n hx hb dX11_when_36 rfl (lv_at hl 2 rfl) ?_
        refine lv_iconst (v := (-1 : Int32)) hx hb dX11_when_37 (by decide) ?_
        refine lv_iconst (v := (-1 : Int32)) hx hb dX11_when_38 (by decide) ?_
        obtain ⟨⟨r6, u3, v4⟩, hc2, h⟩ := vz_b h
        try dsimp only at h
        refine za_callWi (va_runV (As := [.int x2, .int (-1 : Int32), .int (-1 : Int32)]) (rest := []) ⟨hx, hb, hml, hown, hts⟩ (k_X11_lackOn l (D := D) (cI := cI) (cJ := cJ) (ad := ad) hD hc2) (cwV 3 hts gX11_when_X11_lackOn rfl rfl rfl ⟨rfl, zd_X11_lackOn⟩ ⟨Nat.le_of_ble_eq_true rfl, Nat.le_of_ble_eq_true rfl⟩) (xPreV (ci := 11) hK hP rfl zO_64) rfl rfl hl.1 rfl (lv_room (Nat.le_of_ble_eq_true rfl)) dX11_when_39 ⟨Nat.zero_le _, Nat.zero_le _⟩) hS (fun H locs hP hS => ?_)
        refine lv_iload_n hx hb dX11_when_42 rfl (lv_at hl 1 rfl) ?_
        refine lv_icmp_le (tgt := 48) hx hb dX11_when_43 (by decide) (fun c7 => ?_) (fun c7 => ?_)
        · have h := vz_t c7 h
          refine lv_aload_n hx hb dX11_when_48 rfl (lv_at hl 0 rfl) ?_
          refine lv_iload_n hx hb dX11_when_49 rfl (lv_at hl 2 rfl) ?_
          obtain ⟨r9, hc8, h⟩ := vz_b h
          refine za_callR (va_runV (As := [.int x2]) (rest := []) ⟨hx, hb, hml, hown, hts⟩ (k_X11_nextDay l (D := D) (cI := cI) (cJ := cJ) (ad := ad) hc8) (cwV 1 hts gX11_when_X11_nextDay rfl rfl rfl ⟨rfl, zd_X11_nextDay⟩ ⟨Nat.le_of_ble_eq_true rfl, Nat.le_of_ble_eq_true rfl⟩) (xPreV (ci := 11) hK hP rfl zO_64) rfl rfl hl.1 rfl (lv_room (Nat.le_of_ble_eq_true rfl)) dX11_when_50 ⟨Nat.zero_le _, Nat.zero_le _⟩) ?_
          refine lv_istore_n (lv' := [(2, .int r9), (0, .ref (ad 64)), (1, .int x1)]) hx hb dX11_when_53 rfl hl (by decide) rfl (fun ls hl => ?_)
          refine lv_goto (tgt := 28) hx hb dX11_when_54 (by decide) ?_
          exact ih r9 u3 v4 _ _ ls o h hP hS (lv_sub hl [1, 2, 0] rfl) hret hk
        · have h := vz_f c7 h
          refine lv_iload_n hx hb dX11_when_46 rfl (lv_at hl 2 rfl) ?_
          cases h
          have e9 := hret _ rfl
          cases e9
          exact W.iret hx hb hr (fun t ht _ => ⟨rfl, by rw [ht]; exact hP, hS.F ht⟩) hS.2.2 dX11_when_47
  rw [pX11_when] at h
  refine lv_iload_n hx hb dX11_when_0 rfl (lv_at hl 1 rfl) ?_
  refine lv_iconst (v := (0 : Int32)) hx hb dX11_when_1 (by decide) ?_
  refine lv_bipush (v := (80 : Int32)) hx hb dX11_when_2 (by decide) ?_
  obtain ⟨r11, hc10, h⟩ := vz_b h
  refine za_callR (va_runS (As := [.int a1, .int (0 : Int32), .int (80 : Int32)]) (rest := []) ⟨hx, hb, hml, hown, hts⟩ (k_X11_isIn l hc10) (va_cwS 3 hts gX11_when_X11_isIn rfl rfl rfl zd_X11_isIn ⟨Nat.le_of_ble_eq_true rfl, Nat.le_of_ble_eq_true rfl⟩) xPre0 rfl rfl hl.1 rfl (lv_room (Nat.le_of_ble_eq_true rfl)) dX11_when_4 ⟨Nat.zero_le _, Nat.zero_le _⟩) ?_
  refine lv_if_ne (tgt := 16) hx hb dX11_when_7 (by decide) (fun c12 => ?_) (fun c12 => ?_)
  · have h := vz_f c12 h
    refine lv_aload_n hx hb dX11_when_16 rfl (lv_at hl 0 rfl) ?_
    obtain ⟨⟨u14, v15⟩, hc13, h⟩ := vz_b h
    try dsimp only at h
    refine za_callWv (va_runV (As := []) (rest := []) ⟨hx, hb, hml, hown, hts⟩ (k_X11_tellHad l (D := D) (cI := cI) (cJ := cJ) (ad := ad) hD hc13) (cwV 0 hts gX11_when_X11_tellHad rfl rfl rfl ⟨rfl, zd_X11_tellHad⟩ ⟨Nat.le_of_ble_eq_true rfl, Nat.le_of_ble_eq_true rfl⟩) (xPreV (ci := 11) hK hP rfl zO_64) rfl rfl hl.1 rfl (lv_room (Nat.le_of_ble_eq_true rfl)) dX11_when_17 ⟨Nat.zero_le _, Nat.zero_le _⟩) hS (fun H locs hP hS => ?_)
    refine lv_aload_n hx hb dX11_when_20 rfl (lv_at hl 0 rfl) ?_
    refine za_getr (k := 2) hx hb hts hin11 hown hK hP zF_64_2 rfl (Nat.le_of_ble_eq_true rfl) (Or.inl hw1) dX11_when_21 ?_
    refine lv_bipush (v := (6 : Int32)) hx hb dX11_when_24 (by decide) ?_
    refine za_ildc (j := 6) hx hb hK hP zI_66 (by unfold vp_in; decide) rfl dX11_when_26 ?_
    refine lv_istore_n (lv' := [(2, .int (u14 4 6)), (0, .ref (ad 64)), (1, .int a1)]) hx hb dX11_when_27 rfl hl (by decide) rfl (fun ls hl => ?_)
    obtain ⟨o17, hL18, h⟩ := vz_b h
    refine L28 a1 fuel (u14 4 6) u14 v15 _ _ ls o17 hL18 hP hS (lv_sub hl [1, 2, 0] rfl) (fun rr e19 => by rw [e19] at h; exact Option.some.inj h) (fun u20 v21 H locs ls e19 hP hS hl => ?_)
    try rw [e19] at h
    try dsimp only at h
    refine lv_aload_n hx hb dX11_when_57 rfl (lv_at hl 0 rfl) ?_
    refine lv_bipush (v := (-2 : Int32)) hx hb dX11_when_58 (by decide) ?_
    obtain ⟨⟨r26, u23, v24⟩, hc22, h⟩ := vz_b h
    try dsimp only at h
    refine za_callWi (va_runV (As := [.int (-2 : Int32)]) (rest := []) ⟨hx, hb, hml, hown, hts⟩ (k_X11_finding l (D := D) (cI := cI) (cJ := cJ) (ad := ad) hD hc22) (cwV 1 hts gX11_when_X11_finding rfl rfl rfl ⟨rfl, zd_X11_finding⟩ ⟨Nat.le_of_ble_eq_true rfl, Nat.le_of_ble_eq_true rfl⟩) (xPreV (ci := 11) hK hP rfl zO_64) rfl rfl hl.1 rfl (lv_room (Nat.le_of_ble_eq_true rfl)) dX11_when_60 ⟨Nat.zero_le _, Nat.zero_le _⟩) hS (fun H locs hP hS => ?_)
    cases h
    exact W.iret hx hb hr (fun t ht _ => ⟨rfl, by rw [ht]; exact hP, hS.F ht⟩) hS.2.2 dX11_when_63
  · have h := vz_t c12 h
    refine lv_aload_n hx hb dX11_when_10 rfl (lv_at hl 0 rfl) ?_
    refine lv_iconst (v := (-1 : Int32)) hx hb dX11_when_11 (by decide) ?_
    obtain ⟨⟨r31, u28, v29⟩, hc27, h⟩ := vz_b h
    try dsimp only at h
    refine za_callWi (va_runV (As := [.int (-1 : Int32)]) (rest := []) ⟨hx, hb, hml, hown, hts⟩ (k_X11_finding l (D := D) (cI := cI) (cJ := cJ) (ad := ad) hD hc27) (cwV 1 hts gX11_when_X11_finding rfl rfl rfl ⟨rfl, zd_X11_finding⟩ ⟨Nat.le_of_ble_eq_true rfl, Nat.le_of_ble_eq_true rfl⟩) (xPreV (ci := 11) hK hP rfl zO_64) rfl rfl hl.1 rfl (lv_room (Nat.le_of_ble_eq_true rfl)) dX11_when_12 ⟨Nat.zero_le _, Nat.zero_le _⟩) hS (fun H locs hP hS => ?_)
    cases h
    exact W.iret hx hb hr (fun t ht _ => ⟨rfl, by rw [ht]; exact hP, hS.F ht⟩) hS.2.2 dX11_when_15
abbrev rmX11_without : Room := { frames := 6, cells := 0, slots := 0, locals := 142 }
set_option maxHeartbeats 4000000 in
set_option maxRecDepth 100000 in
theorem k_X11_without (l : Launch) {D : va_G} {cI cJ : ClassId} {ad : Nat → Nat} {u : tU} {v : tV} {A : Nat → Prop} (hD : zD A cI cJ ad) {a1 : Int32}  {r : Int32} {uz : tU} {vz : tV} (h : pX11_without u v a1 = some (r, uz, vz)) : Met l yX11_without wsX11_without rmX11_without (va_Pc [.ref (ad 64), .int a1] (xPre D cI cJ (wA cI cJ ad u v))) (xWi D cI cJ ad A r uz vz) 0 0 A := by
  refine Met.ofW (cc := cX11_without) (maxL := 2) (ret := (some .int)) (by decide) rfl ?_
  intro p e s m args below meth c s₁ B hml hv
  obtain ⟨rfl, hP, hK⟩ := hv
  have hx := B.exec
  have hb := B.bytes
  have hr := B.returns
  have hts := atoms_spec (ws := wsX11_without) B.pre
  have hown : s.vm.findClass RX11 = some m.cls := findClass_of_methodNamed B.named
  have hlocks := B.notSynchronized
  have hS : va_S A s.heap s.heap [] := va_S.rf
  have hin11 : ∀ w ∈ u_ws RX11 TX11 10, w ∈ wsX11_without := fun _ h => List.mem_cons_of_mem _ (List.mem_append_right _ h)
  have hw1 := hts (.fieldLink RX11 13 "InstallDeskModel" "book" "[I") (List.mem_of_getElem? (i := 1) rfl)
  have hl := lv_entry ([.ref (ad 64), .int a1]) (n := 2) (Nat.le_of_ble_eq_true rfl)
  rw [lg_entry_eq]
  generalize (lg_sl ([.ref (ad 64), .int a1]) ++ List.replicate (2 - (lg_sl ([.ref (ad 64), .int a1])).length) Slot.unset).toArray = ls at hl ⊢
  have hl : lv_has ls 2 [(0, .ref (ad 64)), (1, .int a1)] := hl
  rw [pX11_without] at h
  refine lv_aload_n hx hb dX11_without_0 rfl (lv_at hl 0 rfl) ?_
  refine lv_iload_n hx hb dX11_without_1 rfl (lv_at hl 1 rfl) ?_
  obtain ⟨r2, hc1, h⟩ := vz_b h
  refine za_callR (va_runV (As := [.int a1]) (rest := []) ⟨hx, hb, hml, hown, hts⟩ (k_X11_isRight l (D := D) (cI := cI) (cJ := cJ) (ad := ad) hc1) (cwV 1 hts gX11_without_X11_isRight rfl rfl rfl ⟨rfl, zd_X11_isRight⟩ ⟨Nat.le_of_ble_eq_true rfl, Nat.le_of_ble_eq_true rfl⟩) (xPreV (ci := 11) hK hP rfl zO_64) rfl rfl hl.1 rfl (lv_room (Nat.le_of_ble_eq_true rfl)) dX11_without_2 ⟨Nat.zero_le _, Nat.zero_le _⟩) ?_
  refine lv_if_ne (tgt := 14) hx hb dX11_without_5 (by decide) (fun c3 => ?_) (fun c3 => ?_)
  · have h := vz_f c3 h
    refine lv_aload_n hx hb dX11_without_14 rfl (lv_at hl 0 rfl) ?_
    obtain ⟨⟨u5, v6⟩, hc4, h⟩ := vz_b h
    try dsimp only at h
    refine za_callWv (va_runV (As := []) (rest := []) ⟨hx, hb, hml, hown, hts⟩ (k_X11_tellHad l (D := D) (cI := cI) (cJ := cJ) (ad := ad) hD hc4) (cwV 0 hts gX11_without_X11_tellHad rfl rfl rfl ⟨rfl, zd_X11_tellHad⟩ ⟨Nat.le_of_ble_eq_true rfl, Nat.le_of_ble_eq_true rfl⟩) (xPreV (ci := 11) hK hP rfl zO_64) rfl rfl hl.1 rfl (lv_room (Nat.le_of_ble_eq_true rfl)) dX11_without_15 ⟨Nat.zero_le _, Nat.zero_le _⟩) hS (fun H locs hP hS => ?_)
    refine lv_aload_n hx hb dX11_without_18 rfl (lv_at hl 0 rfl) ?_
    refine lv_aload_n hx hb dX11_without_19 rfl (lv_at hl 0 rfl) ?_
    refine za_getr (k := 2) hx hb hts hin11 hown hK hP zF_64_2 rfl (Nat.le_of_ble_eq_true rfl) (Or.inl hw1) dX11_without_20 ?_
    refine lv_bipush (v := (6 : Int32)) hx hb dX11_without_23 (by decide) ?_
    refine za_ildc (j := 6) hx hb hK hP zI_66 (by unfold vp_in; decide) rfl dX11_without_25 ?_
    refine lv_iload_n hx hb dX11_without_26 rfl (lv_at hl 1 rfl) ?_
    refine lv_iconst (v := (-1 : Int32)) hx hb dX11_without_27 (by decide) ?_
    obtain ⟨⟨r12, u9, v10⟩, hc8, h⟩ := vz_b h
    try dsimp only at h
    refine za_callWi (va_runV (As := [.int (u5 4 6), .int a1, .int (-1 : Int32)]) (rest := []) ⟨hx, hb, hml, hown, hts⟩ (k_X11_lackOn l (D := D) (cI := cI) (cJ := cJ) (ad := ad) hD hc8) (cwV 3 hts gX11_without_X11_lackOn rfl rfl rfl ⟨rfl, zd_X11_lackOn⟩ ⟨Nat.le_of_ble_eq_true rfl, Nat.le_of_ble_eq_true rfl⟩) (xPreV (ci := 11) hK hP rfl zO_64) rfl rfl hl.1 rfl (lv_room (Nat.le_of_ble_eq_true rfl)) dX11_without_28 ⟨Nat.zero_le _, Nat.zero_le _⟩) hS (fun H locs hP hS => ?_)
    cases h
    exact W.iret hx hb hr (fun t ht _ => ⟨rfl, by rw [ht]; exact hP, hS.F ht⟩) hS.2.2 dX11_without_31
  · have h := vz_t c3 h
    refine lv_aload_n hx hb dX11_without_8 rfl (lv_at hl 0 rfl) ?_
    refine lv_iconst (v := (-1 : Int32)) hx hb dX11_without_9 (by decide) ?_
    obtain ⟨⟨r17, u14, v15⟩, hc13, h⟩ := vz_b h
    try dsimp only at h
    refine za_callWi (va_runV (As := [.int (-1 : Int32)]) (rest := []) ⟨hx, hb, hml, hown, hts⟩ (k_X11_finding l (D := D) (cI := cI) (cJ := cJ) (ad := ad) hD hc13) (cwV 1 hts gX11_without_X11_finding rfl rfl rfl ⟨rfl, zd_X11_finding⟩ ⟨Nat.le_of_ble_eq_true rfl, Nat.le_of_ble_eq_true rfl⟩) (xPreV (ci := 11) hK hP rfl zO_64) rfl rfl hl.1 rfl (lv_room (Nat.le_of_ble_eq_true rfl)) dX11_without_10 ⟨Nat.zero_le _, Nat.zero_le _⟩) hS (fun H locs hP hS => ?_)
    cases h
    exact W.iret hx hb hr (fun t ht _ => ⟨rfl, by rw [ht]; exact hP, hS.F ht⟩) hS.2.2 dX11_without_13
