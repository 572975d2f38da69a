abbrev rmX0_copyFrom_S : Room := { frames := 2, cells := 0, slots := 0, locals := 39 }
set_option maxHeartbeats 4000000 in
set_option maxRecDepth 100000 in
theorem k_X0_copyFrom_S (l : Launch) {D : va_G} {cI cJ : ClassId} {ad : Nat → Nat} {u : tU} {v : tV} {A : Nat → Prop} (hD : zD A cI cJ ad) {uz : tU} {vz : tV} (h : pX0_copyFrom_S u v  = some (uz, vz)) : Met l yX0_copyFrom wsX0_copyFrom rmX0_copyFrom_S (va_Pc [.ref (ad 31), .ref (ad 2)] (xPre D cI cJ (wA cI cJ ad u v))) (xWv D cI cJ ad A uz vz) 0 0 A := by
  refine Met.ofW (cc := cX0_copyFrom) (maxL := 2) (ret := none) (by decide) rfl ?_
  intro p e s m args below meth c s₁ B hml hv
  obtain ⟨rfl, hP, hK⟩ := hv
  have hx := B.exec
  have hb := B.bytes
  have hr := B.returns
  have hts := atoms_spec (ws := wsX0_copyFrom) B.pre
  have hown : s.vm.findClass RX0 = some m.cls := findClass_of_methodNamed B.named
  have hlocks := B.notSynchronized
  have hS : va_S A s.heap s.heap [] := va_S.rf
  have hin0 : ∀ w ∈ u_ws RX0 TX0 8, w ∈ wsX0_copyFrom := fun _ h => List.mem_cons_of_mem _ (List.mem_append_left _ (List.mem_append_left _ (List.mem_append_left _ (List.mem_append_left _ (List.mem_append_left _ (List.mem_append_left _ (List.mem_append_right _ h)))))))
  have hw1 := hts (.fieldLink RX0 12 "InstallDesk$Books" "products" "LInstallDesk$Products;") (List.mem_of_getElem? (i := 1) rfl)
  have hw2 := hts (.fieldLink RX0 21 "InstallDesk$Books" "rules" "LInstallDesk$Rules;") (List.mem_of_getElem? (i := 2) rfl)
  have hw3 := hts (.fieldLink RX0 28 "InstallDesk$Books" "hosts" "LInstallDesk$Hosts;") (List.mem_of_getElem? (i := 3) rfl)
  have hw4 := hts (.fieldLink RX0 35 "InstallDesk$Books" "finds" "LInstallDesk$Finds;") (List.mem_of_getElem? (i := 4) rfl)
  have hw5 := hts (.fieldLink RX0 42 "InstallDesk$Books" "uses" "LInstallDesk$Uses;") (List.mem_of_getElem? (i := 5) rfl)
  have hw6 := hts (.fieldLink RX0 49 "InstallDesk$Books" "rights" "LInstallDesk$Rights;") (List.mem_of_getElem? (i := 6) rfl)
  have hw7 := hts (.fieldLink RX0 88 "InstallDesk$Books" "dayNow" "I") (List.mem_of_getElem? (i := 7) rfl)
  have hw8 := hts (.fieldLink RX0 53 "InstallDesk$Books" "keptDays" "I") (List.mem_of_getElem? (i := 8) rfl)
  have hw9 := hts (.instanceMethod yX6_copyFrom) (List.mem_of_getElem? (i := 9) rfl)
  have hw10 := hts (.initialized RX6) (List.mem_of_getElem? (i := 10) rfl)
  have hw11 := hts (.selects RX6 yX6_copyFrom yX6_copyFrom) (List.mem_of_getElem? (i := 11) rfl)
  have hw21 := hts (.instanceMethod yX8_copyFrom) (List.mem_of_getElem? (i := 21) rfl)
  have hw22 := hts (.initialized RX8) (List.mem_of_getElem? (i := 22) rfl)
  have hw23 := hts (.selects RX8 yX8_copyFrom yX8_copyFrom) (List.mem_of_getElem? (i := 23) rfl)
  have hw30 := hts (.instanceMethod yX3_copyFrom) (List.mem_of_getElem? (i := 30) rfl)
  have hw31 := hts (.initialized RX3) (List.mem_of_getElem? (i := 31) rfl)
  have hw32 := hts (.selects RX3 yX3_copyFrom yX3_copyFrom) (List.mem_of_getElem? (i := 32) rfl)
  have hw38 := hts (.instanceMethod yX1_copyFrom) (List.mem_of_getElem? (i := 38) rfl)
  have hw39 := hts (.initialized RX1) (List.mem_of_getElem? (i := 39) rfl)
  have hw40 := hts (.selects RX1 yX1_copyFrom yX1_copyFrom) (List.mem_of_getElem? (i := 40) rfl)
  have hw48 := hts (.instanceMethod yX9_copyFrom) (List.mem_of_getElem? (i := 48) rfl)
  have hw49 := hts (.initialized RX9) (List.mem_of_getElem? (i := 49) rfl)
  have hw50 := hts (.selects RX9 yX9_copyFrom yX9_copyFrom) (List.mem_of_getElem? (i := 50) rfl)
  have hw58 := hts (.instanceMethod yX7_copyFrom) (List.mem_of_getElem? (i := 58) rfl)
  have hw59 := hts (.initialized RX7) (List.mem_of_getElem? (i := 59) rfl)
  have hw60 := hts (.selects RX7 yX7_copyFrom yX7_copyFrom) (List.mem_of_getElem? (i := 60) rfl)
  have hl := lv_entry ([.ref (ad 31), .ref (ad 2)]) (n := 2) (Nat.le_of_ble_eq_true rfl)
  rw [lg_entry_eq]
  generalize (lg_sl ([.ref (ad 31), .ref (ad 2)]) ++ List.replicate (2 - (lg_sl ([.ref (ad 31), .ref (ad 2)])).length) Slot.unset).toArray = ls at hl ⊢
  have hl : lv_has ls 2 [(0, .ref (ad 31)), (1, .ref (ad 2))] := hl
  rw [pX0_copyFrom_S] at h
  refine lv_aload_n hx hb dX0_copyFrom_0 rfl (lv_at hl 0 rfl) ?_
  refine za_getr (k := 0) hx hb hts hin0 hown hK hP zF_31_0 rfl (Nat.le_of_ble_eq_true rfl) (Or.inl hw1) dX0_copyFrom_1 ?_
  refine lv_aload_n hx hb dX0_copyFrom_4 rfl (lv_at hl 1 rfl) ?_
  refine za_getr (k := 0) hx hb hts hin0 hown hK hP zF_2_0 rfl (Nat.le_of_ble_eq_true rfl) (Or.inl hw1) dX0_copyFrom_5 ?_
  obtain ⟨⟨u2, v3⟩, hc1, h⟩ := vz_b h
  try dsimp only at h
  refine za_callWv (va_runVN (As := [.ref (ad 3)]) (rest := []) ⟨hx, hb, hml, hown, hts⟩ (k_X6_copyFrom_S l (D := D) (cI := cI) (cJ := cJ) (ad := ad) hD hc1) ⟨va_cnB 1 hts gX0_copyFrom_X6_copyFrom_n105 rfl rfl rfl (nw_686 hK.2) hw10 zd_X6_copyFrom ⟨Nat.le_of_ble_eq_true rfl, Nat.le_of_ble_eq_true rfl⟩, hw9, hw11⟩ (xPreV (ci := 6) hK hP rfl zO_32) rfl rfl hl.1 rfl (lv_room (Nat.le_of_ble_eq_true rfl)) dX0_copyFrom_8 ⟨Nat.zero_le _, Nat.zero_le _⟩) hS (fun H locs hP hS => ?_)
  refine lv_aload_n hx hb dX0_copyFrom_11 rfl (lv_at hl 0 rfl) ?_
  refine za_getr (k := 1) hx hb hts hin0 hown hK hP zF_31_1 rfl (Nat.le_of_ble_eq_true rfl) (Or.inl hw2) dX0_copyFrom_12 ?_
  refine lv_aload_n hx hb dX0_copyFrom_15 rfl (lv_at hl 1 rfl) ?_
  refine za_getr (k := 1) hx hb hts hin0 hown hK hP zF_2_1 rfl (Nat.le_of_ble_eq_true rfl) (Or.inl hw2) dX0_copyFrom_16 ?_
  obtain ⟨⟨u6, v7⟩, hc5, h⟩ := vz_b h
  try dsimp only at h
  refine za_callWv (va_runVN (As := [.ref (ad 7)]) (rest := []) ⟨hx, hb, hml, hown, hts⟩ (k_X8_copyFrom_S l (D := D) (cI := cI) (cJ := cJ) (ad := ad) hD hc5) ⟨va_cnB 1 hts gX0_copyFrom_X8_copyFrom_n109 rfl rfl rfl (nw_693 hK.2) hw22 zd_X8_copyFrom ⟨Nat.le_of_ble_eq_true rfl, Nat.le_of_ble_eq_true rfl⟩, hw21, hw23⟩ (xPreV (ci := 8) hK hP rfl zO_36) rfl rfl hl.1 rfl (lv_room (Nat.le_of_ble_eq_true rfl)) dX0_copyFrom_19 ⟨Nat.zero_le _, Nat.zero_le _⟩) hS (fun H locs hP hS => ?_)
  refine lv_aload_n hx hb dX0_copyFrom_22 rfl (lv_at hl 0 rfl) ?_
  refine za_getr (k := 2) hx hb hts hin0 hown hK hP zF_31_2 rfl (Nat.le_of_ble_eq_true rfl) (Or.inl hw3) dX0_copyFrom_23 ?_
  refine lv_aload_n hx hb dX0_copyFrom_26 rfl (lv_at hl 1 rfl) ?_
  refine za_getr (k := 2) hx hb hts hin0 hown hK hP zF_2_2 rfl (Nat.le_of_ble_eq_true rfl) (Or.inl hw3) dX0_copyFrom_27 ?_
  obtain ⟨⟨u10, v11⟩, hc9, h⟩ := vz_b h
  try dsimp only at h
  refine za_callWv (va_runVN (As := [.ref (ad 11)]) (rest := []) ⟨hx, hb, hml, hown, hts⟩ (k_X3_copyFrom_S l (D := D) (cI := cI) (cJ := cJ) (ad := ad) hD hc9) ⟨va_cnB 1 hts gX0_copyFrom_X3_copyFrom_n112 rfl rfl rfl (nw_698 hK.2) hw31 zd_X3_copyFrom ⟨Nat.le_of_ble_eq_true rfl, Nat.le_of_ble_eq_true rfl⟩, hw30, hw32⟩ (xPreV (ci := 3) hK hP rfl zO_40) rfl rfl hl.1 rfl (lv_room (Nat.le_of_ble_eq_true rfl)) dX0_copyFrom_30 ⟨Nat.zero_le _, Nat.zero_le _⟩) hS (fun H locs hP hS => ?_)
  refine lv_aload_n hx hb dX0_copyFrom_33 rfl (lv_at hl 0 rfl) ?_
  refine za_getr (k := 3) hx hb hts hin0 hown hK hP zF_31_3 rfl (Nat.le_of_ble_eq_true rfl) (Or.inl hw4) dX0_copyFrom_34 ?_
  refine lv_aload_n hx hb dX0_copyFrom_37 rfl (lv_at hl 1 rfl) ?_
  refine za_getr (k := 3) hx hb hts hin0 hown hK hP zF_2_3 rfl (Nat.le_of_ble_eq_true rfl) (Or.inl hw4) dX0_copyFrom_38 ?_
  obtain ⟨⟨u14, v15⟩, hc13, h⟩ := vz_b h
  try dsimp only at h
  refine za_callWv (va_runVN (As := [.ref (ad 14)]) (rest := []) ⟨hx, hb, hml, hown, hts⟩ (k_X1_copyFrom_S l (D := D) (cI := cI) (cJ := cJ) (ad := ad) hD hc13) ⟨va_cnB 1 hts gX0_copyFrom_X1_copyFrom_n115 rfl rfl rfl (nw_703 hK.2) hw39 zd_X1_copyFrom ⟨Nat.le_of_ble_eq_true rfl, Nat.le_of_ble_eq_true rfl⟩, hw38, hw40⟩ (xPreV (ci := 1) hK hP rfl zO_43) rfl rfl hl.1 rfl (lv_room (Nat.le_of_ble_eq_true rfl)) dX0_copyFrom_41 ⟨Nat.zero_le _, Nat.zero_le _⟩) hS (fun H locs hP hS => ?_)
  refine lv_aload_n hx hb dX0_copyFrom_44 rfl (lv_at hl 0 rfl) ?_
  refine za_getr (k := 4) hx hb hts hin0 hown hK hP zF_31_4 rfl (Nat.le_of_ble_eq_true rfl) (Or.inl hw5) dX0_copyFrom_45 ?_
  refine lv_aload_n hx hb dX0_copyFrom_48 rfl (lv_at hl 1 rfl) ?_
  refine za_getr (k := 4) hx hb hts hin0 hown hK hP zF_2_4 rfl (Nat.le_of_ble_eq_true rfl) (Or.inl hw5) dX0_copyFrom_49 ?_
  obtain ⟨⟨u18, v19⟩, hc17, h⟩ := vz_b h
  try dsimp only at h
  refine za_callWv (va_runVN (As := [.ref (ad 19)]) (rest := []) ⟨hx, hb, hml, hown, hts⟩ (k_X9_copyFrom_S l (D := D) (cI := cI) (cJ := cJ) (ad := ad) hD hc17) ⟨va_cnB 1 hts gX0_copyFrom_X9_copyFrom_n118 rfl rfl rfl (nw_708 hK.2) hw49 zd_X9_copyFrom ⟨Nat.le_of_ble_eq_true rfl, Nat.le_of_ble_eq_true rfl⟩, hw48, hw50⟩ (xPreV (ci := 9) hK hP rfl zO_48) rfl rfl hl.1 rfl (lv_room (Nat.le_of_ble_eq_true rfl)) dX0_copyFrom_52 ⟨Nat.zero_le _, Nat.zero_le _⟩) hS (fun H locs hP hS => ?_)
  refine lv_aload_n hx hb dX0_copyFrom_55 rfl (lv_at hl 0 rfl) ?_
  refine za_getr (k := 5) hx hb hts hin0 hown hK hP zF_31_5 rfl (Nat.le_of_ble_eq_true rfl) (Or.inl hw6) dX0_copyFrom_56 ?_
  refine lv_aload_n hx hb dX0_copyFrom_59 rfl (lv_at hl 1 rfl) ?_
  refine za_getr (k := 5) hx hb hts hin0 hown hK hP zF_2_5 rfl (Nat.le_of_ble_eq_true rfl) (Or.inl hw6) dX0_copyFrom_60 ?_
  obtain ⟨⟨u22, v23⟩, hc21, h⟩ := vz_b h
  try dsimp only at h
  refine za_callWv (va_runVN (As := [.ref (ad 24)]) (rest := []) ⟨hx, hb, hml, hown, hts⟩ (k_X7_copyFrom_S l (D := D) (cI := cI) (cJ := cJ) (ad := ad) hD hc21) ⟨va_cnB 1 hts gX0_copyFrom_X7_copyFrom_n121 rfl rfl rfl (nw_713 hK.2) hw59 zd_X7_copyFrom ⟨Nat.le_of_ble_eq_true rfl, Nat.le_of_ble_eq_true rfl⟩, hw58, hw60⟩ (xPreV (ci := 7) hK hP rfl zO_53) rfl rfl hl.1 rfl (lv_room (Nat.le_of_ble_eq_true rfl)) dX0_copyFrom_63 ⟨Nat.zero_le _, Nat.zero_le _⟩) hS (fun H locs hP hS => ?_)
  refine lv_aload_n hx hb dX0_copyFrom_66 rfl (lv_at hl 0 rfl) ?_
  refine lv_aload_n hx hb dX0_copyFrom_67 rfl (lv_at hl 1 rfl) ?_
  refine za_geti (k := 6) hx hb hts hin0 hown hK hP zF_2_6 rfl (Nat.le_of_ble_eq_true rfl) (Or.inl hw7) dX0_copyFrom_68 ?_
  refine za_puti (k := 6) hx hb hts hin0 tyX0 tyX0_ok nmX0 hown hK hP hD hS zF_31_6 rfl (Nat.le_of_ble_eq_true rfl) (Or.inl hw7) rfl rfl rfl dX0_copyFrom_71 (fun H locs hP hS => ?_)
  refine lv_aload_n hx hb dX0_copyFrom_74 rfl (lv_at hl 0 rfl) ?_
  refine lv_aload_n hx hb dX0_copyFrom_75 rfl (lv_at hl 1 rfl) ?_
  refine za_geti (k := 7) hx hb hts hin0 hown hK hP zF_2_7 rfl (Nat.le_of_ble_eq_true rfl) (Or.inl hw8) dX0_copyFrom_76 ?_
  refine za_puti (k := 7) hx hb hts hin0 tyX0 tyX0_ok nmX0 hown hK hP hD hS zF_31_7 rfl (Nat.le_of_ble_eq_true rfl) (Or.inl hw8) rfl rfl rfl dX0_copyFrom_79 (fun H locs hP hS => ?_)
  cases h
  exact W.vret hx hb hr (fun t ht _ => ⟨rfl, by rw [ht]; exact hP, hS.F ht⟩) hS.2.2 dX0_copyFrom_82
abbrev rmX10_keep : Room := { frames := 3, cells := 0, slots := 0, locals := 60 }
set_option maxHeartbeats 4000000 in
set_option maxRecDepth 100000 in
theorem k_X10_keep (l : Launch) {D : va_G} {cI cJ : ClassId} {ad : Nat → Nat} {u : tU} {v : tV} {A : Nat → Prop} (hD : zD A cI cJ ad) {r : Int32} {uz : tU} {vz : tV} (h : pX10_keep u v  = some (r, uz, vz)) : Met l yX10_keep wsX10_keep rmX10_keep (va_Pc [.ref (ad 0)] (xPre D cI cJ (wA cI cJ ad u v))) (xWi D cI cJ ad A r uz vz) 0 0 A := by
  refine Met.ofW (cc := cX10_keep) (maxL := 1) (ret := (some .int)) (by decide) rfl ?_
  intro p e s m args below meth c s₁ B hml hv
  obtain ⟨rfl, hP, hK⟩ := hv
  have hx := B.exec
  have hb := B.bytes
  have hr := B.returns
  have hts := atoms_spec (ws := wsX10_keep) B.pre
  have hown : s.vm.findClass RX10 = some m.cls := findClass_of_methodNamed B.named
  have hlocks := B.notSynchronized
  have hS : va_S A s.heap s.heap [] := va_S.rf
  have hin0 : ∀ w ∈ u_ws RX0 TX0 8, w ∈ wsX10_keep := fun _ h => List.mem_cons_of_mem _ (List.mem_append_left _ (List.mem_append_left _ (List.mem_append_left _ (List.mem_append_left _ (List.mem_append_left _ (List.mem_append_left _ (List.mem_append_right _ h)))))))
  have hin1 : ∀ w ∈ u_ws RX1 TX1 5, w ∈ wsX10_keep := fun _ h => List.mem_cons_of_mem _ (List.mem_append_left _ (List.mem_append_left _ (List.mem_append_left _ (List.mem_append_left _ (List.mem_append_left _ (List.mem_append_right _ h))))))
  have hin10 : ∀ w ∈ u_ws RX10 TX10 7, w ∈ wsX10_keep := fun _ h => List.mem_cons_of_mem _ (List.mem_append_left _ (List.mem_append_left _ (List.mem_append_left _ (List.mem_append_left _ (List.mem_append_left _ (List.mem_append_left _ (List.mem_append_left _ (List.mem_append_right _ h))))))))
  have hw1 := hts (.fieldLink RX10 23 "InstallDesk" "saved" "LInstallDesk$Books;") (List.mem_of_getElem? (i := 1) rfl)
  have hw2 := hts (.fieldLink RX10 19 "InstallDesk" "books" "LInstallDesk$Books;") (List.mem_of_getElem? (i := 2) rfl)
  have hw3 := hts (.fieldLink RX10 244 "InstallDesk" "anySaved" "Z") (List.mem_of_getElem? (i := 3) rfl)
  have hw4 := hts (.instanceMethod yX0_copyFrom) (List.mem_of_getElem? (i := 4) rfl)
  have hw5 := hts (.initialized RX0) (List.mem_of_getElem? (i := 5) rfl)
  have hw6 := hts (.selects RX0 yX0_copyFrom yX0_copyFrom) (List.mem_of_getElem? (i := 6) rfl)
  have hl := lv_entry ([.ref (ad 0)]) (n := 1) (Nat.le_of_ble_eq_true rfl)
  rw [lg_entry_eq]
  generalize (lg_sl ([.ref (ad 0)]) ++ List.replicate (1 - (lg_sl ([.ref (ad 0)])).length) Slot.unset).toArray = ls at hl ⊢
  have hl : lv_has ls 1 [(0, .ref (ad 0))] := hl
  rw [pX10_keep] at h
  refine lv_aload_n hx hb dX10_keep_0 rfl (lv_at hl 0 rfl) ?_
  refine za_getr (k := 2) hx hb hts hin10 hown hK hP zF_0_2 rfl (Nat.le_of_ble_eq_true rfl) (Or.inl hw1) dX10_keep_1 ?_
  refine lv_aload_n hx hb dX10_keep_4 rfl (lv_at hl 0 rfl) ?_
  refine za_getr (k := 1) hx hb hts hin10 hown hK hP zF_0_1 rfl (Nat.le_of_ble_eq_true rfl) (Or.inl hw2) dX10_keep_5 ?_
  obtain ⟨⟨u2, v3⟩, hc1, h⟩ := vz_b h
  try dsimp only at h
  refine za_callWv (va_runVN (As := [.ref (ad 2)]) (rest := []) ⟨hx, hb, hml, hown, hts⟩ (k_X0_copyFrom_S l (D := D) (cI := cI) (cJ := cJ) (ad := ad) hD hc1) ⟨va_cnB 1 hts gX10_keep_X0_copyFrom_n241 rfl rfl rfl (nw_682 hK.2) hw5 zd_X0_copyFrom ⟨Nat.le_of_ble_eq_true rfl, Nat.le_of_ble_eq_true rfl⟩, hw4, hw6⟩ (xPreV (ci := 0) hK hP rfl zO_31) rfl rfl hl.1 rfl (lv_room (Nat.le_of_ble_eq_true rfl)) dX10_keep_8 ⟨Nat.zero_le _, Nat.zero_le _⟩) hS (fun H locs hP hS => ?_)
  refine lv_aload_n hx hb dX10_keep_11 rfl (lv_at hl 0 rfl) ?_
  refine lv_iconst (v := (1 : Int32)) hx hb dX10_keep_12 (by decide) ?_
  refine za_puti (k := 5) hx hb hts hin10 tyX10 tyX10_ok nmX10 hown hK hP hD hS zF_0_5 rfl (Nat.le_of_ble_eq_true rfl) (Or.inl hw3) rfl nb1 nbf1 dX10_keep_13 (fun H locs hP hS => ?_)
  refine lv_aload_n hx hb dX10_keep_16 rfl (lv_at hl 0 rfl) ?_
  refine za_getr (k := 1) hx hb hts hin10 hown hK hP zF_0_1 rfl (Nat.le_of_ble_eq_true rfl) (Or.inl hw2) dX10_keep_17 ?_
  refine za_getr (k := 3) hx hb hts hin0 hown hK hP zF_2_3 rfl (Nat.le_of_ble_eq_true rfl) (nw_221 hK.2) dX10_keep_20 ?_
  refine za_geti (k := 0) hx hb hts hin1 hown hK hP zF_14_0 rfl (Nat.le_of_ble_eq_true rfl) (nw_127 hK.2) dX10_keep_23 ?_
  cases h
  exact W.iret hx hb hr (fun t ht _ => ⟨rfl, by rw [ht]; exact hP, hS.F ht⟩) hS.2.2 dX10_keep_26
abbrev rmX10_kept : Room := { frames := 1, cells := 0, slots := 0, locals := 22 }
set_option maxHeartbeats 4000000 in
set_option maxRecDepth 100000 in
theorem k_X10_kept (l : Launch) {D : va_G} {cI cJ : ClassId} {ad : Nat → Nat} {u : tU} {v : tV} {A : Nat → Prop} (hD : zD A cI cJ ad) {a1 : Int32}  {r : Int32} {uz : tU} {vz : tV} (h : pX10_kept u v a1 = some (r, uz, vz)) : Met l yX10_kept wsX10_kept rmX10_kept (va_Pc [.ref (ad 0), .int a1] (xPre D cI cJ (wA cI cJ ad u v))) (xWi D cI cJ ad A r uz vz) 0 0 A := by
  refine Met.ofW (cc := cX10_kept) (maxL := 3) (ret := (some .int)) (by decide) rfl ?_
  intro p e s m args below meth c s₁ B hml hv
  obtain ⟨rfl, hP, hK⟩ := hv
  have hx := B.exec
  have hb := B.bytes
  have hr := B.returns
  have hts := atoms_spec (ws := wsX10_kept) B.pre
  have hown : s.vm.findClass RX10 = some m.cls := findClass_of_methodNamed B.named
  have hlocks := B.notSynchronized
  have hS : va_S A s.heap s.heap [] := va_S.rf
  have hin0 : ∀ w ∈ u_ws RX0 TX0 8, w ∈ wsX10_kept := fun _ h => List.mem_cons_of_mem _ (List.mem_append_right _ h)
  have hin10 : ∀ w ∈ u_ws RX10 TX10 7, w ∈ wsX10_kept := fun _ h => List.mem_cons_of_mem _ (List.mem_append_left _ (List.mem_append_right _ h))
  have hw1 := hts (.fieldLink RX10 19 "InstallDesk" "books" "LInstallDesk$Books;") (List.mem_of_getElem? (i := 1) rfl)
  have hl := lv_entry ([.ref (ad 0), .int a1]) (n := 3) (Nat.le_of_ble_eq_true rfl)
  rw [lg_entry_eq]
  generalize (lg_sl ([.ref (ad 0), .int a1]) ++ List.replicate (3 - (lg_sl ([.ref (ad 0), .int a1])).length) Slot.unset).toArray = ls at hl ⊢
  have hl : lv_has ls 3 [(0, .ref (ad 0)), (1, .int a1)] := hl
  rw [pX10_kept] at h
  refine lv_iload_n hx hb dX10_kept_0 rfl (lv_at hl 1 rfl) ?_
  refine lv_iconst (v := (0 : Int32)) hx hb dX10_kept_1 (by decide) ?_
  refine lv_sipush (v := (999 : Int32)) hx hb dX10_kept_2 (by decide) ?_
  obtain ⟨r2, hc1, h⟩ := vz_b h
  refine za_callR (va_runS (As := [.int a1, .int (0 : Int32), .int (999 : Int32)]) (rest := []) ⟨hx, hb, hml, hown, hts⟩ (k_X10_isWithin l hc1) (va_cwS 3 hts gX10_kept_X10_isWithin rfl rfl rfl zd_X10_isWithin ⟨Nat.le_of_ble_eq_true rfl, Nat.le_of_ble_eq_true rfl⟩) xPre0 rfl rfl hl.1 rfl (lv_room (Nat.le_of_ble_eq_true rfl)) dX10_kept_5 ⟨Nat.zero_le _, Nat.zero_le _⟩) ?_
  refine lv_if_ne (tgt := 17) hx hb dX10_kept_8 (by decide) (fun c3 => ?_) (fun c3 => ?_)
  · have h := vz_f c3 h
    refine lv_aload_n hx hb dX10_kept_17 rfl (lv_at hl 0 rfl) ?_
    refine za_getr (k := 1) hx hb hts hin10 hown hK hP zF_0_1 rfl (Nat.le_of_ble_eq_true rfl) (Or.inl hw1) dX10_kept_18 ?_
    refine za_geti (k := 7) hx hb hts hin0 hown hK hP zF_2_7 rfl (Nat.le_of_ble_eq_true rfl) (nw_230 hK.2) dX10_kept_21 ?_
    refine lv_istore_n (lv' := [(2, .int (u 10 7)), (0, .ref (ad 0)), (1, .int a1)]) hx hb dX10_kept_24 rfl hl (by decide) rfl (fun ls hl => ?_)
    refine lv_aload_n hx hb dX10_kept_25 rfl (lv_at hl 1 rfl) ?_
    refine za_getr (k := 1) hx hb hts hin10 hown hK hP zF_0_1 rfl (Nat.le_of_ble_eq_true rfl) (Or.inl hw1) dX10_kept_26 ?_
    refine lv_iload_n hx hb dX10_kept_29 rfl (lv_at hl 2 rfl) ?_
    refine za_puti (k := 7) hx hb hts hin0 tyX0 tyX0_ok nmX0 hown hK hP hD hS zF_2_7 rfl (Nat.le_of_ble_eq_true rfl) (nw_230 hK.2) rfl rfl rfl dX10_kept_30 (fun H locs hP hS => ?_)
    refine lv_iload_n hx hb dX10_kept_33 rfl (lv_at hl 0 rfl) ?_
    cases h
    exact W.iret hx hb hr (fun t ht _ => ⟨rfl, by rw [ht]; exact hP, hS.F ht⟩) hS.2.2 dX10_kept_34
  · have h := vz_t c3 h
    refine lv_aload_n hx hb dX10_kept_11 rfl (lv_at hl 0 rfl) ?_
    refine lv_iconst (v := (-1 : Int32)) hx hb dX10_kept_12 (by decide) ?_
    obtain ⟨⟨r8, u5, v6⟩, hc4, h⟩ := vz_b h
    try dsimp only at h
    refine za_callWi (va_runV (As := [.int (-1 : Int32)]) (rest := []) ⟨hx, hb, hml, hown, hts⟩ (k_X10_finding l (D := D) (cI := cI) (cJ := cJ) (ad := ad) hD hc4) (cwV 1 hts gX10_kept_X10_finding rfl rfl rfl ⟨rfl, zd_X10_finding⟩ ⟨Nat.le_of_ble_eq_true rfl, Nat.le_of_ble_eq_true rfl⟩) (xPreV (ci := 10) hK hP rfl zO_0) rfl rfl hl.1 rfl (lv_room (Nat.le_of_ble_eq_true rfl)) dX10_kept_13 ⟨Nat.zero_le _, Nat.zero_le _⟩) hS (fun H locs hP hS => ?_)
    cases h
    exact W.iret hx hb hr (fun t ht _ => ⟨rfl, by rw [ht]; exact hP, hS.F ht⟩) hS.2.2 dX10_kept_16
abbrev rmX10_lack : Room := { frames := 6, cells := 0, slots := 0, locals := 141 }
set_option maxHeartbeats 4000000 in
set_option maxRecDepth 100000 in
theorem k_X10_lack (l : Launch) {D : va_G} {cI cJ : ClassId} {ad : Nat → Nat} {u : tU} {v : tV} {A : Nat → Prop} (hD : zD A cI cJ ad) {r : Int32} {uz : tU} {vz : tV} (h : pX10_lack u v  = some (r, uz, vz)) : Met l yX10_lack wsX10_lack rmX10_lack (va_Pc [.ref (ad 0)] (xPre D cI cJ (wA cI cJ ad u v))) (xWi D cI cJ ad A r uz vz) 0 0 A := by
  refine Met.ofW (cc := cX10_lack) (maxL := 1) (ret := (some .int)) (by decide) rfl ?_
  intro p e s m args below meth c s₁ B hml hv
  obtain ⟨rfl, hP, hK⟩ := hv
  have hx := B.exec
  have hb := B.bytes
  have hr := B.returns
  have hts := atoms_spec (ws := wsX10_lack) B.pre
  have hown : s.vm.findClass RX10 = some m.cls := findClass_of_methodNamed B.named
  have hlocks := B.notSynchronized
  have hS : va_S A s.heap s.heap [] := va_S.rf
  have hin0 : ∀ w ∈ u_ws RX0 TX0 8, w ∈ wsX10_lack := fun _ h => List.mem_cons_of_mem _ (List.mem_append_left _ (List.mem_append_left _ (List.mem_append_left _ (List.mem_append_left _ (List.mem_append_left _ (List.mem_append_left _ (List.mem_append_left _ (List.mem_append_right _ h))))))))
  have hin10 : ∀ w ∈ u_ws RX10 TX10 7, w ∈ wsX10_lack := fun _ h => List.mem_cons_of_mem _ (List.mem_append_left _ (List.mem_append_left _ (List.mem_append_left _ (List.mem_append_left _ (List.mem_append_left _ (List.mem_append_left _ (List.mem_append_left _ (List.mem_append_left _ (List.mem_append_right _ h)))))))))
  have hw1 := hts (.fieldLink RX10 29 "InstallDesk" "holdings" "LInstallDesk$Holdings;") (List.mem_of_getElem? (i := 1) rfl)
  have hw2 := hts (.fieldLink RX10 19 "InstallDesk" "books" "LInstallDesk$Books;") (List.mem_of_getElem? (i := 2) rfl)
  have hw3 := hts (.instanceMethod yX2_fill) (List.mem_of_getElem? (i := 3) rfl)
  have hw4 := hts (.initialized RX2) (List.mem_of_getElem? (i := 4) rfl)
  have hw5 := hts (.selects RX2 yX2_fill yX2_fill) (List.mem_of_getElem? (i := 5) rfl)
  have hl := lv_entry ([.ref (ad 0)]) (n := 1) (Nat.le_of_ble_eq_true rfl)
  rw [lg_entry_eq]
  generalize (lg_sl ([.ref (ad 0)]) ++ List.replicate (1 - (lg_sl ([.ref (ad 0)])).length) Slot.unset).toArray = ls at hl ⊢
  have hl : lv_has ls 1 [(0, .ref (ad 0))] := hl
  rw [pX10_lack] at h
  refine lv_aload_n hx hb dX10_lack_0 rfl (lv_at hl 0 rfl) ?_
  refine za_getr (k := 3) hx hb hts hin10 hown hK hP zF_0_3 rfl (Nat.le_of_ble_eq_true rfl) (Or.inl hw1) dX10_lack_1 ?_
  refine lv_aload_n hx hb dX10_lack_4 rfl (lv_at hl 0 rfl) ?_
  refine za_getr (k := 1) hx hb hts hin10 hown hK hP zF_0_1 rfl (Nat.le_of_ble_eq_true rfl) (Or.inl hw2) dX10_lack_5 ?_
  obtain ⟨⟨u2, v3⟩, hc1, h⟩ := vz_b h
  try dsimp only at h
  refine za_callWv (va_runVN (As := [.ref (ad 2)]) (rest := []) ⟨hx, hb, hml, hown, hts⟩ (k_X2_fill l (D := D) (cI := cI) (cJ := cJ) (ad := ad) hD hc1) ⟨va_cnB 1 hts gX10_lack_X2_fill_n159 rfl rfl rfl (nw_474 hK.2) hw4 zd_X2_fill ⟨Nat.le_of_ble_eq_true rfl, Nat.le_of_ble_eq_true rfl⟩, hw3, hw5⟩ (xPreV (ci := 2) hK hP rfl zO_60) rfl rfl hl.1 rfl (lv_room (Nat.le_of_ble_eq_true rfl)) dX10_lack_8 ⟨Nat.zero_le _, Nat.zero_le _⟩) hS (fun H locs hP hS => ?_)
  refine lv_aload_n hx hb dX10_lack_11 rfl (lv_at hl 0 rfl) ?_
  refine lv_aload_n hx hb dX10_lack_12 rfl (lv_at hl 0 rfl) ?_
  refine za_getr (k := 1) hx hb hts hin10 hown hK hP zF_0_1 rfl (Nat.le_of_ble_eq_true rfl) (Or.inl hw2) dX10_lack_13 ?_
  refine za_geti (k := 6) hx hb hts hin0 hown hK hP zF_2_6 rfl (Nat.le_of_ble_eq_true rfl) (nw_228 hK.2) dX10_lack_16 ?_
  obtain ⟨⟨r9, u6, v7⟩, hc5, h⟩ := vz_b h
  try dsimp only at h
  refine za_callWi (va_runV (As := [.int (u2 10 6)]) (rest := []) ⟨hx, hb, hml, hown, hts⟩ (k_X10_lackOn l (D := D) (cI := cI) (cJ := cJ) (ad := ad) hD hc5) (cwV 1 hts gX10_lack_X10_lackOn rfl rfl rfl ⟨rfl, zd_X10_lackOn⟩ ⟨Nat.le_of_ble_eq_true rfl, Nat.le_of_ble_eq_true rfl⟩) (xPreV (ci := 10) hK hP rfl zO_0) rfl rfl hl.1 rfl (lv_room (Nat.le_of_ble_eq_true rfl)) dX10_lack_19 ⟨Nat.zero_le _, Nat.zero_le _⟩) hS (fun H locs hP hS => ?_)
  cases h
  exact W.iret hx hb hr (fun t ht _ => ⟨rfl, by rw [ht]; exact hP, hS.F ht⟩) hS.2.2 dX10_lack_22
abbrev rmX4_add : Room := { frames := 0, cells := 0, slots := 0, locals := 0 }
set_option maxHeartbeats 4000000 in
set_option maxRecDepth 100000 in
theorem k_X4_add (l : Launch) {D : va_G} {cI cJ : ClassId} {ad : Nat → Nat} {u : tU} {v : tV} {A : Nat → Prop} (hD : zD A cI cJ ad) {a1 : Int32}  {uz : tU} {vz : tV} (h : pX4_add u v a1 = some (uz, vz)) : Met l yX4_add wsX4_add rmX4_add (va_Pc [.ref (ad 1), .int a1] (xPre D cI cJ (wA cI cJ ad u v))) (xWv D cI cJ ad A uz vz) 0 0 A := by
  refine Met.ofW (cc := cX4_add) (maxL := 2) (ret := none) (by decide) rfl ?_
  intro p e s m args below meth c s₁ B hml hv
  obtain ⟨rfl, hP, hK⟩ := hv
  have hx := B.exec
  have hb := B.bytes
  have hr := B.returns
  have hts := atoms_spec (ws := wsX4_add) B.pre
  have hown : s.vm.findClass RX4 = some m.cls := findClass_of_methodNamed B.named
  have hlocks := B.notSynchronized
  have hS : va_S A s.heap s.heap [] := va_S.rf
  have hin4 : ∀ w ∈ u_ws RX4 TX4 2, w ∈ wsX4_add := fun _ h => List.mem_cons_of_mem _ (List.mem_append_right _ h)
  have hw1 := hts (.fieldLink RX4 9 "InstallDesk$Letters" "row" "J") (List.mem_of_getElem? (i := 1) rfl)
  have hw2 := hts (.fieldLink RX4 15 "InstallDesk$Letters" "count" "I") (List.mem_of_getElem? (i := 2) rfl)
  have hl := lv_entry ([.ref (ad 1), .int a1]) (n := 2) (Nat.le_of_ble_eq_true rfl)
  rw [lg_entry_eq]
  generalize (lg_sl ([.ref (ad 1), .int a1]) ++ List.replicate (2 - (lg_sl ([.ref (ad 1), .int a1])).length) Slot.unset).toArray = ls at hl ⊢
  have hl : lv_has ls 2 [(0, .ref (ad 1)), (1, .int a1)] := hl
  rw [pX4_add] at h
  refine lv_aload_n hx hb dX4_add_0 rfl (lv_at hl 0 rfl) ?_
  refine lv_dup hx hb dX4_add_1 rfl ?_
  refine za_getl (k := 1) hx hb hts hin4 hown hK hP zF_1_1 rfl (Nat.le_of_ble_eq_true rfl) (Or.inl hw1) dX4_add_2 ?_
  refine lv_iload_n hx hb dX4_add_5 rfl (lv_at hl 1 rfl) ?_
  refine lv_i2l (v := a1.toInt64) hx hb dX4_add_6 rfl ?_
  refine lv_iconst (v := (5 : Int32)) hx hb dX4_add_7 (by decide) ?_
  refine lv_aload_n hx hb dX4_add_8 rfl (lv_at hl 0 rfl) ?_
  refine za_geti (k := 0) hx hb hts hin4 hown hK hP zF_1_0 rfl (Nat.le_of_ble_eq_true rfl) (Or.inl hw2) dX4_add_9 ?_
  refine lv_imul hx hb dX4_add_12 ?_
  refine lv_lshl (v := (a1.toInt64 <<< (((5 : Int32) * (u 0 2)).toInt64 &&& 63))) hx hb dX4_add_13 rfl ?_
  refine lv_lor hx hb dX4_add_14 ?_
  refine za_putl (k := 1) hx hb hts hin4 tyX4 tyX4_ok nmX4 hown hK hP hD hS zF_1_1 rfl (Nat.le_of_ble_eq_true rfl) (Or.inl hw1) rfl rfl rfl dX4_add_15 (fun H locs hP hS => ?_)
  refine lv_aload_n hx hb dX4_add_18 rfl (lv_at hl 0 rfl) ?_
  refine lv_dup hx hb dX4_add_19 rfl ?_
  refine za_geti (k := 0) hx hb hts hin4 hown hK hP zF_1_0 rfl (Nat.le_of_ble_eq_true rfl) (Or.inl hw2) dX4_add_20 ?_
  refine lv_iconst (v := (1 : Int32)) hx hb dX4_add_23 (by decide) ?_
  refine lv_iadd hx hb dX4_add_24 ?_
  refine za_puti (k := 0) hx hb hts hin4 tyX4 tyX4_ok nmX4 hown hK hP hD hS zF_1_0 rfl (Nat.le_of_ble_eq_true rfl) (Or.inl hw2) rfl rfl rfl dX4_add_25 (fun H locs hP hS => ?_)
  cases h
  exact W.vret hx hb hr (fun t ht _ => ⟨rfl, by rw [ht]; exact hP, hS.F ht⟩) hS.2.2 dX4_add_28
abbrev rmX10_letter : Room := { frames := 1, cells := 0, slots := 0, locals := 22 }
set_option maxHeartbeats 4000000 in
set_option maxRecDepth 100000 in
theorem k_X10_letter (l : Launch) {D : va_G} {cI cJ : ClassId} {ad : Nat → Nat} {u : tU} {v : tV} {A : Nat → Prop} (hD : zD A cI cJ ad) {a1 : Int32}  {r : Int32} {uz : tU} {vz : tV} (h : pX10_letter u v a1 = some (r, uz, vz)) : Met l yX10_letter wsX10_letter rmX10_letter (va_Pc [.ref (ad 0), .int a1] (xPre D cI cJ (wA cI cJ ad u v))) (xWi D cI cJ ad A r uz vz) 0 0 A := by
  refine Met.ofW (cc := cX10_letter) (maxL := 2) (ret := (some .int)) (by decide) rfl ?_
  intro p e s m args below meth c s₁ B hml hv
  obtain ⟨rfl, hP, hK⟩ := hv
  have hx := B.exec
  have hb := B.bytes
  have hr := B.returns
  have hts := atoms_spec (ws := wsX10_letter) B.pre
  have hown : s.vm.findClass RX10 = some m.cls := findClass_of_methodNamed B.named
  have hlocks := B.notSynchronized
  have hS : va_S A s.heap s.heap [] := va_S.rf
  have hin4 : ∀ w ∈ u_ws RX4 TX4 2, w ∈ wsX10_letter := fun _ h => List.mem_cons_of_mem _ (List.mem_append_right _ h)
  have hin10 : ∀ w ∈ u_ws RX10 TX10 7, w ∈ wsX10_letter := fun _ h => List.mem_cons_of_mem _ (List.mem_append_left _ (List.mem_append_right _ h))
  have hw1 := hts (.fieldLink RX10 10 "InstallDesk" "letters" "LInstallDesk$Letters;") (List.mem_of_getElem? (i := 1) rfl)
  have hw11 := hts (.instanceMethod yX4_add) (List.mem_of_getElem? (i := 11) rfl)
  have hw12 := hts (.initialized RX4) (List.mem_of_getElem? (i := 12) rfl)
  have hw13 := hts (.selects RX4 yX4_add yX4_add) (List.mem_of_getElem? (i := 13) rfl)
  have hl := lv_entry ([.ref (ad 0), .int a1]) (n := 2) (Nat.le_of_ble_eq_true rfl)
  rw [lg_entry_eq]
  generalize (lg_sl ([.ref (ad 0), .int a1]) ++ List.replicate (2 - (lg_sl ([.ref (ad 0), .int a1])).length) Slot.unset).toArray = ls at hl ⊢
  have hl : lv_has ls 2 [(0, .ref (ad 0)), (1, .int a1)] := hl
  rw [pX10_letter] at h
  refine lv_iload_n hx hb dX10_letter_0 rfl (lv_at hl 1 rfl) ?_
  refine lv_iconst (v := (1 : Int32)) hx hb dX10_letter_1 (by decide) ?_
  refine lv_bipush (v := (28 : Int32)) hx hb dX10_letter_2 (by decide) ?_
  obtain ⟨r2, hc1, h⟩ := vz_b h
  refine za_callR (va_runS (As := [.int a1, .int (1 : Int32), .int (28 : Int32)]) (rest := []) ⟨hx, hb, hml, hown, hts⟩ (k_X10_isWithin l hc1) (va_cwS 3 hts gX10_letter_X10_isWithin rfl rfl rfl zd_X10_isWithin ⟨Nat.le_of_ble_eq_true rfl, Nat.le_of_ble_eq_true rfl⟩) xPre0 rfl rfl hl.1 rfl (lv_room (Nat.le_of_ble_eq_true rfl)) dX10_letter_4 ⟨Nat.zero_le _, Nat.zero_le _⟩) ?_
  refine lv_if_ne (tgt := 16) hx hb dX10_letter_7 (by decide) (fun c3 => ?_) (fun c3 => ?_)
  · have h := vz_f c3 h
    refine lv_aload_n hx hb dX10_letter_16 rfl (lv_at hl 0 rfl) ?_
    refine za_getr (k := 0) hx hb hts hin10 hown hK hP zF_0_0 rfl (Nat.le_of_ble_eq_true rfl) (Or.inl hw1) dX10_letter_17 ?_
    refine za_geti (k := 0) hx hb hts hin4 hown hK hP zF_1_0 rfl (Nat.le_of_ble_eq_true rfl) (nw_32 hK.2) dX10_letter_20 ?_
    refine lv_bipush (v := (12 : Int32)) hx hb dX10_letter_23 (by decide) ?_
    refine lv_icmp_lt (tgt := 35) hx hb dX10_letter_25 (by decide) (fun c4 => ?_) (fun c4 => ?_)
    · have h := vz_t c4 h
      refine lv_aload_n hx hb dX10_letter_35 rfl (lv_at hl 0 rfl) ?_
      refine za_getr (k := 0) hx hb hts hin10 hown hK hP zF_0_0 rfl (Nat.le_of_ble_eq_true rfl) (Or.inl hw1) dX10_letter_36 ?_
      refine lv_iload_n hx hb dX10_letter_39 rfl (lv_at hl 1 rfl) ?_
      obtain ⟨⟨u6, v7⟩, hc5, h⟩ := vz_b h
      try dsimp only at h
      refine za_callWv (va_runVN (As := [.int a1]) (rest := []) ⟨hx, hb, hml, hown, hts⟩ (k_X4_add l (D := D) (cI := cI) (cJ := cJ) (ad := ad) hD hc5) ⟨va_cnB 1 hts gX10_letter_X4_add_n52 rfl rfl rfl (nw_309 hK.2) hw12 zd_X4_add ⟨Nat.le_of_ble_eq_true rfl, Nat.le_of_ble_eq_true rfl⟩, hw11, hw13⟩ (xPreV (ci := 4) hK hP rfl zO_1) rfl rfl hl.1 rfl (lv_room (Nat.le_of_ble_eq_true rfl)) dX10_letter_40 ⟨Nat.zero_le _, Nat.zero_le _⟩) hS (fun H locs hP hS => ?_)
      refine lv_aload_n hx hb dX10_letter_43 rfl (lv_at hl 0 rfl) ?_
      refine za_getr (k := 0) hx hb hts hin10 hown hK hP zF_0_0 rfl (Nat.le_of_ble_eq_true rfl) (Or.inl hw1) dX10_letter_44 ?_
      refine za_geti (k := 0) hx hb hts hin4 hown hK hP zF_1_0 rfl (Nat.le_of_ble_eq_true rfl) (nw_32 hK.2) dX10_letter_47 ?_
      cases h
      exact W.iret hx hb hr (fun t ht _ => ⟨rfl, by rw [ht]; exact hP, hS.F ht⟩) hS.2.2 dX10_letter_50
    · have h := vz_f c4 h
      refine lv_aload_n hx hb dX10_letter_28 rfl (lv_at hl 0 rfl) ?_
      refine lv_bipush (v := (-3 : Int32)) hx hb dX10_letter_29 (by decide) ?_
      obtain ⟨⟨r13, u10, v11⟩, hc9, h⟩ := vz_b h
      try dsimp only at h
      refine za_callWi (va_runV (As := [.int (-3 : Int32)]) (rest := []) ⟨hx, hb, hml, hown, hts⟩ (k_X10_finding l (D := D) (cI := cI) (cJ := cJ) (ad := ad) hD hc9) (cwV 1 hts gX10_letter_X10_finding rfl rfl rfl ⟨rfl, zd_X10_finding⟩ ⟨Nat.le_of_ble_eq_true rfl, Nat.le_of_ble_eq_true rfl⟩) (xPreV (ci := 10) hK hP rfl zO_0) rfl rfl hl.1 rfl (lv_room (Nat.le_of_ble_eq_true rfl)) dX10_letter_31 ⟨Nat.zero_le _, Nat.zero_le _⟩) hS (fun H locs hP hS => ?_)
      cases h
      exact W.iret hx hb hr (fun t ht _ => ⟨rfl, by rw [ht]; exact hP, hS.F ht⟩) hS.2.2 dX10_letter_34
  · have h := vz_t c3 h
    refine lv_aload_n hx hb dX10_letter_10 rfl (lv_at hl 0 rfl) ?_
    refine lv_iconst (v := (-1 : Int32)) hx hb dX10_letter_11 (by decide) ?_
    obtain ⟨⟨r18, u15, v16⟩, hc14, h⟩ := vz_b h
    try dsimp only at h
    refine za_callWi (va_runV (As := [.int (-1 : Int32)]) (rest := []) ⟨hx, hb, hml, hown, hts⟩ (k_X10_finding l (D := D) (cI := cI) (cJ := cJ) (ad := ad) hD hc14) (cwV 1 hts gX10_letter_X10_finding rfl rfl rfl ⟨rfl, zd_X10_finding⟩ ⟨Nat.le_of_ble_eq_true rfl, Nat.le_of_ble_eq_true rfl⟩) (xPreV (ci := 10) hK hP rfl zO_0) rfl rfl hl.1 rfl (lv_room (Nat.le_of_ble_eq_true rfl)) dX10_letter_12 ⟨Nat.zero_le _, Nat.zero_le _⟩) hS (fun H locs hP hS => ?_)
    cases h
    exact W.iret hx hb hr (fun t ht _ => ⟨rfl, by rw [ht]; exact hP, hS.F ht⟩) hS.2.2 dX10_letter_15
abbrev rmX7_isServing : Room := { frames := 1, cells := 0, slots := 0, locals := 22 }
set_option maxHeartbeats 4000000 in
set_option maxRecDepth 100000 in
theorem k_X7_isServing (l : Launch) {D : va_G} {cI cJ : ClassId} {ad : Nat → Nat} {u : tU} {v : tV} {a1 : Int32} {a2 : Int32} {a3 : Int32}  {r : Int32}  (h : pX7_isServing u v a1 a2 a3 = some r) : Met l yX7_isServing wsX7_isServing rmX7_isServing (va_Pc [.ref (ad 24), .int a1, .int a2, .int a3] (xPre D cI cJ (wA cI cJ ad u v))) (QcRead r) 0 0 (fun _ => False) := by
  refine Met.ofW (cc := cX7_isServing) (maxL := 4) (ret := (some .boolean)) (by decide) rfl ?_
  intro p e s m args below meth c s₁ B hml hv
  obtain ⟨rfl, hP, hK⟩ := hv
  have hx := B.exec
  have hb := B.bytes
  have hr := B.returns
  have hts := atoms_spec (ws := wsX7_isServing) B.pre
  have hown : s.vm.findClass RX7 = some m.cls := findClass_of_methodNamed B.named
  have hlocks := B.notSynchronized
  have hin7 : ∀ w ∈ u_ws RX7 TX7 7, w ∈ wsX7_isServing := fun _ h => List.mem_cons_of_mem _ (List.mem_append_right _ h)
  have hw1 := hts (.fieldLink RX7 15 "InstallDesk$Rights" "versions" "[I") (List.mem_of_getElem? (i := 1) rfl)
  have hw2 := hts (.fieldLink RX7 24 "InstallDesk$Rights" "firstDays" "[I") (List.mem_of_getElem? (i := 2) rfl)
  have hw3 := hts (.fieldLink RX7 27 "InstallDesk$Rights" "lastDays" "[I") (List.mem_of_getElem? (i := 3) rfl)
  have hw4 := hts (.static yX10_isWithin) (List.mem_of_getElem? (i := 4) rfl)
  have hw5 := hts (.initialized RX10) (List.mem_of_getElem? (i := 5) rfl)
  have hl := lv_entry ([.ref (ad 24), .int a1, .int a2, .int a3]) (n := 4) (Nat.le_of_ble_eq_true rfl)
  rw [lg_entry_eq]
  generalize (lg_sl ([.ref (ad 24), .int a1, .int a2, .int a3]) ++ List.replicate (4 - (lg_sl ([.ref (ad 24), .int a1, .int a2, .int a3])).length) Slot.unset).toArray = ls at hl ⊢
  have hl : lv_has ls 4 [(0, .ref (ad 24)), (1, .int a1), (2, .int a2), (3, .int a3)] := hl
  rw [pX7_isServing] at h
  refine lv_aload_n hx hb dX7_isServing_0 rfl (lv_at hl 0 rfl) ?_
  refine za_getr (k := 2) hx hb hts hin7 hown hK hP zF_24_2 rfl (Nat.le_of_ble_eq_true rfl) (Or.inl hw1) dX7_isServing_1 ?_
  refine lv_iload_n hx hb dX7_isServing_4 rfl (lv_at hl 1 rfl) ?_
  obtain ⟨g1, h⟩ := gd_s h
  refine za_ild hx hb hK hP zI_26 g1 dX7_isServing_5 ?_
  refine lv_iload_n hx hb dX7_isServing_6 rfl (lv_at hl 2 rfl) ?_
  refine lv_icmp_lt (tgt := 33) hx hb dX7_isServing_7 (by decide) (fun c2 => ?_) (fun c2 => ?_)
  · have h := vz_t c2 h
    refine lv_iconst (v := (0 : Int32)) hx hb dX7_isServing_33 (by decide) ?_
    cases h
    exact W.zret hx hb hr nb0 (fun t ht _ => ⟨rfl, ht⟩) (fun q hq => absurd hq List.not_mem_nil) dX7_isServing_34
  · have h := vz_f c2 h
    refine lv_iload_n hx hb dX7_isServing_10 rfl (lv_at hl 3 rfl) ?_
    refine lv_aload_n hx hb dX7_isServing_11 rfl (lv_at hl 0 rfl) ?_
    refine za_getr (k := 5) hx hb hts hin7 hown hK hP zF_24_5 rfl (Nat.le_of_ble_eq_true rfl) (Or.inl hw2) dX7_isServing_12 ?_
    refine lv_iload_n hx hb dX7_isServing_15 rfl (lv_at hl 1 rfl) ?_
    obtain ⟨g3, h⟩ := gd_s h
    refine za_ild hx hb hK hP zI_29 g3 dX7_isServing_16 ?_
    refine lv_aload_n hx hb dX7_isServing_17 rfl (lv_at hl 0 rfl) ?_
    refine za_getr (k := 6) hx hb hts hin7 hown hK hP zF_24_6 rfl (Nat.le_of_ble_eq_true rfl) (Or.inl hw3) dX7_isServing_18 ?_
    refine lv_iload_n hx hb dX7_isServing_21 rfl (lv_at hl 1 rfl) ?_
    obtain ⟨g4, h⟩ := gd_s h
    refine za_ild hx hb hK hP zI_30 g4 dX7_isServing_22 ?_
    obtain ⟨r6, hc5, h⟩ := vz_b h
    refine za_callR (va_runSN (As := [.int a3, .int (u 29 a1.toNatClampNeg), .int (u 30 a1.toNatClampNeg)]) (rest := []) ⟨hx, hb, hml, hown, hts⟩ (k_X10_isWithin l hc5) ⟨va_cnB 3 hts gX7_isServing_X10_isWithin_n34 rfl rfl rfl (nw_609 hK.2) hw5 zd_X10_isWithin ⟨Nat.le_of_ble_eq_true rfl, Nat.le_of_ble_eq_true rfl⟩, hw4, trivial⟩ xPre0 rfl rfl hl.1 rfl (lv_room (Nat.le_of_ble_eq_true rfl)) dX7_isServing_23 ⟨Nat.zero_le _, Nat.zero_le _⟩) ?_
    refine lv_if_eq (tgt := 33) hx hb dX7_isServing_26 (by decide) (fun c7 => ?_) (fun c7 => ?_)
    · have h := vz_t c7 h
      refine lv_iconst (v := (0 : Int32)) hx hb dX7_isServing_33 (by decide) ?_
      cases h
      exact W.zret hx hb hr nb0 (fun t ht _ => ⟨rfl, ht⟩) (fun q hq => absurd hq List.not_mem_nil) dX7_isServing_34
    · have h := vz_f c7 h
      refine lv_iconst (v := (1 : Int32)) hx hb dX7_isServing_29 (by decide) ?_
      refine lv_goto (tgt := 34) hx hb dX7_isServing_30 (by decide) ?_
      cases h
      exact W.zret hx hb hr nb1 (fun t ht _ => ⟨rfl, ht⟩) (fun q hq => absurd hq List.not_mem_nil) dX7_isServing_34
abbrev rmX10_may : Room := { frames := 6, cells := 0, slots := 0, locals := 141 }
set_option maxHeartbeats 4000000 in
set_option maxRecDepth 100000 in
theorem k_X10_may (l : Launch) {D : va_G} {cI cJ : ClassId} {ad : Nat → Nat} {u : tU} {v : tV} {A : Nat → Prop} (hD : zD A cI cJ ad) {a1 : Int32} {a2 : Int32}  {r : Int32} {uz : tU} {vz : tV} (h : pX10_may u v a1 a2 = some (r, uz, vz)) : Met l yX10_may wsX10_may rmX10_may (va_Pc [.ref (ad 0), .int a1, .int a2] (xPre D cI cJ (wA cI cJ ad u v))) (xWi D cI cJ ad A r uz vz) 0 0 A := by
  refine Met.ofW (cc := cX10_may) (maxL := 5) (ret := (some .int)) (by decide) rfl ?_
  intro p e s m args below meth c s₁ B hml hv
  obtain ⟨rfl, hP, hK⟩ := hv
  have hx := B.exec
  have hb := B.bytes
  have hr := B.returns
  have hts := atoms_spec (ws := wsX10_may) B.pre
  have hown : s.vm.findClass RX10 = some m.cls := findClass_of_methodNamed B.named
  have hlocks := B.notSynchronized
  have hS : va_S A s.heap s.heap [] := va_S.rf
  have hin0 : ∀ w ∈ u_ws RX0 TX0 8, w ∈ wsX10_may := fun _ h => List.mem_cons_of_mem _ (List.mem_append_left _ (List.mem_append_left _ (List.mem_append_left _ (List.mem_append_left _ (List.mem_append_left _ (List.mem_append_left _ (List.mem_append_right _ h)))))))
  have hin7 : ∀ w ∈ u_ws RX7 TX7 7, w ∈ wsX10_may := fun _ h => List.mem_cons_of_mem _ (List.mem_append_left _ (List.mem_append_left _ (List.mem_append_left _ (List.mem_append_left _ (List.mem_append_left _ (List.mem_append_right _ h))))))
  have hin10 : ∀ w ∈ u_ws RX10 TX10 7, w ∈ wsX10_may := fun _ h => List.mem_cons_of_mem _ (List.mem_append_left _ (List.mem_append_left _ (List.mem_append_left _ (List.mem_append_left _ (List.mem_append_left _ (List.mem_append_left _ (List.mem_append_left _ (List.mem_append_right _ h))))))))
  have hw1 := hts (.fieldLink RX10 19 "InstallDesk" "books" "LInstallDesk$Books;") (List.mem_of_getElem? (i := 1) rfl)
  have hw2 := hts (.fieldLink RX10 29 "InstallDesk" "holdings" "LInstallDesk$Holdings;") (List.mem_of_getElem? (i := 2) rfl)
  have hw3 := hts (.instanceMethod yX7_isOne) (List.mem_of_getElem? (i := 3) rfl)
  have hw4 := hts (.initialized RX7) (List.mem_of_getElem? (i := 4) rfl)
  have hw5 := hts (.selects RX7 yX7_isOne yX7_isOne) (List.mem_of_getElem? (i := 5) rfl)
  have hw8 := hts (.instanceMethod yX3_isOne) (List.mem_of_getElem? (i := 8) rfl)
  have hw9 := hts (.initialized RX3) (List.mem_of_getElem? (i := 9) rfl)
  have hw10 := hts (.selects RX3 yX3_isOne yX3_isOne) (List.mem_of_getElem? (i := 10) rfl)
  have hw19 := hts (.instanceMethod yX2_fill) (List.mem_of_getElem? (i := 19) rfl)
  have hw20 := hts (.initialized RX2) (List.mem_of_getElem? (i := 20) rfl)
  have hw21 := hts (.selects RX2 yX2_fill yX2_fill) (List.mem_of_getElem? (i := 21) rfl)
  have hw67 := hts (.initialized RX6) (List.mem_of_getElem? (i := 67) rfl)
  have hw82 := hts (.instanceMethod yX2_versionAt) (List.mem_of_getElem? (i := 82) rfl)
  have hw83 := hts (.selects RX2 yX2_versionAt yX2_versionAt) (List.mem_of_getElem? (i := 83) rfl)
  have hw92 := hts (.instanceMethod yX6_isFree) (List.mem_of_getElem? (i := 92) rfl)
  have hw93 := hts (.selects RX6 yX6_isFree yX6_isFree) (List.mem_of_getElem? (i := 93) rfl)
  have hw95 := hts (.instanceMethod yX7_isServing) (List.mem_of_getElem? (i := 95) rfl)
  have hw96 := hts (.selects RX7 yX7_isServing yX7_isServing) (List.mem_of_getElem? (i := 96) rfl)
  have hl := lv_entry ([.ref (ad 0), .int a1, .int a2]) (n := 5) (Nat.le_of_ble_eq_true rfl)
  rw [lg_entry_eq]
  generalize (lg_sl ([.ref (ad 0), .int a1, .int a2]) ++ List.replicate (5 - (lg_sl ([.ref (ad 0), .int a1, .int a2])).length) Slot.unset).toArray = ls at hl ⊢
  have hl : lv_has ls 5 [(0, .ref (ad 0)), (1, .int a1), (2, .int a2)] := hl
  rw [pX10_may] at h
  refine lv_aload_n hx hb dX10_may_0 rfl (lv_at hl 0 rfl) ?_
  refine za_getr (k := 1) hx hb hts hin10 hown hK hP zF_0_1 rfl (Nat.le_of_ble_eq_true rfl) (Or.inl hw1) dX10_may_1 ?_
  refine za_getr (k := 5) hx hb hts hin0 hown hK hP zF_2_5 rfl (Nat.le_of_ble_eq_true rfl) (nw_226 hK.2) dX10_may_4 ?_
  refine lv_iload_n hx hb dX10_may_7 rfl (lv_at hl 1 rfl) ?_
  obtain ⟨r2, hc1, h⟩ := vz_b h
  refine za_callR (va_runVN (As := [.int a1]) (rest := []) ⟨hx, hb, hml, hown, hts⟩ (k_X7_isOne l (D := D) (cI := cI) (cJ := cJ) (ad := ad) hc1) ⟨va_cnB 1 hts gX10_may_X7_isOne_n201 rfl rfl rfl (nw_593 hK.2) hw4 zd_X7_isOne ⟨Nat.le_of_ble_eq_true rfl, Nat.le_of_ble_eq_true rfl⟩, hw3, hw5⟩ (xPreV (ci := 7) hK hP rfl zO_24) rfl rfl hl.1 rfl (lv_room (Nat.le_of_ble_eq_true rfl)) dX10_may_8 ⟨Nat.zero_le _, Nat.zero_le _⟩) ?_
  refine lv_if_eq (tgt := 28) hx hb dX10_may_11 (by decide) (fun c3 => ?_) (fun c3 => ?_)
  · have h := vz_t c3 h
    refine lv_aload_n hx hb dX10_may_28 rfl (lv_at hl 0 rfl) ?_
    refine lv_iconst (v := (-1 : Int32)) hx hb dX10_may_29 (by decide) ?_
    obtain ⟨⟨r8, u5, v6⟩, hc4, h⟩ := vz_b h
    try dsimp only at h
    refine za_callWi (va_runV (As := [.int (-1 : Int32)]) (rest := []) ⟨hx, hb, hml, hown, hts⟩ (k_X10_finding l (D := D) (cI := cI) (cJ := cJ) (ad := ad) hD hc4) (cwV 1 hts gX10_may_X10_finding rfl rfl rfl ⟨rfl, zd_X10_finding⟩ ⟨Nat.le_of_ble_eq_true rfl, Nat.le_of_ble_eq_true rfl⟩) (xPreV (ci := 10) hK hP rfl zO_0) rfl rfl hl.1 rfl (lv_room (Nat.le_of_ble_eq_true rfl)) dX10_may_30 ⟨Nat.zero_le _, Nat.zero_le _⟩) hS (fun H locs hP hS => ?_)
    cases h
    exact W.iret hx hb hr (fun t ht _ => ⟨rfl, by rw [ht]; exact hP, hS.F ht⟩) hS.2.2 dX10_may_33
  · have h := vz_f c3 h
    refine lv_aload_n hx hb dX10_may_14 rfl (lv_at hl 0 rfl) ?_
    refine za_getr (k := 1) hx hb hts hin10 hown hK hP zF_0_1 rfl (Nat.le_of_ble_eq_true rfl) (Or.inl hw1) dX10_may_15 ?_
    refine za_getr (k := 2) hx hb hts hin0 hown hK hP zF_2_2 rfl (Nat.le_of_ble_eq_true rfl) (nw_218 hK.2) dX10_may_18 ?_
    refine lv_iload_n hx hb dX10_may_21 rfl (lv_at hl 2 rfl) ?_
    obtain ⟨r10, hc9, h⟩ := vz_b h
    refine za_callR (va_runVN (As := [.int a2]) (rest := []) ⟨hx, hb, hml, hown, hts⟩ (k_X3_isOne l (D := D) (cI := cI) (cJ := cJ) (ad := ad) hc9) ⟨va_cnB 1 hts gX10_may_X3_isOne_n123 rfl rfl rfl (nw_391 hK.2) hw9 zd_X3_isOne ⟨Nat.le_of_ble_eq_true rfl, Nat.le_of_ble_eq_true rfl⟩, hw8, hw10⟩ (xPreV (ci := 3) hK hP rfl zO_11) rfl rfl hl.1 rfl (lv_room (Nat.le_of_ble_eq_true rfl)) dX10_may_22 ⟨Nat.zero_le _, Nat.zero_le _⟩) ?_
    refine lv_if_ne (tgt := 34) hx hb dX10_may_25 (by decide) (fun c11 => ?_) (fun c11 => ?_)
    · have h := vz_f c11 h
      refine lv_aload_n hx hb dX10_may_34 rfl (lv_at hl 0 rfl) ?_
      refine za_getr (k := 3) hx hb hts hin10 hown hK hP zF_0_3 rfl (Nat.le_of_ble_eq_true rfl) (Or.inl hw2) dX10_may_35 ?_
      refine lv_aload_n hx hb dX10_may_38 rfl (lv_at hl 0 rfl) ?_
      refine za_getr (k := 1) hx hb hts hin10 hown hK hP zF_0_1 rfl (Nat.le_of_ble_eq_true rfl) (Or.inl hw1) dX10_may_39 ?_
      obtain ⟨⟨u13, v14⟩, hc12, h⟩ := vz_b h
      try dsimp only at h
      refine za_callWv (va_runVN (As := [.ref (ad 2)]) (rest := []) ⟨hx, hb, hml, hown, hts⟩ (k_X2_fill l (D := D) (cI := cI) (cJ := cJ) (ad := ad) hD hc12) ⟨va_cnB 1 hts gX10_may_X2_fill_n159 rfl rfl rfl (nw_474 hK.2) hw20 zd_X2_fill ⟨Nat.le_of_ble_eq_true rfl, Nat.le_of_ble_eq_true rfl⟩, hw19, hw21⟩ (xPreV (ci := 2) hK hP rfl zO_60) rfl rfl hl.1 rfl (lv_room (Nat.le_of_ble_eq_true rfl)) dX10_may_42 ⟨Nat.zero_le _, Nat.zero_le _⟩) hS (fun H locs hP hS => ?_)
      refine lv_aload_n hx hb dX10_may_45 rfl (lv_at hl 0 rfl) ?_
      refine za_getr (k := 1) hx hb hts hin10 hown hK hP zF_0_1 rfl (Nat.le_of_ble_eq_true rfl) (Or.inl hw1) dX10_may_46 ?_
      refine za_getr (k := 5) hx hb hts hin0 hown hK hP zF_2_5 rfl (Nat.le_of_ble_eq_true rfl) (nw_226 hK.2) dX10_may_49 ?_
      refine za_getr (k := 1) hx hb hts hin7 hown hK hP zF_24_1 rfl (Nat.le_of_ble_eq_true rfl) (nw_181 hK.2) dX10_may_52 ?_
      refine lv_iload_n hx hb dX10_may_55 rfl (lv_at hl 1 rfl) ?_
      obtain ⟨g16, h⟩ := gd_s h
      refine za_ild hx hb hK hP zI_25 g16 dX10_may_56 ?_
      refine lv_istore_n (lv' := [(3, .int (u13 25 a1.toNatClampNeg)), (0, .ref (ad 0)), (1, .int a1), (2, .int a2)]) hx hb dX10_may_57 rfl hl (by decide) rfl (fun ls hl => ?_)
      refine lv_aload_n hx hb dX10_may_58 rfl (lv_at hl 1 rfl) ?_
      refine za_getr (k := 3) hx hb hts hin10 hown hK hP zF_0_3 rfl (Nat.le_of_ble_eq_true rfl) (Or.inl hw2) dX10_may_59 ?_
      refine lv_iload_n hx hb dX10_may_62 rfl (lv_at hl 3 rfl) ?_
      refine lv_iload_n hx hb dX10_may_63 rfl (lv_at hl 0 rfl) ?_
      obtain ⟨r18, hc17, h⟩ := vz_b h
      refine za_callR (va_runVN (As := [.int a2, .int (u13 25 a1.toNatClampNeg)]) (rest := []) ⟨hx, hb, hml, hown, hts⟩ (k_X2_versionAt l (D := D) (cI := cI) (cJ := cJ) (ad := ad) hc17) ⟨va_cnB 2 hts gX10_may_X2_versionAt_n163 rfl rfl rfl (nw_520 hK.2) hw20 zd_X2_versionAt ⟨Nat.le_of_ble_eq_true rfl, Nat.le_of_ble_eq_true rfl⟩, hw82, hw83⟩ (xPreV (ci := 2) hK hP rfl zO_60) rfl rfl hl.1 rfl (lv_room (Nat.le_of_ble_eq_true rfl)) dX10_may_64 ⟨Nat.zero_le _, Nat.zero_le _⟩) ?_
      refine lv_istore (lv' := [(4, .int r18), (3, .int (u13 25 a1.toNatClampNeg)), (0, .ref (ad 0)), (1, .int a1), (2, .int a2)]) hx hb dX10_may_67 hl (by decide) rfl (fun ls hl => ?_)
      refine lv_iload hx hb dX10_may_69 (lv_at hl 0 rfl) ?_
      refine lv_if_eq (tgt := 88) hx hb dX10_may_71 (by decide) (fun c19 => ?_) (fun c19 => ?_)
      · have h := vz_t c19 h
        refine lv_aload_n hx hb dX10_may_88 rfl (lv_at hl 2 rfl) ?_
        refine lv_bipush (v := (-2 : Int32)) hx hb dX10_may_89 (by decide) ?_
        obtain ⟨⟨r24, u21, v22⟩, hc20, h⟩ := vz_b h
        try dsimp only at h
        refine za_callWi (va_runV (As := [.int (-2 : Int32)]) (rest := []) ⟨hx, hb, hml, hown, hts⟩ (k_X10_finding l (D := D) (cI := cI) (cJ := cJ) (ad := ad) hD hc20) (cwV 1 hts gX10_may_X10_finding rfl rfl rfl ⟨rfl, zd_X10_finding⟩ ⟨Nat.le_of_ble_eq_true rfl, Nat.le_of_ble_eq_true rfl⟩) (xPreV (ci := 10) hK hP rfl zO_0) rfl rfl hl.1 rfl (lv_room (Nat.le_of_ble_eq_true rfl)) dX10_may_91 ⟨Nat.zero_le _, Nat.zero_le _⟩) hS (fun H locs hP hS => ?_)
        cases h
        exact W.iret hx hb hr (fun t ht _ => ⟨rfl, by rw [ht]; exact hP, hS.F ht⟩) hS.2.2 dX10_may_94
      · have h := vz_f c19 h
        refine lv_aload_n hx hb dX10_may_74 rfl (lv_at hl 2 rfl) ?_
        refine za_getr (k := 1) hx hb hts hin10 hown hK hP zF_0_1 rfl (Nat.le_of_ble_eq_true rfl) (Or.inl hw1) dX10_may_75 ?_
        refine za_getr (k := 0) hx hb hts hin0 hown hK hP zF_2_0 rfl (Nat.le_of_ble_eq_true rfl) (nw_210 hK.2) dX10_may_78 ?_
        refine lv_iload_n hx hb dX10_may_81 rfl (lv_at hl 1 rfl) ?_
        obtain ⟨r26, hc25, h⟩ := vz_b h
        refine za_callR (va_runVN (As := [.int (u13 25 a1.toNatClampNeg)]) (rest := []) ⟨hx, hb, hml, hown, hts⟩ (k_X6_isFree l (D := D) (cI := cI) (cJ := cJ) (ad := ad) hc25) ⟨va_cnB 1 hts gX10_may_X6_isFree_n207 rfl rfl rfl (nw_601 hK.2) hw67 zd_X6_isFree ⟨Nat.le_of_ble_eq_true rfl, Nat.le_of_ble_eq_true rfl⟩, hw92, hw93⟩ (xPreV (ci := 6) hK hP rfl zO_3) rfl rfl hl.1 rfl (lv_room (Nat.le_of_ble_eq_true rfl)) dX10_may_82 ⟨Nat.zero_le _, Nat.zero_le _⟩) ?_
        refine lv_if_eq (tgt := 95) hx hb dX10_may_85 (by decide) (fun c27 => ?_) (fun c27 => ?_)
        · have h := vz_t c27 h
          refine lv_aload_n hx hb dX10_may_95 rfl (lv_at hl 2 rfl) ?_
          refine za_getr (k := 1) hx hb hts hin10 hown hK hP zF_0_1 rfl (Nat.le_of_ble_eq_true rfl) (Or.inl hw1) dX10_may_96 ?_
          refine za_getr (k := 5) hx hb hts hin0 hown hK hP zF_2_5 rfl (Nat.le_of_ble_eq_true rfl) (nw_226 hK.2) dX10_may_99 ?_
          refine lv_iload_n hx hb dX10_may_102 rfl (lv_at hl 3 rfl) ?_
          refine lv_iload hx hb dX10_may_103 (lv_at hl 0 rfl) ?_
          refine lv_aload_n hx hb dX10_may_105 rfl (lv_at hl 2 rfl) ?_
          refine za_getr (k := 1) hx hb hts hin10 hown hK hP zF_0_1 rfl (Nat.le_of_ble_eq_true rfl) (Or.inl hw1) dX10_may_106 ?_
          refine za_geti (k := 6) hx hb hts hin0 hown hK hP zF_2_6 rfl (Nat.le_of_ble_eq_true rfl) (nw_228 hK.2) dX10_may_109 ?_
          obtain ⟨r29, hc28, h⟩ := vz_b h
          refine za_callR (va_runVN (As := [.int a1, .int r18, .int (u13 10 6)]) (rest := []) ⟨hx, hb, hml, hown, hts⟩ (k_X7_isServing l (D := D) (cI := cI) (cJ := cJ) (ad := ad) hc28) ⟨va_cnB 3 hts gX10_may_X7_isServing_n210 rfl rfl rfl (nw_605 hK.2) hw4 zd_X7_isServing ⟨Nat.le_of_ble_eq_true rfl, Nat.le_of_ble_eq_true rfl⟩, hw95, hw96⟩ (xPreV (ci := 7) hK hP rfl zO_24) rfl rfl hl.1 rfl (lv_room (Nat.le_of_ble_eq_true rfl)) dX10_may_112 ⟨Nat.zero_le _, Nat.zero_le _⟩) ?_
          refine lv_if_eq (tgt := 122) hx hb dX10_may_115 (by decide) (fun c30 => ?_) (fun c30 => ?_)
          · have h := vz_t c30 h
            refine lv_iconst (v := (0 : Int32)) hx hb dX10_may_122 (by decide) ?_
            cases h
            exact W.iret hx hb hr (fun t ht _ => ⟨rfl, by rw [ht]; exact hP, hS.F ht⟩) hS.2.2 dX10_may_123
          · have h := vz_f c30 h
            refine lv_iconst (v := (1 : Int32)) hx hb dX10_may_118 (by decide) ?_
            refine lv_goto (tgt := 123) hx hb dX10_may_119 (by decide) ?_
            cases h
            exact W.iret hx hb hr (fun t ht _ => ⟨rfl, by rw [ht]; exact hP, hS.F ht⟩) hS.2.2 dX10_may_123
        · have h := vz_f c27 h
          refine lv_aload_n hx hb dX10_may_88 rfl (lv_at hl 2 rfl) ?_
          refine lv_bipush (v := (-2 : Int32)) hx hb dX10_may_89 (by decide) ?_
          obtain ⟨⟨r35, u32, v33⟩, hc31, h⟩ := vz_b h
          try dsimp only at h
          refine za_callWi (va_runV (As := [.int (-2 : Int32)]) (rest := []) ⟨hx, hb, hml, hown, hts⟩ (k_X10_finding l (D := D) (cI := cI) (cJ := cJ) (ad := ad) hD hc31) (cwV 1 hts gX10_may_X10_finding rfl rfl rfl ⟨rfl, zd_X10_finding⟩ ⟨Nat.le_of_ble_eq_true rfl, Nat.le_of_ble_eq_true rfl⟩) (xPreV (ci := 10) hK hP rfl zO_0) rfl rfl hl.1 rfl (lv_room (Nat.le_of_ble_eq_true rfl)) dX10_may_91 ⟨Nat.zero_le _, Nat.zero_le _⟩) hS (fun H locs hP hS => ?_)
          cases h
          exact W.iret hx hb hr (fun t ht _ => ⟨rfl, by rw [ht]; exact hP, hS.F ht⟩) hS.2.2 dX10_may_94
    · have h := vz_t c11 h
      refine lv_aload_n hx hb dX10_may_28 rfl (lv_at hl 0 rfl) ?_
      refine lv_iconst (v := (-1 : Int32)) hx hb dX10_may_29 (by decide) ?_
      obtain ⟨⟨r40, u37, v38⟩, hc36, h⟩ := vz_b h
      try dsimp only at h
      refine za_callWi (va_runV (As := [.int (-1 : Int32)]) (rest := []) ⟨hx, hb, hml, hown, hts⟩ (k_X10_finding l (D := D) (cI := cI) (cJ := cJ) (ad := ad) hD hc36) (cwV 1 hts gX10_may_X10_finding rfl rfl rfl ⟨rfl, zd_X10_finding⟩ ⟨Nat.le_of_ble_eq_true rfl, Nat.le_of_ble_eq_true rfl⟩) (xPreV (ci := 10) hK hP rfl zO_0) rfl rfl hl.1 rfl (lv_room (Nat.le_of_ble_eq_true rfl)) dX10_may_30 ⟨Nat.zero_le _, Nat.zero_le _⟩) hS (fun H locs hP hS => ?_)
      cases h
      exact W.iret hx hb hr (fun t ht _ => ⟨rfl, by rw [ht]; exact hP, hS.F ht⟩) hS.2.2 dX10_may_33
abbrev rmX10_measure : Room := { frames := 6, cells := 0, slots := 0, locals := 141 }
set_option maxHeartbeats 4000000 in
set_option maxRecDepth 100000 in
theorem k_X10_measure (l : Launch) {D : va_G} {cI cJ : ClassId} {ad : Nat → Nat} {u : tU} {v : tV} {A : Nat → Prop} (hD : zD A cI cJ ad) {a1 : Int32} {a2 : Int32}  {r : Int32} {uz : tU} {vz : tV} (h : pX10_measure u v a1 a2 = some (r, uz, vz)) : Met l yX10_measure wsX10_measure rmX10_measure (va_Pc [.ref (ad 0), .int a1, .int a2] (xPre D cI cJ (wA cI cJ ad u v))) (xWi D cI cJ ad A r uz vz) 0 0 A := by
  refine Met.ofW (cc := cX10_measure) (maxL := 3) (ret := (some .int)) (by decide) rfl ?_
  intro p e s m args below meth c s₁ B hml hv
  obtain ⟨rfl, hP, hK⟩ := hv
  have hx := B.exec
  have hb := B.bytes
  have hr := B.returns
  have hts := atoms_spec (ws := wsX10_measure) B.pre
  have hown : s.vm.findClass RX10 = some m.cls := findClass_of_methodNamed B.named
  have hlocks := B.notSynchronized
  have hS : va_S A s.heap s.heap [] := va_S.rf
  have hin0 : ∀ w ∈ u_ws RX0 TX0 8, w ∈ wsX10_measure := fun _ h => List.mem_cons_of_mem _ (List.mem_append_left _ (List.mem_append_left _ (List.mem_append_left _ (List.mem_append_left _ (List.mem_append_left _ (List.mem_append_left _ (List.mem_append_right _ h)))))))
  have hin10 : ∀ w ∈ u_ws RX10 TX10 7, w ∈ wsX10_measure := fun _ h => List.mem_cons_of_mem _ (List.mem_append_left _ (List.mem_append_left _ (List.mem_append_left _ (List.mem_append_left _ (List.mem_append_left _ (List.mem_append_left _ (List.mem_append_left _ (List.mem_append_right _ h))))))))
  have hw1 := hts (.fieldLink RX10 19 "InstallDesk" "books" "LInstallDesk$Books;") (List.mem_of_getElem? (i := 1) rfl)
  have hw2 := hts (.fieldLink RX10 29 "InstallDesk" "holdings" "LInstallDesk$Holdings;") (List.mem_of_getElem? (i := 2) rfl)
  have hw3 := hts (.instanceMethod yX6_isOne) (List.mem_of_getElem? (i := 3) rfl)
  have hw4 := hts (.initialized RX6) (List.mem_of_getElem? (i := 4) rfl)
  have hw5 := hts (.selects RX6 yX6_isOne yX6_isOne) (List.mem_of_getElem? (i := 5) rfl)
  have hw20 := hts (.instanceMethod yX2_fill) (List.mem_of_getElem? (i := 20) rfl)
  have hw21 := hts (.initialized RX2) (List.mem_of_getElem? (i := 21) rfl)
  have hw22 := hts (.selects RX2 yX2_fill yX2_fill) (List.mem_of_getElem? (i := 22) rfl)
  have hl := lv_entry ([.ref (ad 0), .int a1, .int a2]) (n := 3) (Nat.le_of_ble_eq_true rfl)
  rw [lg_entry_eq]
  generalize (lg_sl ([.ref (ad 0), .int a1, .int a2]) ++ List.replicate (3 - (lg_sl ([.ref (ad 0), .int a1, .int a2])).length) Slot.unset).toArray = ls at hl ⊢
  have hl : lv_has ls 3 [(0, .ref (ad 0)), (1, .int a1), (2, .int a2)] := hl
  rw [pX10_measure] at h
  refine lv_aload_n hx hb dX10_measure_0 rfl (lv_at hl 0 rfl) ?_
  refine za_getr (k := 1) hx hb hts hin10 hown hK hP zF_0_1 rfl (Nat.le_of_ble_eq_true rfl) (Or.inl hw1) dX10_measure_1 ?_
  refine za_getr (k := 0) hx hb hts hin0 hown hK hP zF_2_0 rfl (Nat.le_of_ble_eq_true rfl) (nw_210 hK.2) dX10_measure_4 ?_
  refine lv_iload_n hx hb dX10_measure_7 rfl (lv_at hl 1 rfl) ?_
  obtain ⟨r2, hc1, h⟩ := vz_b h
  refine za_callR (va_runVN (As := [.int a1]) (rest := []) ⟨hx, hb, hml, hown, hts⟩ (k_X6_isOne l (D := D) (cI := cI) (cJ := cJ) (ad := ad) hc1) ⟨va_cnB 1 hts gX10_measure_X6_isOne_n74 rfl rfl rfl (nw_331 hK.2) hw4 zd_X6_isOne ⟨Nat.le_of_ble_eq_true rfl, Nat.le_of_ble_eq_true rfl⟩, hw3, hw5⟩ (xPreV (ci := 6) hK hP rfl zO_3) rfl rfl hl.1 rfl (lv_room (Nat.le_of_ble_eq_true rfl)) dX10_measure_8 ⟨Nat.zero_le _, Nat.zero_le _⟩) ?_
  refine lv_if_eq (tgt := 21) hx hb dX10_measure_11 (by decide) (fun c3 => ?_) (fun c3 => ?_)
  · have h := vz_t c3 h
    refine lv_aload_n hx hb dX10_measure_21 rfl (lv_at hl 0 rfl) ?_
    refine lv_iconst (v := (-1 : Int32)) hx hb dX10_measure_22 (by decide) ?_
    obtain ⟨⟨r8, u5, v6⟩, hc4, h⟩ := vz_b h
    try dsimp only at h
    refine za_callWi (va_runV (As := [.int (-1 : Int32)]) (rest := []) ⟨hx, hb, hml, hown, hts⟩ (k_X10_finding l (D := D) (cI := cI) (cJ := cJ) (ad := ad) hD hc4) (cwV 1 hts gX10_measure_X10_finding rfl rfl rfl ⟨rfl, zd_X10_finding⟩ ⟨Nat.le_of_ble_eq_true rfl, Nat.le_of_ble_eq_true rfl⟩) (xPreV (ci := 10) hK hP rfl zO_0) rfl rfl hl.1 rfl (lv_room (Nat.le_of_ble_eq_true rfl)) dX10_measure_23 ⟨Nat.zero_le _, Nat.zero_le _⟩) hS (fun H locs hP hS => ?_)
    cases h
    exact W.iret hx hb hr (fun t ht _ => ⟨rfl, by rw [ht]; exact hP, hS.F ht⟩) hS.2.2 dX10_measure_26
  · have h := vz_f c3 h
    refine lv_iload_n hx hb dX10_measure_14 rfl (lv_at hl 2 rfl) ?_
    obtain ⟨r10, hc9, h⟩ := vz_b h
    refine za_callR (va_runS (As := [.int a2]) (rest := []) ⟨hx, hb, hml, hown, hts⟩ (k_X10_isMeasure l hc9) (va_cwS 1 hts gX10_measure_X10_isMeasure rfl rfl rfl zd_X10_isMeasure ⟨Nat.le_of_ble_eq_true rfl, Nat.le_of_ble_eq_true rfl⟩) xPre0 rfl rfl hl.1 rfl (lv_room (Nat.le_of_ble_eq_true rfl)) dX10_measure_15 ⟨Nat.zero_le _, Nat.zero_le _⟩) ?_
    refine lv_if_ne (tgt := 27) hx hb dX10_measure_18 (by decide) (fun c11 => ?_) (fun c11 => ?_)
    · have h := vz_f c11 h
      refine lv_aload_n hx hb dX10_measure_27 rfl (lv_at hl 0 rfl) ?_
      refine za_getr (k := 3) hx hb hts hin10 hown hK hP zF_0_3 rfl (Nat.le_of_ble_eq_true rfl) (Or.inl hw2) dX10_measure_28 ?_
      refine lv_aload_n hx hb dX10_measure_31 rfl (lv_at hl 0 rfl) ?_
      refine za_getr (k := 1) hx hb hts hin10 hown hK hP zF_0_1 rfl (Nat.le_of_ble_eq_true rfl) (Or.inl hw1) dX10_measure_32 ?_
      obtain ⟨⟨u13, v14⟩, hc12, h⟩ := vz_b h
      try dsimp only at h
      refine za_callWv (va_runVN (As := [.ref (ad 2)]) (rest := []) ⟨hx, hb, hml, hown, hts⟩ (k_X2_fill l (D := D) (cI := cI) (cJ := cJ) (ad := ad) hD hc12) ⟨va_cnB 1 hts gX10_measure_X2_fill_n159 rfl rfl rfl (nw_474 hK.2) hw21 zd_X2_fill ⟨Nat.le_of_ble_eq_true rfl, Nat.le_of_ble_eq_true rfl⟩, hw20, hw22⟩ (xPreV (ci := 2) hK hP rfl zO_60) rfl rfl hl.1 rfl (lv_room (Nat.le_of_ble_eq_true rfl)) dX10_measure_35 ⟨Nat.zero_le _, Nat.zero_le _⟩) hS (fun H locs hP hS => ?_)
      refine lv_aload_n hx hb dX10_measure_38 rfl (lv_at hl 0 rfl) ?_
      refine lv_iload_n hx hb dX10_measure_39 rfl (lv_at hl 1 rfl) ?_
      refine lv_iload_n hx hb dX10_measure_40 rfl (lv_at hl 2 rfl) ?_
      obtain ⟨r17, hc16, h⟩ := vz_b h
      refine za_callR (va_runV (As := [.int a1, .int a2]) (rest := []) ⟨hx, hb, hml, hown, hts⟩ (k_X10_measured l (D := D) (cI := cI) (cJ := cJ) (ad := ad) hc16) (cwV 2 hts gX10_measure_X10_measured rfl rfl rfl ⟨rfl, zd_X10_measured⟩ ⟨Nat.le_of_ble_eq_true rfl, Nat.le_of_ble_eq_true rfl⟩) (xPreV (ci := 10) hK hP rfl zO_0) rfl rfl hl.1 rfl (lv_room (Nat.le_of_ble_eq_true rfl)) dX10_measure_41 ⟨Nat.zero_le _, Nat.zero_le _⟩) ?_
      cases h
      exact W.iret hx hb hr (fun t ht _ => ⟨rfl, by rw [ht]; exact hP, hS.F ht⟩) hS.2.2 dX10_measure_44
    · have h := vz_t c11 h
      refine lv_aload_n hx hb dX10_measure_21 rfl (lv_at hl 0 rfl) ?_
      refine lv_iconst (v := (-1 : Int32)) hx hb dX10_measure_22 (by decide) ?_
      obtain ⟨⟨r22, u19, v20⟩, hc18, h⟩ := vz_b h
      try dsimp only at h
      refine za_callWi (va_runV (As := [.int (-1 : Int32)]) (rest := []) ⟨hx, hb, hml, hown, hts⟩ (k_X10_finding l (D := D) (cI := cI) (cJ := cJ) (ad := ad) hD hc18) (cwV 1 hts gX10_measure_X10_finding rfl rfl rfl ⟨rfl, zd_X10_finding⟩ ⟨Nat.le_of_ble_eq_true rfl, Nat.le_of_ble_eq_true rfl⟩) (xPreV (ci := 10) hK hP rfl zO_0) rfl rfl hl.1 rfl (lv_room (Nat.le_of_ble_eq_true rfl)) dX10_measure_23 ⟨Nat.zero_le _, Nat.zero_le _⟩) hS (fun H locs hP hS => ?_)
      cases h
      exact W.iret hx hb hr (fun t ht _ => ⟨rfl, by rw [ht]; exact hP, hS.F ht⟩) hS.2.2 dX10_measure_26
abbrev rmX10_moved : Room := { frames := 1, cells := 0, slots := 0, locals := 22 }
set_option maxHeartbeats 4000000 in
set_option maxRecDepth 100000 in
theorem k_X10_moved (l : Launch) {D : va_G} {cI cJ : ClassId} {ad : Nat → Nat} {u : tU} {v : tV} {A : Nat → Prop} (hD : zD A cI cJ ad) {a1 : Int32} {a2 : Int32}  {r : Int32} {uz : tU} {vz : tV} (h : pX10_moved u v a1 a2 = some (r, uz, vz)) : Met l yX10_moved wsX10_moved rmX10_moved (va_Pc [.ref (ad 0), .int a1, .int a2] (xPre D cI cJ (wA cI cJ ad u v))) (xWi D cI cJ ad A r uz vz) 0 0 A := by
  refine Met.ofW (cc := cX10_moved) (maxL := 4) (ret := (some .int)) (by decide) rfl ?_
  intro p e s m args below meth c s₁ B hml hv
  obtain ⟨rfl, hP, hK⟩ := hv
  have hx := B.exec
  have hb := B.bytes
  have hr := B.returns
  have hts := atoms_spec (ws := wsX10_moved) B.pre
  have hown : s.vm.findClass RX10 = some m.cls := findClass_of_methodNamed B.named
  have hlocks := B.notSynchronized
  have hS : va_S A s.heap s.heap [] := va_S.rf
  have hin0 : ∀ w ∈ u_ws RX0 TX0 8, w ∈ wsX10_moved := fun _ h => List.mem_cons_of_mem _ (List.mem_append_left _ (List.mem_append_right _ h))
  have hin3 : ∀ w ∈ u_ws RX3 TX3 3, w ∈ wsX10_moved := fun _ h => List.mem_cons_of_mem _ (List.mem_append_right _ h)
  have hin10 : ∀ w ∈ u_ws RX10 TX10 7, w ∈ wsX10_moved := fun _ h => List.mem_cons_of_mem _ (List.mem_append_left _ (List.mem_append_left _ (List.mem_append_right _ h)))
  have hw1 := hts (.fieldLink RX10 19 "InstallDesk" "books" "LInstallDesk$Books;") (List.mem_of_getElem? (i := 1) rfl)
  have hw2 := hts (.instanceMethod yX3_isOne) (List.mem_of_getElem? (i := 2) rfl)
  have hw3 := hts (.initialized RX3) (List.mem_of_getElem? (i := 3) rfl)
  have hw4 := hts (.selects RX3 yX3_isOne yX3_isOne) (List.mem_of_getElem? (i := 4) rfl)
  have hl := lv_entry ([.ref (ad 0), .int a1, .int a2]) (n := 4) (Nat.le_of_ble_eq_true rfl)
  rw [lg_entry_eq]
  generalize (lg_sl ([.ref (ad 0), .int a1, .int a2]) ++ List.replicate (4 - (lg_sl ([.ref (ad 0), .int a1, .int a2])).length) Slot.unset).toArray = ls at hl ⊢
  have hl : lv_has ls 4 [(0, .ref (ad 0)), (1, .int a1), (2, .int a2)] := hl
  rw [pX10_moved] at h
  refine lv_aload_n hx hb dX10_moved_0 rfl (lv_at hl 0 rfl) ?_
  refine za_getr (k := 1) hx hb hts hin10 hown hK hP zF_0_1 rfl (Nat.le_of_ble_eq_true rfl) (Or.inl hw1) dX10_moved_1 ?_
  refine za_getr (k := 2) hx hb hts hin0 hown hK hP zF_2_2 rfl (Nat.le_of_ble_eq_true rfl) (nw_218 hK.2) dX10_moved_4 ?_
  refine lv_iload_n hx hb dX10_moved_7 rfl (lv_at hl 1 rfl) ?_
  obtain ⟨r2, hc1, h⟩ := vz_b h
  refine za_callR (va_runVN (As := [.int a1]) (rest := []) ⟨hx, hb, hml, hown, hts⟩ (k_X3_isOne l (D := D) (cI := cI) (cJ := cJ) (ad := ad) hc1) ⟨va_cnB 1 hts gX10_moved_X3_isOne_n123 rfl rfl rfl (nw_391 hK.2) hw3 zd_X3_isOne ⟨Nat.le_of_ble_eq_true rfl, Nat.le_of_ble_eq_true rfl⟩, hw2, hw4⟩ (xPreV (ci := 3) hK hP rfl zO_11) rfl rfl hl.1 rfl (lv_room (Nat.le_of_ble_eq_true rfl)) dX10_moved_8 ⟨Nat.zero_le _, Nat.zero_le _⟩) ?_
  refine lv_if_eq (tgt := 24) hx hb dX10_moved_11 (by decide) (fun c3 => ?_) (fun c3 => ?_)
  · have h := vz_t c3 h
    refine lv_aload_n hx hb dX10_moved_24 rfl (lv_at hl 0 rfl) ?_
    refine lv_iconst (v := (-1 : Int32)) hx hb dX10_moved_25 (by decide) ?_
    obtain ⟨⟨r8, u5, v6⟩, hc4, h⟩ := vz_b h
    try dsimp only at h
    refine za_callWi (va_runV (As := [.int (-1 : Int32)]) (rest := []) ⟨hx, hb, hml, hown, hts⟩ (k_X10_finding l (D := D) (cI := cI) (cJ := cJ) (ad := ad) hD hc4) (cwV 1 hts gX10_moved_X10_finding rfl rfl rfl ⟨rfl, zd_X10_finding⟩ ⟨Nat.le_of_ble_eq_true rfl, Nat.le_of_ble_eq_true rfl⟩) (xPreV (ci := 10) hK hP rfl zO_0) rfl rfl hl.1 rfl (lv_room (Nat.le_of_ble_eq_true rfl)) dX10_moved_26 ⟨Nat.zero_le _, Nat.zero_le _⟩) hS (fun H locs hP hS => ?_)
    cases h
    exact W.iret hx hb hr (fun t ht _ => ⟨rfl, by rw [ht]; exact hP, hS.F ht⟩) hS.2.2 dX10_moved_29
  · have h := vz_f c3 h
    refine lv_iload_n hx hb dX10_moved_14 rfl (lv_at hl 2 rfl) ?_
    refine lv_iconst (v := (0 : Int32)) hx hb dX10_moved_15 (by decide) ?_
    refine lv_bipush (v := (9 : Int32)) hx hb dX10_moved_16 (by decide) ?_
    obtain ⟨r10, hc9, h⟩ := vz_b h
    refine za_callR (va_runS (As := [.int a2, .int (0 : Int32), .int (9 : Int32)]) (rest := []) ⟨hx, hb, hml, hown, hts⟩ (k_X10_isWithin l hc9) (va_cwS 3 hts gX10_moved_X10_isWithin rfl rfl rfl zd_X10_isWithin ⟨Nat.le_of_ble_eq_true rfl, Nat.le_of_ble_eq_true rfl⟩) xPre0 rfl rfl hl.1 rfl (lv_room (Nat.le_of_ble_eq_true rfl)) dX10_moved_18 ⟨Nat.zero_le _, Nat.zero_le _⟩) ?_
    refine lv_if_ne (tgt := 30) hx hb dX10_moved_21 (by decide) (fun c11 => ?_) (fun c11 => ?_)
    · have h := vz_f c11 h
      refine lv_aload_n hx hb dX10_moved_30 rfl (lv_at hl 0 rfl) ?_
      refine za_getr (k := 1) hx hb hts hin10 hown hK hP zF_0_1 rfl (Nat.le_of_ble_eq_true rfl) (Or.inl hw1) dX10_moved_31 ?_
      refine za_getr (k := 2) hx hb hts hin0 hown hK hP zF_2_2 rfl (Nat.le_of_ble_eq_true rfl) (nw_218 hK.2) dX10_moved_34 ?_
      refine za_getr (k := 2) hx hb hts hin3 hown hK hP zF_11_2 rfl (Nat.le_of_ble_eq_true rfl) (nw_110 hK.2) dX10_moved_37 ?_
      refine lv_iload_n hx hb dX10_moved_40 rfl (lv_at hl 1 rfl) ?_
      obtain ⟨g12, h⟩ := gd_s h
      refine za_ild hx hb hK hP zI_13 g12 dX10_moved_41 ?_
      refine lv_istore_n (lv' := [(3, .int (u 17 a1.toNatClampNeg)), (0, .ref (ad 0)), (1, .int a1), (2, .int a2)]) hx hb dX10_moved_42 rfl hl (by decide) rfl (fun ls hl => ?_)
      refine lv_aload_n hx hb dX10_moved_43 rfl (lv_at hl 1 rfl) ?_
      refine za_getr (k := 1) hx hb hts hin10 hown hK hP zF_0_1 rfl (Nat.le_of_ble_eq_true rfl) (Or.inl hw1) dX10_moved_44 ?_
      refine za_getr (k := 2) hx hb hts hin0 hown hK hP zF_2_2 rfl (Nat.le_of_ble_eq_true rfl) (nw_218 hK.2) dX10_moved_47 ?_
      refine za_getr (k := 2) hx hb hts hin3 hown hK hP zF_11_2 rfl (Nat.le_of_ble_eq_true rfl) (nw_110 hK.2) dX10_moved_50 ?_
      refine lv_iload_n hx hb dX10_moved_53 rfl (lv_at hl 2 rfl) ?_
      refine lv_iload_n hx hb dX10_moved_54 rfl (lv_at hl 3 rfl) ?_
      obtain ⟨g13, h⟩ := gd_s h
      refine za_ist hx hb hK hP hD hS zI_13 g13 dX10_moved_55 (fun H locs hP hS => ?_)
      refine lv_iload_n hx hb dX10_moved_56 rfl (lv_at hl 0 rfl) ?_
      cases h
      exact W.iret hx hb hr (fun t ht _ => ⟨rfl, by rw [ht]; exact hP, hS.F ht⟩) hS.2.2 dX10_moved_57
    · have h := vz_t c11 h
      refine lv_aload_n hx hb dX10_moved_24 rfl (lv_at hl 0 rfl) ?_
      refine lv_iconst (v := (-1 : Int32)) hx hb dX10_moved_25 (by decide) ?_
      obtain ⟨⟨r18, u15, v16⟩, hc14, h⟩ := vz_b h
      try dsimp only at h
      refine za_callWi (va_runV (As := [.int (-1 : Int32)]) (rest := []) ⟨hx, hb, hml, hown, hts⟩ (k_X10_finding l (D := D) (cI := cI) (cJ := cJ) (ad := ad) hD hc14) (cwV 1 hts gX10_moved_X10_finding rfl rfl rfl ⟨rfl, zd_X10_finding⟩ ⟨Nat.le_of_ble_eq_true rfl, Nat.le_of_ble_eq_true rfl⟩) (xPreV (ci := 10) hK hP rfl zO_0) rfl rfl hl.1 rfl (lv_room (Nat.le_of_ble_eq_true rfl)) dX10_moved_26 ⟨Nat.zero_le _, Nat.zero_le _⟩) hS (fun H locs hP hS => ?_)
      cases h
      exact W.iret hx hb hr (fun t ht _ => ⟨rfl, by rw [ht]; exact hP, hS.F ht⟩) hS.2.2 dX10_moved_29
abbrev rmX10_needs : Room := { frames := 6, cells := 0, slots := 0, locals := 141 }
set_option maxHeartbeats 4000000 in
set_option maxRecDepth 100000 in
theorem k_X10_needs (l : Launch) {D : va_G} {cI cJ : ClassId} {ad : Nat → Nat} {u : tU} {v : tV} {A : Nat → Prop} (hD : zD A cI cJ ad) {r : Int32} {uz : tU} {vz : tV} (h : pX10_needs u v  = some (r, uz, vz)) : Met l yX10_needs wsX10_needs rmX10_needs (va_Pc [.ref (ad 0)] (xPre D cI cJ (wA cI cJ ad u v))) (xWi D cI cJ ad A r uz vz) 0 0 A := by
  refine Met.ofW (cc := cX10_needs) (maxL := 3) (ret := (some .int)) (by decide) rfl ?_
  intro p e s m args below meth c s₁ B hml hv
  obtain ⟨rfl, hP, hK⟩ := hv
  have hx := B.exec
  have hb := B.bytes
  have hr := B.returns
  have hts := atoms_spec (ws := wsX10_needs) B.pre
  have hown : s.vm.findClass RX10 = some m.cls := findClass_of_methodNamed B.named
  have hlocks := B.notSynchronized
  have hS : va_S A s.heap s.heap [] := va_S.rf
  have hin0 : ∀ w ∈ u_ws RX0 TX0 8, w ∈ wsX10_needs := fun _ h => List.mem_cons_of_mem _ (List.mem_append_left _ (List.mem_append_left _ (List.mem_append_left _ (List.mem_append_left _ (List.mem_append_left _ (List.mem_append_left _ (List.mem_append_right _ h)))))))
  have hin6 : ∀ w ∈ u_ws RX6 TX6 4, w ∈ wsX10_needs := fun _ h => List.mem_cons_of_mem _ (List.mem_append_left _ (List.mem_append_left _ (List.mem_append_left _ (List.mem_append_left _ (List.mem_append_left _ (List.mem_append_right _ h))))))
  have hin10 : ∀ w ∈ u_ws RX10 TX10 7, w ∈ wsX10_needs := fun _ h => List.mem_cons_of_mem _ (List.mem_append_left _ (List.mem_append_left _ (List.mem_append_left _ (List.mem_append_left _ (List.mem_append_left _ (List.mem_append_left _ (List.mem_append_left _ (List.mem_append_right _ h))))))))
  have hw1 := hts (.fieldLink RX10 29 "InstallDesk" "holdings" "LInstallDesk$Holdings;") (List.mem_of_getElem? (i := 1) rfl)
  have hw2 := hts (.fieldLink RX10 19 "InstallDesk" "books" "LInstallDesk$Books;") (List.mem_of_getElem? (i := 2) rfl)
  have hw3 := hts (.instanceMethod yX2_fill) (List.mem_of_getElem? (i := 3) rfl)
  have hw4 := hts (.initialized RX2) (List.mem_of_getElem? (i := 4) rfl)
  have hw5 := hts (.selects RX2 yX2_fill yX2_fill) (List.mem_of_getElem? (i := 5) rfl)
  have hw52 := hts (.initialized RX6) (List.mem_of_getElem? (i := 52) rfl)
  have hw77 := hts (.instanceMethod yX6_isFree) (List.mem_of_getElem? (i := 77) rfl)
  have hw78 := hts (.selects RX6 yX6_isFree yX6_isFree) (List.mem_of_getElem? (i := 78) rfl)
  have hl := lv_entry ([.ref (ad 0)]) (n := 3) (Nat.le_of_ble_eq_true rfl)
  rw [lg_entry_eq]
  generalize (lg_sl ([.ref (ad 0)]) ++ List.replicate (3 - (lg_sl ([.ref (ad 0)])).length) Slot.unset).toArray = ls at hl ⊢
  have hl : lv_has ls 3 [(0, .ref (ad 0))] := hl
  have L15 : ∀ (u : tU) (v : tV) (H : Heap) (locs : List Loc)  (n : Nat) (x1 : Int32) (x2 : Int32) (ls : Array Slot) (o : Int32), pX10_needs_L15 u v n x1 x2 = some o → va_P D vwCl (wA cI cJ ad u v) H → va_S A s.heap H locs → lv_has ls 3 [(0, .ref (ad 0)), (1, .int x1), (2, .int x2)] → (∀ (y1 : Int32) (ls : Array Slot), o = y1 → lv_has ls 3 [(1, .int y1)] → W p l e (headSpec wsX10_needs rmX10_needs).room s m [Value.ref (ad 0)].toArray below meth c H locs 0 0 (MQ below (xWi D cI cJ ad A r uz vz) [Value.ref (ad 0)].toArray s 0 0 A) (F0 m 58 ls [])) → W p l e (headSpec wsX10_needs rmX10_needs).room s m [Value.ref (ad 0)].toArray below meth c H locs 0 0 (MQ below (xWi D cI cJ ad A r uz vz) [Value.ref (ad 0)].toArray s 0 0 A) (F0 m 15 ls []) := by
    intro u v H locs n
    induction n with
    | zero => intro x1 x2 ls o h; cases h
    | succ n ih =>
      intro x1 x2 ls o h hP hS hl hk
      rw [pX10_needs_L15] at h
      refine lv_iload_n hx hb dX10_needs_15 rfl (lv_at hl 2 rfl) ?_
      refine lv_aload_n hx hb dX10_needs_16 rfl (lv_at hl 0 rfl) ?_
      refine za_getr (k := 1) hx hb hts hin10 hown hK hP zF_0_1 rfl (Nat.le_of_ble_eq_true rfl) (Or.inl hw2) dX10_needs_17 ?_
      refine za_getr (k := 0) hx hb hts hin0 hown hK hP zF_2_0 rfl (Nat.le_of_ble_eq_true rfl) (nw_210 hK.2) dX10_needs_20 ?_
      refine za_geti (k := 0) hx hb hts hin6 hown hK hP zF_3_0 rfl (Nat.le_of_ble_eq_true rfl) (nw_52 hK.2) dX10_needs_23 ?_
      refine lv_icmp_ge (tgt := 58) hx hb dX10_needs_26 (by decide) (fun c1 => ?_) (fun c1 => ?_)
      · have h := vz_t c1 h
        cases h
        exact hk x1 ls rfl (lv_sub hl [1] rfl)
      · have h := vz_f c1 h
        refine lv_aload_n hx hb dX10_needs_29 rfl (lv_at hl 0 rfl) ?_
        refine za_getr (k := 1) hx hb hts hin10 hown hK hP zF_0_1 rfl (Nat.le_of_ble_eq_true rfl) (Or.inl hw2) dX10_needs_30 ?_
        refine za_getr (k := 0) hx hb hts hin0 hown hK hP zF_2_0 rfl (Nat.le_of_ble_eq_true rfl) (nw_210 hK.2) dX10_needs_33 ?_
        refine lv_iload_n hx hb dX10_needs_36 rfl (lv_at hl 2 rfl) ?_
        obtain ⟨r3, hc2, h⟩ := vz_b h
        refine za_callR (va_runVN (As := [.int x2]) (rest := []) ⟨hx, hb, hml, hown, hts⟩ (k_X6_isFree l (D := D) (cI := cI) (cJ := cJ) (ad := ad) hc2) ⟨va_cnB 1 hts gX10_needs_X6_isFree_n207 rfl rfl rfl (nw_601 hK.2) hw52 zd_X6_isFree ⟨Nat.le_of_ble_eq_true rfl, Nat.le_of_ble_eq_true rfl⟩, hw77, hw78⟩ (xPreV (ci := 6) hK hP rfl zO_3) rfl rfl hl.1 rfl (lv_room (Nat.le_of_ble_eq_true rfl)) dX10_needs_37 ⟨Nat.zero_le _, Nat.zero_le _⟩) ?_
        refine lv_if_ne (tgt := 52) hx hb dX10_needs_40 (by decide) (fun c4 => ?_) (fun c4 => ?_)
        · have h := vz_f c4 h
          refine lv_iinc (v := (x2 + 1)) (lv' := [(2, .int (x2 + 1)), (0, .ref (ad 0)), (1, .int x1)]) hx hb dX10_needs_52 hl (k := 2) rfl rfl (by decide) rfl (fun ls hl => ?_)
          refine lv_goto (tgt := 15) hx hb dX10_needs_55 (by decide) ?_
          exact ih x1 (x2 + 1) ls o h hP hS (lv_sub hl [1, 2, 0] rfl) hk
        · have h := vz_t c4 h
          refine lv_iload_n hx hb dX10_needs_43 rfl (lv_at hl 1 rfl) ?_
          refine lv_aload_n hx hb dX10_needs_44 rfl (lv_at hl 0 rfl) ?_
          refine lv_iload_n hx hb dX10_needs_45 rfl (lv_at hl 2 rfl) ?_
          refine lv_iconst (v := (0 : Int32)) hx hb dX10_needs_46 (by decide) ?_
          obtain ⟨r6, hc5, h⟩ := vz_b h
          refine za_callR (va_runV (As := [.int x2, .int (0 : Int32)]) (rest := [.int x1]) ⟨hx, hb, hml, hown, hts⟩ (k_X10_measured l (D := D) (cI := cI) (cJ := cJ) (ad := ad) hc5) (cwV 2 hts gX10_needs_X10_measured rfl rfl rfl ⟨rfl, zd_X10_measured⟩ ⟨Nat.le_of_ble_eq_true rfl, Nat.le_of_ble_eq_true rfl⟩) (xPreV (ci := 10) hK hP rfl zO_0) rfl rfl hl.1 rfl (lv_room (Nat.le_of_ble_eq_true rfl)) dX10_needs_47 ⟨Nat.zero_le _, Nat.zero_le _⟩) ?_
          refine lv_iadd hx hb dX10_needs_50 ?_
          refine lv_istore_n (lv' := [(1, .int (x1 + r6)), (0, .ref (ad 0)), (2, .int x2)]) hx hb dX10_needs_51 rfl hl (by decide) rfl (fun ls hl => ?_)
          refine lv_iinc (v := (x2 + 1)) (lv' := [(2, .int (x2 + 1)), (1, .int (x1 + r6)), (0, .ref (ad 0))]) hx hb dX10_needs_52 hl (k := 2) rfl rfl (by decide) rfl (fun ls hl => ?_)
          refine lv_goto (tgt := 15) hx hb dX10_needs_55 (by decide) ?_
          exact ih (x1 + r6) (x2 + 1) ls o h hP hS (lv_sub hl [2, 1, 0] rfl) hk
  rw [pX10_needs] at h
  refine lv_aload_n hx hb dX10_needs_0 rfl (lv_at hl 0 rfl) ?_
  refine za_getr (k := 3) hx hb hts hin10 hown hK hP zF_0_3 rfl (Nat.le_of_ble_eq_true rfl) (Or.inl hw1) dX10_needs_1 ?_
  refine lv_aload_n hx hb dX10_needs_4 rfl (lv_at hl 0 rfl) ?_
  refine za_getr (k := 1) hx hb hts hin10 hown hK hP zF_0_1 rfl (Nat.le_of_ble_eq_true rfl) (Or.inl hw2) dX10_needs_5 ?_
  obtain ⟨⟨u8, v9⟩, hc7, h⟩ := vz_b h
  try dsimp only at h
  refine za_callWv (va_runVN (As := [.ref (ad 2)]) (rest := []) ⟨hx, hb, hml, hown, hts⟩ (k_X2_fill l (D := D) (cI := cI) (cJ := cJ) (ad := ad) hD hc7) ⟨va_cnB 1 hts gX10_needs_X2_fill_n159 rfl rfl rfl (nw_474 hK.2) hw4 zd_X2_fill ⟨Nat.le_of_ble_eq_true rfl, Nat.le_of_ble_eq_true rfl⟩, hw3, hw5⟩ (xPreV (ci := 2) hK hP rfl zO_60) rfl rfl hl.1 rfl (lv_room (Nat.le_of_ble_eq_true rfl)) dX10_needs_8 ⟨Nat.zero_le _, Nat.zero_le _⟩) hS (fun H locs hP hS => ?_)
  refine lv_iconst (v := (0 : Int32)) hx hb dX10_needs_11 (by decide) ?_
  refine lv_istore_n (lv' := [(1, .int (0 : Int32)), (0, .ref (ad 0))]) hx hb dX10_needs_12 rfl hl (by decide) rfl (fun ls hl => ?_)
  refine lv_iconst (v := (0 : Int32)) hx hb dX10_needs_13 (by decide) ?_
  refine lv_istore_n (lv' := [(2, .int (0 : Int32)), (1, .int (0 : Int32)), (0, .ref (ad 0))]) hx hb dX10_needs_14 rfl hl (by decide) rfl (fun ls hl => ?_)
  obtain ⟨o11, hL12, h⟩ := vz_b h
  refine L15 u8 v9 _ _ fuel (0 : Int32) (0 : Int32) ls o11 hL12 hP hS (lv_sub hl [2, 1, 0] rfl) (fun y14 ls e13 hl => ?_)
  try rw [e13] at h
  try dsimp only at h
  refine lv_iload_n hx hb dX10_needs_58 rfl (lv_at hl 0 rfl) ?_
  cases h
  exact W.iret hx hb hr (fun t ht _ => ⟨rfl, by rw [ht]; exact hP, hS.F ht⟩) hS.2.2 dX10_needs_59
abbrev rmX10_of : Room := { frames := 6, cells := 0, slots := 0, locals := 141 }
set_option maxHeartbeats 4000000 in
set_option maxRecDepth 100000 in
theorem k_X10_of (l : Launch) {D : va_G} {cI cJ : ClassId} {ad : Nat → Nat} {u : tU} {v : tV} {A : Nat → Prop} (hD : zD A cI cJ ad) {a1 : Int32} {a2 : Int32}  {r : Int32} {uz : tU} {vz : tV} (h : pX10_of u v a1 a2 = some (r, uz, vz)) : Met l yX10_of wsX10_of rmX10_of (va_Pc [.ref (ad 0), .int a1, .int a2] (xPre D cI cJ (wA cI cJ ad u v))) (xWi D cI cJ ad A r uz vz) 0 0 A := by
  refine Met.ofW (cc := cX10_of) (maxL := 3) (ret := (some .int)) (by decide) rfl ?_
  intro p e s m args below meth c s₁ B hml hv
  obtain ⟨rfl, hP, hK⟩ := hv
  have hx := B.exec
  have hb := B.bytes
  have hr := B.returns
  have hts := atoms_spec (ws := wsX10_of) B.pre
  have hown : s.vm.findClass RX10 = some m.cls := findClass_of_methodNamed B.named
  have hlocks := B.notSynchronized
  have hS : va_S A s.heap s.heap [] := va_S.rf
  have hin0 : ∀ w ∈ u_ws RX0 TX0 8, w ∈ wsX10_of := fun _ h => List.mem_cons_of_mem _ (List.mem_append_left _ (List.mem_append_left _ (List.mem_append_left _ (List.mem_append_left _ (List.mem_append_left _ (List.mem_append_left _ (List.mem_append_left _ (List.mem_append_right _ h))))))))
  have hin5 : ∀ w ∈ u_ws RX5 TX5 3, w ∈ wsX10_of := fun _ h => List.mem_cons_of_mem _ (List.mem_append_left _ (List.mem_append_left _ (List.mem_append_left _ (List.mem_append_left _ (List.mem_append_left _ (List.mem_append_left _ (List.mem_append_right _ h)))))))
  have hin10 : ∀ w ∈ u_ws RX10 TX10 7, w ∈ wsX10_of := fun _ h => List.mem_cons_of_mem _ (List.mem_append_left _ (List.mem_append_left _ (List.mem_append_left _ (List.mem_append_left _ (List.mem_append_left _ (List.mem_append_left _ (List.mem_append_left _ (List.mem_append_left _ (List.mem_append_right _ h)))))))))
  have hw1 := hts (.fieldLink RX10 19 "InstallDesk" "books" "LInstallDesk$Books;") (List.mem_of_getElem? (i := 1) rfl)
  have hw2 := hts (.fieldLink RX10 29 "InstallDesk" "holdings" "LInstallDesk$Holdings;") (List.mem_of_getElem? (i := 2) rfl)
  have hw3 := hts (.fieldLink RX10 36 "InstallDesk" "match" "LInstallDesk$Match;") (List.mem_of_getElem? (i := 3) rfl)
  have hw4 := hts (.instanceMethod yX6_isOne) (List.mem_of_getElem? (i := 4) rfl)
  have hw5 := hts (.initialized RX6) (List.mem_of_getElem? (i := 5) rfl)
  have hw6 := hts (.selects RX6 yX6_isOne yX6_isOne) (List.mem_of_getElem? (i := 6) rfl)
  have hw15 := hts (.instanceMethod yX2_fill) (List.mem_of_getElem? (i := 15) rfl)
  have hw16 := hts (.initialized RX2) (List.mem_of_getElem? (i := 16) rfl)
  have hw17 := hts (.selects RX2 yX2_fill yX2_fill) (List.mem_of_getElem? (i := 17) rfl)
  have hw87 := hts (.instanceMethod yX5_begin) (List.mem_of_getElem? (i := 87) rfl)
  have hw88 := hts (.initialized RX5) (List.mem_of_getElem? (i := 88) rfl)
  have hw89 := hts (.selects RX5 yX5_begin yX5_begin) (List.mem_of_getElem? (i := 89) rfl)
  have hw94 := hts (.instanceMethod yX5_serveProduct) (List.mem_of_getElem? (i := 94) rfl)
  have hw95 := hts (.selects RX5 yX5_serveProduct yX5_serveProduct) (List.mem_of_getElem? (i := 95) rfl)
  have hl := lv_entry ([.ref (ad 0), .int a1, .int a2]) (n := 3) (Nat.le_of_ble_eq_true rfl)
  rw [lg_entry_eq]
  generalize (lg_sl ([.ref (ad 0), .int a1, .int a2]) ++ List.replicate (3 - (lg_sl ([.ref (ad 0), .int a1, .int a2])).length) Slot.unset).toArray = ls at hl ⊢
  have hl : lv_has ls 3 [(0, .ref (ad 0)), (1, .int a1), (2, .int a2)] := hl
  rw [pX10_of] at h
  refine lv_aload_n hx hb dX10_of_0 rfl (lv_at hl 0 rfl) ?_
  refine za_getr (k := 1) hx hb hts hin10 hown hK hP zF_0_1 rfl (Nat.le_of_ble_eq_true rfl) (Or.inl hw1) dX10_of_1 ?_
  refine za_getr (k := 0) hx hb hts hin0 hown hK hP zF_2_0 rfl (Nat.le_of_ble_eq_true rfl) (nw_210 hK.2) dX10_of_4 ?_
  refine lv_iload_n hx hb dX10_of_7 rfl (lv_at hl 1 rfl) ?_
  obtain ⟨r2, hc1, h⟩ := vz_b h
  refine za_callR (va_runVN (As := [.int a1]) (rest := []) ⟨hx, hb, hml, hown, hts⟩ (k_X6_isOne l (D := D) (cI := cI) (cJ := cJ) (ad := ad) hc1) ⟨va_cnB 1 hts gX10_of_X6_isOne_n74 rfl rfl rfl (nw_331 hK.2) hw5 zd_X6_isOne ⟨Nat.le_of_ble_eq_true rfl, Nat.le_of_ble_eq_true rfl⟩, hw4, hw6⟩ (xPreV (ci := 6) hK hP rfl zO_3) rfl rfl hl.1 rfl (lv_room (Nat.le_of_ble_eq_true rfl)) dX10_of_8 ⟨Nat.zero_le _, Nat.zero_le _⟩) ?_
  refine lv_if_ne (tgt := 20) hx hb dX10_of_11 (by decide) (fun c3 => ?_) (fun c3 => ?_)
  · have h := vz_f c3 h
    refine lv_aload_n hx hb dX10_of_20 rfl (lv_at hl 0 rfl) ?_
    refine za_getr (k := 3) hx hb hts hin10 hown hK hP zF_0_3 rfl (Nat.le_of_ble_eq_true rfl) (Or.inl hw2) dX10_of_21 ?_
    refine lv_aload_n hx hb dX10_of_24 rfl (lv_at hl 0 rfl) ?_
    refine za_getr (k := 1) hx hb hts hin10 hown hK hP zF_0_1 rfl (Nat.le_of_ble_eq_true rfl) (Or.inl hw1) dX10_of_25 ?_
    obtain ⟨⟨u5, v6⟩, hc4, h⟩ := vz_b h
    try dsimp only at h
    refine za_callWv (va_runVN (As := [.ref (ad 2)]) (rest := []) ⟨hx, hb, hml, hown, hts⟩ (k_X2_fill l (D := D) (cI := cI) (cJ := cJ) (ad := ad) hD hc4) ⟨va_cnB 1 hts gX10_of_X2_fill_n159 rfl rfl rfl (nw_474 hK.2) hw16 zd_X2_fill ⟨Nat.le_of_ble_eq_true rfl, Nat.le_of_ble_eq_true rfl⟩, hw15, hw17⟩ (xPreV (ci := 2) hK hP rfl zO_60) rfl rfl hl.1 rfl (lv_room (Nat.le_of_ble_eq_true rfl)) dX10_of_28 ⟨Nat.zero_le _, Nat.zero_le _⟩) hS (fun H locs hP hS => ?_)
    refine lv_aload_n hx hb dX10_of_31 rfl (lv_at hl 0 rfl) ?_
    refine za_getr (k := 4) hx hb hts hin10 hown hK hP zF_0_4 rfl (Nat.le_of_ble_eq_true rfl) (Or.inl hw3) dX10_of_32 ?_
    refine lv_aload_n hx hb dX10_of_35 rfl (lv_at hl 0 rfl) ?_
    refine za_getr (k := 1) hx hb hts hin10 hown hK hP zF_0_1 rfl (Nat.le_of_ble_eq_true rfl) (Or.inl hw1) dX10_of_36 ?_
    refine za_getr (k := 5) hx hb hts hin0 hown hK hP zF_2_5 rfl (Nat.le_of_ble_eq_true rfl) (nw_226 hK.2) dX10_of_39 ?_
    refine lv_aload_n hx hb dX10_of_42 rfl (lv_at hl 0 rfl) ?_
    refine za_getr (k := 1) hx hb hts hin10 hown hK hP zF_0_1 rfl (Nat.le_of_ble_eq_true rfl) (Or.inl hw1) dX10_of_43 ?_
    refine za_geti (k := 6) hx hb hts hin0 hown hK hP zF_2_6 rfl (Nat.le_of_ble_eq_true rfl) (nw_228 hK.2) dX10_of_46 ?_
    obtain ⟨⟨u9, v10⟩, hc8, h⟩ := vz_b h
    try dsimp only at h
    refine za_callWv (va_runVN (As := [.ref (ad 24), .int (u5 10 6)]) (rest := []) ⟨hx, hb, hml, hown, hts⟩ (k_X5_begin l (D := D) (cI := cI) (cJ := cJ) (ad := ad) hD hc8) ⟨va_cnB 2 hts gX10_of_X5_begin_n216 rfl rfl rfl (nw_622 hK.2) hw88 zd_X5_begin ⟨Nat.le_of_ble_eq_true rfl, Nat.le_of_ble_eq_true rfl⟩, hw87, hw89⟩ (xPreV (ci := 5) hK hP rfl zO_62) rfl rfl hl.1 rfl (lv_room (Nat.le_of_ble_eq_true rfl)) dX10_of_49 ⟨Nat.zero_le _, Nat.zero_le _⟩) hS (fun H locs hP hS => ?_)
    refine lv_aload_n hx hb dX10_of_52 rfl (lv_at hl 0 rfl) ?_
    refine za_getr (k := 4) hx hb hts hin10 hown hK hP zF_0_4 rfl (Nat.le_of_ble_eq_true rfl) (Or.inl hw3) dX10_of_53 ?_
    refine lv_aload_n hx hb dX10_of_56 rfl (lv_at hl 0 rfl) ?_
    refine za_getr (k := 1) hx hb hts hin10 hown hK hP zF_0_1 rfl (Nat.le_of_ble_eq_true rfl) (Or.inl hw1) dX10_of_57 ?_
    refine lv_aload_n hx hb dX10_of_60 rfl (lv_at hl 0 rfl) ?_
    refine za_getr (k := 3) hx hb hts hin10 hown hK hP zF_0_3 rfl (Nat.le_of_ble_eq_true rfl) (Or.inl hw2) dX10_of_61 ?_
    refine lv_iload_n hx hb dX10_of_64 rfl (lv_at hl 1 rfl) ?_
    obtain ⟨⟨u13, v14⟩, hc12, h⟩ := vz_b h
    try dsimp only at h
    refine za_callWv (va_runVN (As := [.ref (ad 2), .ref (ad 60), .int a1]) (rest := []) ⟨hx, hb, hml, hown, hts⟩ (k_X5_serveProduct l (D := D) (cI := cI) (cJ := cJ) (ad := ad) hD hc12) ⟨va_cnB 3 hts gX10_of_X5_serveProduct_n227 rfl rfl rfl (nw_653 hK.2) hw88 zd_X5_serveProduct ⟨Nat.le_of_ble_eq_true rfl, Nat.le_of_ble_eq_true rfl⟩, hw94, hw95⟩ (xPreV (ci := 5) hK hP rfl zO_62) rfl rfl hl.1 rfl (lv_room (Nat.le_of_ble_eq_true rfl)) dX10_of_65 ⟨Nat.zero_le _, Nat.zero_le _⟩) hS (fun H locs hP hS => ?_)
    refine lv_iload_n hx hb dX10_of_68 rfl (lv_at hl 2 rfl) ?_
    refine lv_if_eq (tgt := 82) hx hb dX10_of_69 (by decide) (fun c16 => ?_) (fun c16 => ?_)
    · have h := vz_t c16 h
      refine lv_aload_n hx hb dX10_of_82 rfl (lv_at hl 0 rfl) ?_
      refine za_getr (k := 4) hx hb hts hin10 hown hK hP zF_0_4 rfl (Nat.le_of_ble_eq_true rfl) (Or.inl hw3) dX10_of_83 ?_
      refine za_geti (k := 1) hx hb hts hin5 hown hK hP zF_62_1 rfl (Nat.le_of_ble_eq_true rfl) (nw_266 hK.2) dX10_of_86 ?_
      cases h
      exact W.iret hx hb hr (fun t ht _ => ⟨rfl, by rw [ht]; exact hP, hS.F ht⟩) hS.2.2 dX10_of_89
    · have h := vz_f c16 h
      refine lv_aload_n hx hb dX10_of_72 rfl (lv_at hl 0 rfl) ?_
      refine za_getr (k := 4) hx hb hts hin10 hown hK hP zF_0_4 rfl (Nat.le_of_ble_eq_true rfl) (Or.inl hw3) dX10_of_73 ?_
      refine za_geti (k := 2) hx hb hts hin5 hown hK hP zF_62_2 rfl (Nat.le_of_ble_eq_true rfl) (nw_268 hK.2) dX10_of_76 ?_
      refine lv_goto (tgt := 89) hx hb dX10_of_79 (by decide) ?_
      cases h
      exact W.iret hx hb hr (fun t ht _ => ⟨rfl, by rw [ht]; exact hP, hS.F ht⟩) hS.2.2 dX10_of_89
  · have h := vz_t c3 h
    refine lv_aload_n hx hb dX10_of_14 rfl (lv_at hl 0 rfl) ?_
    refine lv_iconst (v := (-1 : Int32)) hx hb dX10_of_15 (by decide) ?_
    obtain ⟨⟨r21, u18, v19⟩, hc17, h⟩ := vz_b h
    try dsimp only at h
    refine za_callWi (va_runV (As := [.int (-1 : Int32)]) (rest := []) ⟨hx, hb, hml, hown, hts⟩ (k_X10_finding l (D := D) (cI := cI) (cJ := cJ) (ad := ad) hD hc17) (cwV 1 hts gX10_of_X10_finding rfl rfl rfl ⟨rfl, zd_X10_finding⟩ ⟨Nat.le_of_ble_eq_true rfl, Nat.le_of_ble_eq_true rfl⟩) (xPreV (ci := 10) hK hP rfl zO_0) rfl rfl hl.1 rfl (lv_room (Nat.le_of_ble_eq_true rfl)) dX10_of_16 ⟨Nat.zero_le _, Nat.zero_le _⟩) hS (fun H locs hP hS => ?_)
    cases h
    exact W.iret hx hb hr (fun t ht _ => ⟨rfl, by rw [ht]; exact hP, hS.F ht⟩) hS.2.2 dX10_of_19
abbrev rmX10_peak : Room := { frames := 2, cells := 0, slots := 0, locals := 49 }
set_option maxHeartbeats 4000000 in
set_option maxRecDepth 100000 in
theorem k_X10_peak (l : Launch) {D : va_G} {cI cJ : ClassId} {ad : Nat → Nat} {u : tU} {v : tV} {A : Nat → Prop} (hD : zD A cI cJ ad) {a1 : Int32}  {r : Int32} {uz : tU} {vz : tV} (h : pX10_peak u v a1 = some (r, uz, vz)) : Met l yX10_peak wsX10_peak rmX10_peak (va_Pc [.ref (ad 0), .int a1] (xPre D cI cJ (wA cI cJ ad u v))) (xWi D cI cJ ad A r uz vz) 0 0 A := by
  refine Met.ofW (cc := cX10_peak) (maxL := 3) (ret := (some .int)) (by decide) rfl ?_
  intro p e s m args below meth c s₁ B hml hv
  obtain ⟨rfl, hP, hK⟩ := hv
  have hx := B.exec
  have hb := B.bytes
  have hr := B.returns
  have hts := atoms_spec (ws := wsX10_peak) B.pre
  have hown : s.vm.findClass RX10 = some m.cls := findClass_of_methodNamed B.named
  have hlocks := B.notSynchronized
  have hS : va_S A s.heap s.heap [] := va_S.rf
  have hin0 : ∀ w ∈ u_ws RX0 TX0 8, w ∈ wsX10_peak := fun _ h => List.mem_cons_of_mem _ (List.mem_append_left _ (List.mem_append_left _ (List.mem_append_right _ h)))
  have hin10 : ∀ w ∈ u_ws RX10 TX10 7, w ∈ wsX10_peak := fun _ h => List.mem_cons_of_mem _ (List.mem_append_left _ (List.mem_append_left _ (List.mem_append_left _ (List.mem_append_right _ h))))
  have hw1 := hts (.fieldLink RX10 19 "InstallDesk" "books" "LInstallDesk$Books;") (List.mem_of_getElem? (i := 1) rfl)
  have hw2 := hts (.instanceMethod yX6_isOne) (List.mem_of_getElem? (i := 2) rfl)
  have hw3 := hts (.initialized RX6) (List.mem_of_getElem? (i := 3) rfl)
  have hw4 := hts (.selects RX6 yX6_isOne yX6_isOne) (List.mem_of_getElem? (i := 4) rfl)
  have hw13 := hts (.instanceMethod yX9_peakTick) (List.mem_of_getElem? (i := 13) rfl)
  have hw14 := hts (.initialized RX9) (List.mem_of_getElem? (i := 14) rfl)
  have hw15 := hts (.selects RX9 yX9_peakTick yX9_peakTick) (List.mem_of_getElem? (i := 15) rfl)
  have hl := lv_entry ([.ref (ad 0), .int a1]) (n := 3) (Nat.le_of_ble_eq_true rfl)
  rw [lg_entry_eq]
  generalize (lg_sl ([.ref (ad 0), .int a1]) ++ List.replicate (3 - (lg_sl ([.ref (ad 0), .int a1])).length) Slot.unset).toArray = ls at hl ⊢
  have hl : lv_has ls 3 [(0, .ref (ad 0)), (1, .int a1)] := hl
  rw [pX10_peak] at h
  refine lv_aload_n hx hb dX10_peak_0 rfl (lv_at hl 0 rfl) ?_
  refine za_getr (k := 1) hx hb hts hin10 hown hK hP zF_0_1 rfl (Nat.le_of_ble_eq_true rfl) (Or.inl hw1) dX10_peak_1 ?_
  refine za_getr (k := 0) hx hb hts hin0 hown hK hP zF_2_0 rfl (Nat.le_of_ble_eq_true rfl) (nw_210 hK.2) dX10_peak_4 ?_
  refine lv_iload_n hx hb dX10_peak_7 rfl (lv_at hl 1 rfl) ?_
  obtain ⟨r2, hc1, h⟩ := vz_b h
  refine za_callR (va_runVN (As := [.int a1]) (rest := []) ⟨hx, hb, hml, hown, hts⟩ (k_X6_isOne l (D := D) (cI := cI) (cJ := cJ) (ad := ad) hc1) ⟨va_cnB 1 hts gX10_peak_X6_isOne_n74 rfl rfl rfl (nw_331 hK.2) hw3 zd_X6_isOne ⟨Nat.le_of_ble_eq_true rfl, Nat.le_of_ble_eq_true rfl⟩, hw2, hw4⟩ (xPreV (ci := 6) hK hP rfl zO_3) rfl rfl hl.1 rfl (lv_room (Nat.le_of_ble_eq_true rfl)) dX10_peak_8 ⟨Nat.zero_le _, Nat.zero_le _⟩) ?_
  refine lv_if_ne (tgt := 20) hx hb dX10_peak_11 (by decide) (fun c3 => ?_) (fun c3 => ?_)
  · have h := vz_f c3 h
    refine lv_aload_n hx hb dX10_peak_20 rfl (lv_at hl 0 rfl) ?_
    refine za_getr (k := 1) hx hb hts hin10 hown hK hP zF_0_1 rfl (Nat.le_of_ble_eq_true rfl) (Or.inl hw1) dX10_peak_21 ?_
    refine za_getr (k := 4) hx hb hts hin0 hown hK hP zF_2_4 rfl (Nat.le_of_ble_eq_true rfl) (nw_223 hK.2) dX10_peak_24 ?_
    refine lv_iload_n hx hb dX10_peak_27 rfl (lv_at hl 1 rfl) ?_
    obtain ⟨r5, hc4, h⟩ := vz_b h
    refine za_callR (va_runVN (As := [.int a1]) (rest := []) ⟨hx, hb, hml, hown, hts⟩ (k_X9_peakTick l (D := D) (cI := cI) (cJ := cJ) (ad := ad) hc4) ⟨va_cnB 1 hts gX10_peak_X9_peakTick_n188 rfl rfl rfl (nw_580 hK.2) hw14 zd_X9_peakTick ⟨Nat.le_of_ble_eq_true rfl, Nat.le_of_ble_eq_true rfl⟩, hw13, hw15⟩ (xPreV (ci := 9) hK hP rfl zO_19) rfl rfl hl.1 rfl (lv_room (Nat.le_of_ble_eq_true rfl)) dX10_peak_28 ⟨Nat.zero_le _, Nat.zero_le _⟩) ?_
    refine lv_istore_n (lv' := [(2, .int r5), (0, .ref (ad 0)), (1, .int a1)]) hx hb dX10_peak_31 rfl hl (by decide) rfl (fun ls hl => ?_)
    refine lv_iload_n hx hb dX10_peak_32 rfl (lv_at hl 0 rfl) ?_
    refine lv_if_ge (tgt := 45) hx hb dX10_peak_33 (by decide) (fun c6 => ?_) (fun c6 => ?_)
    · have h := vz_t c6 h
      refine lv_iload_n hx hb dX10_peak_45 rfl (lv_at hl 0 rfl) ?_
      cases h
      exact W.iret hx hb hr (fun t ht _ => ⟨rfl, by rw [ht]; exact hP, hS.F ht⟩) hS.2.2 dX10_peak_46
    · have h := vz_f c6 h
      refine lv_aload_n hx hb dX10_peak_36 rfl (lv_at hl 1 rfl) ?_
      refine lv_bipush (v := (-2 : Int32)) hx hb dX10_peak_37 (by decide) ?_
      obtain ⟨⟨r11, u8, v9⟩, hc7, h⟩ := vz_b h
      try dsimp only at h
      refine za_callWi (va_runV (As := [.int (-2 : Int32)]) (rest := []) ⟨hx, hb, hml, hown, hts⟩ (k_X10_finding l (D := D) (cI := cI) (cJ := cJ) (ad := ad) hD hc7) (cwV 1 hts gX10_peak_X10_finding rfl rfl rfl ⟨rfl, zd_X10_finding⟩ ⟨Nat.le_of_ble_eq_true rfl, Nat.le_of_ble_eq_true rfl⟩) (xPreV (ci := 10) hK hP rfl zO_0) rfl rfl hl.1 rfl (lv_room (Nat.le_of_ble_eq_true rfl)) dX10_peak_39 ⟨Nat.zero_le _, Nat.zero_le _⟩) hS (fun H locs hP hS => ?_)
      refine lv_goto (tgt := 46) hx hb dX10_peak_42 (by decide) ?_
      cases h
      exact W.iret hx hb hr (fun t ht _ => ⟨rfl, by rw [ht]; exact hP, hS.F ht⟩) hS.2.2 dX10_peak_46
  · have h := vz_t c3 h
    refine lv_aload_n hx hb dX10_peak_14 rfl (lv_at hl 0 rfl) ?_
    refine lv_iconst (v := (-1 : Int32)) hx hb dX10_peak_15 (by decide) ?_
    obtain ⟨⟨r16, u13, v14⟩, hc12, h⟩ := vz_b h
    try dsimp only at h
    refine za_callWi (va_runV (As := [.int (-1 : Int32)]) (rest := []) ⟨hx, hb, hml, hown, hts⟩ (k_X10_finding l (D := D) (cI := cI) (cJ := cJ) (ad := ad) hD hc12) (cwV 1 hts gX10_peak_X10_finding rfl rfl rfl ⟨rfl, zd_X10_finding⟩ ⟨Nat.le_of_ble_eq_true rfl, Nat.le_of_ble_eq_true rfl⟩) (xPreV (ci := 10) hK hP rfl zO_0) rfl rfl hl.1 rfl (lv_room (Nat.le_of_ble_eq_true rfl)) dX10_peak_16 ⟨Nat.zero_le _, Nat.zero_le _⟩) hS (fun H locs hP hS => ?_)
    cases h
    exact W.iret hx hb hr (fun t ht _ => ⟨rfl, by rw [ht]; exact hP, hS.F ht⟩) hS.2.2 dX10_peak_19
abbrev rmX6_add : Room := { frames := 0, cells := 0, slots := 0, locals := 0 }
set_option maxHeartbeats 4000000 in
set_option maxRecDepth 100000 in
theorem k_X6_add (l : Launch) {D : va_G} {cI cJ : ClassId} {ad : Nat → Nat} {u : tU} {v : tV} {A : Nat → Prop} (hD : zD A cI cJ ad) {a1 : Int32} {a2 : Int32} {a3 : Int32}  {r : Int32} {uz : tU} {vz : tV} (h : pX6_add u v a1 a2 a3 = some (r, uz, vz)) : Met l yX6_add wsX6_add rmX6_add (va_Pc [.ref (ad 3), .int a1, .int a2, .int a3] (xPre D cI cJ (wA cI cJ ad u v))) (xWi D cI cJ ad A r uz vz) 0 0 A := by
  refine Met.ofW (cc := cX6_add) (maxL := 4) (ret := (some .int)) (by decide) rfl ?_
  intro p e s m args below meth c s₁ B hml hv
  obtain ⟨rfl, hP, hK⟩ := hv
  have hx := B.exec
  have hb := B.bytes
  have hr := B.returns
  have hts := atoms_spec (ws := wsX6_add) B.pre
  have hown : s.vm.findClass RX6 = some m.cls := findClass_of_methodNamed B.named
  have hlocks := B.notSynchronized
  have hS : va_S A s.heap s.heap [] := va_S.rf
  have hin6 : ∀ w ∈ u_ws RX6 TX6 4, w ∈ wsX6_add := fun _ h => List.mem_cons_of_mem _ (List.mem_append_right _ h)
  have hw1 := hts (.fieldLink RX6 9 "InstallDesk$Products" "kinds" "[I") (List.mem_of_getElem? (i := 1) rfl)
  have hw2 := hts (.fieldLink RX6 21 "InstallDesk$Products" "count" "I") (List.mem_of_getElem? (i := 2) rfl)
  have hw3 := hts (.fieldLink RX6 15 "InstallDesk$Products" "parts" "[I") (List.mem_of_getElem? (i := 3) rfl)
  have hw4 := hts (.fieldLink RX6 18 "InstallDesk$Products" "leasts" "[I") (List.mem_of_getElem? (i := 4) rfl)
  have hl := lv_entry ([.ref (ad 3), .int a1, .int a2, .int a3]) (n := 4) (Nat.le_of_ble_eq_true rfl)
  rw [lg_entry_eq]
  generalize (lg_sl ([.ref (ad 3), .int a1, .int a2, .int a3]) ++ List.replicate (4 - (lg_sl ([.ref (ad 3), .int a1, .int a2, .int a3])).length) Slot.unset).toArray = ls at hl ⊢
  have hl : lv_has ls 4 [(0, .ref (ad 3)), (1, .int a1), (2, .int a2), (3, .int a3)] := hl
  rw [pX6_add] at h
  refine lv_aload_n hx hb dX6_add_0 rfl (lv_at hl 0 rfl) ?_
  refine za_getr (k := 1) hx hb hts hin6 hown hK hP zF_3_1 rfl (Nat.le_of_ble_eq_true rfl) (Or.inl hw1) dX6_add_1 ?_
  refine lv_aload_n hx hb dX6_add_4 rfl (lv_at hl 0 rfl) ?_
  refine za_geti (k := 0) hx hb hts hin6 hown hK hP zF_3_0 rfl (Nat.le_of_ble_eq_true rfl) (Or.inl hw2) dX6_add_5 ?_
  refine lv_iload_n hx hb dX6_add_8 rfl (lv_at hl 1 rfl) ?_
  obtain ⟨g1, h⟩ := gd_s h
  refine za_ist hx hb hK hP hD hS zI_4 g1 dX6_add_9 (fun H locs hP hS => ?_)
  refine lv_aload_n hx hb dX6_add_10 rfl (lv_at hl 0 rfl) ?_
  refine za_getr (k := 2) hx hb hts hin6 hown hK hP zF_3_2 rfl (Nat.le_of_ble_eq_true rfl) (Or.inl hw3) dX6_add_11 ?_
  refine lv_aload_n hx hb dX6_add_14 rfl (lv_at hl 0 rfl) ?_
  refine za_geti (k := 0) hx hb hts hin6 hown hK hP zF_3_0 rfl (Nat.le_of_ble_eq_true rfl) (Or.inl hw2) dX6_add_15 ?_
  refine lv_iload_n hx hb dX6_add_18 rfl (lv_at hl 2 rfl) ?_
  obtain ⟨g2, h⟩ := gd_s h
  refine za_ist hx hb hK hP hD hS zI_5 g2 dX6_add_19 (fun H locs hP hS => ?_)
  refine lv_aload_n hx hb dX6_add_20 rfl (lv_at hl 0 rfl) ?_
  refine za_getr (k := 3) hx hb hts hin6 hown hK hP zF_3_3 rfl (Nat.le_of_ble_eq_true rfl) (Or.inl hw4) dX6_add_21 ?_
  refine lv_aload_n hx hb dX6_add_24 rfl (lv_at hl 0 rfl) ?_
  refine za_geti (k := 0) hx hb hts hin6 hown hK hP zF_3_0 rfl (Nat.le_of_ble_eq_true rfl) (Or.inl hw2) dX6_add_25 ?_
  refine lv_iload_n hx hb dX6_add_28 rfl (lv_at hl 3 rfl) ?_
  obtain ⟨g3, h⟩ := gd_s h
  refine za_ist hx hb hK hP hD hS zI_6 g3 dX6_add_29 (fun H locs hP hS => ?_)
  refine lv_aload_n hx hb dX6_add_30 rfl (lv_at hl 0 rfl) ?_
  refine lv_dup hx hb dX6_add_31 rfl ?_
  refine za_geti (k := 0) hx hb hts hin6 hown hK hP zF_3_0 rfl (Nat.le_of_ble_eq_true rfl) (Or.inl hw2) dX6_add_32 ?_
  refine lv_iconst (v := (1 : Int32)) hx hb dX6_add_35 (by decide) ?_
  refine lv_iadd hx hb dX6_add_36 ?_
  refine za_puti (k := 0) hx hb hts hin6 tyX6 tyX6_ok nmX6 hown hK hP hD hS zF_3_0 rfl (Nat.le_of_ble_eq_true rfl) (Or.inl hw2) rfl rfl rfl dX6_add_37 (fun H locs hP hS => ?_)
  refine lv_aload_n hx hb dX6_add_40 rfl (lv_at hl 0 rfl) ?_
  refine za_geti (k := 0) hx hb hts hin6 hown hK hP zF_3_0 rfl (Nat.le_of_ble_eq_true rfl) (Or.inl hw2) dX6_add_41 ?_
  refine lv_iconst (v := (1 : Int32)) hx hb dX6_add_44 (by decide) ?_
  refine lv_isub hx hb dX6_add_45 ?_
  cases h
  exact W.iret hx hb hr (fun t ht _ => ⟨rfl, by rw [ht]; exact hP, hS.F ht⟩) hS.2.2 dX6_add_46
