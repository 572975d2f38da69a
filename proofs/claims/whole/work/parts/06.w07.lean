abbrev rmX10_product : Room := { frames := 2, cells := 0, slots := 0, locals := 42 }
set_option maxHeartbeats 4000000 in
set_option maxRecDepth 100000 in
theorem k_X10_product (l : Launch) {D : va_G} {cI cJ : ClassId} {ad : Nat → Nat} {u : tU} {v : tV} {A : Nat → Prop} (hD : zD A cI cJ ad) {a1 : Int32} {a2 : Int32} {a3 : Int32}  {r : Int32} {uz : tU} {vz : tV} (h : pX10_product u v a1 a2 a3 = some (r, uz, vz)) : Met l yX10_product wsX10_product rmX10_product (va_Pc [.ref (ad 0), .int a1, .int a2, .int a3] (xPre D cI cJ (wA cI cJ ad u v))) (xWi D cI cJ ad A r uz vz) 0 0 A := by
  refine Met.ofW (cc := cX10_product) (maxL := 5) (ret := (some .int)) (by decide) rfl ?_
  intro p e s m args below meth c s₁ B hml hv
  obtain ⟨rfl, hP, hK⟩ := hv
  have hx := B.exec
  have hb := B.bytes
  have hr := B.returns
  have hts := atoms_spec (ws := wsX10_product) B.pre
  have hown : s.vm.findClass RX10 = some m.cls := findClass_of_methodNamed B.named
  have hlocks := B.notSynchronized
  have hS : va_S A s.heap s.heap [] := va_S.rf
  have hin0 : ∀ w ∈ u_ws RX0 TX0 8, w ∈ wsX10_product := fun _ h => List.mem_cons_of_mem _ (List.mem_append_left _ (List.mem_append_right _ h))
  have hin6 : ∀ w ∈ u_ws RX6 TX6 4, w ∈ wsX10_product := fun _ h => List.mem_cons_of_mem _ (List.mem_append_right _ h)
  have hin10 : ∀ w ∈ u_ws RX10 TX10 7, w ∈ wsX10_product := fun _ h => List.mem_cons_of_mem _ (List.mem_append_left _ (List.mem_append_left _ (List.mem_append_right _ h)))
  have hw1 := hts (.fieldLink RX10 19 "InstallDesk" "books" "LInstallDesk$Books;") (List.mem_of_getElem? (i := 1) rfl)
  have hw17 := hts (.instanceMethod yX6_add) (List.mem_of_getElem? (i := 17) rfl)
  have hw18 := hts (.initialized RX6) (List.mem_of_getElem? (i := 18) rfl)
  have hw19 := hts (.selects RX6 yX6_add yX6_add) (List.mem_of_getElem? (i := 19) rfl)
  have hl := lv_entry ([.ref (ad 0), .int a1, .int a2, .int a3]) (n := 5) (Nat.le_of_ble_eq_true rfl)
  rw [lg_entry_eq]
  generalize (lg_sl ([.ref (ad 0), .int a1, .int a2, .int a3]) ++ List.replicate (5 - (lg_sl ([.ref (ad 0), .int a1, .int a2, .int a3])).length) Slot.unset).toArray = ls at hl ⊢
  have hl : lv_has ls 5 [(0, .ref (ad 0)), (1, .int a1), (2, .int a2), (3, .int a3)] := hl
  rw [pX10_product] at h
  refine lv_iload_n hx hb dX10_product_0 rfl (lv_at hl 1 rfl) ?_
  obtain ⟨r2, hc1, h⟩ := vz_b h
  refine za_callR (va_runS (As := [.int a1]) (rest := []) ⟨hx, hb, hml, hown, hts⟩ (k_X10_isKind l hc1) (va_cwS 1 hts gX10_product_X10_isKind rfl rfl rfl zd_X10_isKind ⟨Nat.le_of_ble_eq_true rfl, Nat.le_of_ble_eq_true rfl⟩) xPre0 rfl rfl hl.1 rfl (lv_room (Nat.le_of_ble_eq_true rfl)) dX10_product_1 ⟨Nat.zero_le _, Nat.zero_le _⟩) ?_
  refine lv_if_ne (tgt := 13) hx hb dX10_product_4 (by decide) (fun c3 => ?_) (fun c3 => ?_)
  · have h := vz_f c3 h
    refine lv_iload_n hx hb dX10_product_13 rfl (lv_at hl 1 rfl) ?_
    refine lv_iconst (v := (1 : Int32)) hx hb dX10_product_14 (by decide) ?_
    obtain ⟨r5, hc4, h⟩ := vz_b h
    refine za_callR (va_runS (As := [.int a1, .int (1 : Int32)]) (rest := []) ⟨hx, hb, hml, hown, hts⟩ (k_X10_isUnder l hc4) (va_cwS 2 hts gX10_product_X10_isUnder rfl rfl rfl zd_X10_isUnder ⟨Nat.le_of_ble_eq_true rfl, Nat.le_of_ble_eq_true rfl⟩) xPre0 rfl rfl hl.1 rfl (lv_room (Nat.le_of_ble_eq_true rfl)) dX10_product_15 ⟨Nat.zero_le _, Nat.zero_le _⟩) ?_
    refine lv_istore (lv' := [(4, .int r5), (0, .ref (ad 0)), (1, .int a1), (2, .int a2), (3, .int a3)]) hx hb dX10_product_18 hl (by decide) rfl (fun ls hl => ?_)
    refine lv_iload hx hb dX10_product_20 (lv_at hl 0 rfl) ?_
    refine lv_if_eq (tgt := 52) hx hb dX10_product_22 (by decide) (fun c6 => ?_) (fun c6 => ?_)
    · have h := vz_t c6 h
      refine lv_aload_n hx hb dX10_product_52 rfl (lv_at hl 1 rfl) ?_
      refine za_getr (k := 1) hx hb hts hin10 hown hK hP zF_0_1 rfl (Nat.le_of_ble_eq_true rfl) (Or.inl hw1) dX10_product_53 ?_
      refine za_getr (k := 0) hx hb hts hin0 hown hK hP zF_2_0 rfl (Nat.le_of_ble_eq_true rfl) (nw_210 hK.2) dX10_product_56 ?_
      refine za_geti (k := 0) hx hb hts hin6 hown hK hP zF_3_0 rfl (Nat.le_of_ble_eq_true rfl) (nw_52 hK.2) dX10_product_59 ?_
      refine lv_bipush (v := (10 : Int32)) hx hb dX10_product_62 (by decide) ?_
      refine lv_icmp_lt (tgt := 74) hx hb dX10_product_64 (by decide) (fun c7 => ?_) (fun c7 => ?_)
      · have h := vz_t c7 h
        refine lv_aload_n hx hb dX10_product_74 rfl (lv_at hl 1 rfl) ?_
        refine za_getr (k := 1) hx hb hts hin10 hown hK hP zF_0_1 rfl (Nat.le_of_ble_eq_true rfl) (Or.inl hw1) dX10_product_75 ?_
        refine za_getr (k := 0) hx hb hts hin0 hown hK hP zF_2_0 rfl (Nat.le_of_ble_eq_true rfl) (nw_210 hK.2) dX10_product_78 ?_
        refine lv_iload_n hx hb dX10_product_81 rfl (lv_at hl 2 rfl) ?_
        refine lv_iload_n hx hb dX10_product_82 rfl (lv_at hl 3 rfl) ?_
        refine lv_iload_n hx hb dX10_product_83 rfl (lv_at hl 4 rfl) ?_
        obtain ⟨⟨r12, u9, v10⟩, hc8, h⟩ := vz_b h
        try dsimp only at h
        refine za_callWi (va_runVN (As := [.int a1, .int a2, .int a3]) (rest := []) ⟨hx, hb, hml, hown, hts⟩ (k_X6_add l (D := D) (cI := cI) (cJ := cJ) (ad := ad) hD hc8) ⟨va_cnB 3 hts gX10_product_X6_add_n71 rfl rfl rfl (nw_323 hK.2) hw18 zd_X6_add ⟨Nat.le_of_ble_eq_true rfl, Nat.le_of_ble_eq_true rfl⟩, hw17, hw19⟩ (xPreV (ci := 6) hK hP rfl zO_3) rfl rfl hl.1 rfl (lv_room (Nat.le_of_ble_eq_true rfl)) dX10_product_84 ⟨Nat.zero_le _, Nat.zero_le _⟩) hS (fun H locs hP hS => ?_)
        cases h
        exact W.iret hx hb hr (fun t ht _ => ⟨rfl, by rw [ht]; exact hP, hS.F ht⟩) hS.2.2 dX10_product_87
      · have h := vz_f c7 h
        refine lv_aload_n hx hb dX10_product_67 rfl (lv_at hl 1 rfl) ?_
        refine lv_bipush (v := (-3 : Int32)) hx hb dX10_product_68 (by decide) ?_
        obtain ⟨⟨r17, u14, v15⟩, hc13, h⟩ := vz_b h
        try dsimp only at h
        refine za_callWi (va_runV (As := [.int (-3 : Int32)]) (rest := []) ⟨hx, hb, hml, hown, hts⟩ (k_X10_finding l (D := D) (cI := cI) (cJ := cJ) (ad := ad) hD hc13) (cwV 1 hts gX10_product_X10_finding rfl rfl rfl ⟨rfl, zd_X10_finding⟩ ⟨Nat.le_of_ble_eq_true rfl, Nat.le_of_ble_eq_true rfl⟩) (xPreV (ci := 10) hK hP rfl zO_0) rfl rfl hl.1 rfl (lv_room (Nat.le_of_ble_eq_true rfl)) dX10_product_70 ⟨Nat.zero_le _, Nat.zero_le _⟩) hS (fun H locs hP hS => ?_)
        cases h
        exact W.iret hx hb hr (fun t ht _ => ⟨rfl, by rw [ht]; exact hP, hS.F ht⟩) hS.2.2 dX10_product_73
    · have h := vz_f c6 h
      refine lv_iload_n hx hb dX10_product_25 rfl (lv_at hl 3 rfl) ?_
      refine lv_iconst (v := (0 : Int32)) hx hb dX10_product_26 (by decide) ?_
      refine lv_sipush (v := (1023 : Int32)) hx hb dX10_product_27 (by decide) ?_
      obtain ⟨r19, hc18, h⟩ := vz_b h
      refine za_callR (va_runS (As := [.int a2, .int (0 : Int32), .int (1023 : Int32)]) (rest := []) ⟨hx, hb, hml, hown, hts⟩ (k_X10_isWithin l hc18) (va_cwS 3 hts gX10_product_X10_isWithin rfl rfl rfl zd_X10_isWithin ⟨Nat.le_of_ble_eq_true rfl, Nat.le_of_ble_eq_true rfl⟩) xPre0 rfl rfl hl.1 rfl (lv_room (Nat.le_of_ble_eq_true rfl)) dX10_product_30 ⟨Nat.zero_le _, Nat.zero_le _⟩) ?_
      refine lv_if_eq (tgt := 46) hx hb dX10_product_33 (by decide) (fun c20 => ?_) (fun c20 => ?_)
      · have h := vz_t c20 h
        refine lv_aload_n hx hb dX10_product_46 rfl (lv_at hl 1 rfl) ?_
        refine lv_iconst (v := (-1 : Int32)) hx hb dX10_product_47 (by decide) ?_
        obtain ⟨⟨r25, u22, v23⟩, hc21, h⟩ := vz_b h
        try dsimp only at h
        refine za_callWi (va_runV (As := [.int (-1 : Int32)]) (rest := []) ⟨hx, hb, hml, hown, hts⟩ (k_X10_finding l (D := D) (cI := cI) (cJ := cJ) (ad := ad) hD hc21) (cwV 1 hts gX10_product_X10_finding rfl rfl rfl ⟨rfl, zd_X10_finding⟩ ⟨Nat.le_of_ble_eq_true rfl, Nat.le_of_ble_eq_true rfl⟩) (xPreV (ci := 10) hK hP rfl zO_0) rfl rfl hl.1 rfl (lv_room (Nat.le_of_ble_eq_true rfl)) dX10_product_48 ⟨Nat.zero_le _, Nat.zero_le _⟩) hS (fun H locs hP hS => ?_)
        cases h
        exact W.iret hx hb hr (fun t ht _ => ⟨rfl, by rw [ht]; exact hP, hS.F ht⟩) hS.2.2 dX10_product_51
      · have h := vz_f c20 h
        refine lv_iload_n hx hb dX10_product_36 rfl (lv_at hl 4 rfl) ?_
        refine lv_iconst (v := (1 : Int32)) hx hb dX10_product_37 (by decide) ?_
        refine lv_bipush (v := (10 : Int32)) hx hb dX10_product_38 (by decide) ?_
        obtain ⟨r27, hc26, h⟩ := vz_b h
        refine za_callR (va_runS (As := [.int a3, .int (1 : Int32), .int (10 : Int32)]) (rest := []) ⟨hx, hb, hml, hown, hts⟩ (k_X10_isWithin l hc26) (va_cwS 3 hts gX10_product_X10_isWithin rfl rfl rfl zd_X10_isWithin ⟨Nat.le_of_ble_eq_true rfl, Nat.le_of_ble_eq_true rfl⟩) xPre0 rfl rfl hl.1 rfl (lv_room (Nat.le_of_ble_eq_true rfl)) dX10_product_40 ⟨Nat.zero_le _, Nat.zero_le _⟩) ?_
        refine lv_if_ne (tgt := 52) hx hb dX10_product_43 (by decide) (fun c28 => ?_) (fun c28 => ?_)
        · have h := vz_f c28 h
          refine lv_aload_n hx hb dX10_product_52 rfl (lv_at hl 1 rfl) ?_
          refine za_getr (k := 1) hx hb hts hin10 hown hK hP zF_0_1 rfl (Nat.le_of_ble_eq_true rfl) (Or.inl hw1) dX10_product_53 ?_
          refine za_getr (k := 0) hx hb hts hin0 hown hK hP zF_2_0 rfl (Nat.le_of_ble_eq_true rfl) (nw_210 hK.2) dX10_product_56 ?_
          refine za_geti (k := 0) hx hb hts hin6 hown hK hP zF_3_0 rfl (Nat.le_of_ble_eq_true rfl) (nw_52 hK.2) dX10_product_59 ?_
          refine lv_bipush (v := (10 : Int32)) hx hb dX10_product_62 (by decide) ?_
          refine lv_icmp_lt (tgt := 74) hx hb dX10_product_64 (by decide) (fun c29 => ?_) (fun c29 => ?_)
          · have h := vz_t c29 h
            refine lv_aload_n hx hb dX10_product_74 rfl (lv_at hl 1 rfl) ?_
            refine za_getr (k := 1) hx hb hts hin10 hown hK hP zF_0_1 rfl (Nat.le_of_ble_eq_true rfl) (Or.inl hw1) dX10_product_75 ?_
            refine za_getr (k := 0) hx hb hts hin0 hown hK hP zF_2_0 rfl (Nat.le_of_ble_eq_true rfl) (nw_210 hK.2) dX10_product_78 ?_
            refine lv_iload_n hx hb dX10_product_81 rfl (lv_at hl 2 rfl) ?_
            refine lv_iload_n hx hb dX10_product_82 rfl (lv_at hl 3 rfl) ?_
            refine lv_iload_n hx hb dX10_product_83 rfl (lv_at hl 4 rfl) ?_
            obtain ⟨⟨r34, u31, v32⟩, hc30, h⟩ := vz_b h
            try dsimp only at h
            refine za_callWi (va_runVN (As := [.int a1, .int a2, .int a3]) (rest := []) ⟨hx, hb, hml, hown, hts⟩ (k_X6_add l (D := D) (cI := cI) (cJ := cJ) (ad := ad) hD hc30) ⟨va_cnB 3 hts gX10_product_X6_add_n71 rfl rfl rfl (nw_323 hK.2) hw18 zd_X6_add ⟨Nat.le_of_ble_eq_true rfl, Nat.le_of_ble_eq_true rfl⟩, hw17, hw19⟩ (xPreV (ci := 6) hK hP rfl zO_3) rfl rfl hl.1 rfl (lv_room (Nat.le_of_ble_eq_true rfl)) dX10_product_84 ⟨Nat.zero_le _, Nat.zero_le _⟩) hS (fun H locs hP hS => ?_)
            cases h
            exact W.iret hx hb hr (fun t ht _ => ⟨rfl, by rw [ht]; exact hP, hS.F ht⟩) hS.2.2 dX10_product_87
          · have h := vz_f c29 h
            refine lv_aload_n hx hb dX10_product_67 rfl (lv_at hl 1 rfl) ?_
            refine lv_bipush (v := (-3 : Int32)) hx hb dX10_product_68 (by decide) ?_
            obtain ⟨⟨r39, u36, v37⟩, hc35, h⟩ := vz_b h
            try dsimp only at h
            refine za_callWi (va_runV (As := [.int (-3 : Int32)]) (rest := []) ⟨hx, hb, hml, hown, hts⟩ (k_X10_finding l (D := D) (cI := cI) (cJ := cJ) (ad := ad) hD hc35) (cwV 1 hts gX10_product_X10_finding rfl rfl rfl ⟨rfl, zd_X10_finding⟩ ⟨Nat.le_of_ble_eq_true rfl, Nat.le_of_ble_eq_true rfl⟩) (xPreV (ci := 10) hK hP rfl zO_0) rfl rfl hl.1 rfl (lv_room (Nat.le_of_ble_eq_true rfl)) dX10_product_70 ⟨Nat.zero_le _, Nat.zero_le _⟩) hS (fun H locs hP hS => ?_)
            cases h
            exact W.iret hx hb hr (fun t ht _ => ⟨rfl, by rw [ht]; exact hP, hS.F ht⟩) hS.2.2 dX10_product_73
        · have h := vz_t c28 h
          refine lv_aload_n hx hb dX10_product_46 rfl (lv_at hl 1 rfl) ?_
          refine lv_iconst (v := (-1 : Int32)) hx hb dX10_product_47 (by decide) ?_
          obtain ⟨⟨r44, u41, v42⟩, hc40, h⟩ := vz_b h
          try dsimp only at h
          refine za_callWi (va_runV (As := [.int (-1 : Int32)]) (rest := []) ⟨hx, hb, hml, hown, hts⟩ (k_X10_finding l (D := D) (cI := cI) (cJ := cJ) (ad := ad) hD hc40) (cwV 1 hts gX10_product_X10_finding rfl rfl rfl ⟨rfl, zd_X10_finding⟩ ⟨Nat.le_of_ble_eq_true rfl, Nat.le_of_ble_eq_true rfl⟩) (xPreV (ci := 10) hK hP rfl zO_0) rfl rfl hl.1 rfl (lv_room (Nat.le_of_ble_eq_true rfl)) dX10_product_48 ⟨Nat.zero_le _, Nat.zero_le _⟩) hS (fun H locs hP hS => ?_)
          cases h
          exact W.iret hx hb hr (fun t ht _ => ⟨rfl, by rw [ht]; exact hP, hS.F ht⟩) hS.2.2 dX10_product_51
  · have h := vz_t c3 h
    refine lv_aload_n hx hb dX10_product_7 rfl (lv_at hl 0 rfl) ?_
    refine lv_iconst (v := (-1 : Int32)) hx hb dX10_product_8 (by decide) ?_
    obtain ⟨⟨r49, u46, v47⟩, hc45, h⟩ := vz_b h
    try dsimp only at h
    refine za_callWi (va_runV (As := [.int (-1 : Int32)]) (rest := []) ⟨hx, hb, hml, hown, hts⟩ (k_X10_finding l (D := D) (cI := cI) (cJ := cJ) (ad := ad) hD hc45) (cwV 1 hts gX10_product_X10_finding rfl rfl rfl ⟨rfl, zd_X10_finding⟩ ⟨Nat.le_of_ble_eq_true rfl, Nat.le_of_ble_eq_true rfl⟩) (xPreV (ci := 10) hK hP rfl zO_0) rfl rfl hl.1 rfl (lv_room (Nat.le_of_ble_eq_true rfl)) dX10_product_9 ⟨Nat.zero_le _, Nat.zero_le _⟩) hS (fun H locs hP hS => ?_)
    cases h
    exact W.iret hx hb hr (fun t ht _ => ⟨rfl, by rw [ht]; exact hP, hS.F ht⟩) hS.2.2 dX10_product_12
abbrev rmX7_add : Room := { frames := 0, cells := 0, slots := 0, locals := 0 }
set_option maxHeartbeats 4000000 in
set_option maxRecDepth 100000 in
theorem k_X7_add (l : Launch) {D : va_G} {cI cJ : ClassId} {ad : Nat → Nat} {u : tU} {v : tV} {A : Nat → Prop} (hD : zD A cI cJ ad) {a1 : Int32} {a2 : Int32} {a3 : Int32} {a4 : Int32} {a5 : Int32} {a6 : Int32}  {r : Int32} {uz : tU} {vz : tV} (h : pX7_add u v a1 a2 a3 a4 a5 a6 = some (r, uz, vz)) : Met l yX7_add wsX7_add rmX7_add (va_Pc [.ref (ad 24), .int a1, .int a2, .int a3, .int a4, .int a5, .int a6] (xPre D cI cJ (wA cI cJ ad u v))) (xWi D cI cJ ad A r uz vz) 0 0 A := by
  refine Met.ofW (cc := cX7_add) (maxL := 7) (ret := (some .int)) (by decide) rfl ?_
  intro p e s m args below meth c s₁ B hml hv
  obtain ⟨rfl, hP, hK⟩ := hv
  have hx := B.exec
  have hb := B.bytes
  have hr := B.returns
  have hts := atoms_spec (ws := wsX7_add) B.pre
  have hown : s.vm.findClass RX7 = some m.cls := findClass_of_methodNamed B.named
  have hlocks := B.notSynchronized
  have hS : va_S A s.heap s.heap [] := va_S.rf
  have hin7 : ∀ w ∈ u_ws RX7 TX7 7, w ∈ wsX7_add := fun _ h => List.mem_cons_of_mem _ (List.mem_append_right _ h)
  have hw1 := hts (.fieldLink RX7 9 "InstallDesk$Rights" "products" "[I") (List.mem_of_getElem? (i := 1) rfl)
  have hw2 := hts (.fieldLink RX7 30 "InstallDesk$Rights" "count" "I") (List.mem_of_getElem? (i := 2) rfl)
  have hw3 := hts (.fieldLink RX7 15 "InstallDesk$Rights" "versions" "[I") (List.mem_of_getElem? (i := 3) rfl)
  have hw4 := hts (.fieldLink RX7 18 "InstallDesk$Rights" "amounts" "[I") (List.mem_of_getElem? (i := 4) rfl)
  have hw5 := hts (.fieldLink RX7 21 "InstallDesk$Rights" "prices" "[I") (List.mem_of_getElem? (i := 5) rfl)
  have hw6 := hts (.fieldLink RX7 24 "InstallDesk$Rights" "firstDays" "[I") (List.mem_of_getElem? (i := 6) rfl)
  have hw7 := hts (.fieldLink RX7 27 "InstallDesk$Rights" "lastDays" "[I") (List.mem_of_getElem? (i := 7) rfl)
  have hl := lv_entry ([.ref (ad 24), .int a1, .int a2, .int a3, .int a4, .int a5, .int a6]) (n := 7) (Nat.le_of_ble_eq_true rfl)
  rw [lg_entry_eq]
  generalize (lg_sl ([.ref (ad 24), .int a1, .int a2, .int a3, .int a4, .int a5, .int a6]) ++ List.replicate (7 - (lg_sl ([.ref (ad 24), .int a1, .int a2, .int a3, .int a4, .int a5, .int a6])).length) Slot.unset).toArray = ls at hl ⊢
  have hl : lv_has ls 7 [(0, .ref (ad 24)), (1, .int a1), (2, .int a2), (3, .int a3), (4, .int a4), (5, .int a5), (6, .int a6)] := hl
  rw [pX7_add] at h
  refine lv_aload_n hx hb dX7_add_0 rfl (lv_at hl 0 rfl) ?_
  refine za_getr (k := 1) hx hb hts hin7 hown hK hP zF_24_1 rfl (Nat.le_of_ble_eq_true rfl) (Or.inl hw1) dX7_add_1 ?_
  refine lv_aload_n hx hb dX7_add_4 rfl (lv_at hl 0 rfl) ?_
  refine za_geti (k := 0) hx hb hts hin7 hown hK hP zF_24_0 rfl (Nat.le_of_ble_eq_true rfl) (Or.inl hw2) dX7_add_5 ?_
  refine lv_iload_n hx hb dX7_add_8 rfl (lv_at hl 1 rfl) ?_
  obtain ⟨g1, h⟩ := gd_s h
  refine za_ist hx hb hK hP hD hS zI_25 g1 dX7_add_9 (fun H locs hP hS => ?_)
  refine lv_aload_n hx hb dX7_add_10 rfl (lv_at hl 0 rfl) ?_
  refine za_getr (k := 2) hx hb hts hin7 hown hK hP zF_24_2 rfl (Nat.le_of_ble_eq_true rfl) (Or.inl hw3) dX7_add_11 ?_
  refine lv_aload_n hx hb dX7_add_14 rfl (lv_at hl 0 rfl) ?_
  refine za_geti (k := 0) hx hb hts hin7 hown hK hP zF_24_0 rfl (Nat.le_of_ble_eq_true rfl) (Or.inl hw2) dX7_add_15 ?_
  refine lv_iload_n hx hb dX7_add_18 rfl (lv_at hl 2 rfl) ?_
  obtain ⟨g2, h⟩ := gd_s h
  refine za_ist hx hb hK hP hD hS zI_26 g2 dX7_add_19 (fun H locs hP hS => ?_)
  refine lv_aload_n hx hb dX7_add_20 rfl (lv_at hl 0 rfl) ?_
  refine za_getr (k := 3) hx hb hts hin7 hown hK hP zF_24_3 rfl (Nat.le_of_ble_eq_true rfl) (Or.inl hw4) dX7_add_21 ?_
  refine lv_aload_n hx hb dX7_add_24 rfl (lv_at hl 0 rfl) ?_
  refine za_geti (k := 0) hx hb hts hin7 hown hK hP zF_24_0 rfl (Nat.le_of_ble_eq_true rfl) (Or.inl hw2) dX7_add_25 ?_
  refine lv_iload_n hx hb dX7_add_28 rfl (lv_at hl 3 rfl) ?_
  obtain ⟨g3, h⟩ := gd_s h
  refine za_ist hx hb hK hP hD hS zI_27 g3 dX7_add_29 (fun H locs hP hS => ?_)
  refine lv_aload_n hx hb dX7_add_30 rfl (lv_at hl 0 rfl) ?_
  refine za_getr (k := 4) hx hb hts hin7 hown hK hP zF_24_4 rfl (Nat.le_of_ble_eq_true rfl) (Or.inl hw5) dX7_add_31 ?_
  refine lv_aload_n hx hb dX7_add_34 rfl (lv_at hl 0 rfl) ?_
  refine za_geti (k := 0) hx hb hts hin7 hown hK hP zF_24_0 rfl (Nat.le_of_ble_eq_true rfl) (Or.inl hw2) dX7_add_35 ?_
  refine lv_iload hx hb dX7_add_38 (lv_at hl 4 rfl) ?_
  obtain ⟨g4, h⟩ := gd_s h
  refine za_ist hx hb hK hP hD hS zI_28 g4 dX7_add_40 (fun H locs hP hS => ?_)
  refine lv_aload_n hx hb dX7_add_41 rfl (lv_at hl 0 rfl) ?_
  refine za_getr (k := 5) hx hb hts hin7 hown hK hP zF_24_5 rfl (Nat.le_of_ble_eq_true rfl) (Or.inl hw6) dX7_add_42 ?_
  refine lv_aload_n hx hb dX7_add_45 rfl (lv_at hl 0 rfl) ?_
  refine za_geti (k := 0) hx hb hts hin7 hown hK hP zF_24_0 rfl (Nat.le_of_ble_eq_true rfl) (Or.inl hw2) dX7_add_46 ?_
  refine lv_iload hx hb dX7_add_49 (lv_at hl 5 rfl) ?_
  obtain ⟨g5, h⟩ := gd_s h
  refine za_ist hx hb hK hP hD hS zI_29 g5 dX7_add_51 (fun H locs hP hS => ?_)
  refine lv_aload_n hx hb dX7_add_52 rfl (lv_at hl 0 rfl) ?_
  refine za_getr (k := 6) hx hb hts hin7 hown hK hP zF_24_6 rfl (Nat.le_of_ble_eq_true rfl) (Or.inl hw7) dX7_add_53 ?_
  refine lv_aload_n hx hb dX7_add_56 rfl (lv_at hl 0 rfl) ?_
  refine za_geti (k := 0) hx hb hts hin7 hown hK hP zF_24_0 rfl (Nat.le_of_ble_eq_true rfl) (Or.inl hw2) dX7_add_57 ?_
  refine lv_iload hx hb dX7_add_60 (lv_at hl 6 rfl) ?_
  obtain ⟨g6, h⟩ := gd_s h
  refine za_ist hx hb hK hP hD hS zI_30 g6 dX7_add_62 (fun H locs hP hS => ?_)
  refine lv_aload_n hx hb dX7_add_63 rfl (lv_at hl 0 rfl) ?_
  refine lv_dup hx hb dX7_add_64 rfl ?_
  refine za_geti (k := 0) hx hb hts hin7 hown hK hP zF_24_0 rfl (Nat.le_of_ble_eq_true rfl) (Or.inl hw2) dX7_add_65 ?_
  refine lv_iconst (v := (1 : Int32)) hx hb dX7_add_68 (by decide) ?_
  refine lv_iadd hx hb dX7_add_69 ?_
  refine za_puti (k := 0) hx hb hts hin7 tyX7 tyX7_ok nmX7 hown hK hP hD hS zF_24_0 rfl (Nat.le_of_ble_eq_true rfl) (Or.inl hw2) rfl rfl rfl dX7_add_70 (fun H locs hP hS => ?_)
  refine lv_aload_n hx hb dX7_add_73 rfl (lv_at hl 0 rfl) ?_
  refine za_geti (k := 0) hx hb hts hin7 hown hK hP zF_24_0 rfl (Nat.le_of_ble_eq_true rfl) (Or.inl hw2) dX7_add_74 ?_
  refine lv_iconst (v := (1 : Int32)) hx hb dX7_add_77 (by decide) ?_
  refine lv_isub hx hb dX7_add_78 ?_
  cases h
  exact W.iret hx hb hr (fun t ht _ => ⟨rfl, by rw [ht]; exact hP, hS.F ht⟩) hS.2.2 dX7_add_79
abbrev rmX10_right : Room := { frames := 2, cells := 0, slots := 0, locals := 42 }
set_option maxHeartbeats 4000000 in
set_option maxRecDepth 100000 in
theorem k_X10_right (l : Launch) {D : va_G} {cI cJ : ClassId} {ad : Nat → Nat} {u : tU} {v : tV} {A : Nat → Prop} (hD : zD A cI cJ ad) {a1 : Int32} {a2 : Int32} {a3 : Int32} {a4 : Int32} {a5 : Int32} {a6 : Int32}  {r : Int32} {uz : tU} {vz : tV} (h : pX10_right u v a1 a2 a3 a4 a5 a6 = some (r, uz, vz)) : Met l yX10_right wsX10_right rmX10_right (va_Pc [.ref (ad 0), .int a1, .int a2, .int a3, .int a4, .int a5, .int a6] (xPre D cI cJ (wA cI cJ ad u v))) (xWi D cI cJ ad A r uz vz) 0 0 A := by
  refine Met.ofW (cc := cX10_right) (maxL := 8) (ret := (some .int)) (by decide) rfl ?_
  intro p e s m args below meth c s₁ B hml hv
  obtain ⟨rfl, hP, hK⟩ := hv
  have hx := B.exec
  have hb := B.bytes
  have hr := B.returns
  have hts := atoms_spec (ws := wsX10_right) B.pre
  have hown : s.vm.findClass RX10 = some m.cls := findClass_of_methodNamed B.named
  have hlocks := B.notSynchronized
  have hS : va_S A s.heap s.heap [] := va_S.rf
  have hin0 : ∀ w ∈ u_ws RX0 TX0 8, w ∈ wsX10_right := fun _ h => List.mem_cons_of_mem _ (List.mem_append_left _ (List.mem_append_left _ (List.mem_append_right _ h)))
  have hin7 : ∀ w ∈ u_ws RX7 TX7 7, w ∈ wsX10_right := fun _ h => List.mem_cons_of_mem _ (List.mem_append_left _ (List.mem_append_right _ h))
  have hin10 : ∀ w ∈ u_ws RX10 TX10 7, w ∈ wsX10_right := fun _ h => List.mem_cons_of_mem _ (List.mem_append_left _ (List.mem_append_left _ (List.mem_append_left _ (List.mem_append_right _ h))))
  have hw1 := hts (.fieldLink RX10 19 "InstallDesk" "books" "LInstallDesk$Books;") (List.mem_of_getElem? (i := 1) rfl)
  have hw9 := hts (.instanceMethod yX6_isOne) (List.mem_of_getElem? (i := 9) rfl)
  have hw10 := hts (.initialized RX6) (List.mem_of_getElem? (i := 10) rfl)
  have hw11 := hts (.selects RX6 yX6_isOne yX6_isOne) (List.mem_of_getElem? (i := 11) rfl)
  have hw22 := hts (.instanceMethod yX7_add) (List.mem_of_getElem? (i := 22) rfl)
  have hw23 := hts (.initialized RX7) (List.mem_of_getElem? (i := 23) rfl)
  have hw24 := hts (.selects RX7 yX7_add yX7_add) (List.mem_of_getElem? (i := 24) rfl)
  have hl := lv_entry ([.ref (ad 0), .int a1, .int a2, .int a3, .int a4, .int a5, .int a6]) (n := 8) (Nat.le_of_ble_eq_true rfl)
  rw [lg_entry_eq]
  generalize (lg_sl ([.ref (ad 0), .int a1, .int a2, .int a3, .int a4, .int a5, .int a6]) ++ List.replicate (8 - (lg_sl ([.ref (ad 0), .int a1, .int a2, .int a3, .int a4, .int a5, .int a6])).length) Slot.unset).toArray = ls at hl ⊢
  have hl : lv_has ls 8 [(0, .ref (ad 0)), (1, .int a1), (2, .int a2), (3, .int a3), (4, .int a4), (5, .int a5), (6, .int a6)] := hl
  rw [pX10_right] at h
  refine lv_iload hx hb dX10_right_0 (lv_at hl 5 rfl) ?_
  obtain ⟨r2, hc1, h⟩ := vz_b h
  refine za_callR (va_runS (As := [.int a5]) (rest := []) ⟨hx, hb, hml, hown, hts⟩ (k_X10_isDay l hc1) (va_cwS 1 hts gX10_right_X10_isDay rfl rfl rfl zd_X10_isDay ⟨Nat.le_of_ble_eq_true rfl, Nat.le_of_ble_eq_true rfl⟩) xPre0 rfl rfl hl.1 rfl (lv_room (Nat.le_of_ble_eq_true rfl)) dX10_right_2 ⟨Nat.zero_le _, Nat.zero_le _⟩) ?_
  refine lv_if_eq (tgt := 27) hx hb dX10_right_5 (by decide) (fun c3 => ?_) (fun c3 => ?_)
  · have h := vz_t c3 h
    refine lv_iconst (v := (0 : Int32)) hx hb dX10_right_27 (by decide) ?_
    refine lv_istore (lv' := [(7, .int (0 : Int32)), (0, .ref (ad 0)), (1, .int a1), (2, .int a2), (3, .int a3), (4, .int a4), (5, .int a5), (6, .int a6)]) hx hb dX10_right_28 hl (by decide) rfl (fun ls hl => ?_)
    refine lv_aload_n hx hb dX10_right_30 rfl (lv_at hl 1 rfl) ?_
    refine za_getr (k := 1) hx hb hts hin10 hown hK hP zF_0_1 rfl (Nat.le_of_ble_eq_true rfl) (Or.inl hw1) dX10_right_31 ?_
    refine za_getr (k := 0) hx hb hts hin0 hown hK hP zF_2_0 rfl (Nat.le_of_ble_eq_true rfl) (nw_210 hK.2) dX10_right_34 ?_
    refine lv_iload_n hx hb dX10_right_37 rfl (lv_at hl 2 rfl) ?_
    obtain ⟨r5, hc4, h⟩ := vz_b h
    refine za_callR (va_runVN (As := [.int a1]) (rest := []) ⟨hx, hb, hml, hown, hts⟩ (k_X6_isOne l (D := D) (cI := cI) (cJ := cJ) (ad := ad) hc4) ⟨va_cnB 1 hts gX10_right_X6_isOne_n74 rfl rfl rfl (nw_331 hK.2) hw10 zd_X6_isOne ⟨Nat.le_of_ble_eq_true rfl, Nat.le_of_ble_eq_true rfl⟩, hw9, hw11⟩ (xPreV (ci := 6) hK hP rfl zO_3) rfl rfl hl.1 rfl (lv_room (Nat.le_of_ble_eq_true rfl)) dX10_right_38 ⟨Nat.zero_le _, Nat.zero_le _⟩) ?_
    refine lv_if_eq (tgt := 56) hx hb dX10_right_41 (by decide) (fun c6 => ?_) (fun c6 => ?_)
    · have h := vz_t c6 h
      refine lv_aload_n hx hb dX10_right_56 rfl (lv_at hl 1 rfl) ?_
      refine lv_iconst (v := (-1 : Int32)) hx hb dX10_right_57 (by decide) ?_
      obtain ⟨⟨r11, u8, v9⟩, hc7, h⟩ := vz_b h
      try dsimp only at h
      refine za_callWi (va_runV (As := [.int (-1 : Int32)]) (rest := []) ⟨hx, hb, hml, hown, hts⟩ (k_X10_finding l (D := D) (cI := cI) (cJ := cJ) (ad := ad) hD hc7) (cwV 1 hts gX10_right_X10_finding rfl rfl rfl ⟨rfl, zd_X10_finding⟩ ⟨Nat.le_of_ble_eq_true rfl, Nat.le_of_ble_eq_true rfl⟩) (xPreV (ci := 10) hK hP rfl zO_0) rfl rfl hl.1 rfl (lv_room (Nat.le_of_ble_eq_true rfl)) dX10_right_58 ⟨Nat.zero_le _, Nat.zero_le _⟩) hS (fun H locs hP hS => ?_)
      cases h
      exact W.iret hx hb hr (fun t ht _ => ⟨rfl, by rw [ht]; exact hP, hS.F ht⟩) hS.2.2 dX10_right_61
    · have h := vz_f c6 h
      refine lv_iload_n hx hb dX10_right_44 rfl (lv_at hl 3 rfl) ?_
      obtain ⟨r13, hc12, h⟩ := vz_b h
      refine za_callR (va_runS (As := [.int a2]) (rest := []) ⟨hx, hb, hml, hown, hts⟩ (k_X10_isVersion l hc12) (va_cwS 1 hts gX10_right_X10_isVersion rfl rfl rfl zd_X10_isVersion ⟨Nat.le_of_ble_eq_true rfl, Nat.le_of_ble_eq_true rfl⟩) xPre0 rfl rfl hl.1 rfl (lv_room (Nat.le_of_ble_eq_true rfl)) dX10_right_45 ⟨Nat.zero_le _, Nat.zero_le _⟩) ?_
      refine lv_if_eq (tgt := 56) hx hb dX10_right_48 (by decide) (fun c14 => ?_) (fun c14 => ?_)
      · have h := vz_t c14 h
        refine lv_aload_n hx hb dX10_right_56 rfl (lv_at hl 1 rfl) ?_
        refine lv_iconst (v := (-1 : Int32)) hx hb dX10_right_57 (by decide) ?_
        obtain ⟨⟨r19, u16, v17⟩, hc15, h⟩ := vz_b h
        try dsimp only at h
        refine za_callWi (va_runV (As := [.int (-1 : Int32)]) (rest := []) ⟨hx, hb, hml, hown, hts⟩ (k_X10_finding l (D := D) (cI := cI) (cJ := cJ) (ad := ad) hD hc15) (cwV 1 hts gX10_right_X10_finding rfl rfl rfl ⟨rfl, zd_X10_finding⟩ ⟨Nat.le_of_ble_eq_true rfl, Nat.le_of_ble_eq_true rfl⟩) (xPreV (ci := 10) hK hP rfl zO_0) rfl rfl hl.1 rfl (lv_room (Nat.le_of_ble_eq_true rfl)) dX10_right_58 ⟨Nat.zero_le _, Nat.zero_le _⟩) hS (fun H locs hP hS => ?_)
        cases h
        exact W.iret hx hb hr (fun t ht _ => ⟨rfl, by rw [ht]; exact hP, hS.F ht⟩) hS.2.2 dX10_right_61
      · have h := vz_f c14 h
        refine lv_iload hx hb dX10_right_51 (lv_at hl 0 rfl) ?_
        refine lv_if_ne (tgt := 62) hx hb dX10_right_53 (by decide) (fun c20 => ?_) (fun c20 => ?_)
        · exact absurd c20 (by decide)
        refine lv_aload_n hx hb dX10_right_56 rfl (lv_at hl 1 rfl) ?_
        refine lv_iconst (v := (-1 : Int32)) hx hb dX10_right_57 (by decide) ?_
        obtain ⟨⟨r25, u22, v23⟩, hc21, h⟩ := vz_b h
        try dsimp only at h
        refine za_callWi (va_runV (As := [.int (-1 : Int32)]) (rest := []) ⟨hx, hb, hml, hown, hts⟩ (k_X10_finding l (D := D) (cI := cI) (cJ := cJ) (ad := ad) hD hc21) (cwV 1 hts gX10_right_X10_finding rfl rfl rfl ⟨rfl, zd_X10_finding⟩ ⟨Nat.le_of_ble_eq_true rfl, Nat.le_of_ble_eq_true rfl⟩) (xPreV (ci := 10) hK hP rfl zO_0) rfl rfl hl.1 rfl (lv_room (Nat.le_of_ble_eq_true rfl)) dX10_right_58 ⟨Nat.zero_le _, Nat.zero_le _⟩) hS (fun H locs hP hS => ?_)
        cases h
        exact W.iret hx hb hr (fun t ht _ => ⟨rfl, by rw [ht]; exact hP, hS.F ht⟩) hS.2.2 dX10_right_61
  · have h := vz_f c3 h
    refine lv_iload hx hb dX10_right_8 (lv_at hl 6 rfl) ?_
    obtain ⟨r27, hc26, h⟩ := vz_b h
    refine za_callR (va_runS (As := [.int a6]) (rest := []) ⟨hx, hb, hml, hown, hts⟩ (k_X10_isDay l hc26) (va_cwS 1 hts gX10_right_X10_isDay rfl rfl rfl zd_X10_isDay ⟨Nat.le_of_ble_eq_true rfl, Nat.le_of_ble_eq_true rfl⟩) xPre0 rfl rfl hl.1 rfl (lv_room (Nat.le_of_ble_eq_true rfl)) dX10_right_10 ⟨Nat.zero_le _, Nat.zero_le _⟩) ?_
    refine lv_if_eq (tgt := 27) hx hb dX10_right_13 (by decide) (fun c28 => ?_) (fun c28 => ?_)
    · have h := vz_t c28 h
      refine lv_iconst (v := (0 : Int32)) hx hb dX10_right_27 (by decide) ?_
      refine lv_istore (lv' := [(7, .int (0 : Int32)), (0, .ref (ad 0)), (1, .int a1), (2, .int a2), (3, .int a3), (4, .int a4), (5, .int a5), (6, .int a6)]) hx hb dX10_right_28 hl (by decide) rfl (fun ls hl => ?_)
      refine lv_aload_n hx hb dX10_right_30 rfl (lv_at hl 1 rfl) ?_
      refine za_getr (k := 1) hx hb hts hin10 hown hK hP zF_0_1 rfl (Nat.le_of_ble_eq_true rfl) (Or.inl hw1) dX10_right_31 ?_
      refine za_getr (k := 0) hx hb hts hin0 hown hK hP zF_2_0 rfl (Nat.le_of_ble_eq_true rfl) (nw_210 hK.2) dX10_right_34 ?_
      refine lv_iload_n hx hb dX10_right_37 rfl (lv_at hl 2 rfl) ?_
      obtain ⟨r30, hc29, h⟩ := vz_b h
      refine za_callR (va_runVN (As := [.int a1]) (rest := []) ⟨hx, hb, hml, hown, hts⟩ (k_X6_isOne l (D := D) (cI := cI) (cJ := cJ) (ad := ad) hc29) ⟨va_cnB 1 hts gX10_right_X6_isOne_n74 rfl rfl rfl (nw_331 hK.2) hw10 zd_X6_isOne ⟨Nat.le_of_ble_eq_true rfl, Nat.le_of_ble_eq_true rfl⟩, hw9, hw11⟩ (xPreV (ci := 6) hK hP rfl zO_3) rfl rfl hl.1 rfl (lv_room (Nat.le_of_ble_eq_true rfl)) dX10_right_38 ⟨Nat.zero_le _, Nat.zero_le _⟩) ?_
      refine lv_if_eq (tgt := 56) hx hb dX10_right_41 (by decide) (fun c31 => ?_) (fun c31 => ?_)
      · have h := vz_t c31 h
        refine lv_aload_n hx hb dX10_right_56 rfl (lv_at hl 1 rfl) ?_
        refine lv_iconst (v := (-1 : Int32)) hx hb dX10_right_57 (by decide) ?_
        obtain ⟨⟨r36, u33, v34⟩, hc32, h⟩ := vz_b h
        try dsimp only at h
        refine za_callWi (va_runV (As := [.int (-1 : Int32)]) (rest := []) ⟨hx, hb, hml, hown, hts⟩ (k_X10_finding l (D := D) (cI := cI) (cJ := cJ) (ad := ad) hD hc32) (cwV 1 hts gX10_right_X10_finding rfl rfl rfl ⟨rfl, zd_X10_finding⟩ ⟨Nat.le_of_ble_eq_true rfl, Nat.le_of_ble_eq_true rfl⟩) (xPreV (ci := 10) hK hP rfl zO_0) rfl rfl hl.1 rfl (lv_room (Nat.le_of_ble_eq_true rfl)) dX10_right_58 ⟨Nat.zero_le _, Nat.zero_le _⟩) hS (fun H locs hP hS => ?_)
        cases h
        exact W.iret hx hb hr (fun t ht _ => ⟨rfl, by rw [ht]; exact hP, hS.F ht⟩) hS.2.2 dX10_right_61
      · have h := vz_f c31 h
        refine lv_iload_n hx hb dX10_right_44 rfl (lv_at hl 3 rfl) ?_
        obtain ⟨r38, hc37, h⟩ := vz_b h
        refine za_callR (va_runS (As := [.int a2]) (rest := []) ⟨hx, hb, hml, hown, hts⟩ (k_X10_isVersion l hc37) (va_cwS 1 hts gX10_right_X10_isVersion rfl rfl rfl zd_X10_isVersion ⟨Nat.le_of_ble_eq_true rfl, Nat.le_of_ble_eq_true rfl⟩) xPre0 rfl rfl hl.1 rfl (lv_room (Nat.le_of_ble_eq_true rfl)) dX10_right_45 ⟨Nat.zero_le _, Nat.zero_le _⟩) ?_
        refine lv_if_eq (tgt := 56) hx hb dX10_right_48 (by decide) (fun c39 => ?_) (fun c39 => ?_)
        · have h := vz_t c39 h
          refine lv_aload_n hx hb dX10_right_56 rfl (lv_at hl 1 rfl) ?_
          refine lv_iconst (v := (-1 : Int32)) hx hb dX10_right_57 (by decide) ?_
          obtain ⟨⟨r44, u41, v42⟩, hc40, h⟩ := vz_b h
          try dsimp only at h
          refine za_callWi (va_runV (As := [.int (-1 : Int32)]) (rest := []) ⟨hx, hb, hml, hown, hts⟩ (k_X10_finding l (D := D) (cI := cI) (cJ := cJ) (ad := ad) hD hc40) (cwV 1 hts gX10_right_X10_finding rfl rfl rfl ⟨rfl, zd_X10_finding⟩ ⟨Nat.le_of_ble_eq_true rfl, Nat.le_of_ble_eq_true rfl⟩) (xPreV (ci := 10) hK hP rfl zO_0) rfl rfl hl.1 rfl (lv_room (Nat.le_of_ble_eq_true rfl)) dX10_right_58 ⟨Nat.zero_le _, Nat.zero_le _⟩) hS (fun H locs hP hS => ?_)
          cases h
          exact W.iret hx hb hr (fun t ht _ => ⟨rfl, by rw [ht]; exact hP, hS.F ht⟩) hS.2.2 dX10_right_61
        · have h := vz_f c39 h
          refine lv_iload hx hb dX10_right_51 (lv_at hl 0 rfl) ?_
          refine lv_if_ne (tgt := 62) hx hb dX10_right_53 (by decide) (fun c45 => ?_) (fun c45 => ?_)
          · exact absurd c45 (by decide)
          refine lv_aload_n hx hb dX10_right_56 rfl (lv_at hl 1 rfl) ?_
          refine lv_iconst (v := (-1 : Int32)) hx hb dX10_right_57 (by decide) ?_
          obtain ⟨⟨r50, u47, v48⟩, hc46, h⟩ := vz_b h
          try dsimp only at h
          refine za_callWi (va_runV (As := [.int (-1 : Int32)]) (rest := []) ⟨hx, hb, hml, hown, hts⟩ (k_X10_finding l (D := D) (cI := cI) (cJ := cJ) (ad := ad) hD hc46) (cwV 1 hts gX10_right_X10_finding rfl rfl rfl ⟨rfl, zd_X10_finding⟩ ⟨Nat.le_of_ble_eq_true rfl, Nat.le_of_ble_eq_true rfl⟩) (xPreV (ci := 10) hK hP rfl zO_0) rfl rfl hl.1 rfl (lv_room (Nat.le_of_ble_eq_true rfl)) dX10_right_58 ⟨Nat.zero_le _, Nat.zero_le _⟩) hS (fun H locs hP hS => ?_)
          cases h
          exact W.iret hx hb hr (fun t ht _ => ⟨rfl, by rw [ht]; exact hP, hS.F ht⟩) hS.2.2 dX10_right_61
    · have h := vz_f c28 h
      refine lv_iload hx hb dX10_right_16 (lv_at hl 5 rfl) ?_
      refine lv_iload hx hb dX10_right_18 (lv_at hl 6 rfl) ?_
      refine lv_icmp_gt (tgt := 27) hx hb dX10_right_20 (by decide) (fun c51 => ?_) (fun c51 => ?_)
      · have h := vz_t c51 h
        refine lv_iconst (v := (0 : Int32)) hx hb dX10_right_27 (by decide) ?_
        refine lv_istore (lv' := [(7, .int (0 : Int32)), (0, .ref (ad 0)), (1, .int a1), (2, .int a2), (3, .int a3), (4, .int a4), (5, .int a5), (6, .int a6)]) hx hb dX10_right_28 hl (by decide) rfl (fun ls hl => ?_)
        refine lv_aload_n hx hb dX10_right_30 rfl (lv_at hl 1 rfl) ?_
        refine za_getr (k := 1) hx hb hts hin10 hown hK hP zF_0_1 rfl (Nat.le_of_ble_eq_true rfl) (Or.inl hw1) dX10_right_31 ?_
        refine za_getr (k := 0) hx hb hts hin0 hown hK hP zF_2_0 rfl (Nat.le_of_ble_eq_true rfl) (nw_210 hK.2) dX10_right_34 ?_
        refine lv_iload_n hx hb dX10_right_37 rfl (lv_at hl 2 rfl) ?_
        obtain ⟨r53, hc52, h⟩ := vz_b h
        refine za_callR (va_runVN (As := [.int a1]) (rest := []) ⟨hx, hb, hml, hown, hts⟩ (k_X6_isOne l (D := D) (cI := cI) (cJ := cJ) (ad := ad) hc52) ⟨va_cnB 1 hts gX10_right_X6_isOne_n74 rfl rfl rfl (nw_331 hK.2) hw10 zd_X6_isOne ⟨Nat.le_of_ble_eq_true rfl, Nat.le_of_ble_eq_true rfl⟩, hw9, hw11⟩ (xPreV (ci := 6) hK hP rfl zO_3) rfl rfl hl.1 rfl (lv_room (Nat.le_of_ble_eq_true rfl)) dX10_right_38 ⟨Nat.zero_le _, Nat.zero_le _⟩) ?_
        refine lv_if_eq (tgt := 56) hx hb dX10_right_41 (by decide) (fun c54 => ?_) (fun c54 => ?_)
        · have h := vz_t c54 h
          refine lv_aload_n hx hb dX10_right_56 rfl (lv_at hl 1 rfl) ?_
          refine lv_iconst (v := (-1 : Int32)) hx hb dX10_right_57 (by decide) ?_
          obtain ⟨⟨r59, u56, v57⟩, hc55, h⟩ := vz_b h
          try dsimp only at h
          refine za_callWi (va_runV (As := [.int (-1 : Int32)]) (rest := []) ⟨hx, hb, hml, hown, hts⟩ (k_X10_finding l (D := D) (cI := cI) (cJ := cJ) (ad := ad) hD hc55) (cwV 1 hts gX10_right_X10_finding rfl rfl rfl ⟨rfl, zd_X10_finding⟩ ⟨Nat.le_of_ble_eq_true rfl, Nat.le_of_ble_eq_true rfl⟩) (xPreV (ci := 10) hK hP rfl zO_0) rfl rfl hl.1 rfl (lv_room (Nat.le_of_ble_eq_true rfl)) dX10_right_58 ⟨Nat.zero_le _, Nat.zero_le _⟩) hS (fun H locs hP hS => ?_)
          cases h
          exact W.iret hx hb hr (fun t ht _ => ⟨rfl, by rw [ht]; exact hP, hS.F ht⟩) hS.2.2 dX10_right_61
        · have h := vz_f c54 h
          refine lv_iload_n hx hb dX10_right_44 rfl (lv_at hl 3 rfl) ?_
          obtain ⟨r61, hc60, h⟩ := vz_b h
          refine za_callR (va_runS (As := [.int a2]) (rest := []) ⟨hx, hb, hml, hown, hts⟩ (k_X10_isVersion l hc60) (va_cwS 1 hts gX10_right_X10_isVersion rfl rfl rfl zd_X10_isVersion ⟨Nat.le_of_ble_eq_true rfl, Nat.le_of_ble_eq_true rfl⟩) xPre0 rfl rfl hl.1 rfl (lv_room (Nat.le_of_ble_eq_true rfl)) dX10_right_45 ⟨Nat.zero_le _, Nat.zero_le _⟩) ?_
          refine lv_if_eq (tgt := 56) hx hb dX10_right_48 (by decide) (fun c62 => ?_) (fun c62 => ?_)
          · have h := vz_t c62 h
            refine lv_aload_n hx hb dX10_right_56 rfl (lv_at hl 1 rfl) ?_
            refine lv_iconst (v := (-1 : Int32)) hx hb dX10_right_57 (by decide) ?_
            obtain ⟨⟨r67, u64, v65⟩, hc63, h⟩ := vz_b h
            try dsimp only at h
            refine za_callWi (va_runV (As := [.int (-1 : Int32)]) (rest := []) ⟨hx, hb, hml, hown, hts⟩ (k_X10_finding l (D := D) (cI := cI) (cJ := cJ) (ad := ad) hD hc63) (cwV 1 hts gX10_right_X10_finding rfl rfl rfl ⟨rfl, zd_X10_finding⟩ ⟨Nat.le_of_ble_eq_true rfl, Nat.le_of_ble_eq_true rfl⟩) (xPreV (ci := 10) hK hP rfl zO_0) rfl rfl hl.1 rfl (lv_room (Nat.le_of_ble_eq_true rfl)) dX10_right_58 ⟨Nat.zero_le _, Nat.zero_le _⟩) hS (fun H locs hP hS => ?_)
            cases h
            exact W.iret hx hb hr (fun t ht _ => ⟨rfl, by rw [ht]; exact hP, hS.F ht⟩) hS.2.2 dX10_right_61
          · have h := vz_f c62 h
            refine lv_iload hx hb dX10_right_51 (lv_at hl 0 rfl) ?_
            refine lv_if_ne (tgt := 62) hx hb dX10_right_53 (by decide) (fun c68 => ?_) (fun c68 => ?_)
            · exact absurd c68 (by decide)
            refine lv_aload_n hx hb dX10_right_56 rfl (lv_at hl 1 rfl) ?_
            refine lv_iconst (v := (-1 : Int32)) hx hb dX10_right_57 (by decide) ?_
            obtain ⟨⟨r73, u70, v71⟩, hc69, h⟩ := vz_b h
            try dsimp only at h
            refine za_callWi (va_runV (As := [.int (-1 : Int32)]) (rest := []) ⟨hx, hb, hml, hown, hts⟩ (k_X10_finding l (D := D) (cI := cI) (cJ := cJ) (ad := ad) hD hc69) (cwV 1 hts gX10_right_X10_finding rfl rfl rfl ⟨rfl, zd_X10_finding⟩ ⟨Nat.le_of_ble_eq_true rfl, Nat.le_of_ble_eq_true rfl⟩) (xPreV (ci := 10) hK hP rfl zO_0) rfl rfl hl.1 rfl (lv_room (Nat.le_of_ble_eq_true rfl)) dX10_right_58 ⟨Nat.zero_le _, Nat.zero_le _⟩) hS (fun H locs hP hS => ?_)
            cases h
            exact W.iret hx hb hr (fun t ht _ => ⟨rfl, by rw [ht]; exact hP, hS.F ht⟩) hS.2.2 dX10_right_61
      · have h := vz_f c51 h
        refine lv_iconst (v := (1 : Int32)) hx hb dX10_right_23 (by decide) ?_
        refine lv_goto (tgt := 28) hx hb dX10_right_24 (by decide) ?_
        refine lv_istore (lv' := [(7, .int (1 : Int32)), (0, .ref (ad 0)), (1, .int a1), (2, .int a2), (3, .int a3), (4, .int a4), (5, .int a5), (6, .int a6)]) hx hb dX10_right_28 hl (by decide) rfl (fun ls hl => ?_)
        refine lv_aload_n hx hb dX10_right_30 rfl (lv_at hl 1 rfl) ?_
        refine za_getr (k := 1) hx hb hts hin10 hown hK hP zF_0_1 rfl (Nat.le_of_ble_eq_true rfl) (Or.inl hw1) dX10_right_31 ?_
        refine za_getr (k := 0) hx hb hts hin0 hown hK hP zF_2_0 rfl (Nat.le_of_ble_eq_true rfl) (nw_210 hK.2) dX10_right_34 ?_
        refine lv_iload_n hx hb dX10_right_37 rfl (lv_at hl 2 rfl) ?_
        obtain ⟨r75, hc74, h⟩ := vz_b h
        refine za_callR (va_runVN (As := [.int a1]) (rest := []) ⟨hx, hb, hml, hown, hts⟩ (k_X6_isOne l (D := D) (cI := cI) (cJ := cJ) (ad := ad) hc74) ⟨va_cnB 1 hts gX10_right_X6_isOne_n74 rfl rfl rfl (nw_331 hK.2) hw10 zd_X6_isOne ⟨Nat.le_of_ble_eq_true rfl, Nat.le_of_ble_eq_true rfl⟩, hw9, hw11⟩ (xPreV (ci := 6) hK hP rfl zO_3) rfl rfl hl.1 rfl (lv_room (Nat.le_of_ble_eq_true rfl)) dX10_right_38 ⟨Nat.zero_le _, Nat.zero_le _⟩) ?_
        refine lv_if_eq (tgt := 56) hx hb dX10_right_41 (by decide) (fun c76 => ?_) (fun c76 => ?_)
        · have h := vz_t c76 h
          refine lv_aload_n hx hb dX10_right_56 rfl (lv_at hl 1 rfl) ?_
          refine lv_iconst (v := (-1 : Int32)) hx hb dX10_right_57 (by decide) ?_
          obtain ⟨⟨r81, u78, v79⟩, hc77, h⟩ := vz_b h
          try dsimp only at h
          refine za_callWi (va_runV (As := [.int (-1 : Int32)]) (rest := []) ⟨hx, hb, hml, hown, hts⟩ (k_X10_finding l (D := D) (cI := cI) (cJ := cJ) (ad := ad) hD hc77) (cwV 1 hts gX10_right_X10_finding rfl rfl rfl ⟨rfl, zd_X10_finding⟩ ⟨Nat.le_of_ble_eq_true rfl, Nat.le_of_ble_eq_true rfl⟩) (xPreV (ci := 10) hK hP rfl zO_0) rfl rfl hl.1 rfl (lv_room (Nat.le_of_ble_eq_true rfl)) dX10_right_58 ⟨Nat.zero_le _, Nat.zero_le _⟩) hS (fun H locs hP hS => ?_)
          cases h
          exact W.iret hx hb hr (fun t ht _ => ⟨rfl, by rw [ht]; exact hP, hS.F ht⟩) hS.2.2 dX10_right_61
        · have h := vz_f c76 h
          refine lv_iload_n hx hb dX10_right_44 rfl (lv_at hl 3 rfl) ?_
          obtain ⟨r83, hc82, h⟩ := vz_b h
          refine za_callR (va_runS (As := [.int a2]) (rest := []) ⟨hx, hb, hml, hown, hts⟩ (k_X10_isVersion l hc82) (va_cwS 1 hts gX10_right_X10_isVersion rfl rfl rfl zd_X10_isVersion ⟨Nat.le_of_ble_eq_true rfl, Nat.le_of_ble_eq_true rfl⟩) xPre0 rfl rfl hl.1 rfl (lv_room (Nat.le_of_ble_eq_true rfl)) dX10_right_45 ⟨Nat.zero_le _, Nat.zero_le _⟩) ?_
          refine lv_if_eq (tgt := 56) hx hb dX10_right_48 (by decide) (fun c84 => ?_) (fun c84 => ?_)
          · have h := vz_t c84 h
            refine lv_aload_n hx hb dX10_right_56 rfl (lv_at hl 1 rfl) ?_
            refine lv_iconst (v := (-1 : Int32)) hx hb dX10_right_57 (by decide) ?_
            obtain ⟨⟨r89, u86, v87⟩, hc85, h⟩ := vz_b h
            try dsimp only at h
            refine za_callWi (va_runV (As := [.int (-1 : Int32)]) (rest := []) ⟨hx, hb, hml, hown, hts⟩ (k_X10_finding l (D := D) (cI := cI) (cJ := cJ) (ad := ad) hD hc85) (cwV 1 hts gX10_right_X10_finding rfl rfl rfl ⟨rfl, zd_X10_finding⟩ ⟨Nat.le_of_ble_eq_true rfl, Nat.le_of_ble_eq_true rfl⟩) (xPreV (ci := 10) hK hP rfl zO_0) rfl rfl hl.1 rfl (lv_room (Nat.le_of_ble_eq_true rfl)) dX10_right_58 ⟨Nat.zero_le _, Nat.zero_le _⟩) hS (fun H locs hP hS => ?_)
            cases h
            exact W.iret hx hb hr (fun t ht _ => ⟨rfl, by rw [ht]; exact hP, hS.F ht⟩) hS.2.2 dX10_right_61
          · have h := vz_f c84 h
            refine lv_iload hx hb dX10_right_51 (lv_at hl 0 rfl) ?_
            refine lv_if_ne (tgt := 62) hx hb dX10_right_53 (by decide) (fun c90 => ?_) (fun c90 => ?_)
            rotate_left
            · exact absurd c90 (by decide)
            refine lv_iload_n hx hb dX10_right_62 rfl (lv_at hl 4 rfl) ?_
            refine lv_iconst (v := (0 : Int32)) hx hb dX10_right_63 (by decide) ?_
            refine lv_bipush (v := (40 : Int32)) hx hb dX10_right_64 (by decide) ?_
            obtain ⟨r92, hc91, h⟩ := vz_b h
            refine za_callR (va_runS (As := [.int a3, .int (0 : Int32), .int (40 : Int32)]) (rest := []) ⟨hx, hb, hml, hown, hts⟩ (k_X10_isWithin l hc91) (va_cwS 3 hts gX10_right_X10_isWithin rfl rfl rfl zd_X10_isWithin ⟨Nat.le_of_ble_eq_true rfl, Nat.le_of_ble_eq_true rfl⟩) xPre0 rfl rfl hl.1 rfl (lv_room (Nat.le_of_ble_eq_true rfl)) dX10_right_66 ⟨Nat.zero_le _, Nat.zero_le _⟩) ?_
            refine lv_if_eq (tgt := 84) hx hb dX10_right_69 (by decide) (fun c93 => ?_) (fun c93 => ?_)
            · have h := vz_t c93 h
              refine lv_aload_n hx hb dX10_right_84 rfl (lv_at hl 1 rfl) ?_
              refine lv_iconst (v := (-1 : Int32)) hx hb dX10_right_85 (by decide) ?_
              obtain ⟨⟨r98, u95, v96⟩, hc94, h⟩ := vz_b h
              try dsimp only at h
              refine za_callWi (va_runV (As := [.int (-1 : Int32)]) (rest := []) ⟨hx, hb, hml, hown, hts⟩ (k_X10_finding l (D := D) (cI := cI) (cJ := cJ) (ad := ad) hD hc94) (cwV 1 hts gX10_right_X10_finding rfl rfl rfl ⟨rfl, zd_X10_finding⟩ ⟨Nat.le_of_ble_eq_true rfl, Nat.le_of_ble_eq_true rfl⟩) (xPreV (ci := 10) hK hP rfl zO_0) rfl rfl hl.1 rfl (lv_room (Nat.le_of_ble_eq_true rfl)) dX10_right_86 ⟨Nat.zero_le _, Nat.zero_le _⟩) hS (fun H locs hP hS => ?_)
              cases h
              exact W.iret hx hb hr (fun t ht _ => ⟨rfl, by rw [ht]; exact hP, hS.F ht⟩) hS.2.2 dX10_right_89
            · have h := vz_f c93 h
              refine lv_iload hx hb dX10_right_72 (lv_at hl 5 rfl) ?_
              refine lv_iconst (v := (0 : Int32)) hx hb dX10_right_74 (by decide) ?_
              refine lv_sipush (v := (1000 : Int32)) hx hb dX10_right_75 (by decide) ?_
              obtain ⟨r100, hc99, h⟩ := vz_b h
              refine za_callR (va_runS (As := [.int a4, .int (0 : Int32), .int (1000 : Int32)]) (rest := []) ⟨hx, hb, hml, hown, hts⟩ (k_X10_isWithin l hc99) (va_cwS 3 hts gX10_right_X10_isWithin rfl rfl rfl zd_X10_isWithin ⟨Nat.le_of_ble_eq_true rfl, Nat.le_of_ble_eq_true rfl⟩) xPre0 rfl rfl hl.1 rfl (lv_room (Nat.le_of_ble_eq_true rfl)) dX10_right_78 ⟨Nat.zero_le _, Nat.zero_le _⟩) ?_
              refine lv_if_ne (tgt := 90) hx hb dX10_right_81 (by decide) (fun c101 => ?_) (fun c101 => ?_)
              · have h := vz_f c101 h
                refine lv_aload_n hx hb dX10_right_90 rfl (lv_at hl 1 rfl) ?_
                refine za_getr (k := 1) hx hb hts hin10 hown hK hP zF_0_1 rfl (Nat.le_of_ble_eq_true rfl) (Or.inl hw1) dX10_right_91 ?_
                refine za_getr (k := 5) hx hb hts hin0 hown hK hP zF_2_5 rfl (Nat.le_of_ble_eq_true rfl) (nw_226 hK.2) dX10_right_94 ?_
                refine za_geti (k := 0) hx hb hts hin7 hown hK hP zF_24_0 rfl (Nat.le_of_ble_eq_true rfl) (nw_178 hK.2) dX10_right_97 ?_
                refine lv_bipush (v := (10 : Int32)) hx hb dX10_right_100 (by decide) ?_
                refine lv_icmp_lt (tgt := 112) hx hb dX10_right_102 (by decide) (fun c102 => ?_) (fun c102 => ?_)
                · have h := vz_t c102 h
                  refine lv_aload_n hx hb dX10_right_112 rfl (lv_at hl 1 rfl) ?_
                  refine za_getr (k := 1) hx hb hts hin10 hown hK hP zF_0_1 rfl (Nat.le_of_ble_eq_true rfl) (Or.inl hw1) dX10_right_113 ?_
                  refine za_getr (k := 5) hx hb hts hin0 hown hK hP zF_2_5 rfl (Nat.le_of_ble_eq_true rfl) (nw_226 hK.2) dX10_right_116 ?_
                  refine lv_iload_n hx hb dX10_right_119 rfl (lv_at hl 2 rfl) ?_
                  refine lv_iload_n hx hb dX10_right_120 rfl (lv_at hl 3 rfl) ?_
                  refine lv_iload_n hx hb dX10_right_121 rfl (lv_at hl 4 rfl) ?_
                  refine lv_iload hx hb dX10_right_122 (lv_at hl 5 rfl) ?_
                  refine lv_iload hx hb dX10_right_124 (lv_at hl 6 rfl) ?_
                  refine lv_iload hx hb dX10_right_126 (lv_at hl 7 rfl) ?_
                  obtain ⟨⟨r107, u104, v105⟩, hc103, h⟩ := vz_b h
                  try dsimp only at h
                  refine za_callWi (va_runVN (As := [.int a1, .int a2, .int a3, .int a4, .int a5, .int a6]) (rest := []) ⟨hx, hb, hml, hown, hts⟩ (k_X7_add l (D := D) (cI := cI) (cJ := cJ) (ad := ad) hD hc103) ⟨va_cnB 6 hts gX10_right_X7_add_n198 rfl rfl rfl (nw_585 hK.2) hw23 zd_X7_add ⟨Nat.le_of_ble_eq_true rfl, Nat.le_of_ble_eq_true rfl⟩, hw22, hw24⟩ (xPreV (ci := 7) hK hP rfl zO_24) rfl rfl hl.1 rfl (lv_room (Nat.le_of_ble_eq_true rfl)) dX10_right_128 ⟨Nat.zero_le _, Nat.zero_le _⟩) hS (fun H locs hP hS => ?_)
                  cases h
                  exact W.iret hx hb hr (fun t ht _ => ⟨rfl, by rw [ht]; exact hP, hS.F ht⟩) hS.2.2 dX10_right_131
                · have h := vz_f c102 h
                  refine lv_aload_n hx hb dX10_right_105 rfl (lv_at hl 1 rfl) ?_
                  refine lv_bipush (v := (-3 : Int32)) hx hb dX10_right_106 (by decide) ?_
                  obtain ⟨⟨r112, u109, v110⟩, hc108, h⟩ := vz_b h
                  try dsimp only at h
                  refine za_callWi (va_runV (As := [.int (-3 : Int32)]) (rest := []) ⟨hx, hb, hml, hown, hts⟩ (k_X10_finding l (D := D) (cI := cI) (cJ := cJ) (ad := ad) hD hc108) (cwV 1 hts gX10_right_X10_finding rfl rfl rfl ⟨rfl, zd_X10_finding⟩ ⟨Nat.le_of_ble_eq_true rfl, Nat.le_of_ble_eq_true rfl⟩) (xPreV (ci := 10) hK hP rfl zO_0) rfl rfl hl.1 rfl (lv_room (Nat.le_of_ble_eq_true rfl)) dX10_right_108 ⟨Nat.zero_le _, Nat.zero_le _⟩) hS (fun H locs hP hS => ?_)
                  cases h
                  exact W.iret hx hb hr (fun t ht _ => ⟨rfl, by rw [ht]; exact hP, hS.F ht⟩) hS.2.2 dX10_right_111
              · have h := vz_t c101 h
                refine lv_aload_n hx hb dX10_right_84 rfl (lv_at hl 1 rfl) ?_
                refine lv_iconst (v := (-1 : Int32)) hx hb dX10_right_85 (by decide) ?_
                obtain ⟨⟨r117, u114, v115⟩, hc113, h⟩ := vz_b h
                try dsimp only at h
                refine za_callWi (va_runV (As := [.int (-1 : Int32)]) (rest := []) ⟨hx, hb, hml, hown, hts⟩ (k_X10_finding l (D := D) (cI := cI) (cJ := cJ) (ad := ad) hD hc113) (cwV 1 hts gX10_right_X10_finding rfl rfl rfl ⟨rfl, zd_X10_finding⟩ ⟨Nat.le_of_ble_eq_true rfl, Nat.le_of_ble_eq_true rfl⟩) (xPreV (ci := 10) hK hP rfl zO_0) rfl rfl hl.1 rfl (lv_room (Nat.le_of_ble_eq_true rfl)) dX10_right_86 ⟨Nat.zero_le _, Nat.zero_le _⟩) hS (fun H locs hP hS => ?_)
                cases h
                exact W.iret hx hb hr (fun t ht _ => ⟨rfl, by rw [ht]; exact hP, hS.F ht⟩) hS.2.2 dX10_right_89
abbrev rmX4_arePattern : Room := { frames := 1, cells := 0, slots := 0, locals := 22 }
set_option maxHeartbeats 4000000 in
set_option maxRecDepth 100000 in
theorem k_X4_arePattern (l : Launch) {D : va_G} {cI cJ : ClassId} {ad : Nat → Nat} {u : tU} {v : tV} {r : Int32}  (h : pX4_arePattern u v  = some r) : Met l yX4_arePattern wsX4_arePattern rmX4_arePattern (va_Pc [.ref (ad 1)] (xPre D cI cJ (wA cI cJ ad u v))) (QcRead r) 0 0 (fun _ => False) := by
  refine Met.ofW (cc := cX4_arePattern) (maxL := 2) (ret := (some .boolean)) (by decide) rfl ?_
  intro p e s m args below meth c s₁ B hml hv
  obtain ⟨rfl, hP, hK⟩ := hv
  have hx := B.exec
  have hb := B.bytes
  have hr := B.returns
  have hts := atoms_spec (ws := wsX4_arePattern) B.pre
  have hown : s.vm.findClass RX4 = some m.cls := findClass_of_methodNamed B.named
  have hlocks := B.notSynchronized
  have hin4 : ∀ w ∈ u_ws RX4 TX4 2, w ∈ wsX4_arePattern := fun _ h => List.mem_cons_of_mem _ (List.mem_append_right _ h)
  have hw1 := hts (.fieldLink RX4 15 "InstallDesk$Letters" "count" "I") (List.mem_of_getElem? (i := 1) rfl)
  have hw2 := hts (.fieldLink RX4 9 "InstallDesk$Letters" "row" "J") (List.mem_of_getElem? (i := 2) rfl)
  have hw3 := hts (.static yX10_signAt) (List.mem_of_getElem? (i := 3) rfl)
  have hw4 := hts (.initialized RX10) (List.mem_of_getElem? (i := 4) rfl)
  have hl := lv_entry ([.ref (ad 1)]) (n := 2) (Nat.le_of_ble_eq_true rfl)
  rw [lg_entry_eq]
  generalize (lg_sl ([.ref (ad 1)]) ++ List.replicate (2 - (lg_sl ([.ref (ad 1)])).length) Slot.unset).toArray = ls at hl ⊢
  have hl : lv_has ls 2 [(0, .ref (ad 1))] := hl
  have L2 : ∀  (n : Nat) (x1 : Int32) (ls : Array Slot) (o : (Int32) ⊕ (Unit)), pX4_arePattern_L2 u v n x1 = some o → lv_has ls 2 [(0, .ref (ad 1)), (1, .int x1)] → (∀ rr : Int32, o = .inl rr → rr = r) → (∀ (ls : Array Slot), o = .inr () → lv_has ls 2 [] → W p l e (headSpec wsX4_arePattern rmX4_arePattern).room s m [Value.ref (ad 1)].toArray below meth c s.heap [] 0 0 (MQ below (QcRead r) [Value.ref (ad 1)].toArray s 0 0 (fun _ => False)) (F0 m 33 ls [])) → W p l e (headSpec wsX4_arePattern rmX4_arePattern).room s m [Value.ref (ad 1)].toArray below meth c s.heap [] 0 0 (MQ below (QcRead r) [Value.ref (ad 1)].toArray s 0 0 (fun _ => False)) (F0 m 2 ls []) := by
    intro n
    induction n with
    | zero => intro x1 ls o h; cases h
    | succ n ih =>
      intro x1 ls o h hl hret hk
      rw [pX4_arePattern_L2] at h
      refine lv_iload_n hx hb dX4_arePattern_2 rfl (lv_at hl 1 rfl) ?_
      refine lv_aload_n hx hb dX4_arePattern_3 rfl (lv_at hl 0 rfl) ?_
      refine za_geti (k := 0) hx hb hts hin4 hown hK hP zF_1_0 rfl (Nat.le_of_ble_eq_true rfl) (Or.inl hw1) dX4_arePattern_4 ?_
      refine lv_iconst (v := (1 : Int32)) hx hb dX4_arePattern_7 (by decide) ?_
      refine lv_isub hx hb dX4_arePattern_8 ?_
      refine lv_icmp_ge (tgt := 33) hx hb dX4_arePattern_9 (by decide) (fun c1 => ?_) (fun c1 => ?_)
      · have h := vz_t c1 h
        cases h
        exact hk ls rfl (lv_sub hl [] rfl)
      · have h := vz_f c1 h
        refine lv_aload_n hx hb dX4_arePattern_12 rfl (lv_at hl 0 rfl) ?_
        refine za_getl (k := 1) hx hb hts hin4 hown hK hP zF_1_1 rfl (Nat.le_of_ble_eq_true rfl) (Or.inl hw2) dX4_arePattern_13 ?_
        refine lv_iload_n hx hb dX4_arePattern_16 rfl (lv_at hl 1 rfl) ?_
        obtain ⟨r3, hc2, h⟩ := vz_b h
        refine za_callR (va_runSN (As := [.long (v 0 0), .int x1]) (rest := []) ⟨hx, hb, hml, hown, hts⟩ (k_X10_signAt l hc2) ⟨va_cnB 2 hts gX4_arePattern_X10_signAt_n19 rfl rfl rfl (nw_343 hK.2) hw4 zd_X10_signAt ⟨Nat.le_of_ble_eq_true rfl, Nat.le_of_ble_eq_true rfl⟩, hw3, trivial⟩ xPre0 rfl rfl hl.1 rfl (lv_room (Nat.le_of_ble_eq_true rfl)) dX4_arePattern_17 ⟨Nat.zero_le _, Nat.zero_le _⟩) ?_
        refine lv_bipush (v := (28 : Int32)) hx hb dX4_arePattern_20 (by decide) ?_
        refine lv_icmp_ne (tgt := 27) hx hb dX4_arePattern_22 (by decide) (fun c4 => ?_) (fun c4 => ?_)
        · have h := vz_f c4 h
          refine lv_iinc (v := (x1 + 1)) (lv' := [(1, .int (x1 + 1)), (0, .ref (ad 1))]) hx hb dX4_arePattern_27 hl (k := 1) rfl rfl (by decide) rfl (fun ls hl => ?_)
          refine lv_goto (tgt := 2) hx hb dX4_arePattern_30 (by decide) ?_
          exact ih (x1 + 1) ls o h (lv_sub hl [1, 0] rfl) hret hk
        · have h := vz_t c4 h
          refine lv_iconst (v := (0 : Int32)) hx hb dX4_arePattern_25 (by decide) ?_
          cases h
          have e9 := hret _ rfl
          cases e9
          exact W.zret hx hb hr nb0 (fun t ht _ => ⟨rfl, ht⟩) (fun q hq => absurd hq List.not_mem_nil) dX4_arePattern_26
  rw [pX4_arePattern] at h
  refine lv_iconst (v := (0 : Int32)) hx hb dX4_arePattern_0 (by decide) ?_
  refine lv_istore_n (lv' := [(1, .int (0 : Int32)), (0, .ref (ad 1))]) hx hb dX4_arePattern_1 rfl hl (by decide) rfl (fun ls hl => ?_)
  obtain ⟨o5, hL6, h⟩ := vz_b h
  refine L2 fuel (0 : Int32) ls o5 hL6 (lv_sub hl [1, 0] rfl) (fun rr e7 => by rw [e7] at h; exact Option.some.inj h) (fun ls e7 hl => ?_)
  try rw [e7] at h
  try dsimp only at h
  refine lv_iconst (v := (1 : Int32)) hx hb dX4_arePattern_33 (by decide) ?_
  cases h
  exact W.zret hx hb hr nb1 (fun t ht _ => ⟨rfl, ht⟩) (fun q hq => absurd hq List.not_mem_nil) dX4_arePattern_34
abbrev rmX8_add : Room := { frames := 0, cells := 0, slots := 0, locals := 0 }
set_option maxHeartbeats 4000000 in
set_option maxRecDepth 100000 in
theorem k_X8_add (l : Launch) {D : va_G} {cI cJ : ClassId} {ad : Nat → Nat} {u : tU} {v : tV} {A : Nat → Prop} (hD : zD A cI cJ ad) {a1 : Int64} {a3 : Int32} {a4 : Int32}  {r : Int32} {uz : tU} {vz : tV} (h : pX8_add u v a1 a3 a4 = some (r, uz, vz)) : Met l yX8_add wsX8_add rmX8_add (va_Pc [.ref (ad 7), .long a1, .int a3, .int a4] (xPre D cI cJ (wA cI cJ ad u v))) (xWi D cI cJ ad A r uz vz) 0 0 A := by
  refine Met.ofW (cc := cX8_add) (maxL := 5) (ret := (some .int)) (by decide) rfl ?_
  intro p e s m args below meth c s₁ B hml hv
  obtain ⟨rfl, hP, hK⟩ := hv
  have hx := B.exec
  have hb := B.bytes
  have hr := B.returns
  have hts := atoms_spec (ws := wsX8_add) B.pre
  have hown : s.vm.findClass RX8 = some m.cls := findClass_of_methodNamed B.named
  have hlocks := B.notSynchronized
  have hS : va_S A s.heap s.heap [] := va_S.rf
  have hin8 : ∀ w ∈ u_ws RX8 TX8 4, w ∈ wsX8_add := fun _ h => List.mem_cons_of_mem _ (List.mem_append_right _ h)
  have hw1 := hts (.fieldLink RX8 9 "InstallDesk$Rules" "patterns" "[J") (List.mem_of_getElem? (i := 1) rfl)
  have hw2 := hts (.fieldLink RX8 22 "InstallDesk$Rules" "count" "I") (List.mem_of_getElem? (i := 2) rfl)
  have hw3 := hts (.fieldLink RX8 15 "InstallDesk$Rules" "ranks" "[I") (List.mem_of_getElem? (i := 3) rfl)
  have hw4 := hts (.fieldLink RX8 19 "InstallDesk$Rules" "products" "[I") (List.mem_of_getElem? (i := 4) rfl)
  have hl := lv_entry ([.ref (ad 7), .long a1, .int a3, .int a4]) (n := 5) (Nat.le_of_ble_eq_true rfl)
  rw [lg_entry_eq]
  generalize (lg_sl ([.ref (ad 7), .long a1, .int a3, .int a4]) ++ List.replicate (5 - (lg_sl ([.ref (ad 7), .long a1, .int a3, .int a4])).length) Slot.unset).toArray = ls at hl ⊢
  have hl : lv_has ls 5 [(0, .ref (ad 7)), (1, .long a1), (3, .int a3), (4, .int a4)] := hl
  rw [pX8_add] at h
  refine lv_aload_n hx hb dX8_add_0 rfl (lv_at hl 0 rfl) ?_
  refine za_getr (k := 1) hx hb hts hin8 hown hK hP zF_7_1 rfl (Nat.le_of_ble_eq_true rfl) (Or.inl hw1) dX8_add_1 ?_
  refine lv_aload_n hx hb dX8_add_4 rfl (lv_at hl 0 rfl) ?_
  refine za_geti (k := 0) hx hb hts hin8 hown hK hP zF_7_0 rfl (Nat.le_of_ble_eq_true rfl) (Or.inl hw2) dX8_add_5 ?_
  refine lv_lload_n hx hb dX8_add_8 rfl (lv_at hl 1 rfl) ?_
  obtain ⟨g1, h⟩ := gd_s h
  refine za_lst hx hb hK hP hD hS zJ_8 g1 dX8_add_9 (fun H locs hP hS => ?_)
  refine lv_aload_n hx hb dX8_add_10 rfl (lv_at hl 0 rfl) ?_
  refine za_getr (k := 2) hx hb hts hin8 hown hK hP zF_7_2 rfl (Nat.le_of_ble_eq_true rfl) (Or.inl hw3) dX8_add_11 ?_
  refine lv_aload_n hx hb dX8_add_14 rfl (lv_at hl 0 rfl) ?_
  refine za_geti (k := 0) hx hb hts hin8 hown hK hP zF_7_0 rfl (Nat.le_of_ble_eq_true rfl) (Or.inl hw2) dX8_add_15 ?_
  refine lv_iload_n hx hb dX8_add_18 rfl (lv_at hl 2 rfl) ?_
  obtain ⟨g2, h⟩ := gd_s h
  refine za_ist hx hb hK hP hD hS zI_9 g2 dX8_add_19 (fun H locs hP hS => ?_)
  refine lv_aload_n hx hb dX8_add_20 rfl (lv_at hl 0 rfl) ?_
  refine za_getr (k := 3) hx hb hts hin8 hown hK hP zF_7_3 rfl (Nat.le_of_ble_eq_true rfl) (Or.inl hw4) dX8_add_21 ?_
  refine lv_aload_n hx hb dX8_add_24 rfl (lv_at hl 0 rfl) ?_
  refine za_geti (k := 0) hx hb hts hin8 hown hK hP zF_7_0 rfl (Nat.le_of_ble_eq_true rfl) (Or.inl hw2) dX8_add_25 ?_
  refine lv_iload hx hb dX8_add_28 (lv_at hl 3 rfl) ?_
  obtain ⟨g3, h⟩ := gd_s h
  refine za_ist hx hb hK hP hD hS zI_10 g3 dX8_add_30 (fun H locs hP hS => ?_)
  refine lv_aload_n hx hb dX8_add_31 rfl (lv_at hl 0 rfl) ?_
  refine lv_dup hx hb dX8_add_32 rfl ?_
  refine za_geti (k := 0) hx hb hts hin8 hown hK hP zF_7_0 rfl (Nat.le_of_ble_eq_true rfl) (Or.inl hw2) dX8_add_33 ?_
  refine lv_iconst (v := (1 : Int32)) hx hb dX8_add_36 (by decide) ?_
  refine lv_iadd hx hb dX8_add_37 ?_
  refine za_puti (k := 0) hx hb hts hin8 tyX8 tyX8_ok nmX8 hown hK hP hD hS zF_7_0 rfl (Nat.le_of_ble_eq_true rfl) (Or.inl hw2) rfl rfl rfl dX8_add_38 (fun H locs hP hS => ?_)
  refine lv_aload_n hx hb dX8_add_41 rfl (lv_at hl 0 rfl) ?_
  refine za_geti (k := 0) hx hb hts hin8 hown hK hP zF_7_0 rfl (Nat.le_of_ble_eq_true rfl) (Or.inl hw2) dX8_add_42 ?_
  refine lv_iconst (v := (1 : Int32)) hx hb dX8_add_45 (by decide) ?_
  refine lv_isub hx hb dX8_add_46 ?_
  cases h
  exact W.iret hx hb hr (fun t ht _ => ⟨rfl, by rw [ht]; exact hP, hS.F ht⟩) hS.2.2 dX8_add_47
abbrev rmX10_rule : Room := { frames := 2, cells := 0, slots := 0, locals := 43 }
set_option maxHeartbeats 4000000 in
set_option maxRecDepth 100000 in
theorem k_X10_rule (l : Launch) {D : va_G} {cI cJ : ClassId} {ad : Nat → Nat} {u : tU} {v : tV} {A : Nat → Prop} (hD : zD A cI cJ ad) {a1 : Int32} {a2 : Int32}  {r : Int32} {uz : tU} {vz : tV} (h : pX10_rule u v a1 a2 = some (r, uz, vz)) : Met l yX10_rule wsX10_rule rmX10_rule (va_Pc [.ref (ad 0), .int a1, .int a2] (xPre D cI cJ (wA cI cJ ad u v))) (xWi D cI cJ ad A r uz vz) 0 0 A := by
  refine Met.ofW (cc := cX10_rule) (maxL := 6) (ret := (some .int)) (by decide) rfl ?_
  intro p e s m args below meth c s₁ B hml hv
  obtain ⟨rfl, hP, hK⟩ := hv
  have hx := B.exec
  have hb := B.bytes
  have hr := B.returns
  have hts := atoms_spec (ws := wsX10_rule) B.pre
  have hown : s.vm.findClass RX10 = some m.cls := findClass_of_methodNamed B.named
  have hlocks := B.notSynchronized
  have hS : va_S A s.heap s.heap [] := va_S.rf
  have hin0 : ∀ w ∈ u_ws RX0 TX0 8, w ∈ wsX10_rule := fun _ h => List.mem_cons_of_mem _ (List.mem_append_left _ (List.mem_append_left _ (List.mem_append_left _ (List.mem_append_right _ h))))
  have hin8 : ∀ w ∈ u_ws RX8 TX8 4, w ∈ wsX10_rule := fun _ h => List.mem_cons_of_mem _ (List.mem_append_left _ (List.mem_append_left _ (List.mem_append_right _ h)))
  have hin10 : ∀ w ∈ u_ws RX10 TX10 7, w ∈ wsX10_rule := fun _ h => List.mem_cons_of_mem _ (List.mem_append_left _ (List.mem_append_left _ (List.mem_append_left _ (List.mem_append_left _ (List.mem_append_right _ h)))))
  have hw1 := hts (.fieldLink RX10 19 "InstallDesk" "books" "LInstallDesk$Books;") (List.mem_of_getElem? (i := 1) rfl)
  have hw2 := hts (.fieldLink RX10 10 "InstallDesk" "letters" "LInstallDesk$Letters;") (List.mem_of_getElem? (i := 2) rfl)
  have hw3 := hts (.instanceMethod yX6_isOne) (List.mem_of_getElem? (i := 3) rfl)
  have hw4 := hts (.initialized RX6) (List.mem_of_getElem? (i := 4) rfl)
  have hw5 := hts (.selects RX6 yX6_isOne yX6_isOne) (List.mem_of_getElem? (i := 5) rfl)
  have hw17 := hts (.instanceMethod yX4_arePattern) (List.mem_of_getElem? (i := 17) rfl)
  have hw18 := hts (.initialized RX4) (List.mem_of_getElem? (i := 18) rfl)
  have hw19 := hts (.selects RX4 yX4_arePattern yX4_arePattern) (List.mem_of_getElem? (i := 19) rfl)
  have hw25 := hts (.instanceMethod yX4_take) (List.mem_of_getElem? (i := 25) rfl)
  have hw26 := hts (.selects RX4 yX4_take yX4_take) (List.mem_of_getElem? (i := 26) rfl)
  have hw28 := hts (.instanceMethod yX8_add) (List.mem_of_getElem? (i := 28) rfl)
  have hw29 := hts (.initialized RX8) (List.mem_of_getElem? (i := 29) rfl)
  have hw30 := hts (.selects RX8 yX8_add yX8_add) (List.mem_of_getElem? (i := 30) rfl)
  have hl := lv_entry ([.ref (ad 0), .int a1, .int a2]) (n := 6) (Nat.le_of_ble_eq_true rfl)
  rw [lg_entry_eq]
  generalize (lg_sl ([.ref (ad 0), .int a1, .int a2]) ++ List.replicate (6 - (lg_sl ([.ref (ad 0), .int a1, .int a2])).length) Slot.unset).toArray = ls at hl ⊢
  have hl : lv_has ls 6 [(0, .ref (ad 0)), (1, .int a1), (2, .int a2)] := hl
  rw [pX10_rule] at h
  refine lv_aload_n hx hb dX10_rule_0 rfl (lv_at hl 0 rfl) ?_
  refine za_getr (k := 1) hx hb hts hin10 hown hK hP zF_0_1 rfl (Nat.le_of_ble_eq_true rfl) (Or.inl hw1) dX10_rule_1 ?_
  refine za_getr (k := 0) hx hb hts hin0 hown hK hP zF_2_0 rfl (Nat.le_of_ble_eq_true rfl) (nw_210 hK.2) dX10_rule_4 ?_
  refine lv_iload_n hx hb dX10_rule_7 rfl (lv_at hl 2 rfl) ?_
  obtain ⟨r2, hc1, h⟩ := vz_b h
  refine za_callR (va_runVN (As := [.int a2]) (rest := []) ⟨hx, hb, hml, hown, hts⟩ (k_X6_isOne l (D := D) (cI := cI) (cJ := cJ) (ad := ad) hc1) ⟨va_cnB 1 hts gX10_rule_X6_isOne_n74 rfl rfl rfl (nw_331 hK.2) hw4 zd_X6_isOne ⟨Nat.le_of_ble_eq_true rfl, Nat.le_of_ble_eq_true rfl⟩, hw3, hw5⟩ (xPreV (ci := 6) hK hP rfl zO_3) rfl rfl hl.1 rfl (lv_room (Nat.le_of_ble_eq_true rfl)) dX10_rule_8 ⟨Nat.zero_le _, Nat.zero_le _⟩) ?_
  refine lv_if_eq (tgt := 24) hx hb dX10_rule_11 (by decide) (fun c3 => ?_) (fun c3 => ?_)
  · have h := vz_t c3 h
    refine lv_aload_n hx hb dX10_rule_24 rfl (lv_at hl 0 rfl) ?_
    refine lv_iconst (v := (-1 : Int32)) hx hb dX10_rule_25 (by decide) ?_
    obtain ⟨⟨r8, u5, v6⟩, hc4, h⟩ := vz_b h
    try dsimp only at h
    refine za_callWi (va_runV (As := [.int (-1 : Int32)]) (rest := []) ⟨hx, hb, hml, hown, hts⟩ (k_X10_finding l (D := D) (cI := cI) (cJ := cJ) (ad := ad) hD hc4) (cwV 1 hts gX10_rule_X10_finding rfl rfl rfl ⟨rfl, zd_X10_finding⟩ ⟨Nat.le_of_ble_eq_true rfl, Nat.le_of_ble_eq_true rfl⟩) (xPreV (ci := 10) hK hP rfl zO_0) rfl rfl hl.1 rfl (lv_room (Nat.le_of_ble_eq_true rfl)) dX10_rule_26 ⟨Nat.zero_le _, Nat.zero_le _⟩) hS (fun H locs hP hS => ?_)
    cases h
    exact W.iret hx hb hr (fun t ht _ => ⟨rfl, by rw [ht]; exact hP, hS.F ht⟩) hS.2.2 dX10_rule_29
  · have h := vz_f c3 h
    refine lv_iload_n hx hb dX10_rule_14 rfl (lv_at hl 1 rfl) ?_
    refine lv_iconst (v := (0 : Int32)) hx hb dX10_rule_15 (by decide) ?_
    refine lv_bipush (v := (9 : Int32)) hx hb dX10_rule_16 (by decide) ?_
    obtain ⟨r10, hc9, h⟩ := vz_b h
    refine za_callR (va_runS (As := [.int a1, .int (0 : Int32), .int (9 : Int32)]) (rest := []) ⟨hx, hb, hml, hown, hts⟩ (k_X10_isWithin l hc9) (va_cwS 3 hts gX10_rule_X10_isWithin rfl rfl rfl zd_X10_isWithin ⟨Nat.le_of_ble_eq_true rfl, Nat.le_of_ble_eq_true rfl⟩) xPre0 rfl rfl hl.1 rfl (lv_room (Nat.le_of_ble_eq_true rfl)) dX10_rule_18 ⟨Nat.zero_le _, Nat.zero_le _⟩) ?_
    refine lv_if_ne (tgt := 30) hx hb dX10_rule_21 (by decide) (fun c11 => ?_) (fun c11 => ?_)
    · have h := vz_f c11 h
      refine lv_aload_n hx hb dX10_rule_30 rfl (lv_at hl 0 rfl) ?_
      refine za_getr (k := 1) hx hb hts hin10 hown hK hP zF_0_1 rfl (Nat.le_of_ble_eq_true rfl) (Or.inl hw1) dX10_rule_31 ?_
      refine za_getr (k := 1) hx hb hts hin0 hown hK hP zF_2_1 rfl (Nat.le_of_ble_eq_true rfl) (nw_214 hK.2) dX10_rule_34 ?_
      refine za_geti (k := 0) hx hb hts hin8 hown hK hP zF_7_0 rfl (Nat.le_of_ble_eq_true rfl) (nw_80 hK.2) dX10_rule_37 ?_
      refine lv_bipush (v := (16 : Int32)) hx hb dX10_rule_40 (by decide) ?_
      refine lv_icmp_lt (tgt := 52) hx hb dX10_rule_42 (by decide) (fun c12 => ?_) (fun c12 => ?_)
      · have h := vz_t c12 h
        refine lv_aload_n hx hb dX10_rule_52 rfl (lv_at hl 0 rfl) ?_
        refine za_getr (k := 0) hx hb hts hin10 hown hK hP zF_0_0 rfl (Nat.le_of_ble_eq_true rfl) (Or.inl hw2) dX10_rule_53 ?_
        obtain ⟨r14, hc13, h⟩ := vz_b h
        refine za_callR (va_runVN (As := []) (rest := []) ⟨hx, hb, hml, hown, hts⟩ (k_X4_arePattern l (D := D) (cI := cI) (cJ := cJ) (ad := ad) hc13) ⟨va_cnB 0 hts gX10_rule_X4_arePattern_n88 rfl rfl rfl (nw_339 hK.2) hw18 zd_X4_arePattern ⟨Nat.le_of_ble_eq_true rfl, Nat.le_of_ble_eq_true rfl⟩, hw17, hw19⟩ (xPreV (ci := 4) hK hP rfl zO_1) rfl rfl hl.1 rfl (lv_room (Nat.le_of_ble_eq_true rfl)) dX10_rule_56 ⟨Nat.zero_le _, Nat.zero_le _⟩) ?_
        refine lv_istore_n (lv' := [(3, .int r14), (0, .ref (ad 0)), (1, .int a1), (2, .int a2)]) hx hb dX10_rule_59 rfl hl (by decide) rfl (fun ls hl => ?_)
        refine lv_aload_n hx hb dX10_rule_60 rfl (lv_at hl 1 rfl) ?_
        refine za_getr (k := 0) hx hb hts hin10 hown hK hP zF_0_0 rfl (Nat.le_of_ble_eq_true rfl) (Or.inl hw2) dX10_rule_61 ?_
        obtain ⟨⟨r19, u16, v17⟩, hc15, h⟩ := vz_b h
        try dsimp only at h
        refine za_callWl (va_runVN (As := []) (rest := []) ⟨hx, hb, hml, hown, hts⟩ (k_X4_take l (D := D) (cI := cI) (cJ := cJ) (ad := ad) hD hc15) ⟨va_cnB 0 hts gX10_rule_X4_take_n92 rfl rfl rfl (nw_346 hK.2) hw18 zd_X4_take ⟨Nat.le_of_ble_eq_true rfl, Nat.le_of_ble_eq_true rfl⟩, hw25, hw26⟩ (xPreV (ci := 4) hK hP rfl zO_1) rfl rfl hl.1 rfl (lv_room (Nat.le_of_ble_eq_true rfl)) dX10_rule_64 ⟨Nat.zero_le _, Nat.zero_le _⟩) hS (fun H locs hP hS => ?_)
        refine lv_lstore (lv' := [(4, .long r19), (3, .int r14), (0, .ref (ad 0)), (1, .int a1), (2, .int a2)]) hx hb dX10_rule_67 hl (by decide) rfl (fun ls hl => ?_)
        refine lv_iload_n hx hb dX10_rule_69 rfl (lv_at hl 1 rfl) ?_
        refine lv_if_eq (tgt := 90) hx hb dX10_rule_70 (by decide) (fun c20 => ?_) (fun c20 => ?_)
        · have h := vz_t c20 h
          refine lv_aload_n hx hb dX10_rule_90 rfl (lv_at hl 2 rfl) ?_
          refine lv_bipush (v := (-7 : Int32)) hx hb dX10_rule_91 (by decide) ?_
          obtain ⟨⟨r25, u22, v23⟩, hc21, h⟩ := vz_b h
          try dsimp only at h
          refine za_callWi (va_runV (As := [.int (-7 : Int32)]) (rest := []) ⟨hx, hb, hml, hown, hts⟩ (k_X10_finding l (D := D) (cI := cI) (cJ := cJ) (ad := ad) hD hc21) (cwV 1 hts gX10_rule_X10_finding rfl rfl rfl ⟨rfl, zd_X10_finding⟩ ⟨Nat.le_of_ble_eq_true rfl, Nat.le_of_ble_eq_true rfl⟩) (xPreV (ci := 10) hK hP rfl zO_0) rfl rfl hl.1 rfl (lv_room (Nat.le_of_ble_eq_true rfl)) dX10_rule_93 ⟨Nat.zero_le _, Nat.zero_le _⟩) hS (fun H locs hP hS => ?_)
          cases h
          exact W.iret hx hb hr (fun t ht _ => ⟨rfl, by rw [ht]; exact hP, hS.F ht⟩) hS.2.2 dX10_rule_96
        · have h := vz_f c20 h
          refine lv_aload_n hx hb dX10_rule_73 rfl (lv_at hl 2 rfl) ?_
          refine za_getr (k := 1) hx hb hts hin10 hown hK hP zF_0_1 rfl (Nat.le_of_ble_eq_true rfl) (Or.inl hw1) dX10_rule_74 ?_
          refine za_getr (k := 1) hx hb hts hin0 hown hK hP zF_2_1 rfl (Nat.le_of_ble_eq_true rfl) (nw_214 hK.2) dX10_rule_77 ?_
          refine lv_lload hx hb dX10_rule_80 (lv_at hl 0 rfl) ?_
          refine lv_iload_n hx hb dX10_rule_82 rfl (lv_at hl 3 rfl) ?_
          refine lv_iload_n hx hb dX10_rule_83 rfl (lv_at hl 4 rfl) ?_
          obtain ⟨⟨r30, u27, v28⟩, hc26, h⟩ := vz_b h
          try dsimp only at h
          refine za_callWi (va_runVN (As := [.long r19, .int a1, .int a2]) (rest := []) ⟨hx, hb, hml, hown, hts⟩ (k_X8_add l (D := D) (cI := cI) (cJ := cJ) (ad := ad) hD hc26) ⟨va_cnB 3 hts gX10_rule_X8_add_n96 rfl rfl rfl (nw_350 hK.2) hw29 zd_X8_add ⟨Nat.le_of_ble_eq_true rfl, Nat.le_of_ble_eq_true rfl⟩, hw28, hw30⟩ (xPreV (ci := 8) hK hP rfl zO_7) rfl rfl hl.1 rfl (lv_room (Nat.le_of_ble_eq_true rfl)) dX10_rule_84 ⟨Nat.zero_le _, Nat.zero_le _⟩) hS (fun H locs hP hS => ?_)
          refine lv_goto (tgt := 96) hx hb dX10_rule_87 (by decide) ?_
          cases h
          exact W.iret hx hb hr (fun t ht _ => ⟨rfl, by rw [ht]; exact hP, hS.F ht⟩) hS.2.2 dX10_rule_96
      · have h := vz_f c12 h
        refine lv_aload_n hx hb dX10_rule_45 rfl (lv_at hl 0 rfl) ?_
        refine lv_bipush (v := (-3 : Int32)) hx hb dX10_rule_46 (by decide) ?_
        obtain ⟨⟨r35, u32, v33⟩, hc31, h⟩ := vz_b h
        try dsimp only at h
        refine za_callWi (va_runV (As := [.int (-3 : Int32)]) (rest := []) ⟨hx, hb, hml, hown, hts⟩ (k_X10_finding l (D := D) (cI := cI) (cJ := cJ) (ad := ad) hD hc31) (cwV 1 hts gX10_rule_X10_finding rfl rfl rfl ⟨rfl, zd_X10_finding⟩ ⟨Nat.le_of_ble_eq_true rfl, Nat.le_of_ble_eq_true rfl⟩) (xPreV (ci := 10) hK hP rfl zO_0) rfl rfl hl.1 rfl (lv_room (Nat.le_of_ble_eq_true rfl)) dX10_rule_48 ⟨Nat.zero_le _, Nat.zero_le _⟩) hS (fun H locs hP hS => ?_)
        cases h
        exact W.iret hx hb hr (fun t ht _ => ⟨rfl, by rw [ht]; exact hP, hS.F ht⟩) hS.2.2 dX10_rule_51
    · have h := vz_t c11 h
      refine lv_aload_n hx hb dX10_rule_24 rfl (lv_at hl 0 rfl) ?_
      refine lv_iconst (v := (-1 : Int32)) hx hb dX10_rule_25 (by decide) ?_
      obtain ⟨⟨r40, u37, v38⟩, hc36, h⟩ := vz_b h
      try dsimp only at h
      refine za_callWi (va_runV (As := [.int (-1 : Int32)]) (rest := []) ⟨hx, hb, hml, hown, hts⟩ (k_X10_finding l (D := D) (cI := cI) (cJ := cJ) (ad := ad) hD hc36) (cwV 1 hts gX10_rule_X10_finding rfl rfl rfl ⟨rfl, zd_X10_finding⟩ ⟨Nat.le_of_ble_eq_true rfl, Nat.le_of_ble_eq_true rfl⟩) (xPreV (ci := 10) hK hP rfl zO_0) rfl rfl hl.1 rfl (lv_room (Nat.le_of_ble_eq_true rfl)) dX10_rule_26 ⟨Nat.zero_le _, Nat.zero_le _⟩) hS (fun H locs hP hS => ?_)
      cases h
      exact W.iret hx hb hr (fun t ht _ => ⟨rfl, by rw [ht]; exact hP, hS.F ht⟩) hS.2.2 dX10_rule_29
abbrev rmX2_leaveOut : Room := { frames := 1, cells := 0, slots := 0, locals := 21 }
set_option maxHeartbeats 4000000 in
set_option maxRecDepth 100000 in
theorem k_X2_leaveOut (l : Launch) {D : va_G} {cI cJ : ClassId} {ad : Nat → Nat} {u : tU} {v : tV} {A : Nat → Prop} (hD : zD A cI cJ ad) {a1 : Int32}  {uz : tU} {vz : tV} (h : pX2_leaveOut u v a1 = some (uz, vz)) : Met l yX2_leaveOut wsX2_leaveOut rmX2_leaveOut (va_Pc [.ref (ad 60), .int a1] (xPre D cI cJ (wA cI cJ ad u v))) (xWv D cI cJ ad A uz vz) 0 0 A := by
  refine Met.ofW (cc := cX2_leaveOut) (maxL := 3) (ret := none) (by decide) rfl ?_
  intro p e s m args below meth c s₁ B hml hv
  obtain ⟨rfl, hP, hK⟩ := hv
  have hx := B.exec
  have hb := B.bytes
  have hr := B.returns
  have hts := atoms_spec (ws := wsX2_leaveOut) B.pre
  have hown : s.vm.findClass RX2 = some m.cls := findClass_of_methodNamed B.named
  have hlocks := B.notSynchronized
  have hS : va_S A s.heap s.heap [] := va_S.rf
  have hin2 : ∀ w ∈ u_ws RX2 TX2 1, w ∈ wsX2_leaveOut := fun _ h => List.mem_cons_of_mem _ (List.mem_append_right _ h)
  have hw1 := hts (.fieldLink RX2 9 "InstallDesk$Holdings" "versions" "[I") (List.mem_of_getElem? (i := 1) rfl)
  have hl := lv_entry ([.ref (ad 60), .int a1]) (n := 3) (Nat.le_of_ble_eq_true rfl)
  rw [lg_entry_eq]
  generalize (lg_sl ([.ref (ad 60), .int a1]) ++ List.replicate (3 - (lg_sl ([.ref (ad 60), .int a1])).length) Slot.unset).toArray = ls at hl ⊢
  have hl : lv_has ls 3 [(0, .ref (ad 60)), (1, .int a1)] := hl
  have L2 : ∀ (x1 : Int32) (n : Nat) (x2 : Int32) (u : tU) (v : tV) (H : Heap) (locs : List Loc) (ls : Array Slot) (o : tU × tV), pX2_leaveOut_L2 x1 n x2 u v = some o → va_P D vwCl (wA cI cJ ad u v) H → va_S A s.heap H locs → lv_has ls 3 [(0, .ref (ad 60)), (1, .int x1), (2, .int x2)] → (∀ (u' : tU) (v' : tV) (H : Heap) (locs : List Loc) (ls : Array Slot), o = (u', v') → va_P D vwCl (wA cI cJ ad u' v') H → va_S A s.heap H locs → lv_has ls 3 [] → W p l e (headSpec wsX2_leaveOut rmX2_leaveOut).room s m [Value.ref (ad 60), Value.int a1].toArray below meth c H locs 0 0 (MQ below (xWv D cI cJ ad A uz vz) [Value.ref (ad 60), Value.int a1].toArray s 0 0 A) (F0 m 25 ls [])) → W p l e (headSpec wsX2_leaveOut rmX2_leaveOut).room s m [Value.ref (ad 60), Value.int a1].toArray below meth c H locs 0 0 (MQ below (xWv D cI cJ ad A uz vz) [Value.ref (ad 60), Value.int a1].toArray s 0 0 A) (F0 m 2 ls []) := by
    intro x1 n
    induction n with
    | zero => intro x2 u v H locs ls o h; cases h
    | succ n ih =>
      intro x2 u v H locs ls o h hP hS hl hk
      rw [pX2_leaveOut_L2] at h
      refine lv_iload_n hx hb dX2_leaveOut_2 rfl (lv_at hl 2 rfl) ?_
      refine lv_bipush (v := (10 : Int32)) hx hb dX2_leaveOut_3 (by decide) ?_
      refine lv_icmp_ge (tgt := 25) hx hb dX2_leaveOut_5 (by decide) (fun c1 => ?_) (fun c1 => ?_)
      · have h := vz_t c1 h
        cases h
        exact hk u v _ _ ls rfl hP hS (lv_sub hl [] rfl)
      · have h := vz_f c1 h
        refine lv_aload_n hx hb dX2_leaveOut_8 rfl (lv_at hl 0 rfl) ?_
        refine za_getr (k := 0) hx hb hts hin2 hown hK hP zF_60_0 rfl (Nat.le_of_ble_eq_true rfl) (Or.inl hw1) dX2_leaveOut_9 ?_
        refine lv_iload_n hx hb dX2_leaveOut_12 rfl (lv_at hl 1 rfl) ?_
        refine lv_iload_n hx hb dX2_leaveOut_13 rfl (lv_at hl 2 rfl) ?_
        obtain ⟨r3, hc2, h⟩ := vz_b h
        refine za_callR (va_runS (As := [.int x1, .int x2]) (rest := [.ref (ad 61)]) ⟨hx, hb, hml, hown, hts⟩ (k_X2_cellOf l hc2) (va_cwS 2 hts gX2_leaveOut_X2_cellOf rfl rfl rfl zd_X2_cellOf ⟨Nat.le_of_ble_eq_true rfl, Nat.le_of_ble_eq_true rfl⟩) xPre0 rfl rfl hl.1 rfl (lv_room (Nat.le_of_ble_eq_true rfl)) dX2_leaveOut_14 ⟨Nat.zero_le _, Nat.zero_le _⟩) ?_
        refine lv_iconst (v := (0 : Int32)) hx hb dX2_leaveOut_17 (by decide) ?_
        obtain ⟨g4, h⟩ := gd_s h
        refine za_ist hx hb hK hP hD hS zI_61 g4 dX2_leaveOut_18 (fun H locs hP hS => ?_)
        refine lv_iinc (v := (x2 + 1)) (lv' := [(2, .int (x2 + 1)), (0, .ref (ad 60)), (1, .int x1)]) hx hb dX2_leaveOut_19 hl (k := 2) rfl rfl (by decide) rfl (fun ls hl => ?_)
        refine lv_goto (tgt := 2) hx hb dX2_leaveOut_22 (by decide) ?_
        exact ih (x2 + 1) (sU u 1 r3.toNatClampNeg (0 : Int32)) v _ _ ls o h hP hS (lv_sub hl [1, 2, 0] rfl) hk
  rw [pX2_leaveOut] at h
  refine lv_iconst (v := (0 : Int32)) hx hb dX2_leaveOut_0 (by decide) ?_
  refine lv_istore_n (lv' := [(2, .int (0 : Int32)), (0, .ref (ad 60)), (1, .int a1)]) hx hb dX2_leaveOut_1 rfl hl (by decide) rfl (fun ls hl => ?_)
  obtain ⟨o5, hL6, h⟩ := vz_b h
  refine L2 a1 fuel (0 : Int32) u v _ _ ls o5 hL6 hP hS (lv_sub hl [1, 2, 0] rfl) (fun u8 v9 H locs ls e7 hP hS hl => ?_)
  try rw [e7] at h
  try dsimp only at h
  cases h
  exact W.vret hx hb hr (fun t ht _ => ⟨rfl, by rw [ht]; exact hP, hS.F ht⟩) hS.2.2 dX2_leaveOut_25
abbrev rmX10_spared : Room := { frames := 6, cells := 0, slots := 0, locals := 141 }
set_option maxHeartbeats 4000000 in
set_option maxRecDepth 100000 in
theorem k_X10_spared (l : Launch) {D : va_G} {cI cJ : ClassId} {ad : Nat → Nat} {u : tU} {v : tV} {A : Nat → Prop} (hD : zD A cI cJ ad) {a1 : Int32}  {r : Int32} {uz : tU} {vz : tV} (h : pX10_spared u v a1 = some (r, uz, vz)) : Met l yX10_spared wsX10_spared rmX10_spared (va_Pc [.ref (ad 0), .int a1] (xPre D cI cJ (wA cI cJ ad u v))) (xWi D cI cJ ad A r uz vz) 0 0 A := by
  refine Met.ofW (cc := cX10_spared) (maxL := 2) (ret := (some .int)) (by decide) rfl ?_
  intro p e s m args below meth c s₁ B hml hv
  obtain ⟨rfl, hP, hK⟩ := hv
  have hx := B.exec
  have hb := B.bytes
  have hr := B.returns
  have hts := atoms_spec (ws := wsX10_spared) B.pre
  have hown : s.vm.findClass RX10 = some m.cls := findClass_of_methodNamed B.named
  have hlocks := B.notSynchronized
  have hS : va_S A s.heap s.heap [] := va_S.rf
  have hin0 : ∀ w ∈ u_ws RX0 TX0 8, w ∈ wsX10_spared := fun _ h => List.mem_cons_of_mem _ (List.mem_append_left _ (List.mem_append_left _ (List.mem_append_left _ (List.mem_append_left _ (List.mem_append_left _ (List.mem_append_left _ (List.mem_append_left _ (List.mem_append_right _ h))))))))
  have hin10 : ∀ w ∈ u_ws RX10 TX10 7, w ∈ wsX10_spared := fun _ h => List.mem_cons_of_mem _ (List.mem_append_left _ (List.mem_append_left _ (List.mem_append_left _ (List.mem_append_left _ (List.mem_append_left _ (List.mem_append_left _ (List.mem_append_left _ (List.mem_append_left _ (List.mem_append_right _ h)))))))))
  have hw1 := hts (.fieldLink RX10 19 "InstallDesk" "books" "LInstallDesk$Books;") (List.mem_of_getElem? (i := 1) rfl)
  have hw2 := hts (.fieldLink RX10 29 "InstallDesk" "holdings" "LInstallDesk$Holdings;") (List.mem_of_getElem? (i := 2) rfl)
  have hw3 := hts (.instanceMethod yX3_isOne) (List.mem_of_getElem? (i := 3) rfl)
  have hw4 := hts (.initialized RX3) (List.mem_of_getElem? (i := 4) rfl)
  have hw5 := hts (.selects RX3 yX3_isOne yX3_isOne) (List.mem_of_getElem? (i := 5) rfl)
  have hw14 := hts (.instanceMethod yX2_fill) (List.mem_of_getElem? (i := 14) rfl)
  have hw15 := hts (.initialized RX2) (List.mem_of_getElem? (i := 15) rfl)
  have hw16 := hts (.selects RX2 yX2_fill yX2_fill) (List.mem_of_getElem? (i := 16) rfl)
  have hw87 := hts (.instanceMethod yX2_leaveOut) (List.mem_of_getElem? (i := 87) rfl)
  have hw88 := hts (.selects RX2 yX2_leaveOut yX2_leaveOut) (List.mem_of_getElem? (i := 88) rfl)
  have hl := lv_entry ([.ref (ad 0), .int a1]) (n := 2) (Nat.le_of_ble_eq_true rfl)
  rw [lg_entry_eq]
  generalize (lg_sl ([.ref (ad 0), .int a1]) ++ List.replicate (2 - (lg_sl ([.ref (ad 0), .int a1])).length) Slot.unset).toArray = ls at hl ⊢
  have hl : lv_has ls 2 [(0, .ref (ad 0)), (1, .int a1)] := hl
  rw [pX10_spared] at h
  refine lv_aload_n hx hb dX10_spared_0 rfl (lv_at hl 0 rfl) ?_
  refine za_getr (k := 1) hx hb hts hin10 hown hK hP zF_0_1 rfl (Nat.le_of_ble_eq_true rfl) (Or.inl hw1) dX10_spared_1 ?_
  refine za_getr (k := 2) hx hb hts hin0 hown hK hP zF_2_2 rfl (Nat.le_of_ble_eq_true rfl) (nw_218 hK.2) dX10_spared_4 ?_
  refine lv_iload_n hx hb dX10_spared_7 rfl (lv_at hl 1 rfl) ?_
  obtain ⟨r2, hc1, h⟩ := vz_b h
  refine za_callR (va_runVN (As := [.int a1]) (rest := []) ⟨hx, hb, hml, hown, hts⟩ (k_X3_isOne l (D := D) (cI := cI) (cJ := cJ) (ad := ad) hc1) ⟨va_cnB 1 hts gX10_spared_X3_isOne_n123 rfl rfl rfl (nw_391 hK.2) hw4 zd_X3_isOne ⟨Nat.le_of_ble_eq_true rfl, Nat.le_of_ble_eq_true rfl⟩, hw3, hw5⟩ (xPreV (ci := 3) hK hP rfl zO_11) rfl rfl hl.1 rfl (lv_room (Nat.le_of_ble_eq_true rfl)) dX10_spared_8 ⟨Nat.zero_le _, Nat.zero_le _⟩) ?_
  refine lv_if_ne (tgt := 20) hx hb dX10_spared_11 (by decide) (fun c3 => ?_) (fun c3 => ?_)
  · have h := vz_f c3 h
    refine lv_aload_n hx hb dX10_spared_20 rfl (lv_at hl 0 rfl) ?_
    refine za_getr (k := 3) hx hb hts hin10 hown hK hP zF_0_3 rfl (Nat.le_of_ble_eq_true rfl) (Or.inl hw2) dX10_spared_21 ?_
    refine lv_aload_n hx hb dX10_spared_24 rfl (lv_at hl 0 rfl) ?_
    refine za_getr (k := 1) hx hb hts hin10 hown hK hP zF_0_1 rfl (Nat.le_of_ble_eq_true rfl) (Or.inl hw1) dX10_spared_25 ?_
    obtain ⟨⟨u5, v6⟩, hc4, h⟩ := vz_b h
    try dsimp only at h
    refine za_callWv (va_runVN (As := [.ref (ad 2)]) (rest := []) ⟨hx, hb, hml, hown, hts⟩ (k_X2_fill l (D := D) (cI := cI) (cJ := cJ) (ad := ad) hD hc4) ⟨va_cnB 1 hts gX10_spared_X2_fill_n159 rfl rfl rfl (nw_474 hK.2) hw15 zd_X2_fill ⟨Nat.le_of_ble_eq_true rfl, Nat.le_of_ble_eq_true rfl⟩, hw14, hw16⟩ (xPreV (ci := 2) hK hP rfl zO_60) rfl rfl hl.1 rfl (lv_room (Nat.le_of_ble_eq_true rfl)) dX10_spared_28 ⟨Nat.zero_le _, Nat.zero_le _⟩) hS (fun H locs hP hS => ?_)
    refine lv_aload_n hx hb dX10_spared_31 rfl (lv_at hl 0 rfl) ?_
    refine za_getr (k := 3) hx hb hts hin10 hown hK hP zF_0_3 rfl (Nat.le_of_ble_eq_true rfl) (Or.inl hw2) dX10_spared_32 ?_
    refine lv_iload_n hx hb dX10_spared_35 rfl (lv_at hl 1 rfl) ?_
    obtain ⟨⟨u9, v10⟩, hc8, h⟩ := vz_b h
    try dsimp only at h
    refine za_callWv (va_runVN (As := [.int a1]) (rest := []) ⟨hx, hb, hml, hown, hts⟩ (k_X2_leaveOut l (D := D) (cI := cI) (cJ := cJ) (ad := ad) hD hc8) ⟨va_cnB 1 hts gX10_spared_X2_leaveOut_n237 rfl rfl rfl (nw_666 hK.2) hw15 zd_X2_leaveOut ⟨Nat.le_of_ble_eq_true rfl, Nat.le_of_ble_eq_true rfl⟩, hw87, hw88⟩ (xPreV (ci := 2) hK hP rfl zO_60) rfl rfl hl.1 rfl (lv_room (Nat.le_of_ble_eq_true rfl)) dX10_spared_36 ⟨Nat.zero_le _, Nat.zero_le _⟩) hS (fun H locs hP hS => ?_)
    refine lv_aload_n hx hb dX10_spared_39 rfl (lv_at hl 0 rfl) ?_
    refine lv_aload_n hx hb dX10_spared_40 rfl (lv_at hl 0 rfl) ?_
    refine za_getr (k := 1) hx hb hts hin10 hown hK hP zF_0_1 rfl (Nat.le_of_ble_eq_true rfl) (Or.inl hw1) dX10_spared_41 ?_
    refine za_geti (k := 6) hx hb hts hin0 hown hK hP zF_2_6 rfl (Nat.le_of_ble_eq_true rfl) (nw_228 hK.2) dX10_spared_44 ?_
    obtain ⟨⟨r16, u13, v14⟩, hc12, h⟩ := vz_b h
    try dsimp only at h
    refine za_callWi (va_runV (As := [.int (u9 10 6)]) (rest := []) ⟨hx, hb, hml, hown, hts⟩ (k_X10_lackOn l (D := D) (cI := cI) (cJ := cJ) (ad := ad) hD hc12) (cwV 1 hts gX10_spared_X10_lackOn rfl rfl rfl ⟨rfl, zd_X10_lackOn⟩ ⟨Nat.le_of_ble_eq_true rfl, Nat.le_of_ble_eq_true rfl⟩) (xPreV (ci := 10) hK hP rfl zO_0) rfl rfl hl.1 rfl (lv_room (Nat.le_of_ble_eq_true rfl)) dX10_spared_47 ⟨Nat.zero_le _, Nat.zero_le _⟩) hS (fun H locs hP hS => ?_)
    cases h
    exact W.iret hx hb hr (fun t ht _ => ⟨rfl, by rw [ht]; exact hP, hS.F ht⟩) hS.2.2 dX10_spared_50
  · have h := vz_t c3 h
    refine lv_aload_n hx hb dX10_spared_14 rfl (lv_at hl 0 rfl) ?_
    refine lv_iconst (v := (-1 : Int32)) hx hb dX10_spared_15 (by decide) ?_
    obtain ⟨⟨r21, u18, v19⟩, hc17, h⟩ := vz_b h
    try dsimp only at h
    refine za_callWi (va_runV (As := [.int (-1 : Int32)]) (rest := []) ⟨hx, hb, hml, hown, hts⟩ (k_X10_finding l (D := D) (cI := cI) (cJ := cJ) (ad := ad) hD hc17) (cwV 1 hts gX10_spared_X10_finding rfl rfl rfl ⟨rfl, zd_X10_finding⟩ ⟨Nat.le_of_ble_eq_true rfl, Nat.le_of_ble_eq_true rfl⟩) (xPreV (ci := 10) hK hP rfl zO_0) rfl rfl hl.1 rfl (lv_room (Nat.le_of_ble_eq_true rfl)) dX10_spared_16 ⟨Nat.zero_le _, Nat.zero_le _⟩) hS (fun H locs hP hS => ?_)
    cases h
    exact W.iret hx hb hr (fun t ht _ => ⟨rfl, by rw [ht]; exact hP, hS.F ht⟩) hS.2.2 dX10_spared_19
abbrev rmX10_today : Room := { frames := 2, cells := 0, slots := 0, locals := 42 }
set_option maxHeartbeats 4000000 in
set_option maxRecDepth 100000 in
theorem k_X10_today (l : Launch) {D : va_G} {cI cJ : ClassId} {ad : Nat → Nat} {u : tU} {v : tV} {A : Nat → Prop} (hD : zD A cI cJ ad) {a1 : Int32}  {r : Int32} {uz : tU} {vz : tV} (h : pX10_today u v a1 = some (r, uz, vz)) : Met l yX10_today wsX10_today rmX10_today (va_Pc [.ref (ad 0), .int a1] (xPre D cI cJ (wA cI cJ ad u v))) (xWi D cI cJ ad A r uz vz) 0 0 A := by
  refine Met.ofW (cc := cX10_today) (maxL := 3) (ret := (some .int)) (by decide) rfl ?_
  intro p e s m args below meth c s₁ B hml hv
  obtain ⟨rfl, hP, hK⟩ := hv
  have hx := B.exec
  have hb := B.bytes
  have hr := B.returns
  have hts := atoms_spec (ws := wsX10_today) B.pre
  have hown : s.vm.findClass RX10 = some m.cls := findClass_of_methodNamed B.named
  have hlocks := B.notSynchronized
  have hS : va_S A s.heap s.heap [] := va_S.rf
  have hin0 : ∀ w ∈ u_ws RX0 TX0 8, w ∈ wsX10_today := fun _ h => List.mem_cons_of_mem _ (List.mem_append_right _ h)
  have hin10 : ∀ w ∈ u_ws RX10 TX10 7, w ∈ wsX10_today := fun _ h => List.mem_cons_of_mem _ (List.mem_append_left _ (List.mem_append_right _ h))
  have hw1 := hts (.fieldLink RX10 19 "InstallDesk" "books" "LInstallDesk$Books;") (List.mem_of_getElem? (i := 1) rfl)
  have hl := lv_entry ([.ref (ad 0), .int a1]) (n := 3) (Nat.le_of_ble_eq_true rfl)
  rw [lg_entry_eq]
  generalize (lg_sl ([.ref (ad 0), .int a1]) ++ List.replicate (3 - (lg_sl ([.ref (ad 0), .int a1])).length) Slot.unset).toArray = ls at hl ⊢
  have hl : lv_has ls 3 [(0, .ref (ad 0)), (1, .int a1)] := hl
  rw [pX10_today] at h
  refine lv_iload_n hx hb dX10_today_0 rfl (lv_at hl 1 rfl) ?_
  obtain ⟨r2, hc1, h⟩ := vz_b h
  refine za_callR (va_runS (As := [.int a1]) (rest := []) ⟨hx, hb, hml, hown, hts⟩ (k_X10_isDay l hc1) (va_cwS 1 hts gX10_today_X10_isDay rfl rfl rfl zd_X10_isDay ⟨Nat.le_of_ble_eq_true rfl, Nat.le_of_ble_eq_true rfl⟩) xPre0 rfl rfl hl.1 rfl (lv_room (Nat.le_of_ble_eq_true rfl)) dX10_today_1 ⟨Nat.zero_le _, Nat.zero_le _⟩) ?_
  refine lv_if_ne (tgt := 13) hx hb dX10_today_4 (by decide) (fun c3 => ?_) (fun c3 => ?_)
  · have h := vz_f c3 h
    refine lv_aload_n hx hb dX10_today_13 rfl (lv_at hl 0 rfl) ?_
    refine za_getr (k := 1) hx hb hts hin10 hown hK hP zF_0_1 rfl (Nat.le_of_ble_eq_true rfl) (Or.inl hw1) dX10_today_14 ?_
    refine za_geti (k := 6) hx hb hts hin0 hown hK hP zF_2_6 rfl (Nat.le_of_ble_eq_true rfl) (nw_228 hK.2) dX10_today_17 ?_
    refine lv_istore_n (lv' := [(2, .int (u 10 6)), (0, .ref (ad 0)), (1, .int a1)]) hx hb dX10_today_20 rfl hl (by decide) rfl (fun ls hl => ?_)
    refine lv_aload_n hx hb dX10_today_21 rfl (lv_at hl 1 rfl) ?_
    refine za_getr (k := 1) hx hb hts hin10 hown hK hP zF_0_1 rfl (Nat.le_of_ble_eq_true rfl) (Or.inl hw1) dX10_today_22 ?_
    refine lv_iload_n hx hb dX10_today_25 rfl (lv_at hl 2 rfl) ?_
    refine za_puti (k := 6) hx hb hts hin0 tyX0 tyX0_ok nmX0 hown hK hP hD hS zF_2_6 rfl (Nat.le_of_ble_eq_true rfl) (nw_228 hK.2) rfl rfl rfl dX10_today_26 (fun H locs hP hS => ?_)
    refine lv_iload_n hx hb dX10_today_29 rfl (lv_at hl 0 rfl) ?_
    cases h
    exact W.iret hx hb hr (fun t ht _ => ⟨rfl, by rw [ht]; exact hP, hS.F ht⟩) hS.2.2 dX10_today_30
  · have h := vz_t c3 h
    refine lv_aload_n hx hb dX10_today_7 rfl (lv_at hl 0 rfl) ?_
    refine lv_iconst (v := (-1 : Int32)) hx hb dX10_today_8 (by decide) ?_
    obtain ⟨⟨r8, u5, v6⟩, hc4, h⟩ := vz_b h
    try dsimp only at h
    refine za_callWi (va_runV (As := [.int (-1 : Int32)]) (rest := []) ⟨hx, hb, hml, hown, hts⟩ (k_X10_finding l (D := D) (cI := cI) (cJ := cJ) (ad := ad) hD hc4) (cwV 1 hts gX10_today_X10_finding rfl rfl rfl ⟨rfl, zd_X10_finding⟩ ⟨Nat.le_of_ble_eq_true rfl, Nat.le_of_ble_eq_true rfl⟩) (xPreV (ci := 10) hK hP rfl zO_0) rfl rfl hl.1 rfl (lv_room (Nat.le_of_ble_eq_true rfl)) dX10_today_9 ⟨Nat.zero_le _, Nat.zero_le _⟩) hS (fun H locs hP hS => ?_)
    cases h
    exact W.iret hx hb hr (fun t ht _ => ⟨rfl, by rw [ht]; exact hP, hS.F ht⟩) hS.2.2 dX10_today_12
abbrev rmX10_told : Room := { frames := 1, cells := 0, slots := 0, locals := 21 }
set_option maxHeartbeats 4000000 in
set_option maxRecDepth 100000 in
theorem k_X10_told (l : Launch) {D : va_G} {cI cJ : ClassId} {ad : Nat → Nat} {u : tU} {v : tV} {A : Nat → Prop} (hD : zD A cI cJ ad) {a1 : Int32}  {r : Int32} {uz : tU} {vz : tV} (h : pX10_told u v a1 = some (r, uz, vz)) : Met l yX10_told wsX10_told rmX10_told (va_Pc [.ref (ad 0), .int a1] (xPre D cI cJ (wA cI cJ ad u v))) (xWi D cI cJ ad A r uz vz) 0 0 A := by
  refine Met.ofW (cc := cX10_told) (maxL := 2) (ret := (some .int)) (by decide) rfl ?_
  intro p e s m args below meth c s₁ B hml hv
  obtain ⟨rfl, hP, hK⟩ := hv
  have hx := B.exec
  have hb := B.bytes
  have hr := B.returns
  have hts := atoms_spec (ws := wsX10_told) B.pre
  have hown : s.vm.findClass RX10 = some m.cls := findClass_of_methodNamed B.named
  have hlocks := B.notSynchronized
  have hS : va_S A s.heap s.heap [] := va_S.rf
  have hin0 : ∀ w ∈ u_ws RX0 TX0 8, w ∈ wsX10_told := fun _ h => List.mem_cons_of_mem _ (List.mem_append_left _ (List.mem_append_left _ (List.mem_append_left _ (List.mem_append_left _ (List.mem_append_left _ (List.mem_append_left _ (List.mem_append_right _ h)))))))
  have hin3 : ∀ w ∈ u_ws RX3 TX3 3, w ∈ wsX10_told := fun _ h => List.mem_cons_of_mem _ (List.mem_append_left _ (List.mem_append_left _ (List.mem_append_left _ (List.mem_append_right _ h))))
  have hin4 : ∀ w ∈ u_ws RX4 TX4 2, w ∈ wsX10_told := fun _ h => List.mem_cons_of_mem _ (List.mem_append_right _ h)
  have hin6 : ∀ w ∈ u_ws RX6 TX6 4, w ∈ wsX10_told := fun _ h => List.mem_cons_of_mem _ (List.mem_append_left _ (List.mem_append_left _ (List.mem_append_left _ (List.mem_append_left _ (List.mem_append_left _ (List.mem_append_right _ h))))))
  have hin7 : ∀ w ∈ u_ws RX7 TX7 7, w ∈ wsX10_told := fun _ h => List.mem_cons_of_mem _ (List.mem_append_left _ (List.mem_append_right _ h))
  have hin8 : ∀ w ∈ u_ws RX8 TX8 4, w ∈ wsX10_told := fun _ h => List.mem_cons_of_mem _ (List.mem_append_left _ (List.mem_append_left _ (List.mem_append_left _ (List.mem_append_left _ (List.mem_append_right _ h)))))
  have hin9 : ∀ w ∈ u_ws RX9 TX9 5, w ∈ wsX10_told := fun _ h => List.mem_cons_of_mem _ (List.mem_append_left _ (List.mem_append_left _ (List.mem_append_right _ h)))
  have hin10 : ∀ w ∈ u_ws RX10 TX10 7, w ∈ wsX10_told := fun _ h => List.mem_cons_of_mem _ (List.mem_append_left _ (List.mem_append_left _ (List.mem_append_left _ (List.mem_append_left _ (List.mem_append_left _ (List.mem_append_left _ (List.mem_append_left _ (List.mem_append_right _ h))))))))
  have hw1 := hts (.fieldLink RX10 19 "InstallDesk" "books" "LInstallDesk$Books;") (List.mem_of_getElem? (i := 1) rfl)
  have hw2 := hts (.fieldLink RX10 248 "InstallDesk" "findingsTold" "I") (List.mem_of_getElem? (i := 2) rfl)
  have hw3 := hts (.fieldLink RX10 10 "InstallDesk" "letters" "LInstallDesk$Letters;") (List.mem_of_getElem? (i := 3) rfl)
  have hl := lv_entry ([.ref (ad 0), .int a1]) (n := 2) (Nat.le_of_ble_eq_true rfl)
  rw [lg_entry_eq]
  generalize (lg_sl ([.ref (ad 0), .int a1]) ++ List.replicate (2 - (lg_sl ([.ref (ad 0), .int a1])).length) Slot.unset).toArray = ls at hl ⊢
  have hl : lv_has ls 2 [(0, .ref (ad 0)), (1, .int a1)] := hl
  rw [pX10_told] at h
  refine lv_iload_n hx hb dX10_told_0 rfl (lv_at hl 1 rfl) ?_
  by_cases c1 : a1 = (0 : Int32)
  · have h := vz_t c1 h
    refine lv_tableIn (tgt := 44) hx hb dX10_told_1 (by rw [c1]; decide) (by rw [c1]; decide) (by rw [c1]; rfl) (by decide) ?_
    refine lv_aload_n hx hb dX10_told_44 rfl (lv_at hl 0 rfl) ?_
    refine za_getr (k := 1) hx hb hts hin10 hown hK hP zF_0_1 rfl (Nat.le_of_ble_eq_true rfl) (Or.inl hw1) dX10_told_45 ?_
    refine za_getr (k := 0) hx hb hts hin0 hown hK hP zF_2_0 rfl (Nat.le_of_ble_eq_true rfl) (nw_210 hK.2) dX10_told_48 ?_
    refine za_geti (k := 0) hx hb hts hin6 hown hK hP zF_3_0 rfl (Nat.le_of_ble_eq_true rfl) (nw_52 hK.2) dX10_told_51 ?_
    cases h
    exact W.iret hx hb hr (fun t ht _ => ⟨rfl, by rw [ht]; exact hP, hS.F ht⟩) hS.2.2 dX10_told_54
  have h := vz_f c1 h
  by_cases c2 : a1 = (1 : Int32)
  · have h := vz_t c2 h
    refine lv_tableIn (tgt := 55) hx hb dX10_told_1 (by rw [c2]; decide) (by rw [c2]; decide) (by rw [c2]; rfl) (by decide) ?_
    refine lv_aload_n hx hb dX10_told_55 rfl (lv_at hl 0 rfl) ?_
    refine za_getr (k := 1) hx hb hts hin10 hown hK hP zF_0_1 rfl (Nat.le_of_ble_eq_true rfl) (Or.inl hw1) dX10_told_56 ?_
    refine za_getr (k := 1) hx hb hts hin0 hown hK hP zF_2_1 rfl (Nat.le_of_ble_eq_true rfl) (nw_214 hK.2) dX10_told_59 ?_
    refine za_geti (k := 0) hx hb hts hin8 hown hK hP zF_7_0 rfl (Nat.le_of_ble_eq_true rfl) (nw_80 hK.2) dX10_told_62 ?_
    cases h
    exact W.iret hx hb hr (fun t ht _ => ⟨rfl, by rw [ht]; exact hP, hS.F ht⟩) hS.2.2 dX10_told_65
  have h := vz_f c2 h
  by_cases c3 : a1 = (2 : Int32)
  · have h := vz_t c3 h
    refine lv_tableIn (tgt := 66) hx hb dX10_told_1 (by rw [c3]; decide) (by rw [c3]; decide) (by rw [c3]; rfl) (by decide) ?_
    refine lv_aload_n hx hb dX10_told_66 rfl (lv_at hl 0 rfl) ?_
    refine za_getr (k := 1) hx hb hts hin10 hown hK hP zF_0_1 rfl (Nat.le_of_ble_eq_true rfl) (Or.inl hw1) dX10_told_67 ?_
    refine za_getr (k := 2) hx hb hts hin0 hown hK hP zF_2_2 rfl (Nat.le_of_ble_eq_true rfl) (nw_218 hK.2) dX10_told_70 ?_
    refine za_geti (k := 0) hx hb hts hin3 hown hK hP zF_11_0 rfl (Nat.le_of_ble_eq_true rfl) (nw_106 hK.2) dX10_told_73 ?_
    cases h
    exact W.iret hx hb hr (fun t ht _ => ⟨rfl, by rw [ht]; exact hP, hS.F ht⟩) hS.2.2 dX10_told_76
  have h := vz_f c3 h
  by_cases c4 : a1 = (3 : Int32)
  · have h := vz_t c4 h
    refine lv_tableIn (tgt := 77) hx hb dX10_told_1 (by rw [c4]; decide) (by rw [c4]; decide) (by rw [c4]; rfl) (by decide) ?_
    refine lv_aload_n hx hb dX10_told_77 rfl (lv_at hl 0 rfl) ?_
    refine za_getr (k := 1) hx hb hts hin10 hown hK hP zF_0_1 rfl (Nat.le_of_ble_eq_true rfl) (Or.inl hw1) dX10_told_78 ?_
    refine za_getr (k := 4) hx hb hts hin0 hown hK hP zF_2_4 rfl (Nat.le_of_ble_eq_true rfl) (nw_223 hK.2) dX10_told_81 ?_
    refine za_geti (k := 0) hx hb hts hin9 hown hK hP zF_19_0 rfl (Nat.le_of_ble_eq_true rfl) (nw_154 hK.2) dX10_told_84 ?_
    cases h
    exact W.iret hx hb hr (fun t ht _ => ⟨rfl, by rw [ht]; exact hP, hS.F ht⟩) hS.2.2 dX10_told_87
  have h := vz_f c4 h
  by_cases c5 : a1 = (4 : Int32)
  · have h := vz_t c5 h
    refine lv_tableIn (tgt := 88) hx hb dX10_told_1 (by rw [c5]; decide) (by rw [c5]; decide) (by rw [c5]; rfl) (by decide) ?_
    refine lv_aload_n hx hb dX10_told_88 rfl (lv_at hl 0 rfl) ?_
    refine za_getr (k := 1) hx hb hts hin10 hown hK hP zF_0_1 rfl (Nat.le_of_ble_eq_true rfl) (Or.inl hw1) dX10_told_89 ?_
    refine za_getr (k := 5) hx hb hts hin0 hown hK hP zF_2_5 rfl (Nat.le_of_ble_eq_true rfl) (nw_226 hK.2) dX10_told_92 ?_
    refine za_geti (k := 0) hx hb hts hin7 hown hK hP zF_24_0 rfl (Nat.le_of_ble_eq_true rfl) (nw_178 hK.2) dX10_told_95 ?_
    cases h
    exact W.iret hx hb hr (fun t ht _ => ⟨rfl, by rw [ht]; exact hP, hS.F ht⟩) hS.2.2 dX10_told_98
  have h := vz_f c5 h
  by_cases c6 : a1 = (5 : Int32)
  · have h := vz_t c6 h
    refine lv_tableIn (tgt := 99) hx hb dX10_told_1 (by rw [c6]; decide) (by rw [c6]; decide) (by rw [c6]; rfl) (by decide) ?_
    refine lv_aload_n hx hb dX10_told_99 rfl (lv_at hl 0 rfl) ?_
    refine za_geti (k := 6) hx hb hts hin10 hown hK hP zF_0_6 rfl (Nat.le_of_ble_eq_true rfl) (Or.inl hw2) dX10_told_100 ?_
    cases h
    exact W.iret hx hb hr (fun t ht _ => ⟨rfl, by rw [ht]; exact hP, hS.F ht⟩) hS.2.2 dX10_told_103
  have h := vz_f c6 h
  by_cases c7 : a1 = (6 : Int32)
  · have h := vz_t c7 h
    refine lv_tableIn (tgt := 104) hx hb dX10_told_1 (by rw [c7]; decide) (by rw [c7]; decide) (by rw [c7]; rfl) (by decide) ?_
    refine lv_aload_n hx hb dX10_told_104 rfl (lv_at hl 0 rfl) ?_
    refine za_getr (k := 0) hx hb hts hin10 hown hK hP zF_0_0 rfl (Nat.le_of_ble_eq_true rfl) (Or.inl hw3) dX10_told_105 ?_
    refine za_geti (k := 0) hx hb hts hin4 hown hK hP zF_1_0 rfl (Nat.le_of_ble_eq_true rfl) (nw_32 hK.2) dX10_told_108 ?_
    cases h
    exact W.iret hx hb hr (fun t ht _ => ⟨rfl, by rw [ht]; exact hP, hS.F ht⟩) hS.2.2 dX10_told_111
  have h := vz_f c7 h
  refine lv_tableOut (tgt := 112) hx hb dX10_told_1 (tsw6 c1 c2 c3 c4 c5 c6 c7) (by decide) ?_
  refine lv_aload_n hx hb dX10_told_112 rfl (lv_at hl 0 rfl) ?_
  refine lv_iconst (v := (-1 : Int32)) hx hb dX10_told_113 (by decide) ?_
  obtain ⟨⟨r12, u9, v10⟩, hc8, h⟩ := vz_b h
  try dsimp only at h
  refine za_callWi (va_runV (As := [.int (-1 : Int32)]) (rest := []) ⟨hx, hb, hml, hown, hts⟩ (k_X10_finding l (D := D) (cI := cI) (cJ := cJ) (ad := ad) hD hc8) (cwV 1 hts gX10_told_X10_finding rfl rfl rfl ⟨rfl, zd_X10_finding⟩ ⟨Nat.le_of_ble_eq_true rfl, Nat.le_of_ble_eq_true rfl⟩) (xPreV (ci := 10) hK hP rfl zO_0) rfl rfl hl.1 rfl (lv_room (Nat.le_of_ble_eq_true rfl)) dX10_told_114 ⟨Nat.zero_le _, Nat.zero_le _⟩) hS (fun H locs hP hS => ?_)
  cases h
  exact W.iret hx hb hr (fun t ht _ => ⟨rfl, by rw [ht]; exact hP, hS.F ht⟩) hS.2.2 dX10_told_117
