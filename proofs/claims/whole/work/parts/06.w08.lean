abbrev rmX8_remove : Room := { frames := 0, cells := 0, slots := 0, locals := 0 }
set_option maxHeartbeats 4000000 in
set_option maxRecDepth 100000 in
theorem k_X8_remove (l : Launch) {D : va_G} {cI cJ : ClassId} {ad : Nat → Nat} {u : tU} {v : tV} {A : Nat → Prop} (hD : zD A cI cJ ad) {a1 : Int32}  {uz : tU} {vz : tV} (h : pX8_remove u v a1 = some (uz, vz)) : Met l yX8_remove wsX8_remove rmX8_remove (va_Pc [.ref (ad 7), .int a1] (xPre D cI cJ (wA cI cJ ad u v))) (xWv D cI cJ ad A uz vz) 0 0 A := by
  refine Met.ofW (cc := cX8_remove) (maxL := 3) (ret := none) (by decide) rfl ?_
  intro p e s m args below meth c s₁ B hml hv
  obtain ⟨rfl, hP, hK⟩ := hv
  have hx := B.exec
  have hb := B.bytes
  have hr := B.returns
  have hts := atoms_spec (ws := wsX8_remove) B.pre
  have hown : s.vm.findClass RX8 = some m.cls := findClass_of_methodNamed B.named
  have hlocks := B.notSynchronized
  have hS : va_S A s.heap s.heap [] := va_S.rf
  have hin8 : ∀ w ∈ u_ws RX8 TX8 4, w ∈ wsX8_remove := fun _ h => List.mem_cons_of_mem _ (List.mem_append_right _ h)
  have hw1 := hts (.fieldLink RX8 22 "InstallDesk$Rules" "count" "I") (List.mem_of_getElem? (i := 1) rfl)
  have hw2 := hts (.fieldLink RX8 9 "InstallDesk$Rules" "patterns" "[J") (List.mem_of_getElem? (i := 2) rfl)
  have hw3 := hts (.fieldLink RX8 15 "InstallDesk$Rules" "ranks" "[I") (List.mem_of_getElem? (i := 3) rfl)
  have hw4 := hts (.fieldLink RX8 19 "InstallDesk$Rules" "products" "[I") (List.mem_of_getElem? (i := 4) rfl)
  have hl := lv_entry ([.ref (ad 7), .int a1]) (n := 3) (Nat.le_of_ble_eq_true rfl)
  rw [lg_entry_eq]
  generalize (lg_sl ([.ref (ad 7), .int a1]) ++ List.replicate (3 - (lg_sl ([.ref (ad 7), .int a1])).length) Slot.unset).toArray = ls at hl ⊢
  have hl : lv_has ls 3 [(0, .ref (ad 7)), (1, .int a1)] := hl
  have L2 : ∀ (n : Nat) (x2 : Int32) (u : tU) (v : tV) (H : Heap) (locs : List Loc) (ls : Array Slot) (o : tU × tV), pX8_remove_L2 n x2 u v = some o → va_P D vwCl (wA cI cJ ad u v) H → va_S A s.heap H locs → lv_has ls 3 [(0, .ref (ad 7)), (2, .int x2)] → (∀ (u' : tU) (v' : tV) (H : Heap) (locs : List Loc) (ls : Array Slot), o = (u', v') → va_P D vwCl (wA cI cJ ad u' v') H → va_S A s.heap H locs → lv_has ls 3 [(0, .ref (ad 7))] → W p l e (headSpec wsX8_remove rmX8_remove).room s m [Value.ref (ad 7), Value.int a1].toArray below meth c H locs 0 0 (MQ below (xWv D cI cJ ad A uz vz) [Value.ref (ad 7), Value.int a1].toArray s 0 0 A) (F0 m 60 ls [])) → W p l e (headSpec wsX8_remove rmX8_remove).room s m [Value.ref (ad 7), Value.int a1].toArray below meth c H locs 0 0 (MQ below (xWv D cI cJ ad A uz vz) [Value.ref (ad 7), Value.int a1].toArray s 0 0 A) (F0 m 2 ls []) := by
    intro n
    induction n with
    | zero => intro x2 u v H locs ls o h; cases h
    | succ n ih =>
      intro x2 u v H locs ls o h hP hS hl hk
      rw [pX8_remove_L2] at h
      refine lv_iload_n hx hb dX8_remove_2 rfl (lv_at hl 1 rfl) ?_
      refine lv_iconst (v := (1 : Int32)) hx hb dX8_remove_3 (by decide) ?_
      refine lv_iadd hx hb dX8_remove_4 ?_
      refine lv_aload_n hx hb dX8_remove_5 rfl (lv_at hl 0 rfl) ?_
      refine za_geti (k := 0) hx hb hts hin8 hown hK hP zF_7_0 rfl (Nat.le_of_ble_eq_true rfl) (Or.inl hw1) dX8_remove_6 ?_
      refine lv_icmp_ge (tgt := 60) hx hb dX8_remove_9 (by decide) (fun c1 => ?_) (fun c1 => ?_)
      · have h := vz_t c1 h
        cases h
        exact hk u v _ _ ls rfl hP hS (lv_sub hl [0] rfl)
      · have h := vz_f c1 h
        refine lv_aload_n hx hb dX8_remove_12 rfl (lv_at hl 0 rfl) ?_
        refine za_getr (k := 1) hx hb hts hin8 hown hK hP zF_7_1 rfl (Nat.le_of_ble_eq_true rfl) (Or.inl hw2) dX8_remove_13 ?_
        refine lv_iload_n hx hb dX8_remove_16 rfl (lv_at hl 1 rfl) ?_
        refine lv_aload_n hx hb dX8_remove_17 rfl (lv_at hl 0 rfl) ?_
        refine za_getr (k := 1) hx hb hts hin8 hown hK hP zF_7_1 rfl (Nat.le_of_ble_eq_true rfl) (Or.inl hw2) dX8_remove_18 ?_
        refine lv_iload_n hx hb dX8_remove_21 rfl (lv_at hl 1 rfl) ?_
        refine lv_iconst (v := (1 : Int32)) hx hb dX8_remove_22 (by decide) ?_
        refine lv_iadd hx hb dX8_remove_23 ?_
        obtain ⟨g2, h⟩ := gd_s h
        refine za_lld hx hb hK hP zJ_8 g2 dX8_remove_24 ?_
        obtain ⟨g3, h⟩ := gd_s h
        refine za_lst hx hb hK hP hD hS zJ_8 g3 dX8_remove_25 (fun H locs hP hS => ?_)
        refine lv_aload_n hx hb dX8_remove_26 rfl (lv_at hl 0 rfl) ?_
        refine za_getr (k := 2) hx hb hts hin8 hown hK hP zF_7_2 rfl (Nat.le_of_ble_eq_true rfl) (Or.inl hw3) dX8_remove_27 ?_
        refine lv_iload_n hx hb dX8_remove_30 rfl (lv_at hl 1 rfl) ?_
        refine lv_aload_n hx hb dX8_remove_31 rfl (lv_at hl 0 rfl) ?_
        refine za_getr (k := 2) hx hb hts hin8 hown hK hP zF_7_2 rfl (Nat.le_of_ble_eq_true rfl) (Or.inl hw3) dX8_remove_32 ?_
        refine lv_iload_n hx hb dX8_remove_35 rfl (lv_at hl 1 rfl) ?_
        refine lv_iconst (v := (1 : Int32)) hx hb dX8_remove_36 (by decide) ?_
        refine lv_iadd hx hb dX8_remove_37 ?_
        obtain ⟨g4, h⟩ := gd_s h
        refine za_ild hx hb hK hP zI_9 g4 dX8_remove_38 ?_
        obtain ⟨g5, h⟩ := gd_s h
        refine za_ist hx hb hK hP hD hS zI_9 g5 dX8_remove_39 (fun H locs hP hS => ?_)
        refine lv_aload_n hx hb dX8_remove_40 rfl (lv_at hl 0 rfl) ?_
        refine za_getr (k := 3) hx hb hts hin8 hown hK hP zF_7_3 rfl (Nat.le_of_ble_eq_true rfl) (Or.inl hw4) dX8_remove_41 ?_
        refine lv_iload_n hx hb dX8_remove_44 rfl (lv_at hl 1 rfl) ?_
        refine lv_aload_n hx hb dX8_remove_45 rfl (lv_at hl 0 rfl) ?_
        refine za_getr (k := 3) hx hb hts hin8 hown hK hP zF_7_3 rfl (Nat.le_of_ble_eq_true rfl) (Or.inl hw4) dX8_remove_46 ?_
        refine lv_iload_n hx hb dX8_remove_49 rfl (lv_at hl 1 rfl) ?_
        refine lv_iconst (v := (1 : Int32)) hx hb dX8_remove_50 (by decide) ?_
        refine lv_iadd hx hb dX8_remove_51 ?_
        obtain ⟨g6, h⟩ := gd_s h
        refine za_ild hx hb hK hP zI_10 g6 dX8_remove_52 ?_
        obtain ⟨g7, h⟩ := gd_s h
        refine za_ist hx hb hK hP hD hS zI_10 g7 dX8_remove_53 (fun H locs hP hS => ?_)
        refine lv_iinc (v := (x2 + 1)) (lv' := [(2, .int (x2 + 1)), (0, .ref (ad 7))]) hx hb dX8_remove_54 hl (k := 1) rfl rfl (by decide) rfl (fun ls hl => ?_)
        refine lv_goto (tgt := 2) hx hb dX8_remove_57 (by decide) ?_
        exact ih (x2 + 1) (sU (sU u 14 x2.toNatClampNeg (u 14 (x2 + (1 : Int32)).toNatClampNeg)) 15 x2.toNatClampNeg ((sU u 14 x2.toNatClampNeg (u 14 (x2 + (1 : Int32)).toNatClampNeg)) 15 (x2 + (1 : Int32)).toNatClampNeg)) (sV v 1 x2.toNatClampNeg (v 1 (x2 + (1 : Int32)).toNatClampNeg)) _ _ ls o h hP hS (lv_sub hl [1, 0] rfl) hk
  rw [pX8_remove] at h
  refine lv_iload_n hx hb dX8_remove_0 rfl (lv_at hl 1 rfl) ?_
  refine lv_istore_n (lv' := [(2, .int a1), (0, .ref (ad 7)), (1, .int a1)]) hx hb dX8_remove_1 rfl hl (by decide) rfl (fun ls hl => ?_)
  obtain ⟨o8, hL9, h⟩ := vz_b h
  refine L2 fuel a1 u v _ _ ls o8 hL9 hP hS (lv_sub hl [1, 0] rfl) (fun u11 v12 H locs ls e10 hP hS hl => ?_)
  try rw [e10] at h
  try dsimp only at h
  refine lv_aload_n hx hb dX8_remove_60 rfl (lv_at hl 0 rfl) ?_
  refine lv_dup hx hb dX8_remove_61 rfl ?_
  refine za_geti (k := 0) hx hb hts hin8 hown hK hP zF_7_0 rfl (Nat.le_of_ble_eq_true rfl) (Or.inl hw1) dX8_remove_62 ?_
  refine lv_iconst (v := (1 : Int32)) hx hb dX8_remove_65 (by decide) ?_
  refine lv_isub hx hb dX8_remove_66 ?_
  refine za_puti (k := 0) hx hb hts hin8 tyX8 tyX8_ok nmX8 hown hK hP hD hS zF_7_0 rfl (Nat.le_of_ble_eq_true rfl) (Or.inl hw1) rfl rfl rfl dX8_remove_67 (fun H locs hP hS => ?_)
  cases h
  exact W.vret hx hb hr (fun t ht _ => ⟨rfl, by rw [ht]; exact hP, hS.F ht⟩) hS.2.2 dX8_remove_70
abbrev rmX10_unrule : Room := { frames := 1, cells := 0, slots := 0, locals := 22 }
set_option maxHeartbeats 4000000 in
set_option maxRecDepth 100000 in
theorem k_X10_unrule (l : Launch) {D : va_G} {cI cJ : ClassId} {ad : Nat → Nat} {u : tU} {v : tV} {A : Nat → Prop} (hD : zD A cI cJ ad) {a1 : Int32}  {r : Int32} {uz : tU} {vz : tV} (h : pX10_unrule u v a1 = some (r, uz, vz)) : Met l yX10_unrule wsX10_unrule rmX10_unrule (va_Pc [.ref (ad 0), .int a1] (xPre D cI cJ (wA cI cJ ad u v))) (xWi D cI cJ ad A r uz vz) 0 0 A := by
  refine Met.ofW (cc := cX10_unrule) (maxL := 2) (ret := (some .int)) (by decide) rfl ?_
  intro p e s m args below meth c s₁ B hml hv
  obtain ⟨rfl, hP, hK⟩ := hv
  have hx := B.exec
  have hb := B.bytes
  have hr := B.returns
  have hts := atoms_spec (ws := wsX10_unrule) B.pre
  have hown : s.vm.findClass RX10 = some m.cls := findClass_of_methodNamed B.named
  have hlocks := B.notSynchronized
  have hS : va_S A s.heap s.heap [] := va_S.rf
  have hin0 : ∀ w ∈ u_ws RX0 TX0 8, w ∈ wsX10_unrule := fun _ h => List.mem_cons_of_mem _ (List.mem_append_left _ (List.mem_append_right _ h))
  have hin8 : ∀ w ∈ u_ws RX8 TX8 4, w ∈ wsX10_unrule := fun _ h => List.mem_cons_of_mem _ (List.mem_append_right _ h)
  have hin10 : ∀ w ∈ u_ws RX10 TX10 7, w ∈ wsX10_unrule := fun _ h => List.mem_cons_of_mem _ (List.mem_append_left _ (List.mem_append_left _ (List.mem_append_right _ h)))
  have hw1 := hts (.fieldLink RX10 19 "InstallDesk" "books" "LInstallDesk$Books;") (List.mem_of_getElem? (i := 1) rfl)
  have hw2 := hts (.instanceMethod yX8_isOne) (List.mem_of_getElem? (i := 2) rfl)
  have hw3 := hts (.initialized RX8) (List.mem_of_getElem? (i := 3) rfl)
  have hw4 := hts (.selects RX8 yX8_isOne yX8_isOne) (List.mem_of_getElem? (i := 4) rfl)
  have hw13 := hts (.instanceMethod yX8_remove) (List.mem_of_getElem? (i := 13) rfl)
  have hw14 := hts (.selects RX8 yX8_remove yX8_remove) (List.mem_of_getElem? (i := 14) rfl)
  have hl := lv_entry ([.ref (ad 0), .int a1]) (n := 2) (Nat.le_of_ble_eq_true rfl)
  rw [lg_entry_eq]
  generalize (lg_sl ([.ref (ad 0), .int a1]) ++ List.replicate (2 - (lg_sl ([.ref (ad 0), .int a1])).length) Slot.unset).toArray = ls at hl ⊢
  have hl : lv_has ls 2 [(0, .ref (ad 0)), (1, .int a1)] := hl
  rw [pX10_unrule] at h
  refine lv_aload_n hx hb dX10_unrule_0 rfl (lv_at hl 0 rfl) ?_
  refine za_getr (k := 1) hx hb hts hin10 hown hK hP zF_0_1 rfl (Nat.le_of_ble_eq_true rfl) (Or.inl hw1) dX10_unrule_1 ?_
  refine za_getr (k := 1) hx hb hts hin0 hown hK hP zF_2_1 rfl (Nat.le_of_ble_eq_true rfl) (nw_214 hK.2) dX10_unrule_4 ?_
  refine lv_iload_n hx hb dX10_unrule_7 rfl (lv_at hl 1 rfl) ?_
  obtain ⟨r2, hc1, h⟩ := vz_b h
  refine za_callR (va_runVN (As := [.int a1]) (rest := []) ⟨hx, hb, hml, hown, hts⟩ (k_X8_isOne l (D := D) (cI := cI) (cJ := cJ) (ad := ad) hc1) ⟨va_cnB 1 hts gX10_unrule_X8_isOne_n99 rfl rfl rfl (nw_358 hK.2) hw3 zd_X8_isOne ⟨Nat.le_of_ble_eq_true rfl, Nat.le_of_ble_eq_true rfl⟩, hw2, hw4⟩ (xPreV (ci := 8) hK hP rfl zO_7) rfl rfl hl.1 rfl (lv_room (Nat.le_of_ble_eq_true rfl)) dX10_unrule_8 ⟨Nat.zero_le _, Nat.zero_le _⟩) ?_
  refine lv_if_ne (tgt := 20) hx hb dX10_unrule_11 (by decide) (fun c3 => ?_) (fun c3 => ?_)
  · have h := vz_f c3 h
    refine lv_aload_n hx hb dX10_unrule_20 rfl (lv_at hl 0 rfl) ?_
    refine za_getr (k := 1) hx hb hts hin10 hown hK hP zF_0_1 rfl (Nat.le_of_ble_eq_true rfl) (Or.inl hw1) dX10_unrule_21 ?_
    refine za_getr (k := 1) hx hb hts hin0 hown hK hP zF_2_1 rfl (Nat.le_of_ble_eq_true rfl) (nw_214 hK.2) dX10_unrule_24 ?_
    refine lv_iload_n hx hb dX10_unrule_27 rfl (lv_at hl 1 rfl) ?_
    obtain ⟨⟨u5, v6⟩, hc4, h⟩ := vz_b h
    try dsimp only at h
    refine za_callWv (va_runVN (As := [.int a1]) (rest := []) ⟨hx, hb, hml, hown, hts⟩ (k_X8_remove l (D := D) (cI := cI) (cJ := cJ) (ad := ad) hD hc4) ⟨va_cnB 1 hts gX10_unrule_X8_remove_n100 rfl rfl rfl (nw_362 hK.2) hw3 zd_X8_remove ⟨Nat.le_of_ble_eq_true rfl, Nat.le_of_ble_eq_true rfl⟩, hw13, hw14⟩ (xPreV (ci := 8) hK hP rfl zO_7) rfl rfl hl.1 rfl (lv_room (Nat.le_of_ble_eq_true rfl)) dX10_unrule_28 ⟨Nat.zero_le _, Nat.zero_le _⟩) hS (fun H locs hP hS => ?_)
    refine lv_aload_n hx hb dX10_unrule_31 rfl (lv_at hl 0 rfl) ?_
    refine za_getr (k := 1) hx hb hts hin10 hown hK hP zF_0_1 rfl (Nat.le_of_ble_eq_true rfl) (Or.inl hw1) dX10_unrule_32 ?_
    refine za_getr (k := 1) hx hb hts hin0 hown hK hP zF_2_1 rfl (Nat.le_of_ble_eq_true rfl) (nw_214 hK.2) dX10_unrule_35 ?_
    refine za_geti (k := 0) hx hb hts hin8 hown hK hP zF_7_0 rfl (Nat.le_of_ble_eq_true rfl) (nw_80 hK.2) dX10_unrule_38 ?_
    cases h
    exact W.iret hx hb hr (fun t ht _ => ⟨rfl, by rw [ht]; exact hP, hS.F ht⟩) hS.2.2 dX10_unrule_41
  · have h := vz_t c3 h
    refine lv_aload_n hx hb dX10_unrule_14 rfl (lv_at hl 0 rfl) ?_
    refine lv_iconst (v := (-1 : Int32)) hx hb dX10_unrule_15 (by decide) ?_
    obtain ⟨⟨r12, u9, v10⟩, hc8, h⟩ := vz_b h
    try dsimp only at h
    refine za_callWi (va_runV (As := [.int (-1 : Int32)]) (rest := []) ⟨hx, hb, hml, hown, hts⟩ (k_X10_finding l (D := D) (cI := cI) (cJ := cJ) (ad := ad) hD hc8) (cwV 1 hts gX10_unrule_X10_finding rfl rfl rfl ⟨rfl, zd_X10_finding⟩ ⟨Nat.le_of_ble_eq_true rfl, Nat.le_of_ble_eq_true rfl⟩) (xPreV (ci := 10) hK hP rfl zO_0) rfl rfl hl.1 rfl (lv_room (Nat.le_of_ble_eq_true rfl)) dX10_unrule_16 ⟨Nat.zero_le _, Nat.zero_le _⟩) hS (fun H locs hP hS => ?_)
    cases h
    exact W.iret hx hb hr (fun t ht _ => ⟨rfl, by rw [ht]; exact hP, hS.F ht⟩) hS.2.2 dX10_unrule_19
abbrev rmX9_add : Room := { frames := 0, cells := 0, slots := 0, locals := 0 }
set_option maxHeartbeats 4000000 in
set_option maxRecDepth 100000 in
theorem k_X9_add (l : Launch) {D : va_G} {cI cJ : ClassId} {ad : Nat → Nat} {u : tU} {v : tV} {A : Nat → Prop} (hD : zD A cI cJ ad) {a1 : Int32} {a2 : Int32} {a3 : Int32} {a4 : Int32}  {r : Int32} {uz : tU} {vz : tV} (h : pX9_add u v a1 a2 a3 a4 = some (r, uz, vz)) : Met l yX9_add wsX9_add rmX9_add (va_Pc [.ref (ad 19), .int a1, .int a2, .int a3, .int a4] (xPre D cI cJ (wA cI cJ ad u v))) (xWi D cI cJ ad A r uz vz) 0 0 A := by
  refine Met.ofW (cc := cX9_add) (maxL := 5) (ret := (some .int)) (by decide) rfl ?_
  intro p e s m args below meth c s₁ B hml hv
  obtain ⟨rfl, hP, hK⟩ := hv
  have hx := B.exec
  have hb := B.bytes
  have hr := B.returns
  have hts := atoms_spec (ws := wsX9_add) B.pre
  have hown : s.vm.findClass RX9 = some m.cls := findClass_of_methodNamed B.named
  have hlocks := B.notSynchronized
  have hS : va_S A s.heap s.heap [] := va_S.rf
  have hin9 : ∀ w ∈ u_ws RX9 TX9 5, w ∈ wsX9_add := fun _ h => List.mem_cons_of_mem _ (List.mem_append_right _ h)
  have hw1 := hts (.fieldLink RX9 9 "InstallDesk$Uses" "persons" "[I") (List.mem_of_getElem? (i := 1) rfl)
  have hw2 := hts (.fieldLink RX9 24 "InstallDesk$Uses" "count" "I") (List.mem_of_getElem? (i := 2) rfl)
  have hw3 := hts (.fieldLink RX9 15 "InstallDesk$Uses" "products" "[I") (List.mem_of_getElem? (i := 3) rfl)
  have hw4 := hts (.fieldLink RX9 18 "InstallDesk$Uses" "starts" "[I") (List.mem_of_getElem? (i := 4) rfl)
  have hw5 := hts (.fieldLink RX9 21 "InstallDesk$Uses" "ends" "[I") (List.mem_of_getElem? (i := 5) rfl)
  have hl := lv_entry ([.ref (ad 19), .int a1, .int a2, .int a3, .int a4]) (n := 5) (Nat.le_of_ble_eq_true rfl)
  rw [lg_entry_eq]
  generalize (lg_sl ([.ref (ad 19), .int a1, .int a2, .int a3, .int a4]) ++ List.replicate (5 - (lg_sl ([.ref (ad 19), .int a1, .int a2, .int a3, .int a4])).length) Slot.unset).toArray = ls at hl ⊢
  have hl : lv_has ls 5 [(0, .ref (ad 19)), (1, .int a1), (2, .int a2), (3, .int a3), (4, .int a4)] := hl
  rw [pX9_add] at h
  refine lv_aload_n hx hb dX9_add_0 rfl (lv_at hl 0 rfl) ?_
  refine za_getr (k := 1) hx hb hts hin9 hown hK hP zF_19_1 rfl (Nat.le_of_ble_eq_true rfl) (Or.inl hw1) dX9_add_1 ?_
  refine lv_aload_n hx hb dX9_add_4 rfl (lv_at hl 0 rfl) ?_
  refine za_geti (k := 0) hx hb hts hin9 hown hK hP zF_19_0 rfl (Nat.le_of_ble_eq_true rfl) (Or.inl hw2) dX9_add_5 ?_
  refine lv_iload_n hx hb dX9_add_8 rfl (lv_at hl 1 rfl) ?_
  obtain ⟨g1, h⟩ := gd_s h
  refine za_ist hx hb hK hP hD hS zI_20 g1 dX9_add_9 (fun H locs hP hS => ?_)
  refine lv_aload_n hx hb dX9_add_10 rfl (lv_at hl 0 rfl) ?_
  refine za_getr (k := 2) hx hb hts hin9 hown hK hP zF_19_2 rfl (Nat.le_of_ble_eq_true rfl) (Or.inl hw3) dX9_add_11 ?_
  refine lv_aload_n hx hb dX9_add_14 rfl (lv_at hl 0 rfl) ?_
  refine za_geti (k := 0) hx hb hts hin9 hown hK hP zF_19_0 rfl (Nat.le_of_ble_eq_true rfl) (Or.inl hw2) dX9_add_15 ?_
  refine lv_iload_n hx hb dX9_add_18 rfl (lv_at hl 2 rfl) ?_
  obtain ⟨g2, h⟩ := gd_s h
  refine za_ist hx hb hK hP hD hS zI_21 g2 dX9_add_19 (fun H locs hP hS => ?_)
  refine lv_aload_n hx hb dX9_add_20 rfl (lv_at hl 0 rfl) ?_
  refine za_getr (k := 3) hx hb hts hin9 hown hK hP zF_19_3 rfl (Nat.le_of_ble_eq_true rfl) (Or.inl hw4) dX9_add_21 ?_
  refine lv_aload_n hx hb dX9_add_24 rfl (lv_at hl 0 rfl) ?_
  refine za_geti (k := 0) hx hb hts hin9 hown hK hP zF_19_0 rfl (Nat.le_of_ble_eq_true rfl) (Or.inl hw2) dX9_add_25 ?_
  refine lv_iload_n hx hb dX9_add_28 rfl (lv_at hl 3 rfl) ?_
  obtain ⟨g3, h⟩ := gd_s h
  refine za_ist hx hb hK hP hD hS zI_22 g3 dX9_add_29 (fun H locs hP hS => ?_)
  refine lv_aload_n hx hb dX9_add_30 rfl (lv_at hl 0 rfl) ?_
  refine za_getr (k := 4) hx hb hts hin9 hown hK hP zF_19_4 rfl (Nat.le_of_ble_eq_true rfl) (Or.inl hw5) dX9_add_31 ?_
  refine lv_aload_n hx hb dX9_add_34 rfl (lv_at hl 0 rfl) ?_
  refine za_geti (k := 0) hx hb hts hin9 hown hK hP zF_19_0 rfl (Nat.le_of_ble_eq_true rfl) (Or.inl hw2) dX9_add_35 ?_
  refine lv_iload hx hb dX9_add_38 (lv_at hl 4 rfl) ?_
  obtain ⟨g4, h⟩ := gd_s h
  refine za_ist hx hb hK hP hD hS zI_23 g4 dX9_add_40 (fun H locs hP hS => ?_)
  refine lv_aload_n hx hb dX9_add_41 rfl (lv_at hl 0 rfl) ?_
  refine lv_dup hx hb dX9_add_42 rfl ?_
  refine za_geti (k := 0) hx hb hts hin9 hown hK hP zF_19_0 rfl (Nat.le_of_ble_eq_true rfl) (Or.inl hw2) dX9_add_43 ?_
  refine lv_iconst (v := (1 : Int32)) hx hb dX9_add_46 (by decide) ?_
  refine lv_iadd hx hb dX9_add_47 ?_
  refine za_puti (k := 0) hx hb hts hin9 tyX9 tyX9_ok nmX9 hown hK hP hD hS zF_19_0 rfl (Nat.le_of_ble_eq_true rfl) (Or.inl hw2) rfl rfl rfl dX9_add_48 (fun H locs hP hS => ?_)
  refine lv_aload_n hx hb dX9_add_51 rfl (lv_at hl 0 rfl) ?_
  refine za_geti (k := 0) hx hb hts hin9 hown hK hP zF_19_0 rfl (Nat.le_of_ble_eq_true rfl) (Or.inl hw2) dX9_add_52 ?_
  refine lv_iconst (v := (1 : Int32)) hx hb dX9_add_55 (by decide) ?_
  refine lv_isub hx hb dX9_add_56 ?_
  cases h
  exact W.iret hx hb hr (fun t ht _ => ⟨rfl, by rw [ht]; exact hP, hS.F ht⟩) hS.2.2 dX9_add_57
abbrev rmX10_use : Room := { frames := 2, cells := 0, slots := 0, locals := 42 }
set_option maxHeartbeats 4000000 in
set_option maxRecDepth 100000 in
theorem k_X10_use (l : Launch) {D : va_G} {cI cJ : ClassId} {ad : Nat → Nat} {u : tU} {v : tV} {A : Nat → Prop} (hD : zD A cI cJ ad) {a1 : Int32} {a2 : Int32} {a3 : Int32} {a4 : Int32}  {r : Int32} {uz : tU} {vz : tV} (h : pX10_use u v a1 a2 a3 a4 = some (r, uz, vz)) : Met l yX10_use wsX10_use rmX10_use (va_Pc [.ref (ad 0), .int a1, .int a2, .int a3, .int a4] (xPre D cI cJ (wA cI cJ ad u v))) (xWi D cI cJ ad A r uz vz) 0 0 A := by
  refine Met.ofW (cc := cX10_use) (maxL := 6) (ret := (some .int)) (by decide) rfl ?_
  intro p e s m args below meth c s₁ B hml hv
  obtain ⟨rfl, hP, hK⟩ := hv
  have hx := B.exec
  have hb := B.bytes
  have hr := B.returns
  have hts := atoms_spec (ws := wsX10_use) B.pre
  have hown : s.vm.findClass RX10 = some m.cls := findClass_of_methodNamed B.named
  have hlocks := B.notSynchronized
  have hS : va_S A s.heap s.heap [] := va_S.rf
  have hin0 : ∀ w ∈ u_ws RX0 TX0 8, w ∈ wsX10_use := fun _ h => List.mem_cons_of_mem _ (List.mem_append_left _ (List.mem_append_left _ (List.mem_append_right _ h)))
  have hin9 : ∀ w ∈ u_ws RX9 TX9 5, w ∈ wsX10_use := fun _ h => List.mem_cons_of_mem _ (List.mem_append_left _ (List.mem_append_right _ h))
  have hin10 : ∀ w ∈ u_ws RX10 TX10 7, w ∈ wsX10_use := fun _ h => List.mem_cons_of_mem _ (List.mem_append_left _ (List.mem_append_left _ (List.mem_append_left _ (List.mem_append_right _ h))))
  have hw1 := hts (.fieldLink RX10 19 "InstallDesk" "books" "LInstallDesk$Books;") (List.mem_of_getElem? (i := 1) rfl)
  have hw9 := hts (.instanceMethod yX6_isOne) (List.mem_of_getElem? (i := 9) rfl)
  have hw10 := hts (.initialized RX6) (List.mem_of_getElem? (i := 10) rfl)
  have hw11 := hts (.selects RX6 yX6_isOne yX6_isOne) (List.mem_of_getElem? (i := 11) rfl)
  have hw19 := hts (.instanceMethod yX9_add) (List.mem_of_getElem? (i := 19) rfl)
  have hw20 := hts (.initialized RX9) (List.mem_of_getElem? (i := 20) rfl)
  have hw21 := hts (.selects RX9 yX9_add yX9_add) (List.mem_of_getElem? (i := 21) rfl)
  have hl := lv_entry ([.ref (ad 0), .int a1, .int a2, .int a3, .int a4]) (n := 6) (Nat.le_of_ble_eq_true rfl)
  rw [lg_entry_eq]
  generalize (lg_sl ([.ref (ad 0), .int a1, .int a2, .int a3, .int a4]) ++ List.replicate (6 - (lg_sl ([.ref (ad 0), .int a1, .int a2, .int a3, .int a4])).length) Slot.unset).toArray = ls at hl ⊢
  have hl : lv_has ls 6 [(0, .ref (ad 0)), (1, .int a1), (2, .int a2), (3, .int a3), (4, .int a4)] := hl
  rw [pX10_use] at h
  refine lv_iload_n hx hb dX10_use_0 rfl (lv_at hl 3 rfl) ?_
  obtain ⟨r2, hc1, h⟩ := vz_b h
  refine za_callR (va_runS (As := [.int a3]) (rest := []) ⟨hx, hb, hml, hown, hts⟩ (k_X10_isTick l hc1) (va_cwS 1 hts gX10_use_X10_isTick rfl rfl rfl zd_X10_isTick ⟨Nat.le_of_ble_eq_true rfl, Nat.le_of_ble_eq_true rfl⟩) xPre0 rfl rfl hl.1 rfl (lv_room (Nat.le_of_ble_eq_true rfl)) dX10_use_1 ⟨Nat.zero_le _, Nat.zero_le _⟩) ?_
  refine lv_if_eq (tgt := 25) hx hb dX10_use_4 (by decide) (fun c3 => ?_) (fun c3 => ?_)
  · have h := vz_t c3 h
    refine lv_iconst (v := (0 : Int32)) hx hb dX10_use_25 (by decide) ?_
    refine lv_istore (lv' := [(5, .int (0 : Int32)), (0, .ref (ad 0)), (1, .int a1), (2, .int a2), (3, .int a3), (4, .int a4)]) hx hb dX10_use_26 hl (by decide) rfl (fun ls hl => ?_)
    refine lv_iload_n hx hb dX10_use_28 rfl (lv_at hl 2 rfl) ?_
    refine lv_iconst (v := (0 : Int32)) hx hb dX10_use_29 (by decide) ?_
    refine lv_bipush (v := (9 : Int32)) hx hb dX10_use_30 (by decide) ?_
    obtain ⟨r5, hc4, h⟩ := vz_b h
    refine za_callR (va_runS (As := [.int a1, .int (0 : Int32), .int (9 : Int32)]) (rest := []) ⟨hx, hb, hml, hown, hts⟩ (k_X10_isWithin l hc4) (va_cwS 3 hts gX10_use_X10_isWithin rfl rfl rfl zd_X10_isWithin ⟨Nat.le_of_ble_eq_true rfl, Nat.le_of_ble_eq_true rfl⟩) xPre0 rfl rfl hl.1 rfl (lv_room (Nat.le_of_ble_eq_true rfl)) dX10_use_32 ⟨Nat.zero_le _, Nat.zero_le _⟩) ?_
    refine lv_if_eq (tgt := 57) hx hb dX10_use_35 (by decide) (fun c6 => ?_) (fun c6 => ?_)
    · have h := vz_t c6 h
      refine lv_aload_n hx hb dX10_use_57 rfl (lv_at hl 1 rfl) ?_
      refine lv_iconst (v := (-1 : Int32)) hx hb dX10_use_58 (by decide) ?_
      obtain ⟨⟨r11, u8, v9⟩, hc7, h⟩ := vz_b h
      try dsimp only at h
      refine za_callWi (va_runV (As := [.int (-1 : Int32)]) (rest := []) ⟨hx, hb, hml, hown, hts⟩ (k_X10_finding l (D := D) (cI := cI) (cJ := cJ) (ad := ad) hD hc7) (cwV 1 hts gX10_use_X10_finding rfl rfl rfl ⟨rfl, zd_X10_finding⟩ ⟨Nat.le_of_ble_eq_true rfl, Nat.le_of_ble_eq_true rfl⟩) (xPreV (ci := 10) hK hP rfl zO_0) rfl rfl hl.1 rfl (lv_room (Nat.le_of_ble_eq_true rfl)) dX10_use_59 ⟨Nat.zero_le _, Nat.zero_le _⟩) hS (fun H locs hP hS => ?_)
      cases h
      exact W.iret hx hb hr (fun t ht _ => ⟨rfl, by rw [ht]; exact hP, hS.F ht⟩) hS.2.2 dX10_use_62
    · have h := vz_f c6 h
      refine lv_aload_n hx hb dX10_use_38 rfl (lv_at hl 1 rfl) ?_
      refine za_getr (k := 1) hx hb hts hin10 hown hK hP zF_0_1 rfl (Nat.le_of_ble_eq_true rfl) (Or.inl hw1) dX10_use_39 ?_
      refine za_getr (k := 0) hx hb hts hin0 hown hK hP zF_2_0 rfl (Nat.le_of_ble_eq_true rfl) (nw_210 hK.2) dX10_use_42 ?_
      refine lv_iload_n hx hb dX10_use_45 rfl (lv_at hl 3 rfl) ?_
      obtain ⟨r13, hc12, h⟩ := vz_b h
      refine za_callR (va_runVN (As := [.int a2]) (rest := []) ⟨hx, hb, hml, hown, hts⟩ (k_X6_isOne l (D := D) (cI := cI) (cJ := cJ) (ad := ad) hc12) ⟨va_cnB 1 hts gX10_use_X6_isOne_n74 rfl rfl rfl (nw_331 hK.2) hw10 zd_X6_isOne ⟨Nat.le_of_ble_eq_true rfl, Nat.le_of_ble_eq_true rfl⟩, hw9, hw11⟩ (xPreV (ci := 6) hK hP rfl zO_3) rfl rfl hl.1 rfl (lv_room (Nat.le_of_ble_eq_true rfl)) dX10_use_46 ⟨Nat.zero_le _, Nat.zero_le _⟩) ?_
      refine lv_if_eq (tgt := 57) hx hb dX10_use_49 (by decide) (fun c14 => ?_) (fun c14 => ?_)
      · have h := vz_t c14 h
        refine lv_aload_n hx hb dX10_use_57 rfl (lv_at hl 1 rfl) ?_
        refine lv_iconst (v := (-1 : Int32)) hx hb dX10_use_58 (by decide) ?_
        obtain ⟨⟨r19, u16, v17⟩, hc15, h⟩ := vz_b h
        try dsimp only at h
        refine za_callWi (va_runV (As := [.int (-1 : Int32)]) (rest := []) ⟨hx, hb, hml, hown, hts⟩ (k_X10_finding l (D := D) (cI := cI) (cJ := cJ) (ad := ad) hD hc15) (cwV 1 hts gX10_use_X10_finding rfl rfl rfl ⟨rfl, zd_X10_finding⟩ ⟨Nat.le_of_ble_eq_true rfl, Nat.le_of_ble_eq_true rfl⟩) (xPreV (ci := 10) hK hP rfl zO_0) rfl rfl hl.1 rfl (lv_room (Nat.le_of_ble_eq_true rfl)) dX10_use_59 ⟨Nat.zero_le _, Nat.zero_le _⟩) hS (fun H locs hP hS => ?_)
        cases h
        exact W.iret hx hb hr (fun t ht _ => ⟨rfl, by rw [ht]; exact hP, hS.F ht⟩) hS.2.2 dX10_use_62
      · have h := vz_f c14 h
        refine lv_iload hx hb dX10_use_52 (lv_at hl 0 rfl) ?_
        refine lv_if_ne (tgt := 63) hx hb dX10_use_54 (by decide) (fun c20 => ?_) (fun c20 => ?_)
        · exact absurd c20 (by decide)
        refine lv_aload_n hx hb dX10_use_57 rfl (lv_at hl 1 rfl) ?_
        refine lv_iconst (v := (-1 : Int32)) hx hb dX10_use_58 (by decide) ?_
        obtain ⟨⟨r25, u22, v23⟩, hc21, h⟩ := vz_b h
        try dsimp only at h
        refine za_callWi (va_runV (As := [.int (-1 : Int32)]) (rest := []) ⟨hx, hb, hml, hown, hts⟩ (k_X10_finding l (D := D) (cI := cI) (cJ := cJ) (ad := ad) hD hc21) (cwV 1 hts gX10_use_X10_finding rfl rfl rfl ⟨rfl, zd_X10_finding⟩ ⟨Nat.le_of_ble_eq_true rfl, Nat.le_of_ble_eq_true rfl⟩) (xPreV (ci := 10) hK hP rfl zO_0) rfl rfl hl.1 rfl (lv_room (Nat.le_of_ble_eq_true rfl)) dX10_use_59 ⟨Nat.zero_le _, Nat.zero_le _⟩) hS (fun H locs hP hS => ?_)
        cases h
        exact W.iret hx hb hr (fun t ht _ => ⟨rfl, by rw [ht]; exact hP, hS.F ht⟩) hS.2.2 dX10_use_62
  · have h := vz_f c3 h
    refine lv_iload hx hb dX10_use_7 (lv_at hl 4 rfl) ?_
    obtain ⟨r27, hc26, h⟩ := vz_b h
    refine za_callR (va_runS (As := [.int a4]) (rest := []) ⟨hx, hb, hml, hown, hts⟩ (k_X10_isTick l hc26) (va_cwS 1 hts gX10_use_X10_isTick rfl rfl rfl zd_X10_isTick ⟨Nat.le_of_ble_eq_true rfl, Nat.le_of_ble_eq_true rfl⟩) xPre0 rfl rfl hl.1 rfl (lv_room (Nat.le_of_ble_eq_true rfl)) dX10_use_9 ⟨Nat.zero_le _, Nat.zero_le _⟩) ?_
    refine lv_if_eq (tgt := 25) hx hb dX10_use_12 (by decide) (fun c28 => ?_) (fun c28 => ?_)
    · have h := vz_t c28 h
      refine lv_iconst (v := (0 : Int32)) hx hb dX10_use_25 (by decide) ?_
      refine lv_istore (lv' := [(5, .int (0 : Int32)), (0, .ref (ad 0)), (1, .int a1), (2, .int a2), (3, .int a3), (4, .int a4)]) hx hb dX10_use_26 hl (by decide) rfl (fun ls hl => ?_)
      refine lv_iload_n hx hb dX10_use_28 rfl (lv_at hl 2 rfl) ?_
      refine lv_iconst (v := (0 : Int32)) hx hb dX10_use_29 (by decide) ?_
      refine lv_bipush (v := (9 : Int32)) hx hb dX10_use_30 (by decide) ?_
      obtain ⟨r30, hc29, h⟩ := vz_b h
      refine za_callR (va_runS (As := [.int a1, .int (0 : Int32), .int (9 : Int32)]) (rest := []) ⟨hx, hb, hml, hown, hts⟩ (k_X10_isWithin l hc29) (va_cwS 3 hts gX10_use_X10_isWithin rfl rfl rfl zd_X10_isWithin ⟨Nat.le_of_ble_eq_true rfl, Nat.le_of_ble_eq_true rfl⟩) xPre0 rfl rfl hl.1 rfl (lv_room (Nat.le_of_ble_eq_true rfl)) dX10_use_32 ⟨Nat.zero_le _, Nat.zero_le _⟩) ?_
      refine lv_if_eq (tgt := 57) hx hb dX10_use_35 (by decide) (fun c31 => ?_) (fun c31 => ?_)
      · have h := vz_t c31 h
        refine lv_aload_n hx hb dX10_use_57 rfl (lv_at hl 1 rfl) ?_
        refine lv_iconst (v := (-1 : Int32)) hx hb dX10_use_58 (by decide) ?_
        obtain ⟨⟨r36, u33, v34⟩, hc32, h⟩ := vz_b h
        try dsimp only at h
        refine za_callWi (va_runV (As := [.int (-1 : Int32)]) (rest := []) ⟨hx, hb, hml, hown, hts⟩ (k_X10_finding l (D := D) (cI := cI) (cJ := cJ) (ad := ad) hD hc32) (cwV 1 hts gX10_use_X10_finding rfl rfl rfl ⟨rfl, zd_X10_finding⟩ ⟨Nat.le_of_ble_eq_true rfl, Nat.le_of_ble_eq_true rfl⟩) (xPreV (ci := 10) hK hP rfl zO_0) rfl rfl hl.1 rfl (lv_room (Nat.le_of_ble_eq_true rfl)) dX10_use_59 ⟨Nat.zero_le _, Nat.zero_le _⟩) hS (fun H locs hP hS => ?_)
        cases h
        exact W.iret hx hb hr (fun t ht _ => ⟨rfl, by rw [ht]; exact hP, hS.F ht⟩) hS.2.2 dX10_use_62
      · have h := vz_f c31 h
        refine lv_aload_n hx hb dX10_use_38 rfl (lv_at hl 1 rfl) ?_
        refine za_getr (k := 1) hx hb hts hin10 hown hK hP zF_0_1 rfl (Nat.le_of_ble_eq_true rfl) (Or.inl hw1) dX10_use_39 ?_
        refine za_getr (k := 0) hx hb hts hin0 hown hK hP zF_2_0 rfl (Nat.le_of_ble_eq_true rfl) (nw_210 hK.2) dX10_use_42 ?_
        refine lv_iload_n hx hb dX10_use_45 rfl (lv_at hl 3 rfl) ?_
        obtain ⟨r38, hc37, h⟩ := vz_b h
        refine za_callR (va_runVN (As := [.int a2]) (rest := []) ⟨hx, hb, hml, hown, hts⟩ (k_X6_isOne l (D := D) (cI := cI) (cJ := cJ) (ad := ad) hc37) ⟨va_cnB 1 hts gX10_use_X6_isOne_n74 rfl rfl rfl (nw_331 hK.2) hw10 zd_X6_isOne ⟨Nat.le_of_ble_eq_true rfl, Nat.le_of_ble_eq_true rfl⟩, hw9, hw11⟩ (xPreV (ci := 6) hK hP rfl zO_3) rfl rfl hl.1 rfl (lv_room (Nat.le_of_ble_eq_true rfl)) dX10_use_46 ⟨Nat.zero_le _, Nat.zero_le _⟩) ?_
        refine lv_if_eq (tgt := 57) hx hb dX10_use_49 (by decide) (fun c39 => ?_) (fun c39 => ?_)
        · have h := vz_t c39 h
          refine lv_aload_n hx hb dX10_use_57 rfl (lv_at hl 1 rfl) ?_
          refine lv_iconst (v := (-1 : Int32)) hx hb dX10_use_58 (by decide) ?_
          obtain ⟨⟨r44, u41, v42⟩, hc40, h⟩ := vz_b h
          try dsimp only at h
          refine za_callWi (va_runV (As := [.int (-1 : Int32)]) (rest := []) ⟨hx, hb, hml, hown, hts⟩ (k_X10_finding l (D := D) (cI := cI) (cJ := cJ) (ad := ad) hD hc40) (cwV 1 hts gX10_use_X10_finding rfl rfl rfl ⟨rfl, zd_X10_finding⟩ ⟨Nat.le_of_ble_eq_true rfl, Nat.le_of_ble_eq_true rfl⟩) (xPreV (ci := 10) hK hP rfl zO_0) rfl rfl hl.1 rfl (lv_room (Nat.le_of_ble_eq_true rfl)) dX10_use_59 ⟨Nat.zero_le _, Nat.zero_le _⟩) hS (fun H locs hP hS => ?_)
          cases h
          exact W.iret hx hb hr (fun t ht _ => ⟨rfl, by rw [ht]; exact hP, hS.F ht⟩) hS.2.2 dX10_use_62
        · have h := vz_f c39 h
          refine lv_iload hx hb dX10_use_52 (lv_at hl 0 rfl) ?_
          refine lv_if_ne (tgt := 63) hx hb dX10_use_54 (by decide) (fun c45 => ?_) (fun c45 => ?_)
          · exact absurd c45 (by decide)
          refine lv_aload_n hx hb dX10_use_57 rfl (lv_at hl 1 rfl) ?_
          refine lv_iconst (v := (-1 : Int32)) hx hb dX10_use_58 (by decide) ?_
          obtain ⟨⟨r50, u47, v48⟩, hc46, h⟩ := vz_b h
          try dsimp only at h
          refine za_callWi (va_runV (As := [.int (-1 : Int32)]) (rest := []) ⟨hx, hb, hml, hown, hts⟩ (k_X10_finding l (D := D) (cI := cI) (cJ := cJ) (ad := ad) hD hc46) (cwV 1 hts gX10_use_X10_finding rfl rfl rfl ⟨rfl, zd_X10_finding⟩ ⟨Nat.le_of_ble_eq_true rfl, Nat.le_of_ble_eq_true rfl⟩) (xPreV (ci := 10) hK hP rfl zO_0) rfl rfl hl.1 rfl (lv_room (Nat.le_of_ble_eq_true rfl)) dX10_use_59 ⟨Nat.zero_le _, Nat.zero_le _⟩) hS (fun H locs hP hS => ?_)
          cases h
          exact W.iret hx hb hr (fun t ht _ => ⟨rfl, by rw [ht]; exact hP, hS.F ht⟩) hS.2.2 dX10_use_62
    · have h := vz_f c28 h
      refine lv_iload_n hx hb dX10_use_15 rfl (lv_at hl 3 rfl) ?_
      refine lv_iload hx hb dX10_use_16 (lv_at hl 4 rfl) ?_
      refine lv_icmp_ge (tgt := 25) hx hb dX10_use_18 (by decide) (fun c51 => ?_) (fun c51 => ?_)
      · have h := vz_t c51 h
        refine lv_iconst (v := (0 : Int32)) hx hb dX10_use_25 (by decide) ?_
        refine lv_istore (lv' := [(5, .int (0 : Int32)), (0, .ref (ad 0)), (1, .int a1), (2, .int a2), (3, .int a3), (4, .int a4)]) hx hb dX10_use_26 hl (by decide) rfl (fun ls hl => ?_)
        refine lv_iload_n hx hb dX10_use_28 rfl (lv_at hl 2 rfl) ?_
        refine lv_iconst (v := (0 : Int32)) hx hb dX10_use_29 (by decide) ?_
        refine lv_bipush (v := (9 : Int32)) hx hb dX10_use_30 (by decide) ?_
        obtain ⟨r53, hc52, h⟩ := vz_b h
        refine za_callR (va_runS (As := [.int a1, .int (0 : Int32), .int (9 : Int32)]) (rest := []) ⟨hx, hb, hml, hown, hts⟩ (k_X10_isWithin l hc52) (va_cwS 3 hts gX10_use_X10_isWithin rfl rfl rfl zd_X10_isWithin ⟨Nat.le_of_ble_eq_true rfl, Nat.le_of_ble_eq_true rfl⟩) xPre0 rfl rfl hl.1 rfl (lv_room (Nat.le_of_ble_eq_true rfl)) dX10_use_32 ⟨Nat.zero_le _, Nat.zero_le _⟩) ?_
        refine lv_if_eq (tgt := 57) hx hb dX10_use_35 (by decide) (fun c54 => ?_) (fun c54 => ?_)
        · have h := vz_t c54 h
          refine lv_aload_n hx hb dX10_use_57 rfl (lv_at hl 1 rfl) ?_
          refine lv_iconst (v := (-1 : Int32)) hx hb dX10_use_58 (by decide) ?_
          obtain ⟨⟨r59, u56, v57⟩, hc55, h⟩ := vz_b h
          try dsimp only at h
          refine za_callWi (va_runV (As := [.int (-1 : Int32)]) (rest := []) ⟨hx, hb, hml, hown, hts⟩ (k_X10_finding l (D := D) (cI := cI) (cJ := cJ) (ad := ad) hD hc55) (cwV 1 hts gX10_use_X10_finding rfl rfl rfl ⟨rfl, zd_X10_finding⟩ ⟨Nat.le_of_ble_eq_true rfl, Nat.le_of_ble_eq_true rfl⟩) (xPreV (ci := 10) hK hP rfl zO_0) rfl rfl hl.1 rfl (lv_room (Nat.le_of_ble_eq_true rfl)) dX10_use_59 ⟨Nat.zero_le _, Nat.zero_le _⟩) hS (fun H locs hP hS => ?_)
          cases h
          exact W.iret hx hb hr (fun t ht _ => ⟨rfl, by rw [ht]; exact hP, hS.F ht⟩) hS.2.2 dX10_use_62
        · have h := vz_f c54 h
          refine lv_aload_n hx hb dX10_use_38 rfl (lv_at hl 1 rfl) ?_
          refine za_getr (k := 1) hx hb hts hin10 hown hK hP zF_0_1 rfl (Nat.le_of_ble_eq_true rfl) (Or.inl hw1) dX10_use_39 ?_
          refine za_getr (k := 0) hx hb hts hin0 hown hK hP zF_2_0 rfl (Nat.le_of_ble_eq_true rfl) (nw_210 hK.2) dX10_use_42 ?_
          refine lv_iload_n hx hb dX10_use_45 rfl (lv_at hl 3 rfl) ?_
          obtain ⟨r61, hc60, h⟩ := vz_b h
          refine za_callR (va_runVN (As := [.int a2]) (rest := []) ⟨hx, hb, hml, hown, hts⟩ (k_X6_isOne l (D := D) (cI := cI) (cJ := cJ) (ad := ad) hc60) ⟨va_cnB 1 hts gX10_use_X6_isOne_n74 rfl rfl rfl (nw_331 hK.2) hw10 zd_X6_isOne ⟨Nat.le_of_ble_eq_true rfl, Nat.le_of_ble_eq_true rfl⟩, hw9, hw11⟩ (xPreV (ci := 6) hK hP rfl zO_3) rfl rfl hl.1 rfl (lv_room (Nat.le_of_ble_eq_true rfl)) dX10_use_46 ⟨Nat.zero_le _, Nat.zero_le _⟩) ?_
          refine lv_if_eq (tgt := 57) hx hb dX10_use_49 (by decide) (fun c62 => ?_) (fun c62 => ?_)
          · have h := vz_t c62 h
            refine lv_aload_n hx hb dX10_use_57 rfl (lv_at hl 1 rfl) ?_
            refine lv_iconst (v := (-1 : Int32)) hx hb dX10_use_58 (by decide) ?_
            obtain ⟨⟨r67, u64, v65⟩, hc63, h⟩ := vz_b h
            try dsimp only at h
            refine za_callWi (va_runV (As := [.int (-1 : Int32)]) (rest := []) ⟨hx, hb, hml, hown, hts⟩ (k_X10_finding l (D := D) (cI := cI) (cJ := cJ) (ad := ad) hD hc63) (cwV 1 hts gX10_use_X10_finding rfl rfl rfl ⟨rfl, zd_X10_finding⟩ ⟨Nat.le_of_ble_eq_true rfl, Nat.le_of_ble_eq_true rfl⟩) (xPreV (ci := 10) hK hP rfl zO_0) rfl rfl hl.1 rfl (lv_room (Nat.le_of_ble_eq_true rfl)) dX10_use_59 ⟨Nat.zero_le _, Nat.zero_le _⟩) hS (fun H locs hP hS => ?_)
            cases h
            exact W.iret hx hb hr (fun t ht _ => ⟨rfl, by rw [ht]; exact hP, hS.F ht⟩) hS.2.2 dX10_use_62
          · have h := vz_f c62 h
            refine lv_iload hx hb dX10_use_52 (lv_at hl 0 rfl) ?_
            refine lv_if_ne (tgt := 63) hx hb dX10_use_54 (by decide) (fun c68 => ?_) (fun c68 => ?_)
            · exact absurd c68 (by decide)
            refine lv_aload_n hx hb dX10_use_57 rfl (lv_at hl 1 rfl) ?_
            refine lv_iconst (v := (-1 : Int32)) hx hb dX10_use_58 (by decide) ?_
            obtain ⟨⟨r73, u70, v71⟩, hc69, h⟩ := vz_b h
            try dsimp only at h
            refine za_callWi (va_runV (As := [.int (-1 : Int32)]) (rest := []) ⟨hx, hb, hml, hown, hts⟩ (k_X10_finding l (D := D) (cI := cI) (cJ := cJ) (ad := ad) hD hc69) (cwV 1 hts gX10_use_X10_finding rfl rfl rfl ⟨rfl, zd_X10_finding⟩ ⟨Nat.le_of_ble_eq_true rfl, Nat.le_of_ble_eq_true rfl⟩) (xPreV (ci := 10) hK hP rfl zO_0) rfl rfl hl.1 rfl (lv_room (Nat.le_of_ble_eq_true rfl)) dX10_use_59 ⟨Nat.zero_le _, Nat.zero_le _⟩) hS (fun H locs hP hS => ?_)
            cases h
            exact W.iret hx hb hr (fun t ht _ => ⟨rfl, by rw [ht]; exact hP, hS.F ht⟩) hS.2.2 dX10_use_62
      · have h := vz_f c51 h
        refine lv_iconst (v := (1 : Int32)) hx hb dX10_use_21 (by decide) ?_
        refine lv_goto (tgt := 26) hx hb dX10_use_22 (by decide) ?_
        refine lv_istore (lv' := [(5, .int (1 : Int32)), (0, .ref (ad 0)), (1, .int a1), (2, .int a2), (3, .int a3), (4, .int a4)]) hx hb dX10_use_26 hl (by decide) rfl (fun ls hl => ?_)
        refine lv_iload_n hx hb dX10_use_28 rfl (lv_at hl 2 rfl) ?_
        refine lv_iconst (v := (0 : Int32)) hx hb dX10_use_29 (by decide) ?_
        refine lv_bipush (v := (9 : Int32)) hx hb dX10_use_30 (by decide) ?_
        obtain ⟨r75, hc74, h⟩ := vz_b h
        refine za_callR (va_runS (As := [.int a1, .int (0 : Int32), .int (9 : Int32)]) (rest := []) ⟨hx, hb, hml, hown, hts⟩ (k_X10_isWithin l hc74) (va_cwS 3 hts gX10_use_X10_isWithin rfl rfl rfl zd_X10_isWithin ⟨Nat.le_of_ble_eq_true rfl, Nat.le_of_ble_eq_true rfl⟩) xPre0 rfl rfl hl.1 rfl (lv_room (Nat.le_of_ble_eq_true rfl)) dX10_use_32 ⟨Nat.zero_le _, Nat.zero_le _⟩) ?_
        refine lv_if_eq (tgt := 57) hx hb dX10_use_35 (by decide) (fun c76 => ?_) (fun c76 => ?_)
        · have h := vz_t c76 h
          refine lv_aload_n hx hb dX10_use_57 rfl (lv_at hl 1 rfl) ?_
          refine lv_iconst (v := (-1 : Int32)) hx hb dX10_use_58 (by decide) ?_
          obtain ⟨⟨r81, u78, v79⟩, hc77, h⟩ := vz_b h
          try dsimp only at h
          refine za_callWi (va_runV (As := [.int (-1 : Int32)]) (rest := []) ⟨hx, hb, hml, hown, hts⟩ (k_X10_finding l (D := D) (cI := cI) (cJ := cJ) (ad := ad) hD hc77) (cwV 1 hts gX10_use_X10_finding rfl rfl rfl ⟨rfl, zd_X10_finding⟩ ⟨Nat.le_of_ble_eq_true rfl, Nat.le_of_ble_eq_true rfl⟩) (xPreV (ci := 10) hK hP rfl zO_0) rfl rfl hl.1 rfl (lv_room (Nat.le_of_ble_eq_true rfl)) dX10_use_59 ⟨Nat.zero_le _, Nat.zero_le _⟩) hS (fun H locs hP hS => ?_)
          cases h
          exact W.iret hx hb hr (fun t ht _ => ⟨rfl, by rw [ht]; exact hP, hS.F ht⟩) hS.2.2 dX10_use_62
        · have h := vz_f c76 h
          refine lv_aload_n hx hb dX10_use_38 rfl (lv_at hl 1 rfl) ?_
          refine za_getr (k := 1) hx hb hts hin10 hown hK hP zF_0_1 rfl (Nat.le_of_ble_eq_true rfl) (Or.inl hw1) dX10_use_39 ?_
          refine za_getr (k := 0) hx hb hts hin0 hown hK hP zF_2_0 rfl (Nat.le_of_ble_eq_true rfl) (nw_210 hK.2) dX10_use_42 ?_
          refine lv_iload_n hx hb dX10_use_45 rfl (lv_at hl 3 rfl) ?_
          obtain ⟨r83, hc82, h⟩ := vz_b h
          refine za_callR (va_runVN (As := [.int a2]) (rest := []) ⟨hx, hb, hml, hown, hts⟩ (k_X6_isOne l (D := D) (cI := cI) (cJ := cJ) (ad := ad) hc82) ⟨va_cnB 1 hts gX10_use_X6_isOne_n74 rfl rfl rfl (nw_331 hK.2) hw10 zd_X6_isOne ⟨Nat.le_of_ble_eq_true rfl, Nat.le_of_ble_eq_true rfl⟩, hw9, hw11⟩ (xPreV (ci := 6) hK hP rfl zO_3) rfl rfl hl.1 rfl (lv_room (Nat.le_of_ble_eq_true rfl)) dX10_use_46 ⟨Nat.zero_le _, Nat.zero_le _⟩) ?_
          refine lv_if_eq (tgt := 57) hx hb dX10_use_49 (by decide) (fun c84 => ?_) (fun c84 => ?_)
          · have h := vz_t c84 h
            refine lv_aload_n hx hb dX10_use_57 rfl (lv_at hl 1 rfl) ?_
            refine lv_iconst (v := (-1 : Int32)) hx hb dX10_use_58 (by decide) ?_
            obtain ⟨⟨r89, u86, v87⟩, hc85, h⟩ := vz_b h
            try dsimp only at h
            refine za_callWi (va_runV (As := [.int (-1 : Int32)]) (rest := []) ⟨hx, hb, hml, hown, hts⟩ (k_X10_finding l (D := D) (cI := cI) (cJ := cJ) (ad := ad) hD hc85) (cwV 1 hts gX10_use_X10_finding rfl rfl rfl ⟨rfl, zd_X10_finding⟩ ⟨Nat.le_of_ble_eq_true rfl, Nat.le_of_ble_eq_true rfl⟩) (xPreV (ci := 10) hK hP rfl zO_0) rfl rfl hl.1 rfl (lv_room (Nat.le_of_ble_eq_true rfl)) dX10_use_59 ⟨Nat.zero_le _, Nat.zero_le _⟩) hS (fun H locs hP hS => ?_)
            cases h
            exact W.iret hx hb hr (fun t ht _ => ⟨rfl, by rw [ht]; exact hP, hS.F ht⟩) hS.2.2 dX10_use_62
          · have h := vz_f c84 h
            refine lv_iload hx hb dX10_use_52 (lv_at hl 0 rfl) ?_
            refine lv_if_ne (tgt := 63) hx hb dX10_use_54 (by decide) (fun c90 => ?_) (fun c90 => ?_)
            rotate_left
            · exact absurd c90 (by decide)
            refine lv_aload_n hx hb dX10_use_63 rfl (lv_at hl 1 rfl) ?_
            refine za_getr (k := 1) hx hb hts hin10 hown hK hP zF_0_1 rfl (Nat.le_of_ble_eq_true rfl) (Or.inl hw1) dX10_use_64 ?_
            refine za_getr (k := 4) hx hb hts hin0 hown hK hP zF_2_4 rfl (Nat.le_of_ble_eq_true rfl) (nw_223 hK.2) dX10_use_67 ?_
            refine za_geti (k := 0) hx hb hts hin9 hown hK hP zF_19_0 rfl (Nat.le_of_ble_eq_true rfl) (nw_154 hK.2) dX10_use_70 ?_
            refine lv_bipush (v := (30 : Int32)) hx hb dX10_use_73 (by decide) ?_
            refine lv_icmp_lt (tgt := 85) hx hb dX10_use_75 (by decide) (fun c91 => ?_) (fun c91 => ?_)
            · have h := vz_t c91 h
              refine lv_aload_n hx hb dX10_use_85 rfl (lv_at hl 1 rfl) ?_
              refine za_getr (k := 1) hx hb hts hin10 hown hK hP zF_0_1 rfl (Nat.le_of_ble_eq_true rfl) (Or.inl hw1) dX10_use_86 ?_
              refine za_getr (k := 4) hx hb hts hin0 hown hK hP zF_2_4 rfl (Nat.le_of_ble_eq_true rfl) (nw_223 hK.2) dX10_use_89 ?_
              refine lv_iload_n hx hb dX10_use_92 rfl (lv_at hl 2 rfl) ?_
              refine lv_iload_n hx hb dX10_use_93 rfl (lv_at hl 3 rfl) ?_
              refine lv_iload_n hx hb dX10_use_94 rfl (lv_at hl 4 rfl) ?_
              refine lv_iload hx hb dX10_use_95 (lv_at hl 5 rfl) ?_
              obtain ⟨⟨r96, u93, v94⟩, hc92, h⟩ := vz_b h
              try dsimp only at h
              refine za_callWi (va_runVN (As := [.int a1, .int a2, .int a3, .int a4]) (rest := []) ⟨hx, hb, hml, hown, hts⟩ (k_X9_add l (D := D) (cI := cI) (cJ := cJ) (ad := ad) hD hc92) ⟨va_cnB 4 hts gX10_use_X9_add_n182 rfl rfl rfl (nw_567 hK.2) hw20 zd_X9_add ⟨Nat.le_of_ble_eq_true rfl, Nat.le_of_ble_eq_true rfl⟩, hw19, hw21⟩ (xPreV (ci := 9) hK hP rfl zO_19) rfl rfl hl.1 rfl (lv_room (Nat.le_of_ble_eq_true rfl)) dX10_use_97 ⟨Nat.zero_le _, Nat.zero_le _⟩) hS (fun H locs hP hS => ?_)
              cases h
              exact W.iret hx hb hr (fun t ht _ => ⟨rfl, by rw [ht]; exact hP, hS.F ht⟩) hS.2.2 dX10_use_100
            · have h := vz_f c91 h
              refine lv_aload_n hx hb dX10_use_78 rfl (lv_at hl 1 rfl) ?_
              refine lv_bipush (v := (-3 : Int32)) hx hb dX10_use_79 (by decide) ?_
              obtain ⟨⟨r101, u98, v99⟩, hc97, h⟩ := vz_b h
              try dsimp only at h
              refine za_callWi (va_runV (As := [.int (-3 : Int32)]) (rest := []) ⟨hx, hb, hml, hown, hts⟩ (k_X10_finding l (D := D) (cI := cI) (cJ := cJ) (ad := ad) hD hc97) (cwV 1 hts gX10_use_X10_finding rfl rfl rfl ⟨rfl, zd_X10_finding⟩ ⟨Nat.le_of_ble_eq_true rfl, Nat.le_of_ble_eq_true rfl⟩) (xPreV (ci := 10) hK hP rfl zO_0) rfl rfl hl.1 rfl (lv_room (Nat.le_of_ble_eq_true rfl)) dX10_use_81 ⟨Nat.zero_le _, Nat.zero_le _⟩) hS (fun H locs hP hS => ?_)
              cases h
              exact W.iret hx hb hr (fun t ht _ => ⟨rfl, by rw [ht]; exact hP, hS.F ht⟩) hS.2.2 dX10_use_84
abbrev rmX10_when : Room := { frames := 6, cells := 0, slots := 0, locals := 143 }
set_option maxHeartbeats 4000000 in
set_option maxRecDepth 100000 in
theorem k_X10_when (l : Launch) {D : va_G} {cI cJ : ClassId} {ad : Nat → Nat} {u : tU} {v : tV} {A : Nat → Prop} (hD : zD A cI cJ ad) {a1 : Int32}  {r : Int32} {uz : tU} {vz : tV} (h : pX10_when u v a1 = some (r, uz, vz)) : Met l yX10_when wsX10_when rmX10_when (va_Pc [.ref (ad 0), .int a1] (xPre D cI cJ (wA cI cJ ad u v))) (xWi D cI cJ ad A r uz vz) 0 0 A := by
  refine Met.ofW (cc := cX10_when) (maxL := 3) (ret := (some .int)) (by decide) rfl ?_
  intro p e s m args below meth c s₁ B hml hv
  obtain ⟨rfl, hP, hK⟩ := hv
  have hx := B.exec
  have hb := B.bytes
  have hr := B.returns
  have hts := atoms_spec (ws := wsX10_when) B.pre
  have hown : s.vm.findClass RX10 = some m.cls := findClass_of_methodNamed B.named
  have hlocks := B.notSynchronized
  have hS : va_S A s.heap s.heap [] := va_S.rf
  have hin10 : ∀ w ∈ u_ws RX10 TX10 7, w ∈ wsX10_when := fun _ h => List.mem_cons_of_mem _ (List.mem_append_left _ (List.mem_append_left _ (List.mem_append_left _ (List.mem_append_left _ (List.mem_append_left _ (List.mem_append_left _ (List.mem_append_left _ (List.mem_append_left _ (List.mem_append_right _ h)))))))))
  have hw1 := hts (.fieldLink RX10 29 "InstallDesk" "holdings" "LInstallDesk$Holdings;") (List.mem_of_getElem? (i := 1) rfl)
  have hw2 := hts (.fieldLink RX10 19 "InstallDesk" "books" "LInstallDesk$Books;") (List.mem_of_getElem? (i := 2) rfl)
  have hw12 := hts (.instanceMethod yX2_fill) (List.mem_of_getElem? (i := 12) rfl)
  have hw13 := hts (.initialized RX2) (List.mem_of_getElem? (i := 13) rfl)
  have hw14 := hts (.selects RX2 yX2_fill yX2_fill) (List.mem_of_getElem? (i := 14) rfl)
  have hl := lv_entry ([.ref (ad 0), .int a1]) (n := 3) (Nat.le_of_ble_eq_true rfl)
  rw [lg_entry_eq]
  generalize (lg_sl ([.ref (ad 0), .int a1]) ++ List.replicate (3 - (lg_sl ([.ref (ad 0), .int a1])).length) Slot.unset).toArray = ls at hl ⊢
  have hl : lv_has ls 3 [(0, .ref (ad 0)), (1, .int a1)] := hl
  rw [pX10_when] at h
  refine lv_iload_n hx hb dX10_when_0 rfl (lv_at hl 1 rfl) ?_
  refine lv_iconst (v := (0 : Int32)) hx hb dX10_when_1 (by decide) ?_
  refine lv_bipush (v := (80 : Int32)) hx hb dX10_when_2 (by decide) ?_
  obtain ⟨r2, hc1, h⟩ := vz_b h
  refine za_callR (va_runS (As := [.int a1, .int (0 : Int32), .int (80 : Int32)]) (rest := []) ⟨hx, hb, hml, hown, hts⟩ (k_X10_isWithin l hc1) (va_cwS 3 hts gX10_when_X10_isWithin rfl rfl rfl zd_X10_isWithin ⟨Nat.le_of_ble_eq_true rfl, Nat.le_of_ble_eq_true rfl⟩) xPre0 rfl rfl hl.1 rfl (lv_room (Nat.le_of_ble_eq_true rfl)) dX10_when_4 ⟨Nat.zero_le _, Nat.zero_le _⟩) ?_
  refine lv_if_ne (tgt := 16) hx hb dX10_when_7 (by decide) (fun c3 => ?_) (fun c3 => ?_)
  · have h := vz_f c3 h
    refine lv_aload_n hx hb dX10_when_16 rfl (lv_at hl 0 rfl) ?_
    refine za_getr (k := 3) hx hb hts hin10 hown hK hP zF_0_3 rfl (Nat.le_of_ble_eq_true rfl) (Or.inl hw1) dX10_when_17 ?_
    refine lv_aload_n hx hb dX10_when_20 rfl (lv_at hl 0 rfl) ?_
    refine za_getr (k := 1) hx hb hts hin10 hown hK hP zF_0_1 rfl (Nat.le_of_ble_eq_true rfl) (Or.inl hw2) dX10_when_21 ?_
    obtain ⟨⟨u5, v6⟩, hc4, h⟩ := vz_b h
    try dsimp only at h
    refine za_callWv (va_runVN (As := [.ref (ad 2)]) (rest := []) ⟨hx, hb, hml, hown, hts⟩ (k_X2_fill l (D := D) (cI := cI) (cJ := cJ) (ad := ad) hD hc4) ⟨va_cnB 1 hts gX10_when_X2_fill_n159 rfl rfl rfl (nw_474 hK.2) hw13 zd_X2_fill ⟨Nat.le_of_ble_eq_true rfl, Nat.le_of_ble_eq_true rfl⟩, hw12, hw14⟩ (xPreV (ci := 2) hK hP rfl zO_60) rfl rfl hl.1 rfl (lv_room (Nat.le_of_ble_eq_true rfl)) dX10_when_24 ⟨Nat.zero_le _, Nat.zero_le _⟩) hS (fun H locs hP hS => ?_)
    refine lv_aload_n hx hb dX10_when_27 rfl (lv_at hl 0 rfl) ?_
    refine lv_iload_n hx hb dX10_when_28 rfl (lv_at hl 1 rfl) ?_
    obtain ⟨⟨r12, u9, v10⟩, hc8, h⟩ := vz_b h
    try dsimp only at h
    refine za_callWi (va_runV (As := [.int a1]) (rest := []) ⟨hx, hb, hml, hown, hts⟩ (k_X10_firstDayAbove l (D := D) (cI := cI) (cJ := cJ) (ad := ad) hD hc8) (cwV 1 hts gX10_when_X10_firstDayAbove rfl rfl rfl ⟨rfl, zd_X10_firstDayAbove⟩ ⟨Nat.le_of_ble_eq_true rfl, Nat.le_of_ble_eq_true rfl⟩) (xPreV (ci := 10) hK hP rfl zO_0) rfl rfl hl.1 rfl (lv_room (Nat.le_of_ble_eq_true rfl)) dX10_when_29 ⟨Nat.zero_le _, Nat.zero_le _⟩) hS (fun H locs hP hS => ?_)
    refine lv_istore_n (lv' := [(2, .int r12), (0, .ref (ad 0)), (1, .int a1)]) hx hb dX10_when_32 rfl hl (by decide) rfl (fun ls hl => ?_)
    refine lv_iload_n hx hb dX10_when_33 rfl (lv_at hl 0 rfl) ?_
    refine lv_sipush (v := (9999 : Int32)) hx hb dX10_when_34 (by decide) ?_
    refine lv_icmp_le (tgt := 49) hx hb dX10_when_37 (by decide) (fun c13 => ?_) (fun c13 => ?_)
    · have h := vz_t c13 h
      refine lv_iload_n hx hb dX10_when_49 rfl (lv_at hl 0 rfl) ?_
      cases h
      exact W.iret hx hb hr (fun t ht _ => ⟨rfl, by rw [ht]; exact hP, hS.F ht⟩) hS.2.2 dX10_when_50
    · have h := vz_f c13 h
      refine lv_aload_n hx hb dX10_when_40 rfl (lv_at hl 1 rfl) ?_
      refine lv_bipush (v := (-2 : Int32)) hx hb dX10_when_41 (by decide) ?_
      obtain ⟨⟨r18, u15, v16⟩, hc14, h⟩ := vz_b h
      try dsimp only at h
      refine za_callWi (va_runV (As := [.int (-2 : Int32)]) (rest := []) ⟨hx, hb, hml, hown, hts⟩ (k_X10_finding l (D := D) (cI := cI) (cJ := cJ) (ad := ad) hD hc14) (cwV 1 hts gX10_when_X10_finding rfl rfl rfl ⟨rfl, zd_X10_finding⟩ ⟨Nat.le_of_ble_eq_true rfl, Nat.le_of_ble_eq_true rfl⟩) (xPreV (ci := 10) hK hP rfl zO_0) rfl rfl hl.1 rfl (lv_room (Nat.le_of_ble_eq_true rfl)) dX10_when_43 ⟨Nat.zero_le _, Nat.zero_le _⟩) hS (fun H locs hP hS => ?_)
      refine lv_goto (tgt := 50) hx hb dX10_when_46 (by decide) ?_
      cases h
      exact W.iret hx hb hr (fun t ht _ => ⟨rfl, by rw [ht]; exact hP, hS.F ht⟩) hS.2.2 dX10_when_50
  · have h := vz_t c3 h
    refine lv_aload_n hx hb dX10_when_10 rfl (lv_at hl 0 rfl) ?_
    refine lv_iconst (v := (-1 : Int32)) hx hb dX10_when_11 (by decide) ?_
    obtain ⟨⟨r23, u20, v21⟩, hc19, h⟩ := vz_b h
    try dsimp only at h
    refine za_callWi (va_runV (As := [.int (-1 : Int32)]) (rest := []) ⟨hx, hb, hml, hown, hts⟩ (k_X10_finding l (D := D) (cI := cI) (cJ := cJ) (ad := ad) hD hc19) (cwV 1 hts gX10_when_X10_finding rfl rfl rfl ⟨rfl, zd_X10_finding⟩ ⟨Nat.le_of_ble_eq_true rfl, Nat.le_of_ble_eq_true rfl⟩) (xPreV (ci := 10) hK hP rfl zO_0) rfl rfl hl.1 rfl (lv_room (Nat.le_of_ble_eq_true rfl)) dX10_when_12 ⟨Nat.zero_le _, Nat.zero_le _⟩) hS (fun H locs hP hS => ?_)
    cases h
    exact W.iret hx hb hr (fun t ht _ => ⟨rfl, by rw [ht]; exact hP, hS.F ht⟩) hS.2.2 dX10_when_15
abbrev rmX5_leaveOut : Room := { frames := 0, cells := 0, slots := 0, locals := 0 }
set_option maxHeartbeats 4000000 in
set_option maxRecDepth 100000 in
theorem k_X5_leaveOut (l : Launch) {D : va_G} {cI cJ : ClassId} {ad : Nat → Nat} {u : tU} {v : tV} {A : Nat → Prop} (hD : zD A cI cJ ad) {a1 : Int32}  {uz : tU} {vz : tV} (h : pX5_leaveOut u v a1 = some (uz, vz)) : Met l yX5_leaveOut wsX5_leaveOut rmX5_leaveOut (va_Pc [.ref (ad 62), .int a1] (xPre D cI cJ (wA cI cJ ad u v))) (xWv D cI cJ ad A uz vz) 0 0 A := by
  refine Met.ofW (cc := cX5_leaveOut) (maxL := 2) (ret := none) (by decide) rfl ?_
  intro p e s m args below meth c s₁ B hml hv
  obtain ⟨rfl, hP, hK⟩ := hv
  have hx := B.exec
  have hb := B.bytes
  have hr := B.returns
  have hts := atoms_spec (ws := wsX5_leaveOut) B.pre
  have hown : s.vm.findClass RX5 = some m.cls := findClass_of_methodNamed B.named
  have hlocks := B.notSynchronized
  have hS : va_S A s.heap s.heap [] := va_S.rf
  have hin5 : ∀ w ∈ u_ws RX5 TX5 3, w ∈ wsX5_leaveOut := fun _ h => List.mem_cons_of_mem _ (List.mem_append_right _ h)
  have hw1 := hts (.fieldLink RX5 9 "InstallDesk$Match" "left" "[I") (List.mem_of_getElem? (i := 1) rfl)
  have hl := lv_entry ([.ref (ad 62), .int a1]) (n := 2) (Nat.le_of_ble_eq_true rfl)
  rw [lg_entry_eq]
  generalize (lg_sl ([.ref (ad 62), .int a1]) ++ List.replicate (2 - (lg_sl ([.ref (ad 62), .int a1])).length) Slot.unset).toArray = ls at hl ⊢
  have hl : lv_has ls 2 [(0, .ref (ad 62)), (1, .int a1)] := hl
  rw [pX5_leaveOut] at h
  refine lv_aload_n hx hb dX5_leaveOut_0 rfl (lv_at hl 0 rfl) ?_
  refine za_getr (k := 0) hx hb hts hin5 hown hK hP zF_62_0 rfl (Nat.le_of_ble_eq_true rfl) (Or.inl hw1) dX5_leaveOut_1 ?_
  refine lv_iload_n hx hb dX5_leaveOut_4 rfl (lv_at hl 1 rfl) ?_
  refine lv_iconst (v := (0 : Int32)) hx hb dX5_leaveOut_5 (by decide) ?_
  obtain ⟨g1, h⟩ := gd_s h
  refine za_ist hx hb hK hP hD hS zI_63 g1 dX5_leaveOut_6 (fun H locs hP hS => ?_)
  cases h
  exact W.vret hx hb hr (fun t ht _ => ⟨rfl, by rw [ht]; exact hP, hS.F ht⟩) hS.2.2 dX5_leaveOut_7
abbrev rmX10_without : Room := { frames := 6, cells := 0, slots := 0, locals := 141 }
set_option maxHeartbeats 4000000 in
set_option maxRecDepth 100000 in
theorem k_X10_without (l : Launch) {D : va_G} {cI cJ : ClassId} {ad : Nat → Nat} {u : tU} {v : tV} {A : Nat → Prop} (hD : zD A cI cJ ad) {a1 : Int32}  {r : Int32} {uz : tU} {vz : tV} (h : pX10_without u v a1 = some (r, uz, vz)) : Met l yX10_without wsX10_without rmX10_without (va_Pc [.ref (ad 0), .int a1] (xPre D cI cJ (wA cI cJ ad u v))) (xWi D cI cJ ad A r uz vz) 0 0 A := by
  refine Met.ofW (cc := cX10_without) (maxL := 2) (ret := (some .int)) (by decide) rfl ?_
  intro p e s m args below meth c s₁ B hml hv
  obtain ⟨rfl, hP, hK⟩ := hv
  have hx := B.exec
  have hb := B.bytes
  have hr := B.returns
  have hts := atoms_spec (ws := wsX10_without) B.pre
  have hown : s.vm.findClass RX10 = some m.cls := findClass_of_methodNamed B.named
  have hlocks := B.notSynchronized
  have hS : va_S A s.heap s.heap [] := va_S.rf
  have hin0 : ∀ w ∈ u_ws RX0 TX0 8, w ∈ wsX10_without := fun _ h => List.mem_cons_of_mem _ (List.mem_append_left _ (List.mem_append_left _ (List.mem_append_left _ (List.mem_append_left _ (List.mem_append_left _ (List.mem_append_left _ (List.mem_append_left _ (List.mem_append_right _ h))))))))
  have hin5 : ∀ w ∈ u_ws RX5 TX5 3, w ∈ wsX10_without := fun _ h => List.mem_cons_of_mem _ (List.mem_append_left _ (List.mem_append_left _ (List.mem_append_left _ (List.mem_append_left _ (List.mem_append_left _ (List.mem_append_left _ (List.mem_append_right _ h)))))))
  have hin10 : ∀ w ∈ u_ws RX10 TX10 7, w ∈ wsX10_without := fun _ h => List.mem_cons_of_mem _ (List.mem_append_left _ (List.mem_append_left _ (List.mem_append_left _ (List.mem_append_left _ (List.mem_append_left _ (List.mem_append_left _ (List.mem_append_left _ (List.mem_append_left _ (List.mem_append_right _ h)))))))))
  have hw1 := hts (.fieldLink RX10 19 "InstallDesk" "books" "LInstallDesk$Books;") (List.mem_of_getElem? (i := 1) rfl)
  have hw2 := hts (.fieldLink RX10 29 "InstallDesk" "holdings" "LInstallDesk$Holdings;") (List.mem_of_getElem? (i := 2) rfl)
  have hw3 := hts (.fieldLink RX10 36 "InstallDesk" "match" "LInstallDesk$Match;") (List.mem_of_getElem? (i := 3) rfl)
  have hw4 := hts (.instanceMethod yX7_isOne) (List.mem_of_getElem? (i := 4) rfl)
  have hw5 := hts (.initialized RX7) (List.mem_of_getElem? (i := 5) rfl)
  have hw6 := hts (.selects RX7 yX7_isOne yX7_isOne) (List.mem_of_getElem? (i := 6) rfl)
  have hw15 := hts (.instanceMethod yX2_fill) (List.mem_of_getElem? (i := 15) rfl)
  have hw16 := hts (.initialized RX2) (List.mem_of_getElem? (i := 16) rfl)
  have hw17 := hts (.selects RX2 yX2_fill yX2_fill) (List.mem_of_getElem? (i := 17) rfl)
  have hw88 := hts (.instanceMethod yX5_begin) (List.mem_of_getElem? (i := 88) rfl)
  have hw89 := hts (.initialized RX5) (List.mem_of_getElem? (i := 89) rfl)
  have hw90 := hts (.selects RX5 yX5_begin yX5_begin) (List.mem_of_getElem? (i := 90) rfl)
  have hw95 := hts (.instanceMethod yX5_leaveOut) (List.mem_of_getElem? (i := 95) rfl)
  have hw96 := hts (.selects RX5 yX5_leaveOut yX5_leaveOut) (List.mem_of_getElem? (i := 96) rfl)
  have hw98 := hts (.instanceMethod yX5_serveAll) (List.mem_of_getElem? (i := 98) rfl)
  have hw99 := hts (.selects RX5 yX5_serveAll yX5_serveAll) (List.mem_of_getElem? (i := 99) rfl)
  have hl := lv_entry ([.ref (ad 0), .int a1]) (n := 2) (Nat.le_of_ble_eq_true rfl)
  rw [lg_entry_eq]
  generalize (lg_sl ([.ref (ad 0), .int a1]) ++ List.replicate (2 - (lg_sl ([.ref (ad 0), .int a1])).length) Slot.unset).toArray = ls at hl ⊢
  have hl : lv_has ls 2 [(0, .ref (ad 0)), (1, .int a1)] := hl
  rw [pX10_without] at h
  refine lv_aload_n hx hb dX10_without_0 rfl (lv_at hl 0 rfl) ?_
  refine za_getr (k := 1) hx hb hts hin10 hown hK hP zF_0_1 rfl (Nat.le_of_ble_eq_true rfl) (Or.inl hw1) dX10_without_1 ?_
  refine za_getr (k := 5) hx hb hts hin0 hown hK hP zF_2_5 rfl (Nat.le_of_ble_eq_true rfl) (nw_226 hK.2) dX10_without_4 ?_
  refine lv_iload_n hx hb dX10_without_7 rfl (lv_at hl 1 rfl) ?_
  obtain ⟨r2, hc1, h⟩ := vz_b h
  refine za_callR (va_runVN (As := [.int a1]) (rest := []) ⟨hx, hb, hml, hown, hts⟩ (k_X7_isOne l (D := D) (cI := cI) (cJ := cJ) (ad := ad) hc1) ⟨va_cnB 1 hts gX10_without_X7_isOne_n201 rfl rfl rfl (nw_593 hK.2) hw5 zd_X7_isOne ⟨Nat.le_of_ble_eq_true rfl, Nat.le_of_ble_eq_true rfl⟩, hw4, hw6⟩ (xPreV (ci := 7) hK hP rfl zO_24) rfl rfl hl.1 rfl (lv_room (Nat.le_of_ble_eq_true rfl)) dX10_without_8 ⟨Nat.zero_le _, Nat.zero_le _⟩) ?_
  refine lv_if_ne (tgt := 20) hx hb dX10_without_11 (by decide) (fun c3 => ?_) (fun c3 => ?_)
  · have h := vz_f c3 h
    refine lv_aload_n hx hb dX10_without_20 rfl (lv_at hl 0 rfl) ?_
    refine za_getr (k := 3) hx hb hts hin10 hown hK hP zF_0_3 rfl (Nat.le_of_ble_eq_true rfl) (Or.inl hw2) dX10_without_21 ?_
    refine lv_aload_n hx hb dX10_without_24 rfl (lv_at hl 0 rfl) ?_
    refine za_getr (k := 1) hx hb hts hin10 hown hK hP zF_0_1 rfl (Nat.le_of_ble_eq_true rfl) (Or.inl hw1) dX10_without_25 ?_
    obtain ⟨⟨u5, v6⟩, hc4, h⟩ := vz_b h
    try dsimp only at h
    refine za_callWv (va_runVN (As := [.ref (ad 2)]) (rest := []) ⟨hx, hb, hml, hown, hts⟩ (k_X2_fill l (D := D) (cI := cI) (cJ := cJ) (ad := ad) hD hc4) ⟨va_cnB 1 hts gX10_without_X2_fill_n159 rfl rfl rfl (nw_474 hK.2) hw16 zd_X2_fill ⟨Nat.le_of_ble_eq_true rfl, Nat.le_of_ble_eq_true rfl⟩, hw15, hw17⟩ (xPreV (ci := 2) hK hP rfl zO_60) rfl rfl hl.1 rfl (lv_room (Nat.le_of_ble_eq_true rfl)) dX10_without_28 ⟨Nat.zero_le _, Nat.zero_le _⟩) hS (fun H locs hP hS => ?_)
    refine lv_aload_n hx hb dX10_without_31 rfl (lv_at hl 0 rfl) ?_
    refine za_getr (k := 4) hx hb hts hin10 hown hK hP zF_0_4 rfl (Nat.le_of_ble_eq_true rfl) (Or.inl hw3) dX10_without_32 ?_
    refine lv_aload_n hx hb dX10_without_35 rfl (lv_at hl 0 rfl) ?_
    refine za_getr (k := 1) hx hb hts hin10 hown hK hP zF_0_1 rfl (Nat.le_of_ble_eq_true rfl) (Or.inl hw1) dX10_without_36 ?_
    refine za_getr (k := 5) hx hb hts hin0 hown hK hP zF_2_5 rfl (Nat.le_of_ble_eq_true rfl) (nw_226 hK.2) dX10_without_39 ?_
    refine lv_aload_n hx hb dX10_without_42 rfl (lv_at hl 0 rfl) ?_
    refine za_getr (k := 1) hx hb hts hin10 hown hK hP zF_0_1 rfl (Nat.le_of_ble_eq_true rfl) (Or.inl hw1) dX10_without_43 ?_
    refine za_geti (k := 6) hx hb hts hin0 hown hK hP zF_2_6 rfl (Nat.le_of_ble_eq_true rfl) (nw_228 hK.2) dX10_without_46 ?_
    obtain ⟨⟨u9, v10⟩, hc8, h⟩ := vz_b h
    try dsimp only at h
    refine za_callWv (va_runVN (As := [.ref (ad 24), .int (u5 10 6)]) (rest := []) ⟨hx, hb, hml, hown, hts⟩ (k_X5_begin l (D := D) (cI := cI) (cJ := cJ) (ad := ad) hD hc8) ⟨va_cnB 2 hts gX10_without_X5_begin_n216 rfl rfl rfl (nw_622 hK.2) hw89 zd_X5_begin ⟨Nat.le_of_ble_eq_true rfl, Nat.le_of_ble_eq_true rfl⟩, hw88, hw90⟩ (xPreV (ci := 5) hK hP rfl zO_62) rfl rfl hl.1 rfl (lv_room (Nat.le_of_ble_eq_true rfl)) dX10_without_49 ⟨Nat.zero_le _, Nat.zero_le _⟩) hS (fun H locs hP hS => ?_)
    refine lv_aload_n hx hb dX10_without_52 rfl (lv_at hl 0 rfl) ?_
    refine za_getr (k := 4) hx hb hts hin10 hown hK hP zF_0_4 rfl (Nat.le_of_ble_eq_true rfl) (Or.inl hw3) dX10_without_53 ?_
    refine lv_iload_n hx hb dX10_without_56 rfl (lv_at hl 1 rfl) ?_
    obtain ⟨⟨u13, v14⟩, hc12, h⟩ := vz_b h
    try dsimp only at h
    refine za_callWv (va_runVN (As := [.int a1]) (rest := []) ⟨hx, hb, hml, hown, hts⟩ (k_X5_leaveOut l (D := D) (cI := cI) (cJ := cJ) (ad := ad) hD hc12) ⟨va_cnB 1 hts gX10_without_X5_leaveOut_n234 rfl rfl rfl (nw_658 hK.2) hw89 zd_X5_leaveOut ⟨Nat.le_of_ble_eq_true rfl, Nat.le_of_ble_eq_true rfl⟩, hw95, hw96⟩ (xPreV (ci := 5) hK hP rfl zO_62) rfl rfl hl.1 rfl (lv_room (Nat.le_of_ble_eq_true rfl)) dX10_without_57 ⟨Nat.zero_le _, Nat.zero_le _⟩) hS (fun H locs hP hS => ?_)
    refine lv_aload_n hx hb dX10_without_60 rfl (lv_at hl 0 rfl) ?_
    refine za_getr (k := 4) hx hb hts hin10 hown hK hP zF_0_4 rfl (Nat.le_of_ble_eq_true rfl) (Or.inl hw3) dX10_without_61 ?_
    refine lv_aload_n hx hb dX10_without_64 rfl (lv_at hl 0 rfl) ?_
    refine za_getr (k := 1) hx hb hts hin10 hown hK hP zF_0_1 rfl (Nat.le_of_ble_eq_true rfl) (Or.inl hw1) dX10_without_65 ?_
    refine lv_aload_n hx hb dX10_without_68 rfl (lv_at hl 0 rfl) ?_
    refine za_getr (k := 3) hx hb hts hin10 hown hK hP zF_0_3 rfl (Nat.le_of_ble_eq_true rfl) (Or.inl hw2) dX10_without_69 ?_
    obtain ⟨⟨u17, v18⟩, hc16, h⟩ := vz_b h
    try dsimp only at h
    refine za_callWv (va_runVN (As := [.ref (ad 2), .ref (ad 60)]) (rest := []) ⟨hx, hb, hml, hown, hts⟩ (k_X5_serveAll l (D := D) (cI := cI) (cJ := cJ) (ad := ad) hD hc16) ⟨va_cnB 2 hts gX10_without_X5_serveAll_n220 rfl rfl rfl (nw_627 hK.2) hw89 zd_X5_serveAll ⟨Nat.le_of_ble_eq_true rfl, Nat.le_of_ble_eq_true rfl⟩, hw98, hw99⟩ (xPreV (ci := 5) hK hP rfl zO_62) rfl rfl hl.1 rfl (lv_room (Nat.le_of_ble_eq_true rfl)) dX10_without_72 ⟨Nat.zero_le _, Nat.zero_le _⟩) hS (fun H locs hP hS => ?_)
    refine lv_aload_n hx hb dX10_without_75 rfl (lv_at hl 0 rfl) ?_
    refine za_getr (k := 4) hx hb hts hin10 hown hK hP zF_0_4 rfl (Nat.le_of_ble_eq_true rfl) (Or.inl hw3) dX10_without_76 ?_
    refine za_geti (k := 1) hx hb hts hin5 hown hK hP zF_62_1 rfl (Nat.le_of_ble_eq_true rfl) (nw_266 hK.2) dX10_without_79 ?_
    cases h
    exact W.iret hx hb hr (fun t ht _ => ⟨rfl, by rw [ht]; exact hP, hS.F ht⟩) hS.2.2 dX10_without_82
  · have h := vz_t c3 h
    refine lv_aload_n hx hb dX10_without_14 rfl (lv_at hl 0 rfl) ?_
    refine lv_iconst (v := (-1 : Int32)) hx hb dX10_without_15 (by decide) ?_
    obtain ⟨⟨r24, u21, v22⟩, hc20, h⟩ := vz_b h
    try dsimp only at h
    refine za_callWi (va_runV (As := [.int (-1 : Int32)]) (rest := []) ⟨hx, hb, hml, hown, hts⟩ (k_X10_finding l (D := D) (cI := cI) (cJ := cJ) (ad := ad) hD hc20) (cwV 1 hts gX10_without_X10_finding rfl rfl rfl ⟨rfl, zd_X10_finding⟩ ⟨Nat.le_of_ble_eq_true rfl, Nat.le_of_ble_eq_true rfl⟩) (xPreV (ci := 10) hK hP rfl zO_0) rfl rfl hl.1 rfl (lv_room (Nat.le_of_ble_eq_true rfl)) dX10_without_16 ⟨Nat.zero_le _, Nat.zero_le _⟩) hS (fun H locs hP hS => ?_)
    cases h
    exact W.iret hx hb hr (fun t ht _ => ⟨rfl, by rw [ht]; exact hP, hS.F ht⟩) hS.2.2 dX10_without_19
abbrev rmX11_hostAt : Room := { frames := 0, cells := 0, slots := 0, locals := 0 }
set_option maxHeartbeats 4000000 in
set_option maxRecDepth 100000 in
theorem k_X11_hostAt (l : Launch) {D : va_G} {cI cJ : ClassId} {ad : Nat → Nat} {u : tU} {v : tV} {a1 : Int32} {a2 : Int32}  {r : Int32}  (h : pX11_hostAt u v a1 a2 = some r) : Met l yX11_hostAt wsX11_hostAt rmX11_hostAt (va_Pc [.ref (ad 64), .int a1, .int a2] (xPre D cI cJ (wA cI cJ ad u v))) (QcRead r) 0 0 (fun _ => False) := by
  refine Met.ofW (cc := cX11_hostAt) (maxL := 3) (ret := (some .int)) (by decide) rfl ?_
  intro p e s m args below meth c s₁ B hml hv
  obtain ⟨rfl, hP, hK⟩ := hv
  have hx := B.exec
  have hb := B.bytes
  have hr := B.returns
  have hts := atoms_spec (ws := wsX11_hostAt) B.pre
  have hown : s.vm.findClass RX11 = some m.cls := findClass_of_methodNamed B.named
  have hlocks := B.notSynchronized
  have hin11 : ∀ w ∈ u_ws RX11 TX11 10, w ∈ wsX11_hostAt := fun _ h => List.mem_cons_of_mem _ (List.mem_append_right _ h)
  have hw1 := hts (.fieldLink RX11 13 "InstallDeskModel" "book" "[I") (List.mem_of_getElem? (i := 1) rfl)
  have hl := lv_entry ([.ref (ad 64), .int a1, .int a2]) (n := 3) (Nat.le_of_ble_eq_true rfl)
  rw [lg_entry_eq]
  generalize (lg_sl ([.ref (ad 64), .int a1, .int a2]) ++ List.replicate (3 - (lg_sl ([.ref (ad 64), .int a1, .int a2])).length) Slot.unset).toArray = ls at hl ⊢
  have hl : lv_has ls 3 [(0, .ref (ad 64)), (1, .int a1), (2, .int a2)] := hl
  rw [pX11_hostAt] at h
  refine lv_aload_n hx hb dX11_hostAt_0 rfl (lv_at hl 0 rfl) ?_
  refine za_getr (k := 2) hx hb hts hin11 hown hK hP zF_64_2 rfl (Nat.le_of_ble_eq_true rfl) (Or.inl hw1) dX11_hostAt_1 ?_
  refine lv_sipush (v := (278 : Int32)) hx hb dX11_hostAt_4 (by decide) ?_
  refine lv_iconst (v := (2 : Int32)) hx hb dX11_hostAt_7 (by decide) ?_
  refine lv_iload_n hx hb dX11_hostAt_8 rfl (lv_at hl 1 rfl) ?_
  refine lv_imul hx hb dX11_hostAt_9 ?_
  refine lv_iadd hx hb dX11_hostAt_10 ?_
  refine lv_iload_n hx hb dX11_hostAt_11 rfl (lv_at hl 2 rfl) ?_
  refine lv_iadd hx hb dX11_hostAt_12 ?_
  obtain ⟨g1, h⟩ := gd_s h
  refine za_ild hx hb hK hP zI_66 g1 dX11_hostAt_13 ?_
  cases h
  exact W.iret hx hb hr (fun t ht _ => ⟨rfl, ht⟩) (fun q hq => absurd hq List.not_mem_nil) dX11_hostAt_14
abbrev rmX11_useAt : Room := { frames := 0, cells := 0, slots := 0, locals := 0 }
set_option maxHeartbeats 4000000 in
set_option maxRecDepth 100000 in
theorem k_X11_useAt (l : Launch) {D : va_G} {cI cJ : ClassId} {ad : Nat → Nat} {u : tU} {v : tV} {a1 : Int32} {a2 : Int32}  {r : Int32}  (h : pX11_useAt u v a1 a2 = some r) : Met l yX11_useAt wsX11_useAt rmX11_useAt (va_Pc [.ref (ad 64), .int a1, .int a2] (xPre D cI cJ (wA cI cJ ad u v))) (QcRead r) 0 0 (fun _ => False) := by
  refine Met.ofW (cc := cX11_useAt) (maxL := 3) (ret := (some .int)) (by decide) rfl ?_
  intro p e s m args below meth c s₁ B hml hv
  obtain ⟨rfl, hP, hK⟩ := hv
  have hx := B.exec
  have hb := B.bytes
  have hr := B.returns
  have hts := atoms_spec (ws := wsX11_useAt) B.pre
  have hown : s.vm.findClass RX11 = some m.cls := findClass_of_methodNamed B.named
  have hlocks := B.notSynchronized
  have hin11 : ∀ w ∈ u_ws RX11 TX11 10, w ∈ wsX11_useAt := fun _ h => List.mem_cons_of_mem _ (List.mem_append_right _ h)
  have hw1 := hts (.fieldLink RX11 13 "InstallDeskModel" "book" "[I") (List.mem_of_getElem? (i := 1) rfl)
  have hl := lv_entry ([.ref (ad 64), .int a1, .int a2]) (n := 3) (Nat.le_of_ble_eq_true rfl)
  rw [lg_entry_eq]
  generalize (lg_sl ([.ref (ad 64), .int a1, .int a2]) ++ List.replicate (3 - (lg_sl ([.ref (ad 64), .int a1, .int a2])).length) Slot.unset).toArray = ls at hl ⊢
  have hl : lv_has ls 3 [(0, .ref (ad 64)), (1, .int a1), (2, .int a2)] := hl
  rw [pX11_useAt] at h
  refine lv_aload_n hx hb dX11_useAt_0 rfl (lv_at hl 0 rfl) ?_
  refine za_getr (k := 2) hx hb hts hin11 hown hK hP zF_64_2 rfl (Nat.le_of_ble_eq_true rfl) (Or.inl hw1) dX11_useAt_1 ?_
  refine lv_sipush (v := (934 : Int32)) hx hb dX11_useAt_4 (by decide) ?_
  refine lv_iconst (v := (4 : Int32)) hx hb dX11_useAt_7 (by decide) ?_
  refine lv_iload_n hx hb dX11_useAt_8 rfl (lv_at hl 1 rfl) ?_
  refine lv_imul hx hb dX11_useAt_9 ?_
  refine lv_iadd hx hb dX11_useAt_10 ?_
  refine lv_iload_n hx hb dX11_useAt_11 rfl (lv_at hl 2 rfl) ?_
  refine lv_iadd hx hb dX11_useAt_12 ?_
  obtain ⟨g1, h⟩ := gd_s h
  refine za_ild hx hb hK hP zI_66 g1 dX11_useAt_13 ?_
  cases h
  exact W.iret hx hb hr (fun t ht _ => ⟨rfl, ht⟩) (fun q hq => absurd hq List.not_mem_nil) dX11_useAt_14
abbrev rmX11_usesAt : Room := { frames := 1, cells := 0, slots := 0, locals := 22 }
set_option maxHeartbeats 4000000 in
set_option maxRecDepth 100000 in
theorem k_X11_usesAt (l : Launch) {D : va_G} {cI cJ : ClassId} {ad : Nat → Nat} {u : tU} {v : tV} {a1 : Int32} {a2 : Int32}  {r : Int32}  (h : pX11_usesAt u v a1 a2 = some r) : Met l yX11_usesAt wsX11_usesAt rmX11_usesAt (va_Pc [.ref (ad 64), .int a1, .int a2] (xPre D cI cJ (wA cI cJ ad u v))) (QcRead r) 0 0 (fun _ => False) := by
  refine Met.ofW (cc := cX11_usesAt) (maxL := 5) (ret := (some .int)) (by decide) rfl ?_
  intro p e s m args below meth c s₁ B hml hv
  obtain ⟨rfl, hP, hK⟩ := hv
  have hx := B.exec
  have hb := B.bytes
  have hr := B.returns
  have hts := atoms_spec (ws := wsX11_usesAt) B.pre
  have hown : s.vm.findClass RX11 = some m.cls := findClass_of_methodNamed B.named
  have hlocks := B.notSynchronized
  have hin11 : ∀ w ∈ u_ws RX11 TX11 10, w ∈ wsX11_usesAt := fun _ h => List.mem_cons_of_mem _ (List.mem_append_right _ h)
  have hw1 := hts (.fieldLink RX11 13 "InstallDeskModel" "book" "[I") (List.mem_of_getElem? (i := 1) rfl)
  have hl := lv_entry ([.ref (ad 64), .int a1, .int a2]) (n := 5) (Nat.le_of_ble_eq_true rfl)
  rw [lg_entry_eq]
  generalize (lg_sl ([.ref (ad 64), .int a1, .int a2]) ++ List.replicate (5 - (lg_sl ([.ref (ad 64), .int a1, .int a2])).length) Slot.unset).toArray = ls at hl ⊢
  have hl : lv_has ls 5 [(0, .ref (ad 64)), (1, .int a1), (2, .int a2)] := hl
  have L5 : ∀ (x1 : Int32) (x2 : Int32) (n : Nat) (x3 : Int32) (x4 : Int32) (ls : Array Slot) (o : Int32), pX11_usesAt_L5 u v x1 x2 n x3 x4 = some o → lv_has ls 5 [(0, .ref (ad 64)), (1, .int x1), (2, .int x2), (3, .int x3), (4, .int x4)] → (∀ (y3 : Int32) (ls : Array Slot), o = y3 → lv_has ls 5 [(3, .int y3)] → W p l e (headSpec wsX11_usesAt rmX11_usesAt).room s m [Value.ref (ad 64), Value.int a1, Value.int a2].toArray below meth c s.heap [] 0 0 (MQ below (QcRead r) [Value.ref (ad 64), Value.int a1, Value.int a2].toArray s 0 0 (fun _ => False)) (F0 m 63 ls [])) → W p l e (headSpec wsX11_usesAt rmX11_usesAt).room s m [Value.ref (ad 64), Value.int a1, Value.int a2].toArray below meth c s.heap [] 0 0 (MQ below (QcRead r) [Value.ref (ad 64), Value.int a1, Value.int a2].toArray s 0 0 (fun _ => False)) (F0 m 5 ls []) := by
    intro x1 x2 n
    induction n with
    | zero => intro x3 x4 ls o h; cases h
    | succ n ih =>
      intro x3 x4 ls o h hl hk
      rw [pX11_usesAt_L5] at h
      refine lv_iload hx hb dX11_usesAt_5 (lv_at hl 4 rfl) ?_
      refine lv_aload_n hx hb dX11_usesAt_7 rfl (lv_at hl 0 rfl) ?_
      refine za_getr (k := 2) hx hb hts hin11 hown hK hP zF_64_2 rfl (Nat.le_of_ble_eq_true rfl) (Or.inl hw1) dX11_usesAt_8 ?_
      refine lv_iconst (v := (4 : Int32)) hx hb dX11_usesAt_11 (by decide) ?_
      refine za_ildc (j := 4) hx hb hK hP zI_66 (by unfold vp_in; decide) rfl dX11_usesAt_12 ?_
      refine lv_icmp_ge (tgt := 63) hx hb dX11_usesAt_13 (by decide) (fun c1 => ?_) (fun c1 => ?_)
      · have h := vz_t c1 h
        cases h
        exact hk x3 ls rfl (lv_sub hl [3] rfl)
      · have h := vz_f c1 h
        refine lv_iload_n hx hb dX11_usesAt_16 rfl (lv_at hl 3 rfl) ?_
        refine lv_aload_n hx hb dX11_usesAt_17 rfl (lv_at hl 0 rfl) ?_
        refine lv_iload hx hb dX11_usesAt_18 (lv_at hl 4 rfl) ?_
        refine lv_iconst (v := (1 : Int32)) hx hb dX11_usesAt_20 (by decide) ?_
        obtain ⟨r3, hc2, h⟩ := vz_b h
        refine za_callR (va_runV (As := [.int x4, .int (1 : Int32)]) (rest := [.int x3]) ⟨hx, hb, hml, hown, hts⟩ (k_X11_useAt l (D := D) (cI := cI) (cJ := cJ) (ad := ad) hc2) (cwV 2 hts gX11_usesAt_X11_useAt rfl rfl rfl ⟨rfl, zd_X11_useAt⟩ ⟨Nat.le_of_ble_eq_true rfl, Nat.le_of_ble_eq_true rfl⟩) (xPreV (ci := 11) hK hP rfl zO_64) rfl rfl hl.1 rfl (lv_room (Nat.le_of_ble_eq_true rfl)) dX11_usesAt_21 ⟨Nat.zero_le _, Nat.zero_le _⟩) ?_
        refine lv_iload_n hx hb dX11_usesAt_24 rfl (lv_at hl 1 rfl) ?_
        refine lv_icmp_ne (tgt := 54) hx hb dX11_usesAt_25 (by decide) (fun c4 => ?_) (fun c4 => ?_)
        · have h := vz_f c4 h
          refine lv_iconst (v := (0 : Int32)) hx hb dX11_usesAt_54 (by decide) ?_
          refine lv_iadd hx hb dX11_usesAt_55 ?_
          refine lv_istore_n (lv' := [(3, .int (x3 + (0 : Int32))), (0, .ref (ad 64)), (1, .int x1), (2, .int x2), (4, .int x4)]) hx hb dX11_usesAt_56 rfl hl (by decide) rfl (fun ls hl => ?_)
          refine lv_iinc (v := (x4 + 1)) (lv' := [(4, .int (x4 + 1)), (3, .int (x3 + (0 : Int32))), (0, .ref (ad 64)), (1, .int x1), (2, .int x2)]) hx hb dX11_usesAt_57 hl (k := 4) rfl rfl (by decide) rfl (fun ls hl => ?_)
          refine lv_goto (tgt := 5) hx hb dX11_usesAt_60 (by decide) ?_
          exact ih (x3 + (0 : Int32)) (x4 + 1) ls o h (lv_sub hl [2, 3, 4, 1, 0] rfl) hk
        · have h := vz_t c4 h
          refine lv_aload_n hx hb dX11_usesAt_28 rfl (lv_at hl 0 rfl) ?_
          refine lv_iload hx hb dX11_usesAt_29 (lv_at hl 4 rfl) ?_
          refine lv_iconst (v := (2 : Int32)) hx hb dX11_usesAt_31 (by decide) ?_
          obtain ⟨r6, hc5, h⟩ := vz_b h
          refine za_callR (va_runV (As := [.int x4, .int (2 : Int32)]) (rest := [.int x3]) ⟨hx, hb, hml, hown, hts⟩ (k_X11_useAt l (D := D) (cI := cI) (cJ := cJ) (ad := ad) hc5) (cwV 2 hts gX11_usesAt_X11_useAt rfl rfl rfl ⟨rfl, zd_X11_useAt⟩ ⟨Nat.le_of_ble_eq_true rfl, Nat.le_of_ble_eq_true rfl⟩) (xPreV (ci := 11) hK hP rfl zO_64) rfl rfl hl.1 rfl (lv_room (Nat.le_of_ble_eq_true rfl)) dX11_usesAt_32 ⟨Nat.zero_le _, Nat.zero_le _⟩) ?_
          refine lv_iload_n hx hb dX11_usesAt_35 rfl (lv_at hl 2 rfl) ?_
          refine lv_icmp_gt (tgt := 54) hx hb dX11_usesAt_36 (by decide) (fun c7 => ?_) (fun c7 => ?_)
          · have h := vz_t c7 h
            refine lv_iconst (v := (0 : Int32)) hx hb dX11_usesAt_54 (by decide) ?_
            refine lv_iadd hx hb dX11_usesAt_55 ?_
            refine lv_istore_n (lv' := [(3, .int (x3 + (0 : Int32))), (0, .ref (ad 64)), (1, .int x1), (2, .int x2), (4, .int x4)]) hx hb dX11_usesAt_56 rfl hl (by decide) rfl (fun ls hl => ?_)
            refine lv_iinc (v := (x4 + 1)) (lv' := [(4, .int (x4 + 1)), (3, .int (x3 + (0 : Int32))), (0, .ref (ad 64)), (1, .int x1), (2, .int x2)]) hx hb dX11_usesAt_57 hl (k := 4) rfl rfl (by decide) rfl (fun ls hl => ?_)
            refine lv_goto (tgt := 5) hx hb dX11_usesAt_60 (by decide) ?_
            exact ih (x3 + (0 : Int32)) (x4 + 1) ls o h (lv_sub hl [2, 3, 4, 1, 0] rfl) hk
          · have h := vz_f c7 h
            refine lv_iload_n hx hb dX11_usesAt_39 rfl (lv_at hl 2 rfl) ?_
            refine lv_aload_n hx hb dX11_usesAt_40 rfl (lv_at hl 0 rfl) ?_
            refine lv_iload hx hb dX11_usesAt_41 (lv_at hl 4 rfl) ?_
            refine lv_iconst (v := (3 : Int32)) hx hb dX11_usesAt_43 (by decide) ?_
            obtain ⟨r9, hc8, h⟩ := vz_b h
            refine za_callR (va_runV (As := [.int x4, .int (3 : Int32)]) (rest := [.int x2, .int x3]) ⟨hx, hb, hml, hown, hts⟩ (k_X11_useAt l (D := D) (cI := cI) (cJ := cJ) (ad := ad) hc8) (cwV 2 hts gX11_usesAt_X11_useAt rfl rfl rfl ⟨rfl, zd_X11_useAt⟩ ⟨Nat.le_of_ble_eq_true rfl, Nat.le_of_ble_eq_true rfl⟩) (xPreV (ci := 11) hK hP rfl zO_64) rfl rfl hl.1 rfl (lv_room (Nat.le_of_ble_eq_true rfl)) dX11_usesAt_44 ⟨Nat.zero_le _, Nat.zero_le _⟩) ?_
            refine lv_icmp_ge (tgt := 54) hx hb dX11_usesAt_47 (by decide) (fun c10 => ?_) (fun c10 => ?_)
            · have h := vz_t c10 h
              refine lv_iconst (v := (0 : Int32)) hx hb dX11_usesAt_54 (by decide) ?_
              refine lv_iadd hx hb dX11_usesAt_55 ?_
              refine lv_istore_n (lv' := [(3, .int (x3 + (0 : Int32))), (0, .ref (ad 64)), (1, .int x1), (2, .int x2), (4, .int x4)]) hx hb dX11_usesAt_56 rfl hl (by decide) rfl (fun ls hl => ?_)
              refine lv_iinc (v := (x4 + 1)) (lv' := [(4, .int (x4 + 1)), (3, .int (x3 + (0 : Int32))), (0, .ref (ad 64)), (1, .int x1), (2, .int x2)]) hx hb dX11_usesAt_57 hl (k := 4) rfl rfl (by decide) rfl (fun ls hl => ?_)
              refine lv_goto (tgt := 5) hx hb dX11_usesAt_60 (by decide) ?_
              exact ih (x3 + (0 : Int32)) (x4 + 1) ls o h (lv_sub hl [2, 3, 4, 1, 0] rfl) hk
            · have h := vz_f c10 h
              refine lv_iconst (v := (1 : Int32)) hx hb dX11_usesAt_50 (by decide) ?_
              refine lv_goto (tgt := 55) hx hb dX11_usesAt_51 (by decide) ?_
              refine lv_iadd hx hb dX11_usesAt_55 ?_
              refine lv_istore_n (lv' := [(3, .int (x3 + (1 : Int32))), (0, .ref (ad 64)), (1, .int x1), (2, .int x2), (4, .int x4)]) hx hb dX11_usesAt_56 rfl hl (by decide) rfl (fun ls hl => ?_)
              refine lv_iinc (v := (x4 + 1)) (lv' := [(4, .int (x4 + 1)), (3, .int (x3 + (1 : Int32))), (0, .ref (ad 64)), (1, .int x1), (2, .int x2)]) hx hb dX11_usesAt_57 hl (k := 4) rfl rfl (by decide) rfl (fun ls hl => ?_)
              refine lv_goto (tgt := 5) hx hb dX11_usesAt_60 (by decide) ?_
              exact ih (x3 + (1 : Int32)) (x4 + 1) ls o h (lv_sub hl [2, 3, 4, 1, 0] rfl) hk
  rw [pX11_usesAt] at h
  refine lv_iconst (v := (0 : Int32)) hx hb dX11_usesAt_0 (by decide) ?_
  refine lv_istore_n (lv' := [(3, .int (0 : Int32)), (0, .ref (ad 64)), (1, .int a1), (2, .int a2)]) hx hb dX11_usesAt_1 rfl hl (by decide) rfl (fun ls hl => ?_)
  refine lv_iconst (v := (0 : Int32)) hx hb dX11_usesAt_2 (by decide) ?_
  refine lv_istore (lv' := [(4, .int (0 : Int32)), (3, .int (0 : Int32)), (0, .ref (ad 64)), (1, .int a1), (2, .int a2)]) hx hb dX11_usesAt_3 hl (by decide) rfl (fun ls hl => ?_)
  obtain ⟨o11, hL12, h⟩ := vz_b h
  refine L5 a1 a2 fuel (0 : Int32) (0 : Int32) ls o11 hL12 (lv_sub hl [2, 3, 4, 1, 0] rfl) (fun y14 ls e13 hl => ?_)
  try rw [e13] at h
  try dsimp only at h
  refine lv_iload_n hx hb dX11_usesAt_63 rfl (lv_at hl 0 rfl) ?_
  cases h
  exact W.iret hx hb hr (fun t ht _ => ⟨rfl, ht⟩) (fun q hq => absurd hq List.not_mem_nil) dX11_usesAt_64
abbrev rmX11_mostUses : Room := { frames := 2, cells := 0, slots := 0, locals := 46 }
set_option maxHeartbeats 4000000 in
set_option maxRecDepth 100000 in
theorem k_X11_mostUses (l : Launch) {D : va_G} {cI cJ : ClassId} {ad : Nat → Nat} {u : tU} {v : tV} {a1 : Int32}  {r : Int32}  (h : pX11_mostUses u v a1 = some r) : Met l yX11_mostUses wsX11_mostUses rmX11_mostUses (va_Pc [.ref (ad 64), .int a1] (xPre D cI cJ (wA cI cJ ad u v))) (QcRead r) 0 0 (fun _ => False) := by
  refine Met.ofW (cc := cX11_mostUses) (maxL := 5) (ret := (some .int)) (by decide) rfl ?_
  intro p e s m args below meth c s₁ B hml hv
  obtain ⟨rfl, hP, hK⟩ := hv
  have hx := B.exec
  have hb := B.bytes
  have hr := B.returns
  have hts := atoms_spec (ws := wsX11_mostUses) B.pre
  have hown : s.vm.findClass RX11 = some m.cls := findClass_of_methodNamed B.named
  have hlocks := B.notSynchronized
  have hl := lv_entry ([.ref (ad 64), .int a1]) (n := 5) (Nat.le_of_ble_eq_true rfl)
  rw [lg_entry_eq]
  generalize (lg_sl ([.ref (ad 64), .int a1]) ++ List.replicate (5 - (lg_sl ([.ref (ad 64), .int a1])).length) Slot.unset).toArray = ls at hl ⊢
  have hl : lv_has ls 5 [(0, .ref (ad 64)), (1, .int a1)] := hl
  have L4 : ∀ (x1 : Int32) (n : Nat) (x2 : Int32) (x3 : Int32) (ls : Array Slot) (o : Int32), pX11_mostUses_L4 u v x1 n x2 x3 = some o → lv_has ls 5 [(0, .ref (ad 64)), (1, .int x1), (2, .int x2), (3, .int x3)] → (∀ (y2 : Int32) (ls : Array Slot), o = y2 → lv_has ls 5 [(2, .int y2)] → W p l e (headSpec wsX11_mostUses rmX11_mostUses).room s m [Value.ref (ad 64), Value.int a1].toArray below meth c s.heap [] 0 0 (MQ below (QcRead r) [Value.ref (ad 64), Value.int a1].toArray s 0 0 (fun _ => False)) (F0 m 38 ls [])) → W p l e (headSpec wsX11_mostUses rmX11_mostUses).room s m [Value.ref (ad 64), Value.int a1].toArray below meth c s.heap [] 0 0 (MQ below (QcRead r) [Value.ref (ad 64), Value.int a1].toArray s 0 0 (fun _ => False)) (F0 m 4 ls []) := by
    intro x1 n
    induction n with
    | zero => intro x2 x3 ls o h; cases h
    | succ n ih =>
      intro x2 x3 ls o h hl hk
      rw [pX11_mostUses_L4] at h
      refine lv_iload_n hx hb dX11_mostUses_4 rfl (lv_at hl 3 rfl) ?_
      refine lv_sipush (v := (1000 : Int32)) hx hb dX11_mostUses_5 (by decide) ?_
      refine lv_icmp_ge (tgt := 38) hx hb dX11_mostUses_8 (by decide) (fun c1 => ?_) (fun c1 => ?_)
      · have h := vz_t c1 h
        cases h
        exact hk x2 ls rfl (lv_sub hl [2] rfl)
      · have h := vz_f c1 h
        refine lv_aload_n hx hb dX11_mostUses_11 rfl (lv_at hl 0 rfl) ?_
        refine lv_iload_n hx hb dX11_mostUses_12 rfl (lv_at hl 1 rfl) ?_
        refine lv_iload_n hx hb dX11_mostUses_13 rfl (lv_at hl 3 rfl) ?_
        obtain ⟨r3, hc2, h⟩ := vz_b h
        refine za_callR (va_runV (As := [.int x1, .int x3]) (rest := []) ⟨hx, hb, hml, hown, hts⟩ (k_X11_usesAt l (D := D) (cI := cI) (cJ := cJ) (ad := ad) hc2) (cwV 2 hts gX11_mostUses_X11_usesAt rfl rfl rfl ⟨rfl, zd_X11_usesAt⟩ ⟨Nat.le_of_ble_eq_true rfl, Nat.le_of_ble_eq_true rfl⟩) (xPreV (ci := 11) hK hP rfl zO_64) rfl rfl hl.1 rfl (lv_room (Nat.le_of_ble_eq_true rfl)) dX11_mostUses_14 ⟨Nat.zero_le _, Nat.zero_le _⟩) ?_
        refine lv_istore (lv' := [(4, .int r3), (0, .ref (ad 64)), (1, .int x1), (2, .int x2), (3, .int x3)]) hx hb dX11_mostUses_17 hl (by decide) rfl (fun ls hl => ?_)
        refine lv_iload hx hb dX11_mostUses_19 (lv_at hl 0 rfl) ?_
        refine lv_iload_n hx hb dX11_mostUses_21 rfl (lv_at hl 3 rfl) ?_
        refine lv_icmp_le (tgt := 30) hx hb dX11_mostUses_22 (by decide) (fun c4 => ?_) (fun c4 => ?_)
        · have h := vz_t c4 h
          refine lv_iload_n hx hb dX11_mostUses_30 rfl (lv_at hl 3 rfl) ?_
          refine lv_istore_n (lv' := [(2, .int x2), (4, .int r3), (0, .ref (ad 64)), (1, .int x1), (3, .int x3)]) hx hb dX11_mostUses_31 rfl hl (by decide) rfl (fun ls hl => ?_)
          refine lv_iinc (v := (x3 + 1)) (lv' := [(3, .int (x3 + 1)), (2, .int x2), (4, .int r3), (0, .ref (ad 64)), (1, .int x1)]) hx hb dX11_mostUses_32 hl (k := 4) rfl rfl (by decide) rfl (fun ls hl => ?_)
          refine lv_goto (tgt := 4) hx hb dX11_mostUses_35 (by decide) ?_
          exact ih x2 (x3 + 1) ls o h (lv_sub hl [3, 4, 1, 0] rfl) hk
        · have h := vz_f c4 h
          refine lv_iload hx hb dX11_mostUses_25 (lv_at hl 0 rfl) ?_
          refine lv_goto (tgt := 31) hx hb dX11_mostUses_27 (by decide) ?_
          refine lv_istore_n (lv' := [(2, .int r3), (4, .int r3), (0, .ref (ad 64)), (1, .int x1), (3, .int x3)]) hx hb dX11_mostUses_31 rfl hl (by decide) rfl (fun ls hl => ?_)
          refine lv_iinc (v := (x3 + 1)) (lv' := [(3, .int (x3 + 1)), (2, .int r3), (4, .int r3), (0, .ref (ad 64)), (1, .int x1)]) hx hb dX11_mostUses_32 hl (k := 4) rfl rfl (by decide) rfl (fun ls hl => ?_)
          refine lv_goto (tgt := 4) hx hb dX11_mostUses_35 (by decide) ?_
          exact ih r3 (x3 + 1) ls o h (lv_sub hl [3, 4, 1, 0] rfl) hk
  rw [pX11_mostUses] at h
  refine lv_iconst (v := (0 : Int32)) hx hb dX11_mostUses_0 (by decide) ?_
  refine lv_istore_n (lv' := [(2, .int (0 : Int32)), (0, .ref (ad 64)), (1, .int a1)]) hx hb dX11_mostUses_1 rfl hl (by decide) rfl (fun ls hl => ?_)
  refine lv_iconst (v := (0 : Int32)) hx hb dX11_mostUses_2 (by decide) ?_
  refine lv_istore_n (lv' := [(3, .int (0 : Int32)), (2, .int (0 : Int32)), (0, .ref (ad 64)), (1, .int a1)]) hx hb dX11_mostUses_3 rfl hl (by decide) rfl (fun ls hl => ?_)
  obtain ⟨o5, hL6, h⟩ := vz_b h
  refine L4 a1 fuel (0 : Int32) (0 : Int32) ls o5 hL6 (lv_sub hl [2, 3, 1, 0] rfl) (fun y8 ls e7 hl => ?_)
  try rw [e7] at h
  try dsimp only at h
  refine lv_iload_n hx hb dX11_mostUses_38 rfl (lv_at hl 0 rfl) ?_
  cases h
  exact W.iret hx hb hr (fun t ht _ => ⟨rfl, ht⟩) (fun q hq => absurd hq List.not_mem_nil) dX11_mostUses_39
abbrev rmX11_measureOf : Room := { frames := 3, cells := 0, slots := 0, locals := 70 }
set_option maxHeartbeats 4000000 in
set_option maxRecDepth 100000 in
theorem k_X11_measureOf (l : Launch) {D : va_G} {cI cJ : ClassId} {ad : Nat → Nat} {u : tU} {v : tV} {a1 : Int32} {a2 : Int32}  {r : Int32}  (h : pX11_measureOf u v a1 a2 = some r) : Met l yX11_measureOf wsX11_measureOf rmX11_measureOf (va_Pc [.ref (ad 64), .int a1, .int a2] (xPre D cI cJ (wA cI cJ ad u v))) (QcRead r) 0 0 (fun _ => False) := by
  refine Met.ofW (cc := cX11_measureOf) (maxL := 8) (ret := (some .int)) (by decide) rfl ?_
  intro p e s m args below meth c s₁ B hml hv
  obtain ⟨rfl, hP, hK⟩ := hv
  have hx := B.exec
  have hb := B.bytes
  have hr := B.returns
  have hts := atoms_spec (ws := wsX11_measureOf) B.pre
  have hown : s.vm.findClass RX11 = some m.cls := findClass_of_methodNamed B.named
  have hlocks := B.notSynchronized
  have hin11 : ∀ w ∈ u_ws RX11 TX11 10, w ∈ wsX11_measureOf := fun _ h => List.mem_cons_of_mem _ (List.mem_append_right _ h)
  have hw1 := hts (.fieldLink RX11 13 "InstallDeskModel" "book" "[I") (List.mem_of_getElem? (i := 1) rfl)
  have hw2 := hts (.fieldLink RX11 19 "InstallDeskModel" "had" "[I") (List.mem_of_getElem? (i := 2) rfl)
  have hl := lv_entry ([.ref (ad 64), .int a1, .int a2]) (n := 8) (Nat.le_of_ble_eq_true rfl)
  rw [lg_entry_eq]
  generalize (lg_sl ([.ref (ad 64), .int a1, .int a2]) ++ List.replicate (8 - (lg_sl ([.ref (ad 64), .int a1, .int a2])).length) Slot.unset).toArray = ls at hl ⊢
  have hl : lv_has ls 8 [(0, .ref (ad 64)), (1, .int a1), (2, .int a2)] := hl
  have L89 : ∀ (x5 : Int32) (n : Nat) (x6 : Int32) (x7 : Int32) (ls : Array Slot) (o : Int32), pX11_measureOf_L89 u v x5 n x6 x7 = some o → lv_has ls 8 [(5, .int x5), (6, .int x6), (7, .int x7)] → (∀ (y6 : Int32) (ls : Array Slot), o = y6 → lv_has ls 8 [(6, .int y6)] → W p l e (headSpec wsX11_measureOf rmX11_measureOf).room s m [Value.ref (ad 64), Value.int a1, Value.int a2].toArray below meth c s.heap [] 0 0 (MQ below (QcRead r) [Value.ref (ad 64), Value.int a1, Value.int a2].toArray s 0 0 (fun _ => False)) (F0 m 114 ls [])) → W p l e (headSpec wsX11_measureOf rmX11_measureOf).room s m [Value.ref (ad 64), Value.int a1, Value.int a2].toArray below meth c s.heap [] 0 0 (MQ below (QcRead r) [Value.ref (ad 64), Value.int a1, Value.int a2].toArray s 0 0 (fun _ => False)) (F0 m 89 ls []) := by
    intro x5 n
    induction n with
    | zero => intro x6 x7 ls o h; cases h
    | succ n ih =>
      intro x6 x7 ls o h hl hk
      rw [pX11_measureOf_L89] at h
      refine lv_iload hx hb dX11_measureOf_89 (lv_at hl 2 rfl) ?_
      refine lv_bipush (v := (10 : Int32)) hx hb dX11_measureOf_91 (by decide) ?_
      refine lv_icmp_ge (tgt := 114) hx hb dX11_measureOf_93 (by decide) (fun c1 => ?_) (fun c1 => ?_)
      · have h := vz_t c1 h
        cases h
        exact hk x6 ls rfl (lv_sub hl [1] rfl)
      · have h := vz_f c1 h
        refine lv_iload hx hb dX11_measureOf_96 (lv_at hl 1 rfl) ?_
        refine lv_iload hx hb dX11_measureOf_98 (lv_at hl 0 rfl) ?_
        refine lv_iload hx hb dX11_measureOf_100 (lv_at hl 2 rfl) ?_
        refine lv_ishr hx hb dX11_measureOf_102 ?_
        refine lv_iconst (v := (1 : Int32)) hx hb dX11_measureOf_103 (by decide) ?_
        refine lv_iand hx hb dX11_measureOf_104 ?_
        refine lv_iadd hx hb dX11_measureOf_105 ?_
        refine lv_istore (lv' := [(6, .int (x6 + ((x5 >>> (x7 &&& 31)) &&& (1 : Int32)))), (5, .int x5), (7, .int x7)]) hx hb dX11_measureOf_106 hl (by decide) rfl (fun ls hl => ?_)
        refine lv_iinc (v := (x7 + 1)) (lv' := [(7, .int (x7 + 1)), (6, .int (x6 + ((x5 >>> (x7 &&& 31)) &&& (1 : Int32)))), (5, .int x5)]) hx hb dX11_measureOf_108 hl (k := 2) rfl rfl (by decide) rfl (fun ls hl => ?_)
        refine lv_goto (tgt := 89) hx hb dX11_measureOf_111 (by decide) ?_
        exact ih (x6 + ((x5 >>> (x7 &&& 31)) &&& (1 : Int32))) (x7 + 1) ls o h (lv_sub hl [2, 1, 0] rfl) hk
  have L11 : ∀ (x1 : Int32) (x2 : Int32) (n : Nat) (x3 : Int32) (x4 : Int32) (x5 : Int32) (x6 : Int32) (ls : Array Slot) (o : Int32 × Int32 × Int32), pX11_measureOf_L11 u v x1 x2 n x3 x4 x5 x6 = some o → lv_has ls 8 [(0, .ref (ad 64)), (1, .int x1), (2, .int x2), (3, .int x3), (4, .int x4), (5, .int x5), (6, .int x6)] → (∀ (y3 : Int32) (y4 : Int32) (y5 : Int32) (ls : Array Slot), o = (y3, y4, y5) → lv_has ls 8 [(0, .ref (ad 64)), (1, .int x1), (2, .int x2), (3, .int y3), (4, .int y4), (5, .int y5)] → W p l e (headSpec wsX11_measureOf rmX11_measureOf).room s m [Value.ref (ad 64), Value.int a1, Value.int a2].toArray below meth c s.heap [] 0 0 (MQ below (QcRead r) [Value.ref (ad 64), Value.int a1, Value.int a2].toArray s 0 0 (fun _ => False)) (F0 m 78 ls [])) → W p l e (headSpec wsX11_measureOf rmX11_measureOf).room s m [Value.ref (ad 64), Value.int a1, Value.int a2].toArray below meth c s.heap [] 0 0 (MQ below (QcRead r) [Value.ref (ad 64), Value.int a1, Value.int a2].toArray s 0 0 (fun _ => False)) (F0 m 11 ls []) := by
    intro x1 x2 n
    induction n with
    | zero => intro x3 x4 x5 x6 ls o h; cases h
    | succ n ih =>
      intro x3 x4 x5 x6 ls o h hl hk
      rw [pX11_measureOf_L11] at h
      refine lv_iload hx hb dX11_measureOf_11 (lv_at hl 6 rfl) ?_
      refine lv_aload_n hx hb dX11_measureOf_13 rfl (lv_at hl 0 rfl) ?_
      refine za_getr (k := 2) hx hb hts hin11 hown hK hP zF_64_2 rfl (Nat.le_of_ble_eq_true rfl) (Or.inl hw1) dX11_measureOf_14 ?_
      refine lv_iconst (v := (2 : Int32)) hx hb dX11_measureOf_17 (by decide) ?_
      refine za_ildc (j := 2) hx hb hK hP zI_66 (by unfold vp_in; decide) rfl dX11_measureOf_18 ?_
      refine lv_icmp_ge (tgt := 78) hx hb dX11_measureOf_19 (by decide) (fun c2 => ?_) (fun c2 => ?_)
      · have h := vz_t c2 h
        cases h
        exact hk x3 x4 x5 ls rfl (lv_sub hl [0, 1, 2, 3, 4, 5] rfl)
      · have h := vz_f c2 h
        refine lv_aload_n hx hb dX11_measureOf_22 rfl (lv_at hl 0 rfl) ?_
        refine za_getr (k := 6) hx hb hts hin11 hown hK hP zF_64_6 rfl (Nat.le_of_ble_eq_true rfl) (Or.inl hw2) dX11_measureOf_23 ?_
        refine lv_bipush (v := (10 : Int32)) hx hb dX11_measureOf_26 (by decide) ?_
        refine lv_iload hx hb dX11_measureOf_28 (lv_at hl 6 rfl) ?_
        refine lv_imul hx hb dX11_measureOf_30 ?_
        refine lv_iload_n hx hb dX11_measureOf_31 rfl (lv_at hl 1 rfl) ?_
        refine lv_iadd hx hb dX11_measureOf_32 ?_
        obtain ⟨g3, h⟩ := gd_s h
        refine za_ild hx hb hK hP zI_68 g3 dX11_measureOf_33 ?_
        refine lv_if_le (tgt := 72) hx hb dX11_measureOf_34 (by decide) (fun c4 => ?_) (fun c4 => ?_)
        · have h := vz_t c4 h
          refine lv_iinc (v := (x6 + 1)) (lv' := [(6, .int (x6 + 1)), (0, .ref (ad 64)), (1, .int x1), (2, .int x2), (3, .int x3), (4, .int x4), (5, .int x5)]) hx hb dX11_measureOf_72 hl (k := 6) rfl rfl (by decide) rfl (fun ls hl => ?_)
          refine lv_goto (tgt := 11) hx hb dX11_measureOf_75 (by decide) ?_
          exact ih x3 x4 x5 (x6 + 1) ls o h (lv_sub hl [1, 2, 3, 4, 5, 6, 0] rfl) hk
        · have h := vz_f c4 h
          refine lv_iinc (v := (x3 + 1)) (lv' := [(3, .int (x3 + 1)), (0, .ref (ad 64)), (1, .int x1), (2, .int x2), (4, .int x4), (5, .int x5), (6, .int x6)]) hx hb dX11_measureOf_37 hl (k := 3) rfl rfl (by decide) rfl (fun ls hl => ?_)
          refine lv_iload hx hb dX11_measureOf_40 (lv_at hl 4 rfl) ?_
          refine lv_aload_n hx hb dX11_measureOf_42 rfl (lv_at hl 1 rfl) ?_
          refine lv_iload hx hb dX11_measureOf_43 (lv_at hl 6 rfl) ?_
          refine lv_iconst (v := (0 : Int32)) hx hb dX11_measureOf_45 (by decide) ?_
          obtain ⟨r6, hc5, h⟩ := vz_b h
          refine za_callR (va_runV (As := [.int x6, .int (0 : Int32)]) (rest := [.int x4]) ⟨hx, hb, hml, hown, hts⟩ (k_X11_hostAt l (D := D) (cI := cI) (cJ := cJ) (ad := ad) hc5) (cwV 2 hts gX11_measureOf_X11_hostAt rfl rfl rfl ⟨rfl, zd_X11_hostAt⟩ ⟨Nat.le_of_ble_eq_true rfl, Nat.le_of_ble_eq_true rfl⟩) (xPreV (ci := 11) hK hP rfl zO_64) rfl rfl hl.1 rfl (lv_room (Nat.le_of_ble_eq_true rfl)) dX11_measureOf_46 ⟨Nat.zero_le _, Nat.zero_le _⟩) ?_
          refine lv_bipush (v := (7 : Int32)) hx hb dX11_measureOf_49 (by decide) ?_
          refine lv_iadd hx hb dX11_measureOf_51 ?_
          refine lv_bipush (v := (8 : Int32)) hx hb dX11_measureOf_52 (by decide) ?_
          refine lv_idiv hx hb dX11_measureOf_54 (by decide) ?_
          refine lv_iadd hx hb dX11_measureOf_55 ?_
          refine lv_istore (lv' := [(4, .int (x4 + ((r6 + (7 : Int32)) / (8 : Int32)))), (3, .int (x3 + 1)), (0, .ref (ad 64)), (1, .int x1), (2, .int x2), (5, .int x5), (6, .int x6)]) hx hb dX11_measureOf_56 hl (by decide) rfl (fun ls hl => ?_)
          refine lv_iload hx hb dX11_measureOf_58 (lv_at hl 5 rfl) ?_
          refine lv_iconst (v := (1 : Int32)) hx hb dX11_measureOf_60 (by decide) ?_
          refine lv_aload_n hx hb dX11_measureOf_61 rfl (lv_at hl 2 rfl) ?_
          refine lv_iload hx hb dX11_measureOf_62 (lv_at hl 6 rfl) ?_
          refine lv_iconst (v := (1 : Int32)) hx hb dX11_measureOf_64 (by decide) ?_
          obtain ⟨r8, hc7, h⟩ := vz_b h
          refine za_callR (va_runV (As := [.int x6, .int (1 : Int32)]) (rest := [.int (1 : Int32), .int x5]) ⟨hx, hb, hml, hown, hts⟩ (k_X11_hostAt l (D := D) (cI := cI) (cJ := cJ) (ad := ad) hc7) (cwV 2 hts gX11_measureOf_X11_hostAt rfl rfl rfl ⟨rfl, zd_X11_hostAt⟩ ⟨Nat.le_of_ble_eq_true rfl, Nat.le_of_ble_eq_true rfl⟩) (xPreV (ci := 11) hK hP rfl zO_64) rfl rfl hl.1 rfl (lv_room (Nat.le_of_ble_eq_true rfl)) dX11_measureOf_65 ⟨Nat.zero_le _, Nat.zero_le _⟩) ?_
          refine lv_ishl hx hb dX11_measureOf_68 ?_
          refine lv_ior hx hb dX11_measureOf_69 ?_
          refine lv_istore (lv' := [(5, .int (x5 ||| ((1 : Int32) <<< (r8 &&& 31)))), (4, .int (x4 + ((r6 + (7 : Int32)) / (8 : Int32)))), (3, .int (x3 + 1)), (0, .ref (ad 64)), (1, .int x1), (2, .int x2), (6, .int x6)]) hx hb dX11_measureOf_70 hl (by decide) rfl (fun ls hl => ?_)
          refine lv_iinc (v := (x6 + 1)) (lv' := [(6, .int (x6 + 1)), (5, .int (x5 ||| ((1 : Int32) <<< (r8 &&& 31)))), (4, .int (x4 + ((r6 + (7 : Int32)) / (8 : Int32)))), (3, .int (x3 + 1)), (0, .ref (ad 64)), (1, .int x1), (2, .int x2)]) hx hb dX11_measureOf_72 hl (k := 6) rfl rfl (by decide) rfl (fun ls hl => ?_)
          refine lv_goto (tgt := 11) hx hb dX11_measureOf_75 (by decide) ?_
          exact ih (x3 + 1) (x4 + ((r6 + (7 : Int32)) / (8 : Int32))) (x5 ||| ((1 : Int32) <<< (r8 &&& 31))) (x6 + 1) ls o h (lv_sub hl [4, 5, 6, 3, 2, 1, 0] rfl) hk
  rw [pX11_measureOf] at h
  refine lv_iconst (v := (0 : Int32)) hx hb dX11_measureOf_0 (by decide) ?_
  refine lv_istore_n (lv' := [(3, .int (0 : Int32)), (0, .ref (ad 64)), (1, .int a1), (2, .int a2)]) hx hb dX11_measureOf_1 rfl hl (by decide) rfl (fun ls hl => ?_)
  refine lv_iconst (v := (0 : Int32)) hx hb dX11_measureOf_2 (by decide) ?_
  refine lv_istore (lv' := [(4, .int (0 : Int32)), (3, .int (0 : Int32)), (0, .ref (ad 64)), (1, .int a1), (2, .int a2)]) hx hb dX11_measureOf_3 hl (by decide) rfl (fun ls hl => ?_)
  refine lv_iconst (v := (0 : Int32)) hx hb dX11_measureOf_5 (by decide) ?_
  refine lv_istore (lv' := [(5, .int (0 : Int32)), (4, .int (0 : Int32)), (3, .int (0 : Int32)), (0, .ref (ad 64)), (1, .int a1), (2, .int a2)]) hx hb dX11_measureOf_6 hl (by decide) rfl (fun ls hl => ?_)
  refine lv_iconst (v := (0 : Int32)) hx hb dX11_measureOf_8 (by decide) ?_
  refine lv_istore (lv' := [(6, .int (0 : Int32)), (5, .int (0 : Int32)), (4, .int (0 : Int32)), (3, .int (0 : Int32)), (0, .ref (ad 64)), (1, .int a1), (2, .int a2)]) hx hb dX11_measureOf_9 hl (by decide) rfl (fun ls hl => ?_)
  obtain ⟨o9, hL10, h⟩ := vz_b h
  refine L11 a1 a2 fuel (0 : Int32) (0 : Int32) (0 : Int32) (0 : Int32) ls o9 hL10 (lv_sub hl [4, 5, 6, 3, 2, 1, 0] rfl) (fun y12 y13 y14 ls e11 hl => ?_)
  try rw [e11] at h
  try dsimp only at h
  refine lv_iload_n hx hb dX11_measureOf_78 rfl (lv_at hl 2 rfl) ?_
  refine lv_iconst (v := (1 : Int32)) hx hb dX11_measureOf_79 (by decide) ?_
  refine lv_icmp_ne (tgt := 117) hx hb dX11_measureOf_80 (by decide) (fun c15 => ?_) (fun c15 => ?_)
  · have h := vz_f c15 h
    refine lv_iload_n hx hb dX11_measureOf_117 rfl (lv_at hl 2 rfl) ?_
    refine lv_if_ne (tgt := 125) hx hb dX11_measureOf_118 (by decide) (fun c16 => ?_) (fun c16 => ?_)
    · have h := vz_f c16 h
      refine lv_iload_n hx hb dX11_measureOf_125 rfl (lv_at hl 2 rfl) ?_
      refine lv_iconst (v := (2 : Int32)) hx hb dX11_measureOf_126 (by decide) ?_
      refine lv_icmp_ne (tgt := 135) hx hb dX11_measureOf_127 (by decide) (fun c17 => ?_) (fun c17 => ?_)
      · have h := vz_f c17 h
        refine lv_aload_n hx hb dX11_measureOf_135 rfl (lv_at hl 0 rfl) ?_
        refine lv_iload_n hx hb dX11_measureOf_136 rfl (lv_at hl 1 rfl) ?_
        obtain ⟨r19, hc18, h⟩ := vz_b h
        refine za_callR (va_runV (As := [.int a1]) (rest := []) ⟨hx, hb, hml, hown, hts⟩ (k_X11_mostUses l (D := D) (cI := cI) (cJ := cJ) (ad := ad) hc18) (cwV 1 hts gX11_measureOf_X11_mostUses rfl rfl rfl ⟨rfl, zd_X11_mostUses⟩ ⟨Nat.le_of_ble_eq_true rfl, Nat.le_of_ble_eq_true rfl⟩) (xPreV (ci := 11) hK hP rfl zO_64) rfl rfl hl.1 rfl (lv_room (Nat.le_of_ble_eq_true rfl)) dX11_measureOf_137 ⟨Nat.zero_le _, Nat.zero_le _⟩) ?_
        cases h
        exact W.iret hx hb hr (fun t ht _ => ⟨rfl, ht⟩) (fun q hq => absurd hq List.not_mem_nil) dX11_measureOf_140
      · have h := vz_t c17 h
        refine lv_iload hx hb dX11_measureOf_130 (lv_at hl 4 rfl) ?_
        refine lv_goto (tgt := 140) hx hb dX11_measureOf_132 (by decide) ?_
        cases h
        exact W.iret hx hb hr (fun t ht _ => ⟨rfl, ht⟩) (fun q hq => absurd hq List.not_mem_nil) dX11_measureOf_140
    · have h := vz_t c16 h
      refine lv_iload_n hx hb dX11_measureOf_121 rfl (lv_at hl 3 rfl) ?_
      refine lv_goto (tgt := 140) hx hb dX11_measureOf_122 (by decide) ?_
      cases h
      exact W.iret hx hb hr (fun t ht _ => ⟨rfl, ht⟩) (fun q hq => absurd hq List.not_mem_nil) dX11_measureOf_140
  · have h := vz_t c15 h
    refine lv_iconst (v := (0 : Int32)) hx hb dX11_measureOf_83 (by decide) ?_
    refine lv_istore (lv' := [(6, .int (0 : Int32)), (0, .ref (ad 64)), (1, .int a1), (2, .int a2), (3, .int y12), (4, .int y13), (5, .int y14)]) hx hb dX11_measureOf_84 hl (by decide) rfl (fun ls hl => ?_)
    refine lv_iconst (v := (0 : Int32)) hx hb dX11_measureOf_86 (by decide) ?_
    refine lv_istore (lv' := [(7, .int (0 : Int32)), (6, .int (0 : Int32)), (0, .ref (ad 64)), (1, .int a1), (2, .int a2), (3, .int y12), (4, .int y13), (5, .int y14)]) hx hb dX11_measureOf_87 hl (by decide) rfl (fun ls hl => ?_)
    obtain ⟨o20, hL21, h⟩ := vz_b h
    refine L89 y14 fuel (0 : Int32) (0 : Int32) ls o20 hL21 (lv_sub hl [7, 1, 0] rfl) (fun y23 ls e22 hl => ?_)
    try rw [e22] at h
    try dsimp only at h
    refine lv_iload hx hb dX11_measureOf_114 (lv_at hl 0 rfl) ?_
    cases h
    exact W.iret hx hb hr (fun t ht _ => ⟨rfl, ht⟩) (fun q hq => absurd hq List.not_mem_nil) dX11_measureOf_116
