abbrev rmX11_of : Room := { frames := 6, cells := 0, slots := 0, locals := 142 }
set_option maxHeartbeats 4000000 in
set_option maxRecDepth 100000 in
theorem k_X11_of (l : Launch) {D : va_G} {cI cJ : ClassId} {ad : Nat → Nat} {u : tU} {v : tV} {A : Nat → Prop} (hD : zD A cI cJ ad) {a1 : Int32} {a2 : Int32}  {r : Int32} {uz : tU} {vz : tV} (h : pX11_of u v a1 a2 = some (r, uz, vz)) : Met l yX11_of wsX11_of rmX11_of (va_Pc [.ref (ad 64), .int a1, .int a2] (xPre D cI cJ (wA cI cJ ad u v))) (xWi D cI cJ ad A r uz vz) 0 0 A := by
  refine Met.ofW (cc := cX11_of) (maxL := 3) (ret := (some .int)) (by decide) rfl ?_
  intro p e s m args below meth c s₁ B hml hv
  obtain ⟨rfl, hP, hK⟩ := hv
  have hx := B.exec
  have hb := B.bytes
  have hr := B.returns
  have hts := atoms_spec (ws := wsX11_of) B.pre
  have hown : s.vm.findClass RX11 = some m.cls := findClass_of_methodNamed B.named
  have hlocks := B.notSynchronized
  have hS : va_S A s.heap s.heap [] := va_S.rf
  have hin11 : ∀ w ∈ u_ws RX11 TX11 10, w ∈ wsX11_of := fun _ h => List.mem_cons_of_mem _ (List.mem_append_right _ h)
  have hw1 := hts (.fieldLink RX11 13 "InstallDeskModel" "book" "[I") (List.mem_of_getElem? (i := 1) rfl)
  have hw2 := hts (.fieldLink RX11 121 "InstallDeskModel" "cost" "I") (List.mem_of_getElem? (i := 2) rfl)
  have hw3 := hts (.fieldLink RX11 127 "InstallDeskModel" "lack" "I") (List.mem_of_getElem? (i := 3) rfl)
  have hl := lv_entry ([.ref (ad 64), .int a1, .int a2]) (n := 3) (Nat.le_of_ble_eq_true rfl)
  rw [lg_entry_eq]
  generalize (lg_sl ([.ref (ad 64), .int a1, .int a2]) ++ List.replicate (3 - (lg_sl ([.ref (ad 64), .int a1, .int a2])).length) Slot.unset).toArray = ls at hl ⊢
  have hl : lv_has ls 3 [(0, .ref (ad 64)), (1, .int a1), (2, .int a2)] := hl
  rw [pX11_of] at h
  refine lv_aload_n hx hb dX11_of_0 rfl (lv_at hl 0 rfl) ?_
  refine lv_iload_n hx hb dX11_of_1 rfl (lv_at hl 1 rfl) ?_
  obtain ⟨r2, hc1, h⟩ := vz_b h
  refine za_callR (va_runV (As := [.int a1]) (rest := []) ⟨hx, hb, hml, hown, hts⟩ (k_X11_isProduct l (D := D) (cI := cI) (cJ := cJ) (ad := ad) hc1) (cwV 1 hts gX11_of_X11_isProduct rfl rfl rfl ⟨rfl, zd_X11_isProduct⟩ ⟨Nat.le_of_ble_eq_true rfl, Nat.le_of_ble_eq_true rfl⟩) (xPreV (ci := 11) hK hP rfl zO_64) rfl rfl hl.1 rfl (lv_room (Nat.le_of_ble_eq_true rfl)) dX11_of_2 ⟨Nat.zero_le _, Nat.zero_le _⟩) ?_
  refine lv_if_ne (tgt := 14) hx hb dX11_of_5 (by decide) (fun c3 => ?_) (fun c3 => ?_)
  · have h := vz_f c3 h
    refine lv_aload_n hx hb dX11_of_14 rfl (lv_at hl 0 rfl) ?_
    obtain ⟨⟨u5, v6⟩, hc4, h⟩ := vz_b h
    try dsimp only at h
    refine za_callWv (va_runV (As := []) (rest := []) ⟨hx, hb, hml, hown, hts⟩ (k_X11_tellHad l (D := D) (cI := cI) (cJ := cJ) (ad := ad) hD hc4) (cwV 0 hts gX11_of_X11_tellHad rfl rfl rfl ⟨rfl, zd_X11_tellHad⟩ ⟨Nat.le_of_ble_eq_true rfl, Nat.le_of_ble_eq_true rfl⟩) (xPreV (ci := 11) hK hP rfl zO_64) rfl rfl hl.1 rfl (lv_room (Nat.le_of_ble_eq_true rfl)) dX11_of_15 ⟨Nat.zero_le _, Nat.zero_le _⟩) hS (fun H locs hP hS => ?_)
    refine lv_aload_n hx hb dX11_of_18 rfl (lv_at hl 0 rfl) ?_
    refine lv_iload_n hx hb dX11_of_19 rfl (lv_at hl 1 rfl) ?_
    refine lv_aload_n hx hb dX11_of_20 rfl (lv_at hl 0 rfl) ?_
    refine za_getr (k := 2) hx hb hts hin11 hown hK hP zF_64_2 rfl (Nat.le_of_ble_eq_true rfl) (Or.inl hw1) dX11_of_21 ?_
    refine lv_bipush (v := (6 : Int32)) hx hb dX11_of_24 (by decide) ?_
    refine za_ildc (j := 6) hx hb hK hP zI_66 (by unfold vp_in; decide) rfl dX11_of_26 ?_
    refine lv_iconst (v := (-1 : Int32)) hx hb dX11_of_27 (by decide) ?_
    refine lv_iconst (v := (-1 : Int32)) hx hb dX11_of_28 (by decide) ?_
    obtain ⟨⟨u9, v10⟩, hc8, h⟩ := vz_b h
    try dsimp only at h
    refine za_callWv (va_runV (As := [.int a1, .int (u5 4 6), .int (-1 : Int32), .int (-1 : Int32)]) (rest := []) ⟨hx, hb, hml, hown, hts⟩ (k_X11_match l (D := D) (cI := cI) (cJ := cJ) (ad := ad) hD hc8) (cwV 4 hts gX11_of_X11_match rfl rfl rfl ⟨rfl, zd_X11_match⟩ ⟨Nat.le_of_ble_eq_true rfl, Nat.le_of_ble_eq_true rfl⟩) (xPreV (ci := 11) hK hP rfl zO_64) rfl rfl hl.1 rfl (lv_room (Nat.le_of_ble_eq_true rfl)) dX11_of_29 ⟨Nat.zero_le _, Nat.zero_le _⟩) hS (fun H locs hP hS => ?_)
    refine lv_iload_n hx hb dX11_of_32 rfl (lv_at hl 2 rfl) ?_
    refine lv_if_eq (tgt := 43) hx hb dX11_of_33 (by decide) (fun c12 => ?_) (fun c12 => ?_)
    · have h := vz_t c12 h
      refine lv_aload_n hx hb dX11_of_43 rfl (lv_at hl 0 rfl) ?_
      refine za_geti (k := 8) hx hb hts hin11 hown hK hP zF_64_8 rfl (Nat.le_of_ble_eq_true rfl) (Or.inl hw3) dX11_of_44 ?_
      cases h
      exact W.iret hx hb hr (fun t ht _ => ⟨rfl, by rw [ht]; exact hP, hS.F ht⟩) hS.2.2 dX11_of_47
    · have h := vz_f c12 h
      refine lv_aload_n hx hb dX11_of_36 rfl (lv_at hl 0 rfl) ?_
      refine za_geti (k := 9) hx hb hts hin11 hown hK hP zF_64_9 rfl (Nat.le_of_ble_eq_true rfl) (Or.inl hw2) dX11_of_37 ?_
      refine lv_goto (tgt := 47) hx hb dX11_of_40 (by decide) ?_
      cases h
      exact W.iret hx hb hr (fun t ht _ => ⟨rfl, by rw [ht]; exact hP, hS.F ht⟩) hS.2.2 dX11_of_47
  · have h := vz_t c3 h
    refine lv_aload_n hx hb dX11_of_8 rfl (lv_at hl 0 rfl) ?_
    refine lv_iconst (v := (-1 : Int32)) hx hb dX11_of_9 (by decide) ?_
    obtain ⟨⟨r17, u14, v15⟩, hc13, h⟩ := vz_b h
    try dsimp only at h
    refine za_callWi (va_runV (As := [.int (-1 : Int32)]) (rest := []) ⟨hx, hb, hml, hown, hts⟩ (k_X11_finding l (D := D) (cI := cI) (cJ := cJ) (ad := ad) hD hc13) (cwV 1 hts gX11_of_X11_finding rfl rfl rfl ⟨rfl, zd_X11_finding⟩ ⟨Nat.le_of_ble_eq_true rfl, Nat.le_of_ble_eq_true rfl⟩) (xPreV (ci := 11) hK hP rfl zO_64) rfl rfl hl.1 rfl (lv_room (Nat.le_of_ble_eq_true rfl)) dX11_of_10 ⟨Nat.zero_le _, Nat.zero_le _⟩) hS (fun H locs hP hS => ?_)
    cases h
    exact W.iret hx hb hr (fun t ht _ => ⟨rfl, by rw [ht]; exact hP, hS.F ht⟩) hS.2.2 dX11_of_13
abbrev rmX11_peak : Room := { frames := 3, cells := 0, slots := 0, locals := 70 }
set_option maxHeartbeats 4000000 in
set_option maxRecDepth 100000 in
theorem k_X11_peak (l : Launch) {D : va_G} {cI cJ : ClassId} {ad : Nat → Nat} {u : tU} {v : tV} {A : Nat → Prop} (hD : zD A cI cJ ad) {a1 : Int32}  {r : Int32} {uz : tU} {vz : tV} (h : pX11_peak u v a1 = some (r, uz, vz)) : Met l yX11_peak wsX11_peak rmX11_peak (va_Pc [.ref (ad 64), .int a1] (xPre D cI cJ (wA cI cJ ad u v))) (xWi D cI cJ ad A r uz vz) 0 0 A := by
  refine Met.ofW (cc := cX11_peak) (maxL := 4) (ret := (some .int)) (by decide) rfl ?_
  intro p e s m args below meth c s₁ B hml hv
  obtain ⟨rfl, hP, hK⟩ := hv
  have hx := B.exec
  have hb := B.bytes
  have hr := B.returns
  have hts := atoms_spec (ws := wsX11_peak) B.pre
  have hown : s.vm.findClass RX11 = some m.cls := findClass_of_methodNamed B.named
  have hlocks := B.notSynchronized
  have hS : va_S A s.heap s.heap [] := va_S.rf
  have hl := lv_entry ([.ref (ad 64), .int a1]) (n := 4) (Nat.le_of_ble_eq_true rfl)
  rw [lg_entry_eq]
  generalize (lg_sl ([.ref (ad 64), .int a1]) ++ List.replicate (4 - (lg_sl ([.ref (ad 64), .int a1])).length) Slot.unset).toArray = ls at hl ⊢
  have hl : lv_has ls 4 [(0, .ref (ad 64)), (1, .int a1)] := hl
  have L33 : ∀ (u : tU) (v : tV) (H : Heap) (locs : List Loc) (x1 : Int32) (x2 : Int32) (n : Nat) (x3 : Int32) (ls : Array Slot) (o : Int32), pX11_peak_L33 u v x1 x2 n x3 = some o → va_P D vwCl (wA cI cJ ad u v) H → va_S A s.heap H locs → lv_has ls 4 [(0, .ref (ad 64)), (1, .int x1), (2, .int x2), (3, .int x3)] → (∀ (y3 : Int32) (ls : Array Slot), o = y3 → lv_has ls 4 [(3, .int y3)] → W p l e (headSpec wsX11_peak rmX11_peak).room s m [Value.ref (ad 64), Value.int a1].toArray below meth c H locs 0 0 (MQ below (xWi D cI cJ ad A r uz vz) [Value.ref (ad 64), Value.int a1].toArray s 0 0 A) (F0 m 49 ls [])) → W p l e (headSpec wsX11_peak rmX11_peak).room s m [Value.ref (ad 64), Value.int a1].toArray below meth c H locs 0 0 (MQ below (xWi D cI cJ ad A r uz vz) [Value.ref (ad 64), Value.int a1].toArray s 0 0 A) (F0 m 33 ls []) := by
    intro u v H locs x1 x2 n
    induction n with
    | zero => intro x3 ls o h; cases h
    | succ n ih =>
      intro x3 ls o h hP hS hl hk
      rw [pX11_peak_L33] at h
      refine lv_aload_n hx hb dX11_peak_33 rfl (lv_at hl 0 rfl) ?_
      refine lv_iload_n hx hb dX11_peak_34 rfl (lv_at hl 1 rfl) ?_
      refine lv_iload_n hx hb dX11_peak_35 rfl (lv_at hl 3 rfl) ?_
      obtain ⟨r2, hc1, h⟩ := vz_b h
      refine za_callR (va_runV (As := [.int x1, .int x3]) (rest := []) ⟨hx, hb, hml, hown, hts⟩ (k_X11_usesAt l (D := D) (cI := cI) (cJ := cJ) (ad := ad) hc1) (cwV 2 hts gX11_peak_X11_usesAt rfl rfl rfl ⟨rfl, zd_X11_usesAt⟩ ⟨Nat.le_of_ble_eq_true rfl, Nat.le_of_ble_eq_true rfl⟩) (xPreV (ci := 11) hK hP rfl zO_64) rfl rfl hl.1 rfl (lv_room (Nat.le_of_ble_eq_true rfl)) dX11_peak_36 ⟨Nat.zero_le _, Nat.zero_le _⟩) ?_
      refine lv_iload_n hx hb dX11_peak_39 rfl (lv_at hl 2 rfl) ?_
      refine lv_icmp_eq (tgt := 49) hx hb dX11_peak_40 (by decide) (fun c3 => ?_) (fun c3 => ?_)
      · have h := vz_t c3 h
        cases h
        exact hk x3 ls rfl (lv_sub hl [3] rfl)
      · have h := vz_f c3 h
        refine lv_iinc (v := (x3 + 1)) (lv' := [(3, .int (x3 + 1)), (0, .ref (ad 64)), (1, .int x1), (2, .int x2)]) hx hb dX11_peak_43 hl (k := 3) rfl rfl (by decide) rfl (fun ls hl => ?_)
        refine lv_goto (tgt := 33) hx hb dX11_peak_46 (by decide) ?_
        exact ih (x3 + 1) ls o h hP hS (lv_sub hl [1, 2, 3, 0] rfl) hk
  rw [pX11_peak] at h
  refine lv_aload_n hx hb dX11_peak_0 rfl (lv_at hl 0 rfl) ?_
  refine lv_iload_n hx hb dX11_peak_1 rfl (lv_at hl 1 rfl) ?_
  obtain ⟨r5, hc4, h⟩ := vz_b h
  refine za_callR (va_runV (As := [.int a1]) (rest := []) ⟨hx, hb, hml, hown, hts⟩ (k_X11_isProduct l (D := D) (cI := cI) (cJ := cJ) (ad := ad) hc4) (cwV 1 hts gX11_peak_X11_isProduct rfl rfl rfl ⟨rfl, zd_X11_isProduct⟩ ⟨Nat.le_of_ble_eq_true rfl, Nat.le_of_ble_eq_true rfl⟩) (xPreV (ci := 11) hK hP rfl zO_64) rfl rfl hl.1 rfl (lv_room (Nat.le_of_ble_eq_true rfl)) dX11_peak_2 ⟨Nat.zero_le _, Nat.zero_le _⟩) ?_
  refine lv_if_ne (tgt := 14) hx hb dX11_peak_5 (by decide) (fun c6 => ?_) (fun c6 => ?_)
  · have h := vz_f c6 h
    refine lv_aload_n hx hb dX11_peak_14 rfl (lv_at hl 0 rfl) ?_
    refine lv_iload_n hx hb dX11_peak_15 rfl (lv_at hl 1 rfl) ?_
    obtain ⟨r8, hc7, h⟩ := vz_b h
    refine za_callR (va_runV (As := [.int a1]) (rest := []) ⟨hx, hb, hml, hown, hts⟩ (k_X11_mostUses l (D := D) (cI := cI) (cJ := cJ) (ad := ad) hc7) (cwV 1 hts gX11_peak_X11_mostUses rfl rfl rfl ⟨rfl, zd_X11_mostUses⟩ ⟨Nat.le_of_ble_eq_true rfl, Nat.le_of_ble_eq_true rfl⟩) (xPreV (ci := 11) hK hP rfl zO_64) rfl rfl hl.1 rfl (lv_room (Nat.le_of_ble_eq_true rfl)) dX11_peak_16 ⟨Nat.zero_le _, Nat.zero_le _⟩) ?_
    refine lv_istore_n (lv' := [(2, .int r8), (0, .ref (ad 64)), (1, .int a1)]) hx hb dX11_peak_19 rfl hl (by decide) rfl (fun ls hl => ?_)
    refine lv_iload_n hx hb dX11_peak_20 rfl (lv_at hl 0 rfl) ?_
    refine lv_if_ne (tgt := 31) hx hb dX11_peak_21 (by decide) (fun c9 => ?_) (fun c9 => ?_)
    · have h := vz_f c9 h
      refine lv_iconst (v := (0 : Int32)) hx hb dX11_peak_31 (by decide) ?_
      refine lv_istore_n (lv' := [(3, .int (0 : Int32)), (2, .int r8), (0, .ref (ad 64)), (1, .int a1)]) hx hb dX11_peak_32 rfl hl (by decide) rfl (fun ls hl => ?_)
      obtain ⟨o10, hL11, h⟩ := vz_b h
      refine L33 u v _ _ a1 r8 fuel (0 : Int32) ls o10 hL11 hP hS (lv_sub hl [2, 3, 1, 0] rfl) (fun y13 ls e12 hl => ?_)
      try rw [e12] at h
      try dsimp only at h
      refine lv_iload_n hx hb dX11_peak_49 rfl (lv_at hl 0 rfl) ?_
      cases h
      exact W.iret hx hb hr (fun t ht _ => ⟨rfl, by rw [ht]; exact hP, hS.F ht⟩) hS.2.2 dX11_peak_50
    · have h := vz_t c9 h
      refine lv_aload_n hx hb dX11_peak_24 rfl (lv_at hl 1 rfl) ?_
      refine lv_bipush (v := (-2 : Int32)) hx hb dX11_peak_25 (by decide) ?_
      obtain ⟨⟨r18, u15, v16⟩, hc14, h⟩ := vz_b h
      try dsimp only at h
      refine za_callWi (va_runV (As := [.int (-2 : Int32)]) (rest := []) ⟨hx, hb, hml, hown, hts⟩ (k_X11_finding l (D := D) (cI := cI) (cJ := cJ) (ad := ad) hD hc14) (cwV 1 hts gX11_peak_X11_finding rfl rfl rfl ⟨rfl, zd_X11_finding⟩ ⟨Nat.le_of_ble_eq_true rfl, Nat.le_of_ble_eq_true rfl⟩) (xPreV (ci := 11) hK hP rfl zO_64) rfl rfl hl.1 rfl (lv_room (Nat.le_of_ble_eq_true rfl)) dX11_peak_27 ⟨Nat.zero_le _, Nat.zero_le _⟩) hS (fun H locs hP hS => ?_)
      cases h
      exact W.iret hx hb hr (fun t ht _ => ⟨rfl, by rw [ht]; exact hP, hS.F ht⟩) hS.2.2 dX11_peak_30
  · have h := vz_t c6 h
    refine lv_aload_n hx hb dX11_peak_8 rfl (lv_at hl 0 rfl) ?_
    refine lv_iconst (v := (-1 : Int32)) hx hb dX11_peak_9 (by decide) ?_
    obtain ⟨⟨r23, u20, v21⟩, hc19, h⟩ := vz_b h
    try dsimp only at h
    refine za_callWi (va_runV (As := [.int (-1 : Int32)]) (rest := []) ⟨hx, hb, hml, hown, hts⟩ (k_X11_finding l (D := D) (cI := cI) (cJ := cJ) (ad := ad) hD hc19) (cwV 1 hts gX11_peak_X11_finding rfl rfl rfl ⟨rfl, zd_X11_finding⟩ ⟨Nat.le_of_ble_eq_true rfl, Nat.le_of_ble_eq_true rfl⟩) (xPreV (ci := 11) hK hP rfl zO_64) rfl rfl hl.1 rfl (lv_room (Nat.le_of_ble_eq_true rfl)) dX11_peak_10 ⟨Nat.zero_le _, Nat.zero_le _⟩) hS (fun H locs hP hS => ?_)
    cases h
    exact W.iret hx hb hr (fun t ht _ => ⟨rfl, by rw [ht]; exact hP, hS.F ht⟩) hS.2.2 dX11_peak_13
abbrev rmX11_product : Room := { frames := 1, cells := 0, slots := 0, locals := 22 }
set_option maxHeartbeats 4000000 in
set_option maxRecDepth 100000 in
theorem k_X11_product (l : Launch) {D : va_G} {cI cJ : ClassId} {ad : Nat → Nat} {u : tU} {v : tV} {A : Nat → Prop} (hD : zD A cI cJ ad) {a1 : Int32} {a2 : Int32} {a3 : Int32}  {r : Int32} {uz : tU} {vz : tV} (h : pX11_product u v a1 a2 a3 = some (r, uz, vz)) : Met l yX11_product wsX11_product rmX11_product (va_Pc [.ref (ad 64), .int a1, .int a2, .int a3] (xPre D cI cJ (wA cI cJ ad u v))) (xWi D cI cJ ad A r uz vz) 0 0 A := by
  refine Met.ofW (cc := cX11_product) (maxL := 6) (ret := (some .int)) (by decide) rfl ?_
  intro p e s m args below meth c s₁ B hml hv
  obtain ⟨rfl, hP, hK⟩ := hv
  have hx := B.exec
  have hb := B.bytes
  have hr := B.returns
  have hts := atoms_spec (ws := wsX11_product) B.pre
  have hown : s.vm.findClass RX11 = some m.cls := findClass_of_methodNamed B.named
  have hlocks := B.notSynchronized
  have hS : va_S A s.heap s.heap [] := va_S.rf
  have hin11 : ∀ w ∈ u_ws RX11 TX11 10, w ∈ wsX11_product := fun _ h => List.mem_cons_of_mem _ (List.mem_append_right _ h)
  have hw1 := hts (.fieldLink RX11 13 "InstallDeskModel" "book" "[I") (List.mem_of_getElem? (i := 1) rfl)
  have hl := lv_entry ([.ref (ad 64), .int a1, .int a2, .int a3]) (n := 6) (Nat.le_of_ble_eq_true rfl)
  rw [lg_entry_eq]
  generalize (lg_sl ([.ref (ad 64), .int a1, .int a2, .int a3]) ++ List.replicate (6 - (lg_sl ([.ref (ad 64), .int a1, .int a2, .int a3])).length) Slot.unset).toArray = ls at hl ⊢
  have hl : lv_has ls 6 [(0, .ref (ad 64)), (1, .int a1), (2, .int a2), (3, .int a3)] := hl
  rw [pX11_product] at h
  refine lv_iload_n hx hb dX11_product_0 rfl (lv_at hl 1 rfl) ?_
  refine lv_iconst (v := (1 : Int32)) hx hb dX11_product_1 (by decide) ?_
  refine lv_icmp_eq (tgt := 10) hx hb dX11_product_2 (by decide) (fun c1 => ?_) (fun c1 => ?_)
  · have h := vz_t c1 h
    refine lv_iconst (v := (1 : Int32)) hx hb dX11_product_10 (by decide) ?_
    refine lv_goto (tgt := 15) hx hb dX11_product_11 (by decide) ?_
    refine lv_istore (lv' := [(4, .int (1 : Int32)), (0, .ref (ad 64)), (1, .int a1), (2, .int a2), (3, .int a3)]) hx hb dX11_product_15 hl (by decide) rfl (fun ls hl => ?_)
    refine lv_iload_n hx hb dX11_product_17 rfl (lv_at hl 2 rfl) ?_
    refine lv_iconst (v := (0 : Int32)) hx hb dX11_product_18 (by decide) ?_
    refine lv_iconst (v := (3 : Int32)) hx hb dX11_product_19 (by decide) ?_
    obtain ⟨r3, hc2, h⟩ := vz_b h
    refine za_callR (va_runS (As := [.int a1, .int (0 : Int32), .int (3 : Int32)]) (rest := []) ⟨hx, hb, hml, hown, hts⟩ (k_X11_isIn l hc2) (va_cwS 3 hts gX11_product_X11_isIn rfl rfl rfl zd_X11_isIn ⟨Nat.le_of_ble_eq_true rfl, Nat.le_of_ble_eq_true rfl⟩) xPre0 rfl rfl hl.1 rfl (lv_room (Nat.le_of_ble_eq_true rfl)) dX11_product_20 ⟨Nat.zero_le _, Nat.zero_le _⟩) ?_
    refine lv_if_eq (tgt := 52) hx hb dX11_product_23 (by decide) (fun c4 => ?_) (fun c4 => ?_)
    · have h := vz_t c4 h
      refine lv_aload_n hx hb dX11_product_52 rfl (lv_at hl 1 rfl) ?_
      refine lv_iconst (v := (-1 : Int32)) hx hb dX11_product_53 (by decide) ?_
      obtain ⟨⟨r9, u6, v7⟩, hc5, h⟩ := vz_b h
      try dsimp only at h
      refine za_callWi (va_runV (As := [.int (-1 : Int32)]) (rest := []) ⟨hx, hb, hml, hown, hts⟩ (k_X11_finding l (D := D) (cI := cI) (cJ := cJ) (ad := ad) hD hc5) (cwV 1 hts gX11_product_X11_finding rfl rfl rfl ⟨rfl, zd_X11_finding⟩ ⟨Nat.le_of_ble_eq_true rfl, Nat.le_of_ble_eq_true rfl⟩) (xPreV (ci := 11) hK hP rfl zO_64) rfl rfl hl.1 rfl (lv_room (Nat.le_of_ble_eq_true rfl)) dX11_product_54 ⟨Nat.zero_le _, Nat.zero_le _⟩) hS (fun H locs hP hS => ?_)
      cases h
      exact W.iret hx hb hr (fun t ht _ => ⟨rfl, by rw [ht]; exact hP, hS.F ht⟩) hS.2.2 dX11_product_57
    · have h := vz_f c4 h
      refine lv_iload hx hb dX11_product_26 (lv_at hl 0 rfl) ?_
      refine lv_if_eq (tgt := 58) hx hb dX11_product_28 (by decide) (fun c10 => ?_) (fun c10 => ?_)
      · exact absurd c10 (by decide)
      refine lv_iload_n hx hb dX11_product_31 rfl (lv_at hl 3 rfl) ?_
      refine lv_iconst (v := (0 : Int32)) hx hb dX11_product_32 (by decide) ?_
      refine lv_sipush (v := (1023 : Int32)) hx hb dX11_product_33 (by decide) ?_
      obtain ⟨r12, hc11, h⟩ := vz_b h
      refine za_callR (va_runS (As := [.int a2, .int (0 : Int32), .int (1023 : Int32)]) (rest := []) ⟨hx, hb, hml, hown, hts⟩ (k_X11_isIn l hc11) (va_cwS 3 hts gX11_product_X11_isIn rfl rfl rfl zd_X11_isIn ⟨Nat.le_of_ble_eq_true rfl, Nat.le_of_ble_eq_true rfl⟩) xPre0 rfl rfl hl.1 rfl (lv_room (Nat.le_of_ble_eq_true rfl)) dX11_product_36 ⟨Nat.zero_le _, Nat.zero_le _⟩) ?_
      refine lv_if_eq (tgt := 52) hx hb dX11_product_39 (by decide) (fun c13 => ?_) (fun c13 => ?_)
      · have h := vz_t c13 h
        refine lv_aload_n hx hb dX11_product_52 rfl (lv_at hl 1 rfl) ?_
        refine lv_iconst (v := (-1 : Int32)) hx hb dX11_product_53 (by decide) ?_
        obtain ⟨⟨r18, u15, v16⟩, hc14, h⟩ := vz_b h
        try dsimp only at h
        refine za_callWi (va_runV (As := [.int (-1 : Int32)]) (rest := []) ⟨hx, hb, hml, hown, hts⟩ (k_X11_finding l (D := D) (cI := cI) (cJ := cJ) (ad := ad) hD hc14) (cwV 1 hts gX11_product_X11_finding rfl rfl rfl ⟨rfl, zd_X11_finding⟩ ⟨Nat.le_of_ble_eq_true rfl, Nat.le_of_ble_eq_true rfl⟩) (xPreV (ci := 11) hK hP rfl zO_64) rfl rfl hl.1 rfl (lv_room (Nat.le_of_ble_eq_true rfl)) dX11_product_54 ⟨Nat.zero_le _, Nat.zero_le _⟩) hS (fun H locs hP hS => ?_)
        cases h
        exact W.iret hx hb hr (fun t ht _ => ⟨rfl, by rw [ht]; exact hP, hS.F ht⟩) hS.2.2 dX11_product_57
      · have h := vz_f c13 h
        refine lv_iload_n hx hb dX11_product_42 rfl (lv_at hl 4 rfl) ?_
        refine lv_iconst (v := (1 : Int32)) hx hb dX11_product_43 (by decide) ?_
        refine lv_bipush (v := (10 : Int32)) hx hb dX11_product_44 (by decide) ?_
        obtain ⟨r20, hc19, h⟩ := vz_b h
        refine za_callR (va_runS (As := [.int a3, .int (1 : Int32), .int (10 : Int32)]) (rest := []) ⟨hx, hb, hml, hown, hts⟩ (k_X11_isIn l hc19) (va_cwS 3 hts gX11_product_X11_isIn rfl rfl rfl zd_X11_isIn ⟨Nat.le_of_ble_eq_true rfl, Nat.le_of_ble_eq_true rfl⟩) xPre0 rfl rfl hl.1 rfl (lv_room (Nat.le_of_ble_eq_true rfl)) dX11_product_46 ⟨Nat.zero_le _, Nat.zero_le _⟩) ?_
        refine lv_if_ne (tgt := 58) hx hb dX11_product_49 (by decide) (fun c21 => ?_) (fun c21 => ?_)
        · have h := vz_f c21 h
          refine lv_aload_n hx hb dX11_product_58 rfl (lv_at hl 1 rfl) ?_
          refine za_getr (k := 2) hx hb hts hin11 hown hK hP zF_64_2 rfl (Nat.le_of_ble_eq_true rfl) (Or.inl hw1) dX11_product_59 ?_
          refine lv_iconst (v := (0 : Int32)) hx hb dX11_product_62 (by decide) ?_
          refine za_ildc (j := 0) hx hb hK hP zI_66 (by unfold vp_in; decide) rfl dX11_product_63 ?_
          refine lv_istore (lv' := [(5, .int (u 4 0)), (4, .int (1 : Int32)), (0, .ref (ad 64)), (1, .int a1), (2, .int a2), (3, .int a3)]) hx hb dX11_product_64 hl (by decide) rfl (fun ls hl => ?_)
          refine lv_iload hx hb dX11_product_66 (lv_at hl 0 rfl) ?_
          refine lv_bipush (v := (10 : Int32)) hx hb dX11_product_68 (by decide) ?_
          refine lv_icmp_ne (tgt := 80) hx hb dX11_product_70 (by decide) (fun c22 => ?_) (fun c22 => ?_)
          · have h := vz_f c22 h
            refine lv_aload_n hx hb dX11_product_80 rfl (lv_at hl 2 rfl) ?_
            refine za_getr (k := 2) hx hb hts hin11 hown hK hP zF_64_2 rfl (Nat.le_of_ble_eq_true rfl) (Or.inl hw1) dX11_product_81 ?_
            refine lv_bipush (v := (8 : Int32)) hx hb dX11_product_84 (by decide) ?_
            refine lv_iconst (v := (3 : Int32)) hx hb dX11_product_86 (by decide) ?_
            refine lv_iload hx hb dX11_product_87 (lv_at hl 0 rfl) ?_
            refine lv_imul hx hb dX11_product_89 ?_
            refine lv_iadd hx hb dX11_product_90 ?_
            refine lv_iload_n hx hb dX11_product_91 rfl (lv_at hl 3 rfl) ?_
            obtain ⟨g23, h⟩ := gd_s h
            refine za_ist hx hb hK hP hD hS zI_66 g23 dX11_product_92 (fun H locs hP hS => ?_)
            refine lv_aload_n hx hb dX11_product_93 rfl (lv_at hl 2 rfl) ?_
            refine za_getr (k := 2) hx hb hts hin11 hown hK hP zF_64_2 rfl (Nat.le_of_ble_eq_true rfl) (Or.inl hw1) dX11_product_94 ?_
            refine lv_bipush (v := (8 : Int32)) hx hb dX11_product_97 (by decide) ?_
            refine lv_iconst (v := (3 : Int32)) hx hb dX11_product_99 (by decide) ?_
            refine lv_iload hx hb dX11_product_100 (lv_at hl 0 rfl) ?_
            refine lv_imul hx hb dX11_product_102 ?_
            refine lv_iadd hx hb dX11_product_103 ?_
            refine lv_iconst (v := (1 : Int32)) hx hb dX11_product_104 (by decide) ?_
            refine lv_iadd hx hb dX11_product_105 ?_
            refine lv_iload hx hb dX11_product_106 (lv_at hl 1 rfl) ?_
            refine lv_if_eq (tgt := 115) hx hb dX11_product_108 (by decide) (fun c24 => ?_) (fun c24 => ?_)
            · exact absurd c24 (by decide)
            refine lv_iload_n hx hb dX11_product_111 rfl (lv_at hl 4 rfl) ?_
            refine lv_goto (tgt := 116) hx hb dX11_product_112 (by decide) ?_
            obtain ⟨g25, h⟩ := gd_s h
            refine za_ist hx hb hK hP hD hS zI_66 g25 dX11_product_116 (fun H locs hP hS => ?_)
            refine lv_aload_n hx hb dX11_product_117 rfl (lv_at hl 2 rfl) ?_
            refine za_getr (k := 2) hx hb hts hin11 hown hK hP zF_64_2 rfl (Nat.le_of_ble_eq_true rfl) (Or.inl hw1) dX11_product_118 ?_
            refine lv_bipush (v := (8 : Int32)) hx hb dX11_product_121 (by decide) ?_
            refine lv_iconst (v := (3 : Int32)) hx hb dX11_product_123 (by decide) ?_
            refine lv_iload hx hb dX11_product_124 (lv_at hl 0 rfl) ?_
            refine lv_imul hx hb dX11_product_126 ?_
            refine lv_iadd hx hb dX11_product_127 ?_
            refine lv_iconst (v := (2 : Int32)) hx hb dX11_product_128 (by decide) ?_
            refine lv_iadd hx hb dX11_product_129 ?_
            refine lv_iload hx hb dX11_product_130 (lv_at hl 1 rfl) ?_
            refine lv_if_eq (tgt := 139) hx hb dX11_product_132 (by decide) (fun c26 => ?_) (fun c26 => ?_)
            · exact absurd c26 (by decide)
            refine lv_iload_n hx hb dX11_product_135 rfl (lv_at hl 5 rfl) ?_
            refine lv_goto (tgt := 140) hx hb dX11_product_136 (by decide) ?_
            obtain ⟨g27, h⟩ := gd_s h
            refine za_ist hx hb hK hP hD hS zI_66 g27 dX11_product_140 (fun H locs hP hS => ?_)
            refine lv_aload_n hx hb dX11_product_141 rfl (lv_at hl 2 rfl) ?_
            refine za_getr (k := 2) hx hb hts hin11 hown hK hP zF_64_2 rfl (Nat.le_of_ble_eq_true rfl) (Or.inl hw1) dX11_product_142 ?_
            refine lv_iconst (v := (0 : Int32)) hx hb dX11_product_145 (by decide) ?_
            refine lv_dup2_11 hx hb dX11_product_146 rfl rfl ?_
            refine za_ildc (j := 0) hx hb hK hP zI_66 (by unfold vp_in; decide) rfl dX11_product_147 ?_
            refine lv_iconst (v := (1 : Int32)) hx hb dX11_product_148 (by decide) ?_
            refine lv_iadd hx hb dX11_product_149 ?_
            refine za_istc (j := 0) hx hb hK hP hD hS zI_66 (by unfold vp_in; decide) rfl dX11_product_150 (fun H locs hP hS => ?_)
            refine lv_iload hx hb dX11_product_151 (lv_at hl 0 rfl) ?_
            cases h
            exact W.iret hx hb hr (fun t ht _ => ⟨rfl, by rw [ht]; exact hP, hS.F ht⟩) hS.2.2 dX11_product_153
          · have h := vz_t c22 h
            refine lv_aload_n hx hb dX11_product_73 rfl (lv_at hl 2 rfl) ?_
            refine lv_bipush (v := (-3 : Int32)) hx hb dX11_product_74 (by decide) ?_
            obtain ⟨⟨r32, u29, v30⟩, hc28, h⟩ := vz_b h
            try dsimp only at h
            refine za_callWi (va_runV (As := [.int (-3 : Int32)]) (rest := []) ⟨hx, hb, hml, hown, hts⟩ (k_X11_finding l (D := D) (cI := cI) (cJ := cJ) (ad := ad) hD hc28) (cwV 1 hts gX11_product_X11_finding rfl rfl rfl ⟨rfl, zd_X11_finding⟩ ⟨Nat.le_of_ble_eq_true rfl, Nat.le_of_ble_eq_true rfl⟩) (xPreV (ci := 11) hK hP rfl zO_64) rfl rfl hl.1 rfl (lv_room (Nat.le_of_ble_eq_true rfl)) dX11_product_76 ⟨Nat.zero_le _, Nat.zero_le _⟩) hS (fun H locs hP hS => ?_)
            cases h
            exact W.iret hx hb hr (fun t ht _ => ⟨rfl, by rw [ht]; exact hP, hS.F ht⟩) hS.2.2 dX11_product_79
        · have h := vz_t c21 h
          refine lv_aload_n hx hb dX11_product_52 rfl (lv_at hl 1 rfl) ?_
          refine lv_iconst (v := (-1 : Int32)) hx hb dX11_product_53 (by decide) ?_
          obtain ⟨⟨r37, u34, v35⟩, hc33, h⟩ := vz_b h
          try dsimp only at h
          refine za_callWi (va_runV (As := [.int (-1 : Int32)]) (rest := []) ⟨hx, hb, hml, hown, hts⟩ (k_X11_finding l (D := D) (cI := cI) (cJ := cJ) (ad := ad) hD hc33) (cwV 1 hts gX11_product_X11_finding rfl rfl rfl ⟨rfl, zd_X11_finding⟩ ⟨Nat.le_of_ble_eq_true rfl, Nat.le_of_ble_eq_true rfl⟩) (xPreV (ci := 11) hK hP rfl zO_64) rfl rfl hl.1 rfl (lv_room (Nat.le_of_ble_eq_true rfl)) dX11_product_54 ⟨Nat.zero_le _, Nat.zero_le _⟩) hS (fun H locs hP hS => ?_)
          cases h
          exact W.iret hx hb hr (fun t ht _ => ⟨rfl, by rw [ht]; exact hP, hS.F ht⟩) hS.2.2 dX11_product_57
  · have h := vz_f c1 h
    refine lv_iload_n hx hb dX11_product_5 rfl (lv_at hl 1 rfl) ?_
    refine lv_iconst (v := (3 : Int32)) hx hb dX11_product_6 (by decide) ?_
    refine lv_icmp_ne (tgt := 14) hx hb dX11_product_7 (by decide) (fun c38 => ?_) (fun c38 => ?_)
    · have h := vz_f c38 h
      refine lv_iconst (v := (0 : Int32)) hx hb dX11_product_14 (by decide) ?_
      refine lv_istore (lv' := [(4, .int (0 : Int32)), (0, .ref (ad 64)), (1, .int a1), (2, .int a2), (3, .int a3)]) hx hb dX11_product_15 hl (by decide) rfl (fun ls hl => ?_)
      refine lv_iload_n hx hb dX11_product_17 rfl (lv_at hl 2 rfl) ?_
      refine lv_iconst (v := (0 : Int32)) hx hb dX11_product_18 (by decide) ?_
      refine lv_iconst (v := (3 : Int32)) hx hb dX11_product_19 (by decide) ?_
      obtain ⟨r40, hc39, h⟩ := vz_b h
      refine za_callR (va_runS (As := [.int a1, .int (0 : Int32), .int (3 : Int32)]) (rest := []) ⟨hx, hb, hml, hown, hts⟩ (k_X11_isIn l hc39) (va_cwS 3 hts gX11_product_X11_isIn rfl rfl rfl zd_X11_isIn ⟨Nat.le_of_ble_eq_true rfl, Nat.le_of_ble_eq_true rfl⟩) xPre0 rfl rfl hl.1 rfl (lv_room (Nat.le_of_ble_eq_true rfl)) dX11_product_20 ⟨Nat.zero_le _, Nat.zero_le _⟩) ?_
      refine lv_if_eq (tgt := 52) hx hb dX11_product_23 (by decide) (fun c41 => ?_) (fun c41 => ?_)
      · have h := vz_t c41 h
        refine lv_aload_n hx hb dX11_product_52 rfl (lv_at hl 1 rfl) ?_
        refine lv_iconst (v := (-1 : Int32)) hx hb dX11_product_53 (by decide) ?_
        obtain ⟨⟨r46, u43, v44⟩, hc42, h⟩ := vz_b h
        try dsimp only at h
        refine za_callWi (va_runV (As := [.int (-1 : Int32)]) (rest := []) ⟨hx, hb, hml, hown, hts⟩ (k_X11_finding l (D := D) (cI := cI) (cJ := cJ) (ad := ad) hD hc42) (cwV 1 hts gX11_product_X11_finding rfl rfl rfl ⟨rfl, zd_X11_finding⟩ ⟨Nat.le_of_ble_eq_true rfl, Nat.le_of_ble_eq_true rfl⟩) (xPreV (ci := 11) hK hP rfl zO_64) rfl rfl hl.1 rfl (lv_room (Nat.le_of_ble_eq_true rfl)) dX11_product_54 ⟨Nat.zero_le _, Nat.zero_le _⟩) hS (fun H locs hP hS => ?_)
        cases h
        exact W.iret hx hb hr (fun t ht _ => ⟨rfl, by rw [ht]; exact hP, hS.F ht⟩) hS.2.2 dX11_product_57
      · have h := vz_f c41 h
        refine lv_iload hx hb dX11_product_26 (lv_at hl 0 rfl) ?_
        refine lv_if_eq (tgt := 58) hx hb dX11_product_28 (by decide) (fun c47 => ?_) (fun c47 => ?_)
        rotate_left
        · exact absurd c47 (by decide)
        refine lv_aload_n hx hb dX11_product_58 rfl (lv_at hl 1 rfl) ?_
        refine za_getr (k := 2) hx hb hts hin11 hown hK hP zF_64_2 rfl (Nat.le_of_ble_eq_true rfl) (Or.inl hw1) dX11_product_59 ?_
        refine lv_iconst (v := (0 : Int32)) hx hb dX11_product_62 (by decide) ?_
        refine za_ildc (j := 0) hx hb hK hP zI_66 (by unfold vp_in; decide) rfl dX11_product_63 ?_
        refine lv_istore (lv' := [(5, .int (u 4 0)), (4, .int (0 : Int32)), (0, .ref (ad 64)), (1, .int a1), (2, .int a2), (3, .int a3)]) hx hb dX11_product_64 hl (by decide) rfl (fun ls hl => ?_)
        refine lv_iload hx hb dX11_product_66 (lv_at hl 0 rfl) ?_
        refine lv_bipush (v := (10 : Int32)) hx hb dX11_product_68 (by decide) ?_
        refine lv_icmp_ne (tgt := 80) hx hb dX11_product_70 (by decide) (fun c48 => ?_) (fun c48 => ?_)
        · have h := vz_f c48 h
          refine lv_aload_n hx hb dX11_product_80 rfl (lv_at hl 2 rfl) ?_
          refine za_getr (k := 2) hx hb hts hin11 hown hK hP zF_64_2 rfl (Nat.le_of_ble_eq_true rfl) (Or.inl hw1) dX11_product_81 ?_
          refine lv_bipush (v := (8 : Int32)) hx hb dX11_product_84 (by decide) ?_
          refine lv_iconst (v := (3 : Int32)) hx hb dX11_product_86 (by decide) ?_
          refine lv_iload hx hb dX11_product_87 (lv_at hl 0 rfl) ?_
          refine lv_imul hx hb dX11_product_89 ?_
          refine lv_iadd hx hb dX11_product_90 ?_
          refine lv_iload_n hx hb dX11_product_91 rfl (lv_at hl 3 rfl) ?_
          obtain ⟨g49, h⟩ := gd_s h
          refine za_ist hx hb hK hP hD hS zI_66 g49 dX11_product_92 (fun H locs hP hS => ?_)
          refine lv_aload_n hx hb dX11_product_93 rfl (lv_at hl 2 rfl) ?_
          refine za_getr (k := 2) hx hb hts hin11 hown hK hP zF_64_2 rfl (Nat.le_of_ble_eq_true rfl) (Or.inl hw1) dX11_product_94 ?_
          refine lv_bipush (v := (8 : Int32)) hx hb dX11_product_97 (by decide) ?_
          refine lv_iconst (v := (3 : Int32)) hx hb dX11_product_99 (by decide) ?_
          refine lv_iload hx hb dX11_product_100 (lv_at hl 0 rfl) ?_
          refine lv_imul hx hb dX11_product_102 ?_
          refine lv_iadd hx hb dX11_product_103 ?_
          refine lv_iconst (v := (1 : Int32)) hx hb dX11_product_104 (by decide) ?_
          refine lv_iadd hx hb dX11_product_105 ?_
          refine lv_iload hx hb dX11_product_106 (lv_at hl 1 rfl) ?_
          refine lv_if_eq (tgt := 115) hx hb dX11_product_108 (by decide) (fun c50 => ?_) (fun c50 => ?_)
          rotate_left
          · exact absurd c50 (by decide)
          refine lv_iconst (v := (0 : Int32)) hx hb dX11_product_115 (by decide) ?_
          obtain ⟨g51, h⟩ := gd_s h
          refine za_ist hx hb hK hP hD hS zI_66 g51 dX11_product_116 (fun H locs hP hS => ?_)
          refine lv_aload_n hx hb dX11_product_117 rfl (lv_at hl 2 rfl) ?_
          refine za_getr (k := 2) hx hb hts hin11 hown hK hP zF_64_2 rfl (Nat.le_of_ble_eq_true rfl) (Or.inl hw1) dX11_product_118 ?_
          refine lv_bipush (v := (8 : Int32)) hx hb dX11_product_121 (by decide) ?_
          refine lv_iconst (v := (3 : Int32)) hx hb dX11_product_123 (by decide) ?_
          refine lv_iload hx hb dX11_product_124 (lv_at hl 0 rfl) ?_
          refine lv_imul hx hb dX11_product_126 ?_
          refine lv_iadd hx hb dX11_product_127 ?_
          refine lv_iconst (v := (2 : Int32)) hx hb dX11_product_128 (by decide) ?_
          refine lv_iadd hx hb dX11_product_129 ?_
          refine lv_iload hx hb dX11_product_130 (lv_at hl 1 rfl) ?_
          refine lv_if_eq (tgt := 139) hx hb dX11_product_132 (by decide) (fun c52 => ?_) (fun c52 => ?_)
          rotate_left
          · exact absurd c52 (by decide)
          refine lv_iconst (v := (0 : Int32)) hx hb dX11_product_139 (by decide) ?_
          obtain ⟨g53, h⟩ := gd_s h
          refine za_ist hx hb hK hP hD hS zI_66 g53 dX11_product_140 (fun H locs hP hS => ?_)
          refine lv_aload_n hx hb dX11_product_141 rfl (lv_at hl 2 rfl) ?_
          refine za_getr (k := 2) hx hb hts hin11 hown hK hP zF_64_2 rfl (Nat.le_of_ble_eq_true rfl) (Or.inl hw1) dX11_product_142 ?_
          refine lv_iconst (v := (0 : Int32)) hx hb dX11_product_145 (by decide) ?_
          refine lv_dup2_11 hx hb dX11_product_146 rfl rfl ?_
          refine za_ildc (j := 0) hx hb hK hP zI_66 (by unfold vp_in; decide) rfl dX11_product_147 ?_
          refine lv_iconst (v := (1 : Int32)) hx hb dX11_product_148 (by decide) ?_
          refine lv_iadd hx hb dX11_product_149 ?_
          refine za_istc (j := 0) hx hb hK hP hD hS zI_66 (by unfold vp_in; decide) rfl dX11_product_150 (fun H locs hP hS => ?_)
          refine lv_iload hx hb dX11_product_151 (lv_at hl 0 rfl) ?_
          cases h
          exact W.iret hx hb hr (fun t ht _ => ⟨rfl, by rw [ht]; exact hP, hS.F ht⟩) hS.2.2 dX11_product_153
        · have h := vz_t c48 h
          refine lv_aload_n hx hb dX11_product_73 rfl (lv_at hl 2 rfl) ?_
          refine lv_bipush (v := (-3 : Int32)) hx hb dX11_product_74 (by decide) ?_
          obtain ⟨⟨r58, u55, v56⟩, hc54, h⟩ := vz_b h
          try dsimp only at h
          refine za_callWi (va_runV (As := [.int (-3 : Int32)]) (rest := []) ⟨hx, hb, hml, hown, hts⟩ (k_X11_finding l (D := D) (cI := cI) (cJ := cJ) (ad := ad) hD hc54) (cwV 1 hts gX11_product_X11_finding rfl rfl rfl ⟨rfl, zd_X11_finding⟩ ⟨Nat.le_of_ble_eq_true rfl, Nat.le_of_ble_eq_true rfl⟩) (xPreV (ci := 11) hK hP rfl zO_64) rfl rfl hl.1 rfl (lv_room (Nat.le_of_ble_eq_true rfl)) dX11_product_76 ⟨Nat.zero_le _, Nat.zero_le _⟩) hS (fun H locs hP hS => ?_)
          cases h
          exact W.iret hx hb hr (fun t ht _ => ⟨rfl, by rw [ht]; exact hP, hS.F ht⟩) hS.2.2 dX11_product_79
    · have h := vz_t c38 h
      refine lv_iconst (v := (1 : Int32)) hx hb dX11_product_10 (by decide) ?_
      refine lv_goto (tgt := 15) hx hb dX11_product_11 (by decide) ?_
      refine lv_istore (lv' := [(4, .int (1 : Int32)), (0, .ref (ad 64)), (1, .int a1), (2, .int a2), (3, .int a3)]) hx hb dX11_product_15 hl (by decide) rfl (fun ls hl => ?_)
      refine lv_iload_n hx hb dX11_product_17 rfl (lv_at hl 2 rfl) ?_
      refine lv_iconst (v := (0 : Int32)) hx hb dX11_product_18 (by decide) ?_
      refine lv_iconst (v := (3 : Int32)) hx hb dX11_product_19 (by decide) ?_
      obtain ⟨r60, hc59, h⟩ := vz_b h
      refine za_callR (va_runS (As := [.int a1, .int (0 : Int32), .int (3 : Int32)]) (rest := []) ⟨hx, hb, hml, hown, hts⟩ (k_X11_isIn l hc59) (va_cwS 3 hts gX11_product_X11_isIn rfl rfl rfl zd_X11_isIn ⟨Nat.le_of_ble_eq_true rfl, Nat.le_of_ble_eq_true rfl⟩) xPre0 rfl rfl hl.1 rfl (lv_room (Nat.le_of_ble_eq_true rfl)) dX11_product_20 ⟨Nat.zero_le _, Nat.zero_le _⟩) ?_
      refine lv_if_eq (tgt := 52) hx hb dX11_product_23 (by decide) (fun c61 => ?_) (fun c61 => ?_)
      · have h := vz_t c61 h
        refine lv_aload_n hx hb dX11_product_52 rfl (lv_at hl 1 rfl) ?_
        refine lv_iconst (v := (-1 : Int32)) hx hb dX11_product_53 (by decide) ?_
        obtain ⟨⟨r66, u63, v64⟩, hc62, h⟩ := vz_b h
        try dsimp only at h
        refine za_callWi (va_runV (As := [.int (-1 : Int32)]) (rest := []) ⟨hx, hb, hml, hown, hts⟩ (k_X11_finding l (D := D) (cI := cI) (cJ := cJ) (ad := ad) hD hc62) (cwV 1 hts gX11_product_X11_finding rfl rfl rfl ⟨rfl, zd_X11_finding⟩ ⟨Nat.le_of_ble_eq_true rfl, Nat.le_of_ble_eq_true rfl⟩) (xPreV (ci := 11) hK hP rfl zO_64) rfl rfl hl.1 rfl (lv_room (Nat.le_of_ble_eq_true rfl)) dX11_product_54 ⟨Nat.zero_le _, Nat.zero_le _⟩) hS (fun H locs hP hS => ?_)
        cases h
        exact W.iret hx hb hr (fun t ht _ => ⟨rfl, by rw [ht]; exact hP, hS.F ht⟩) hS.2.2 dX11_product_57
      · have h := vz_f c61 h
        refine lv_iload hx hb dX11_product_26 (lv_at hl 0 rfl) ?_
        refine lv_if_eq (tgt := 58) hx hb dX11_product_28 (by decide) (fun c67 => ?_) (fun c67 => ?_)
        · exact absurd c67 (by decide)
        refine lv_iload_n hx hb dX11_product_31 rfl (lv_at hl 3 rfl) ?_
        refine lv_iconst (v := (0 : Int32)) hx hb dX11_product_32 (by decide) ?_
        refine lv_sipush (v := (1023 : Int32)) hx hb dX11_product_33 (by decide) ?_
        obtain ⟨r69, hc68, h⟩ := vz_b h
        refine za_callR (va_runS (As := [.int a2, .int (0 : Int32), .int (1023 : Int32)]) (rest := []) ⟨hx, hb, hml, hown, hts⟩ (k_X11_isIn l hc68) (va_cwS 3 hts gX11_product_X11_isIn rfl rfl rfl zd_X11_isIn ⟨Nat.le_of_ble_eq_true rfl, Nat.le_of_ble_eq_true rfl⟩) xPre0 rfl rfl hl.1 rfl (lv_room (Nat.le_of_ble_eq_true rfl)) dX11_product_36 ⟨Nat.zero_le _, Nat.zero_le _⟩) ?_
        refine lv_if_eq (tgt := 52) hx hb dX11_product_39 (by decide) (fun c70 => ?_) (fun c70 => ?_)
        · have h := vz_t c70 h
          refine lv_aload_n hx hb dX11_product_52 rfl (lv_at hl 1 rfl) ?_
          refine lv_iconst (v := (-1 : Int32)) hx hb dX11_product_53 (by decide) ?_
          obtain ⟨⟨r75, u72, v73⟩, hc71, h⟩ := vz_b h
          try dsimp only at h
          refine za_callWi (va_runV (As := [.int (-1 : Int32)]) (rest := []) ⟨hx, hb, hml, hown, hts⟩ (k_X11_finding l (D := D) (cI := cI) (cJ := cJ) (ad := ad) hD hc71) (cwV 1 hts gX11_product_X11_finding rfl rfl rfl ⟨rfl, zd_X11_finding⟩ ⟨Nat.le_of_ble_eq_true rfl, Nat.le_of_ble_eq_true rfl⟩) (xPreV (ci := 11) hK hP rfl zO_64) rfl rfl hl.1 rfl (lv_room (Nat.le_of_ble_eq_true rfl)) dX11_product_54 ⟨Nat.zero_le _, Nat.zero_le _⟩) hS (fun H locs hP hS => ?_)
          cases h
          exact W.iret hx hb hr (fun t ht _ => ⟨rfl, by rw [ht]; exact hP, hS.F ht⟩) hS.2.2 dX11_product_57
        · have h := vz_f c70 h
          refine lv_iload_n hx hb dX11_product_42 rfl (lv_at hl 4 rfl) ?_
          refine lv_iconst (v := (1 : Int32)) hx hb dX11_product_43 (by decide) ?_
          refine lv_bipush (v := (10 : Int32)) hx hb dX11_product_44 (by decide) ?_
          obtain ⟨r77, hc76, h⟩ := vz_b h
          refine za_callR (va_runS (As := [.int a3, .int (1 : Int32), .int (10 : Int32)]) (rest := []) ⟨hx, hb, hml, hown, hts⟩ (k_X11_isIn l hc76) (va_cwS 3 hts gX11_product_X11_isIn rfl rfl rfl zd_X11_isIn ⟨Nat.le_of_ble_eq_true rfl, Nat.le_of_ble_eq_true rfl⟩) xPre0 rfl rfl hl.1 rfl (lv_room (Nat.le_of_ble_eq_true rfl)) dX11_product_46 ⟨Nat.zero_le _, Nat.zero_le _⟩) ?_
          refine lv_if_ne (tgt := 58) hx hb dX11_product_49 (by decide) (fun c78 => ?_) (fun c78 => ?_)
          · have h := vz_f c78 h
            refine lv_aload_n hx hb dX11_product_58 rfl (lv_at hl 1 rfl) ?_
            refine za_getr (k := 2) hx hb hts hin11 hown hK hP zF_64_2 rfl (Nat.le_of_ble_eq_true rfl) (Or.inl hw1) dX11_product_59 ?_
            refine lv_iconst (v := (0 : Int32)) hx hb dX11_product_62 (by decide) ?_
            refine za_ildc (j := 0) hx hb hK hP zI_66 (by unfold vp_in; decide) rfl dX11_product_63 ?_
            refine lv_istore (lv' := [(5, .int (u 4 0)), (4, .int (1 : Int32)), (0, .ref (ad 64)), (1, .int a1), (2, .int a2), (3, .int a3)]) hx hb dX11_product_64 hl (by decide) rfl (fun ls hl => ?_)
            refine lv_iload hx hb dX11_product_66 (lv_at hl 0 rfl) ?_
            refine lv_bipush (v := (10 : Int32)) hx hb dX11_product_68 (by decide) ?_
            refine lv_icmp_ne (tgt := 80) hx hb dX11_product_70 (by decide) (fun c79 => ?_) (fun c79 => ?_)
            · have h := vz_f c79 h
              refine lv_aload_n hx hb dX11_product_80 rfl (lv_at hl 2 rfl) ?_
              refine za_getr (k := 2) hx hb hts hin11 hown hK hP zF_64_2 rfl (Nat.le_of_ble_eq_true rfl) (Or.inl hw1) dX11_product_81 ?_
              refine lv_bipush (v := (8 : Int32)) hx hb dX11_product_84 (by decide) ?_
              refine lv_iconst (v := (3 : Int32)) hx hb dX11_product_86 (by decide) ?_
              refine lv_iload hx hb dX11_product_87 (lv_at hl 0 rfl) ?_
              refine lv_imul hx hb dX11_product_89 ?_
              refine lv_iadd hx hb dX11_product_90 ?_
              refine lv_iload_n hx hb dX11_product_91 rfl (lv_at hl 3 rfl) ?_
              obtain ⟨g80, h⟩ := gd_s h
              refine za_ist hx hb hK hP hD hS zI_66 g80 dX11_product_92 (fun H locs hP hS => ?_)
              refine lv_aload_n hx hb dX11_product_93 rfl (lv_at hl 2 rfl) ?_
              refine za_getr (k := 2) hx hb hts hin11 hown hK hP zF_64_2 rfl (Nat.le_of_ble_eq_true rfl) (Or.inl hw1) dX11_product_94 ?_
              refine lv_bipush (v := (8 : Int32)) hx hb dX11_product_97 (by decide) ?_
              refine lv_iconst (v := (3 : Int32)) hx hb dX11_product_99 (by decide) ?_
              refine lv_iload hx hb dX11_product_100 (lv_at hl 0 rfl) ?_
              refine lv_imul hx hb dX11_product_102 ?_
              refine lv_iadd hx hb dX11_product_103 ?_
              refine lv_iconst (v := (1 : Int32)) hx hb dX11_product_104 (by decide) ?_
              refine lv_iadd hx hb dX11_product_105 ?_
              refine lv_iload hx hb dX11_product_106 (lv_at hl 1 rfl) ?_
              refine lv_if_eq (tgt := 115) hx hb dX11_product_108 (by decide) (fun c81 => ?_) (fun c81 => ?_)
              · exact absurd c81 (by decide)
              refine lv_iload_n hx hb dX11_product_111 rfl (lv_at hl 4 rfl) ?_
              refine lv_goto (tgt := 116) hx hb dX11_product_112 (by decide) ?_
              obtain ⟨g82, h⟩ := gd_s h
              refine za_ist hx hb hK hP hD hS zI_66 g82 dX11_product_116 (fun H locs hP hS => ?_)
              refine lv_aload_n hx hb dX11_product_117 rfl (lv_at hl 2 rfl) ?_
              refine za_getr (k := 2) hx hb hts hin11 hown hK hP zF_64_2 rfl (Nat.le_of_ble_eq_true rfl) (Or.inl hw1) dX11_product_118 ?_
              refine lv_bipush (v := (8 : Int32)) hx hb dX11_product_121 (by decide) ?_
              refine lv_iconst (v := (3 : Int32)) hx hb dX11_product_123 (by decide) ?_
              refine lv_iload hx hb dX11_product_124 (lv_at hl 0 rfl) ?_
              refine lv_imul hx hb dX11_product_126 ?_
              refine lv_iadd hx hb dX11_product_127 ?_
              refine lv_iconst (v := (2 : Int32)) hx hb dX11_product_128 (by decide) ?_
              refine lv_iadd hx hb dX11_product_129 ?_
              refine lv_iload hx hb dX11_product_130 (lv_at hl 1 rfl) ?_
              refine lv_if_eq (tgt := 139) hx hb dX11_product_132 (by decide) (fun c83 => ?_) (fun c83 => ?_)
              · exact absurd c83 (by decide)
              refine lv_iload_n hx hb dX11_product_135 rfl (lv_at hl 5 rfl) ?_
              refine lv_goto (tgt := 140) hx hb dX11_product_136 (by decide) ?_
              obtain ⟨g84, h⟩ := gd_s h
              refine za_ist hx hb hK hP hD hS zI_66 g84 dX11_product_140 (fun H locs hP hS => ?_)
              refine lv_aload_n hx hb dX11_product_141 rfl (lv_at hl 2 rfl) ?_
              refine za_getr (k := 2) hx hb hts hin11 hown hK hP zF_64_2 rfl (Nat.le_of_ble_eq_true rfl) (Or.inl hw1) dX11_product_142 ?_
              refine lv_iconst (v := (0 : Int32)) hx hb dX11_product_145 (by decide) ?_
              refine lv_dup2_11 hx hb dX11_product_146 rfl rfl ?_
              refine za_ildc (j := 0) hx hb hK hP zI_66 (by unfold vp_in; decide) rfl dX11_product_147 ?_
              refine lv_iconst (v := (1 : Int32)) hx hb dX11_product_148 (by decide) ?_
              refine lv_iadd hx hb dX11_product_149 ?_
              refine za_istc (j := 0) hx hb hK hP hD hS zI_66 (by unfold vp_in; decide) rfl dX11_product_150 (fun H locs hP hS => ?_)
              refine lv_iload hx hb dX11_product_151 (lv_at hl 0 rfl) ?_
              cases h
              exact W.iret hx hb hr (fun t ht _ => ⟨rfl, by rw [ht]; exact hP, hS.F ht⟩) hS.2.2 dX11_product_153
            · have h := vz_t c79 h
              refine lv_aload_n hx hb dX11_product_73 rfl (lv_at hl 2 rfl) ?_
              refine lv_bipush (v := (-3 : Int32)) hx hb dX11_product_74 (by decide) ?_
              obtain ⟨⟨r89, u86, v87⟩, hc85, h⟩ := vz_b h
              try dsimp only at h
              refine za_callWi (va_runV (As := [.int (-3 : Int32)]) (rest := []) ⟨hx, hb, hml, hown, hts⟩ (k_X11_finding l (D := D) (cI := cI) (cJ := cJ) (ad := ad) hD hc85) (cwV 1 hts gX11_product_X11_finding rfl rfl rfl ⟨rfl, zd_X11_finding⟩ ⟨Nat.le_of_ble_eq_true rfl, Nat.le_of_ble_eq_true rfl⟩) (xPreV (ci := 11) hK hP rfl zO_64) rfl rfl hl.1 rfl (lv_room (Nat.le_of_ble_eq_true rfl)) dX11_product_76 ⟨Nat.zero_le _, Nat.zero_le _⟩) hS (fun H locs hP hS => ?_)
              cases h
              exact W.iret hx hb hr (fun t ht _ => ⟨rfl, by rw [ht]; exact hP, hS.F ht⟩) hS.2.2 dX11_product_79
          · have h := vz_t c78 h
            refine lv_aload_n hx hb dX11_product_52 rfl (lv_at hl 1 rfl) ?_
            refine lv_iconst (v := (-1 : Int32)) hx hb dX11_product_53 (by decide) ?_
            obtain ⟨⟨r94, u91, v92⟩, hc90, h⟩ := vz_b h
            try dsimp only at h
            refine za_callWi (va_runV (As := [.int (-1 : Int32)]) (rest := []) ⟨hx, hb, hml, hown, hts⟩ (k_X11_finding l (D := D) (cI := cI) (cJ := cJ) (ad := ad) hD hc90) (cwV 1 hts gX11_product_X11_finding rfl rfl rfl ⟨rfl, zd_X11_finding⟩ ⟨Nat.le_of_ble_eq_true rfl, Nat.le_of_ble_eq_true rfl⟩) (xPreV (ci := 11) hK hP rfl zO_64) rfl rfl hl.1 rfl (lv_room (Nat.le_of_ble_eq_true rfl)) dX11_product_54 ⟨Nat.zero_le _, Nat.zero_le _⟩) hS (fun H locs hP hS => ?_)
            cases h
            exact W.iret hx hb hr (fun t ht _ => ⟨rfl, by rw [ht]; exact hP, hS.F ht⟩) hS.2.2 dX11_product_57
abbrev rmX11_right : Room := { frames := 1, cells := 0, slots := 0, locals := 22 }
set_option maxHeartbeats 4000000 in
set_option maxRecDepth 100000 in
theorem k_X11_right (l : Launch) {D : va_G} {cI cJ : ClassId} {ad : Nat → Nat} {u : tU} {v : tV} {A : Nat → Prop} (hD : zD A cI cJ ad) {a1 : Int32} {a2 : Int32} {a3 : Int32} {a4 : Int32} {a5 : Int32} {a6 : Int32}  {r : Int32} {uz : tU} {vz : tV} (h : pX11_right u v a1 a2 a3 a4 a5 a6 = some (r, uz, vz)) : Met l yX11_right wsX11_right rmX11_right (va_Pc [.ref (ad 64), .int a1, .int a2, .int a3, .int a4, .int a5, .int a6] (xPre D cI cJ (wA cI cJ ad u v))) (xWi D cI cJ ad A r uz vz) 0 0 A := by
  refine Met.ofW (cc := cX11_right) (maxL := 9) (ret := (some .int)) (by decide) rfl ?_
  intro p e s m args below meth c s₁ B hml hv
  obtain ⟨rfl, hP, hK⟩ := hv
  have hx := B.exec
  have hb := B.bytes
  have hr := B.returns
  have hts := atoms_spec (ws := wsX11_right) B.pre
  have hown : s.vm.findClass RX11 = some m.cls := findClass_of_methodNamed B.named
  have hlocks := B.notSynchronized
  have hS : va_S A s.heap s.heap [] := va_S.rf
  have hin11 : ∀ w ∈ u_ws RX11 TX11 10, w ∈ wsX11_right := fun _ h => List.mem_cons_of_mem _ (List.mem_append_right _ h)
  have hw1 := hts (.fieldLink RX11 13 "InstallDeskModel" "book" "[I") (List.mem_of_getElem? (i := 1) rfl)
  have hl := lv_entry ([.ref (ad 64), .int a1, .int a2, .int a3, .int a4, .int a5, .int a6]) (n := 9) (Nat.le_of_ble_eq_true rfl)
  rw [lg_entry_eq]
  generalize (lg_sl ([.ref (ad 64), .int a1, .int a2, .int a3, .int a4, .int a5, .int a6]) ++ List.replicate (9 - (lg_sl ([.ref (ad 64), .int a1, .int a2, .int a3, .int a4, .int a5, .int a6])).length) Slot.unset).toArray = ls at hl ⊢
  have hl : lv_has ls 9 [(0, .ref (ad 64)), (1, .int a1), (2, .int a2), (3, .int a3), (4, .int a4), (5, .int a5), (6, .int a6)] := hl
  rw [pX11_right] at h
  refine lv_aload_n hx hb dX11_right_0 rfl (lv_at hl 0 rfl) ?_
  refine lv_iload_n hx hb dX11_right_1 rfl (lv_at hl 1 rfl) ?_
  obtain ⟨r2, hc1, h⟩ := vz_b h
  refine za_callR (va_runV (As := [.int a1]) (rest := []) ⟨hx, hb, hml, hown, hts⟩ (k_X11_isProduct l (D := D) (cI := cI) (cJ := cJ) (ad := ad) hc1) (cwV 1 hts gX11_right_X11_isProduct rfl rfl rfl ⟨rfl, zd_X11_isProduct⟩ ⟨Nat.le_of_ble_eq_true rfl, Nat.le_of_ble_eq_true rfl⟩) (xPreV (ci := 11) hK hP rfl zO_64) rfl rfl hl.1 rfl (lv_room (Nat.le_of_ble_eq_true rfl)) dX11_right_2 ⟨Nat.zero_le _, Nat.zero_le _⟩) ?_
  refine lv_if_eq (tgt := 71) hx hb dX11_right_5 (by decide) (fun c3 => ?_) (fun c3 => ?_)
  · have h := vz_t c3 h
    refine lv_aload_n hx hb dX11_right_71 rfl (lv_at hl 0 rfl) ?_
    refine lv_iconst (v := (-1 : Int32)) hx hb dX11_right_72 (by decide) ?_
    obtain ⟨⟨r8, u5, v6⟩, hc4, h⟩ := vz_b h
    try dsimp only at h
    refine za_callWi (va_runV (As := [.int (-1 : Int32)]) (rest := []) ⟨hx, hb, hml, hown, hts⟩ (k_X11_finding l (D := D) (cI := cI) (cJ := cJ) (ad := ad) hD hc4) (cwV 1 hts gX11_right_X11_finding rfl rfl rfl ⟨rfl, zd_X11_finding⟩ ⟨Nat.le_of_ble_eq_true rfl, Nat.le_of_ble_eq_true rfl⟩) (xPreV (ci := 11) hK hP rfl zO_64) rfl rfl hl.1 rfl (lv_room (Nat.le_of_ble_eq_true rfl)) dX11_right_73 ⟨Nat.zero_le _, Nat.zero_le _⟩) hS (fun H locs hP hS => ?_)
    cases h
    exact W.iret hx hb hr (fun t ht _ => ⟨rfl, by rw [ht]; exact hP, hS.F ht⟩) hS.2.2 dX11_right_76
  · have h := vz_f c3 h
    refine lv_iload_n hx hb dX11_right_8 rfl (lv_at hl 2 rfl) ?_
    refine lv_iconst (v := (1 : Int32)) hx hb dX11_right_9 (by decide) ?_
    refine lv_bipush (v := (9 : Int32)) hx hb dX11_right_10 (by decide) ?_
    obtain ⟨r10, hc9, h⟩ := vz_b h
    refine za_callR (va_runS (As := [.int a2, .int (1 : Int32), .int (9 : Int32)]) (rest := []) ⟨hx, hb, hml, hown, hts⟩ (k_X11_isIn l hc9) (va_cwS 3 hts gX11_right_X11_isIn rfl rfl rfl zd_X11_isIn ⟨Nat.le_of_ble_eq_true rfl, Nat.le_of_ble_eq_true rfl⟩) xPre0 rfl rfl hl.1 rfl (lv_room (Nat.le_of_ble_eq_true rfl)) dX11_right_12 ⟨Nat.zero_le _, Nat.zero_le _⟩) ?_
    refine lv_if_eq (tgt := 71) hx hb dX11_right_15 (by decide) (fun c11 => ?_) (fun c11 => ?_)
    · have h := vz_t c11 h
      refine lv_aload_n hx hb dX11_right_71 rfl (lv_at hl 0 rfl) ?_
      refine lv_iconst (v := (-1 : Int32)) hx hb dX11_right_72 (by decide) ?_
      obtain ⟨⟨r16, u13, v14⟩, hc12, h⟩ := vz_b h
      try dsimp only at h
      refine za_callWi (va_runV (As := [.int (-1 : Int32)]) (rest := []) ⟨hx, hb, hml, hown, hts⟩ (k_X11_finding l (D := D) (cI := cI) (cJ := cJ) (ad := ad) hD hc12) (cwV 1 hts gX11_right_X11_finding rfl rfl rfl ⟨rfl, zd_X11_finding⟩ ⟨Nat.le_of_ble_eq_true rfl, Nat.le_of_ble_eq_true rfl⟩) (xPreV (ci := 11) hK hP rfl zO_64) rfl rfl hl.1 rfl (lv_room (Nat.le_of_ble_eq_true rfl)) dX11_right_73 ⟨Nat.zero_le _, Nat.zero_le _⟩) hS (fun H locs hP hS => ?_)
      cases h
      exact W.iret hx hb hr (fun t ht _ => ⟨rfl, by rw [ht]; exact hP, hS.F ht⟩) hS.2.2 dX11_right_76
    · have h := vz_f c11 h
      refine lv_iload_n hx hb dX11_right_18 rfl (lv_at hl 3 rfl) ?_
      refine lv_iconst (v := (0 : Int32)) hx hb dX11_right_19 (by decide) ?_
      refine lv_bipush (v := (40 : Int32)) hx hb dX11_right_20 (by decide) ?_
      obtain ⟨r18, hc17, h⟩ := vz_b h
      refine za_callR (va_runS (As := [.int a3, .int (0 : Int32), .int (40 : Int32)]) (rest := []) ⟨hx, hb, hml, hown, hts⟩ (k_X11_isIn l hc17) (va_cwS 3 hts gX11_right_X11_isIn rfl rfl rfl zd_X11_isIn ⟨Nat.le_of_ble_eq_true rfl, Nat.le_of_ble_eq_true rfl⟩) xPre0 rfl rfl hl.1 rfl (lv_room (Nat.le_of_ble_eq_true rfl)) dX11_right_22 ⟨Nat.zero_le _, Nat.zero_le _⟩) ?_
      refine lv_if_eq (tgt := 71) hx hb dX11_right_25 (by decide) (fun c19 => ?_) (fun c19 => ?_)
      · have h := vz_t c19 h
        refine lv_aload_n hx hb dX11_right_71 rfl (lv_at hl 0 rfl) ?_
        refine lv_iconst (v := (-1 : Int32)) hx hb dX11_right_72 (by decide) ?_
        obtain ⟨⟨r24, u21, v22⟩, hc20, h⟩ := vz_b h
        try dsimp only at h
        refine za_callWi (va_runV (As := [.int (-1 : Int32)]) (rest := []) ⟨hx, hb, hml, hown, hts⟩ (k_X11_finding l (D := D) (cI := cI) (cJ := cJ) (ad := ad) hD hc20) (cwV 1 hts gX11_right_X11_finding rfl rfl rfl ⟨rfl, zd_X11_finding⟩ ⟨Nat.le_of_ble_eq_true rfl, Nat.le_of_ble_eq_true rfl⟩) (xPreV (ci := 11) hK hP rfl zO_64) rfl rfl hl.1 rfl (lv_room (Nat.le_of_ble_eq_true rfl)) dX11_right_73 ⟨Nat.zero_le _, Nat.zero_le _⟩) hS (fun H locs hP hS => ?_)
        cases h
        exact W.iret hx hb hr (fun t ht _ => ⟨rfl, by rw [ht]; exact hP, hS.F ht⟩) hS.2.2 dX11_right_76
      · have h := vz_f c19 h
        refine lv_iload hx hb dX11_right_28 (lv_at hl 4 rfl) ?_
        refine lv_iconst (v := (0 : Int32)) hx hb dX11_right_30 (by decide) ?_
        refine lv_sipush (v := (1000 : Int32)) hx hb dX11_right_31 (by decide) ?_
        obtain ⟨r26, hc25, h⟩ := vz_b h
        refine za_callR (va_runS (As := [.int a4, .int (0 : Int32), .int (1000 : Int32)]) (rest := []) ⟨hx, hb, hml, hown, hts⟩ (k_X11_isIn l hc25) (va_cwS 3 hts gX11_right_X11_isIn rfl rfl rfl zd_X11_isIn ⟨Nat.le_of_ble_eq_true rfl, Nat.le_of_ble_eq_true rfl⟩) xPre0 rfl rfl hl.1 rfl (lv_room (Nat.le_of_ble_eq_true rfl)) dX11_right_34 ⟨Nat.zero_le _, Nat.zero_le _⟩) ?_
        refine lv_if_eq (tgt := 71) hx hb dX11_right_37 (by decide) (fun c27 => ?_) (fun c27 => ?_)
        · have h := vz_t c27 h
          refine lv_aload_n hx hb dX11_right_71 rfl (lv_at hl 0 rfl) ?_
          refine lv_iconst (v := (-1 : Int32)) hx hb dX11_right_72 (by decide) ?_
          obtain ⟨⟨r32, u29, v30⟩, hc28, h⟩ := vz_b h
          try dsimp only at h
          refine za_callWi (va_runV (As := [.int (-1 : Int32)]) (rest := []) ⟨hx, hb, hml, hown, hts⟩ (k_X11_finding l (D := D) (cI := cI) (cJ := cJ) (ad := ad) hD hc28) (cwV 1 hts gX11_right_X11_finding rfl rfl rfl ⟨rfl, zd_X11_finding⟩ ⟨Nat.le_of_ble_eq_true rfl, Nat.le_of_ble_eq_true rfl⟩) (xPreV (ci := 11) hK hP rfl zO_64) rfl rfl hl.1 rfl (lv_room (Nat.le_of_ble_eq_true rfl)) dX11_right_73 ⟨Nat.zero_le _, Nat.zero_le _⟩) hS (fun H locs hP hS => ?_)
          cases h
          exact W.iret hx hb hr (fun t ht _ => ⟨rfl, by rw [ht]; exact hP, hS.F ht⟩) hS.2.2 dX11_right_76
        · have h := vz_f c27 h
          refine lv_iload hx hb dX11_right_40 (lv_at hl 5 rfl) ?_
          refine lv_iconst (v := (0 : Int32)) hx hb dX11_right_42 (by decide) ?_
          refine lv_sipush (v := (9999 : Int32)) hx hb dX11_right_43 (by decide) ?_
          obtain ⟨r34, hc33, h⟩ := vz_b h
          refine za_callR (va_runS (As := [.int a5, .int (0 : Int32), .int (9999 : Int32)]) (rest := []) ⟨hx, hb, hml, hown, hts⟩ (k_X11_isIn l hc33) (va_cwS 3 hts gX11_right_X11_isIn rfl rfl rfl zd_X11_isIn ⟨Nat.le_of_ble_eq_true rfl, Nat.le_of_ble_eq_true rfl⟩) xPre0 rfl rfl hl.1 rfl (lv_room (Nat.le_of_ble_eq_true rfl)) dX11_right_46 ⟨Nat.zero_le _, Nat.zero_le _⟩) ?_
          refine lv_if_eq (tgt := 71) hx hb dX11_right_49 (by decide) (fun c35 => ?_) (fun c35 => ?_)
          · have h := vz_t c35 h
            refine lv_aload_n hx hb dX11_right_71 rfl (lv_at hl 0 rfl) ?_
            refine lv_iconst (v := (-1 : Int32)) hx hb dX11_right_72 (by decide) ?_
            obtain ⟨⟨r40, u37, v38⟩, hc36, h⟩ := vz_b h
            try dsimp only at h
            refine za_callWi (va_runV (As := [.int (-1 : Int32)]) (rest := []) ⟨hx, hb, hml, hown, hts⟩ (k_X11_finding l (D := D) (cI := cI) (cJ := cJ) (ad := ad) hD hc36) (cwV 1 hts gX11_right_X11_finding rfl rfl rfl ⟨rfl, zd_X11_finding⟩ ⟨Nat.le_of_ble_eq_true rfl, Nat.le_of_ble_eq_true rfl⟩) (xPreV (ci := 11) hK hP rfl zO_64) rfl rfl hl.1 rfl (lv_room (Nat.le_of_ble_eq_true rfl)) dX11_right_73 ⟨Nat.zero_le _, Nat.zero_le _⟩) hS (fun H locs hP hS => ?_)
            cases h
            exact W.iret hx hb hr (fun t ht _ => ⟨rfl, by rw [ht]; exact hP, hS.F ht⟩) hS.2.2 dX11_right_76
          · have h := vz_f c35 h
            refine lv_iload hx hb dX11_right_52 (lv_at hl 6 rfl) ?_
            refine lv_iconst (v := (0 : Int32)) hx hb dX11_right_54 (by decide) ?_
            refine lv_sipush (v := (9999 : Int32)) hx hb dX11_right_55 (by decide) ?_
            obtain ⟨r42, hc41, h⟩ := vz_b h
            refine za_callR (va_runS (As := [.int a6, .int (0 : Int32), .int (9999 : Int32)]) (rest := []) ⟨hx, hb, hml, hown, hts⟩ (k_X11_isIn l hc41) (va_cwS 3 hts gX11_right_X11_isIn rfl rfl rfl zd_X11_isIn ⟨Nat.le_of_ble_eq_true rfl, Nat.le_of_ble_eq_true rfl⟩) xPre0 rfl rfl hl.1 rfl (lv_room (Nat.le_of_ble_eq_true rfl)) dX11_right_58 ⟨Nat.zero_le _, Nat.zero_le _⟩) ?_
            refine lv_if_eq (tgt := 71) hx hb dX11_right_61 (by decide) (fun c43 => ?_) (fun c43 => ?_)
            · have h := vz_t c43 h
              refine lv_aload_n hx hb dX11_right_71 rfl (lv_at hl 0 rfl) ?_
              refine lv_iconst (v := (-1 : Int32)) hx hb dX11_right_72 (by decide) ?_
              obtain ⟨⟨r48, u45, v46⟩, hc44, h⟩ := vz_b h
              try dsimp only at h
              refine za_callWi (va_runV (As := [.int (-1 : Int32)]) (rest := []) ⟨hx, hb, hml, hown, hts⟩ (k_X11_finding l (D := D) (cI := cI) (cJ := cJ) (ad := ad) hD hc44) (cwV 1 hts gX11_right_X11_finding rfl rfl rfl ⟨rfl, zd_X11_finding⟩ ⟨Nat.le_of_ble_eq_true rfl, Nat.le_of_ble_eq_true rfl⟩) (xPreV (ci := 11) hK hP rfl zO_64) rfl rfl hl.1 rfl (lv_room (Nat.le_of_ble_eq_true rfl)) dX11_right_73 ⟨Nat.zero_le _, Nat.zero_le _⟩) hS (fun H locs hP hS => ?_)
              cases h
              exact W.iret hx hb hr (fun t ht _ => ⟨rfl, by rw [ht]; exact hP, hS.F ht⟩) hS.2.2 dX11_right_76
            · have h := vz_f c43 h
              refine lv_iload hx hb dX11_right_64 (lv_at hl 5 rfl) ?_
              refine lv_iload hx hb dX11_right_66 (lv_at hl 6 rfl) ?_
              refine lv_icmp_le (tgt := 77) hx hb dX11_right_68 (by decide) (fun c49 => ?_) (fun c49 => ?_)
              · have h := vz_t c49 h
                refine lv_aload_n hx hb dX11_right_77 rfl (lv_at hl 0 rfl) ?_
                refine za_getr (k := 2) hx hb hts hin11 hown hK hP zF_64_2 rfl (Nat.le_of_ble_eq_true rfl) (Or.inl hw1) dX11_right_78 ?_
                refine lv_iconst (v := (5 : Int32)) hx hb dX11_right_81 (by decide) ?_
                refine za_ildc (j := 5) hx hb hK hP zI_66 (by unfold vp_in; decide) rfl dX11_right_82 ?_
                refine lv_istore (lv' := [(7, .int (u 4 5)), (0, .ref (ad 64)), (1, .int a1), (2, .int a2), (3, .int a3), (4, .int a4), (5, .int a5), (6, .int a6)]) hx hb dX11_right_83 hl (by decide) rfl (fun ls hl => ?_)
                refine lv_iload hx hb dX11_right_85 (lv_at hl 0 rfl) ?_
                refine lv_bipush (v := (10 : Int32)) hx hb dX11_right_87 (by decide) ?_
                refine lv_icmp_ne (tgt := 99) hx hb dX11_right_89 (by decide) (fun c50 => ?_) (fun c50 => ?_)
                · have h := vz_f c50 h
                  refine lv_sipush (v := (1054 : Int32)) hx hb dX11_right_99 (by decide) ?_
                  refine lv_bipush (v := (6 : Int32)) hx hb dX11_right_102 (by decide) ?_
                  refine lv_iload hx hb dX11_right_104 (lv_at hl 0 rfl) ?_
                  refine lv_imul hx hb dX11_right_106 ?_
                  refine lv_iadd hx hb dX11_right_107 ?_
                  refine lv_istore (lv' := [(8, .int ((1054 : Int32) + ((6 : Int32) * (u 4 5)))), (7, .int (u 4 5)), (0, .ref (ad 64)), (1, .int a1), (2, .int a2), (3, .int a3), (4, .int a4), (5, .int a5), (6, .int a6)]) hx hb dX11_right_108 hl (by decide) rfl (fun ls hl => ?_)
                  refine lv_aload_n hx hb dX11_right_110 rfl (lv_at hl 2 rfl) ?_
                  refine za_getr (k := 2) hx hb hts hin11 hown hK hP zF_64_2 rfl (Nat.le_of_ble_eq_true rfl) (Or.inl hw1) dX11_right_111 ?_
                  refine lv_iload hx hb dX11_right_114 (lv_at hl 0 rfl) ?_
                  refine lv_iload_n hx hb dX11_right_116 rfl (lv_at hl 3 rfl) ?_
                  obtain ⟨g51, h⟩ := gd_s h
                  refine za_ist hx hb hK hP hD hS zI_66 g51 dX11_right_117 (fun H locs hP hS => ?_)
                  refine lv_aload_n hx hb dX11_right_118 rfl (lv_at hl 2 rfl) ?_
                  refine za_getr (k := 2) hx hb hts hin11 hown hK hP zF_64_2 rfl (Nat.le_of_ble_eq_true rfl) (Or.inl hw1) dX11_right_119 ?_
                  refine lv_iload hx hb dX11_right_122 (lv_at hl 0 rfl) ?_
                  refine lv_iconst (v := (1 : Int32)) hx hb dX11_right_124 (by decide) ?_
                  refine lv_iadd hx hb dX11_right_125 ?_
                  refine lv_iload_n hx hb dX11_right_126 rfl (lv_at hl 4 rfl) ?_
                  obtain ⟨g52, h⟩ := gd_s h
                  refine za_ist hx hb hK hP hD hS zI_66 g52 dX11_right_127 (fun H locs hP hS => ?_)
                  refine lv_aload_n hx hb dX11_right_128 rfl (lv_at hl 2 rfl) ?_
                  refine za_getr (k := 2) hx hb hts hin11 hown hK hP zF_64_2 rfl (Nat.le_of_ble_eq_true rfl) (Or.inl hw1) dX11_right_129 ?_
                  refine lv_iload hx hb dX11_right_132 (lv_at hl 0 rfl) ?_
                  refine lv_iconst (v := (2 : Int32)) hx hb dX11_right_134 (by decide) ?_
                  refine lv_iadd hx hb dX11_right_135 ?_
                  refine lv_iload_n hx hb dX11_right_136 rfl (lv_at hl 5 rfl) ?_
                  obtain ⟨g53, h⟩ := gd_s h
                  refine za_ist hx hb hK hP hD hS zI_66 g53 dX11_right_137 (fun H locs hP hS => ?_)
                  refine lv_aload_n hx hb dX11_right_138 rfl (lv_at hl 2 rfl) ?_
                  refine za_getr (k := 2) hx hb hts hin11 hown hK hP zF_64_2 rfl (Nat.le_of_ble_eq_true rfl) (Or.inl hw1) dX11_right_139 ?_
                  refine lv_iload hx hb dX11_right_142 (lv_at hl 0 rfl) ?_
                  refine lv_iconst (v := (3 : Int32)) hx hb dX11_right_144 (by decide) ?_
                  refine lv_iadd hx hb dX11_right_145 ?_
                  refine lv_iload hx hb dX11_right_146 (lv_at hl 6 rfl) ?_
                  obtain ⟨g54, h⟩ := gd_s h
                  refine za_ist hx hb hK hP hD hS zI_66 g54 dX11_right_148 (fun H locs hP hS => ?_)
                  refine lv_aload_n hx hb dX11_right_149 rfl (lv_at hl 2 rfl) ?_
                  refine za_getr (k := 2) hx hb hts hin11 hown hK hP zF_64_2 rfl (Nat.le_of_ble_eq_true rfl) (Or.inl hw1) dX11_right_150 ?_
                  refine lv_iload hx hb dX11_right_153 (lv_at hl 0 rfl) ?_
                  refine lv_iconst (v := (4 : Int32)) hx hb dX11_right_155 (by decide) ?_
                  refine lv_iadd hx hb dX11_right_156 ?_
                  refine lv_iload hx hb dX11_right_157 (lv_at hl 7 rfl) ?_
                  obtain ⟨g55, h⟩ := gd_s h
                  refine za_ist hx hb hK hP hD hS zI_66 g55 dX11_right_159 (fun H locs hP hS => ?_)
                  refine lv_aload_n hx hb dX11_right_160 rfl (lv_at hl 2 rfl) ?_
                  refine za_getr (k := 2) hx hb hts hin11 hown hK hP zF_64_2 rfl (Nat.le_of_ble_eq_true rfl) (Or.inl hw1) dX11_right_161 ?_
                  refine lv_iload hx hb dX11_right_164 (lv_at hl 0 rfl) ?_
                  refine lv_iconst (v := (5 : Int32)) hx hb dX11_right_166 (by decide) ?_
                  refine lv_iadd hx hb dX11_right_167 ?_
                  refine lv_iload hx hb dX11_right_168 (lv_at hl 8 rfl) ?_
                  obtain ⟨g56, h⟩ := gd_s h
                  refine za_ist hx hb hK hP hD hS zI_66 g56 dX11_right_170 (fun H locs hP hS => ?_)
                  refine lv_aload_n hx hb dX11_right_171 rfl (lv_at hl 2 rfl) ?_
                  refine za_getr (k := 2) hx hb hts hin11 hown hK hP zF_64_2 rfl (Nat.le_of_ble_eq_true rfl) (Or.inl hw1) dX11_right_172 ?_
                  refine lv_iconst (v := (5 : Int32)) hx hb dX11_right_175 (by decide) ?_
                  refine lv_dup2_11 hx hb dX11_right_176 rfl rfl ?_
                  refine za_ildc (j := 5) hx hb hK hP zI_66 (by unfold vp_in; decide) rfl dX11_right_177 ?_
                  refine lv_iconst (v := (1 : Int32)) hx hb dX11_right_178 (by decide) ?_
                  refine lv_iadd hx hb dX11_right_179 ?_
                  refine za_istc (j := 5) hx hb hK hP hD hS zI_66 (by unfold vp_in; decide) rfl dX11_right_180 (fun H locs hP hS => ?_)
                  refine lv_iload hx hb dX11_right_181 (lv_at hl 1 rfl) ?_
                  cases h
                  exact W.iret hx hb hr (fun t ht _ => ⟨rfl, by rw [ht]; exact hP, hS.F ht⟩) hS.2.2 dX11_right_183
                · have h := vz_t c50 h
                  refine lv_aload_n hx hb dX11_right_92 rfl (lv_at hl 1 rfl) ?_
                  refine lv_bipush (v := (-3 : Int32)) hx hb dX11_right_93 (by decide) ?_
                  obtain ⟨⟨r61, u58, v59⟩, hc57, h⟩ := vz_b h
                  try dsimp only at h
                  refine za_callWi (va_runV (As := [.int (-3 : Int32)]) (rest := []) ⟨hx, hb, hml, hown, hts⟩ (k_X11_finding l (D := D) (cI := cI) (cJ := cJ) (ad := ad) hD hc57) (cwV 1 hts gX11_right_X11_finding rfl rfl rfl ⟨rfl, zd_X11_finding⟩ ⟨Nat.le_of_ble_eq_true rfl, Nat.le_of_ble_eq_true rfl⟩) (xPreV (ci := 11) hK hP rfl zO_64) rfl rfl hl.1 rfl (lv_room (Nat.le_of_ble_eq_true rfl)) dX11_right_95 ⟨Nat.zero_le _, Nat.zero_le _⟩) hS (fun H locs hP hS => ?_)
                  cases h
                  exact W.iret hx hb hr (fun t ht _ => ⟨rfl, by rw [ht]; exact hP, hS.F ht⟩) hS.2.2 dX11_right_98
              · have h := vz_f c49 h
                refine lv_aload_n hx hb dX11_right_71 rfl (lv_at hl 0 rfl) ?_
                refine lv_iconst (v := (-1 : Int32)) hx hb dX11_right_72 (by decide) ?_
                obtain ⟨⟨r66, u63, v64⟩, hc62, h⟩ := vz_b h
                try dsimp only at h
                refine za_callWi (va_runV (As := [.int (-1 : Int32)]) (rest := []) ⟨hx, hb, hml, hown, hts⟩ (k_X11_finding l (D := D) (cI := cI) (cJ := cJ) (ad := ad) hD hc62) (cwV 1 hts gX11_right_X11_finding rfl rfl rfl ⟨rfl, zd_X11_finding⟩ ⟨Nat.le_of_ble_eq_true rfl, Nat.le_of_ble_eq_true rfl⟩) (xPreV (ci := 11) hK hP rfl zO_64) rfl rfl hl.1 rfl (lv_room (Nat.le_of_ble_eq_true rfl)) dX11_right_73 ⟨Nat.zero_le _, Nat.zero_le _⟩) hS (fun H locs hP hS => ?_)
                cases h
                exact W.iret hx hb hr (fun t ht _ => ⟨rfl, by rw [ht]; exact hP, hS.F ht⟩) hS.2.2 dX11_right_76
abbrev rmX11_rule : Room := { frames := 1, cells := 0, slots := 0, locals := 24 }
set_option maxHeartbeats 4000000 in
set_option maxRecDepth 100000 in
theorem k_X11_rule (l : Launch) {D : va_G} {cI cJ : ClassId} {ad : Nat → Nat} {u : tU} {v : tV} {A : Nat → Prop} (hD : zD A cI cJ ad) {a1 : Int32} {a2 : Int32}  {r : Int32} {uz : tU} {vz : tV} (h : pX11_rule u v a1 a2 = some (r, uz, vz)) : Met l yX11_rule wsX11_rule rmX11_rule (va_Pc [.ref (ad 64), .int a1, .int a2] (xPre D cI cJ (wA cI cJ ad u v))) (xWi D cI cJ ad A r uz vz) 0 0 A := by
  refine Met.ofW (cc := cX11_rule) (maxL := 7) (ret := (some .int)) (by decide) rfl ?_
  intro p e s m args below meth c s₁ B hml hv
  obtain ⟨rfl, hP, hK⟩ := hv
  have hx := B.exec
  have hb := B.bytes
  have hr := B.returns
  have hts := atoms_spec (ws := wsX11_rule) B.pre
  have hown : s.vm.findClass RX11 = some m.cls := findClass_of_methodNamed B.named
  have hlocks := B.notSynchronized
  have hS : va_S A s.heap s.heap [] := va_S.rf
  have hin11 : ∀ w ∈ u_ws RX11 TX11 10, w ∈ wsX11_rule := fun _ h => List.mem_cons_of_mem _ (List.mem_append_right _ h)
  have hw1 := hts (.fieldLink RX11 13 "InstallDeskModel" "book" "[I") (List.mem_of_getElem? (i := 1) rfl)
  have hw2 := hts (.fieldLink RX11 37 "InstallDeskModel" "waits" "I") (List.mem_of_getElem? (i := 2) rfl)
  have hw3 := hts (.fieldLink RX11 7 "InstallDeskModel" "waiting" "[I") (List.mem_of_getElem? (i := 3) rfl)
  have hl := lv_entry ([.ref (ad 64), .int a1, .int a2]) (n := 7) (Nat.le_of_ble_eq_true rfl)
  rw [lg_entry_eq]
  generalize (lg_sl ([.ref (ad 64), .int a1, .int a2]) ++ List.replicate (7 - (lg_sl ([.ref (ad 64), .int a1, .int a2])).length) Slot.unset).toArray = ls at hl ⊢
  have hl : lv_has ls 7 [(0, .ref (ad 64)), (1, .int a1), (2, .int a2)] := hl
  have L116 : ∀ (x3 : Int32) (x4 : Int32) (x5 : Int32) (n : Nat) (x6 : Int32) (u : tU) (v : tV) (H : Heap) (locs : List Loc) (ls : Array Slot) (o : tU × tV), pX11_rule_L116 x3 x4 x5 n x6 u v = some o → va_P D vwCl (wA cI cJ ad u v) H → va_S A s.heap H locs → lv_has ls 7 [(0, .ref (ad 64)), (3, .int x3), (4, .int x4), (5, .int x5), (6, .int x6)] → (∀ (u' : tU) (v' : tV) (H : Heap) (locs : List Loc) (ls : Array Slot), o = (u', v') → va_P D vwCl (wA cI cJ ad u' v') H → va_S A s.heap H locs → lv_has ls 7 [(0, .ref (ad 64)), (3, .int x3)] → W p l e (headSpec wsX11_rule rmX11_rule).room s m [Value.ref (ad 64), Value.int a1, Value.int a2].toArray below meth c H locs 0 0 (MQ below (xWi D cI cJ ad A r uz vz) [Value.ref (ad 64), Value.int a1, Value.int a2].toArray s 0 0 A) (F0 m 148 ls [])) → W p l e (headSpec wsX11_rule rmX11_rule).room s m [Value.ref (ad 64), Value.int a1, Value.int a2].toArray below meth c H locs 0 0 (MQ below (xWi D cI cJ ad A r uz vz) [Value.ref (ad 64), Value.int a1, Value.int a2].toArray s 0 0 A) (F0 m 116 ls []) := by
    intro x3 x4 x5 n
    induction n with
    | zero => intro x6 u v H locs ls o h; cases h
    | succ n ih =>
      intro x6 u v H locs ls o h hP hS hl hk
      rw [pX11_rule_L116] at h
      refine lv_iload hx hb dX11_rule_116 (lv_at hl 4 rfl) ?_
      refine lv_iload hx hb dX11_rule_118 (lv_at hl 2 rfl) ?_
      refine lv_icmp_ge (tgt := 148) hx hb dX11_rule_120 (by decide) (fun c1 => ?_) (fun c1 => ?_)
      · have h := vz_t c1 h
        cases h
        exact hk u v _ _ ls rfl hP hS (lv_sub hl [0, 1] rfl)
      · have h := vz_f c1 h
        refine lv_aload_n hx hb dX11_rule_123 rfl (lv_at hl 0 rfl) ?_
        refine za_getr (k := 2) hx hb hts hin11 hown hK hP zF_64_2 rfl (Nat.le_of_ble_eq_true rfl) (Or.inl hw1) dX11_rule_124 ?_
        refine lv_iload hx hb dX11_rule_127 (lv_at hl 3 rfl) ?_
        refine lv_iconst (v := (3 : Int32)) hx hb dX11_rule_129 (by decide) ?_
        refine lv_iadd hx hb dX11_rule_130 ?_
        refine lv_iload hx hb dX11_rule_131 (lv_at hl 4 rfl) ?_
        refine lv_iadd hx hb dX11_rule_133 ?_
        refine lv_aload_n hx hb dX11_rule_134 rfl (lv_at hl 0 rfl) ?_
        refine za_getr (k := 1) hx hb hts hin11 hown hK hP zF_64_1 rfl (Nat.le_of_ble_eq_true rfl) (Or.inl hw3) dX11_rule_135 ?_
        refine lv_iload hx hb dX11_rule_138 (lv_at hl 4 rfl) ?_
        obtain ⟨g2, h⟩ := gd_s h
        refine za_ild hx hb hK hP zI_65 g2 dX11_rule_140 ?_
        obtain ⟨g3, h⟩ := gd_s h
        refine za_ist hx hb hK hP hD hS zI_66 g3 dX11_rule_141 (fun H locs hP hS => ?_)
        refine lv_iinc (v := (x6 + 1)) (lv' := [(6, .int (x6 + 1)), (0, .ref (ad 64)), (3, .int x3), (4, .int x4), (5, .int x5)]) hx hb dX11_rule_142 hl (k := 4) rfl rfl (by decide) rfl (fun ls hl => ?_)
        refine lv_goto (tgt := 116) hx hb dX11_rule_145 (by decide) ?_
        exact ih (x6 + 1) (sU u 4 ((x5 + (3 : Int32)) + x6).toNatClampNeg (u 3 x6.toNatClampNeg)) v _ _ ls o h hP hS (lv_sub hl [1, 2, 3, 4, 0] rfl) hk
  rw [pX11_rule] at h
  refine lv_aload_n hx hb dX11_rule_0 rfl (lv_at hl 0 rfl) ?_
  refine lv_iload_n hx hb dX11_rule_1 rfl (lv_at hl 2 rfl) ?_
  obtain ⟨r5, hc4, h⟩ := vz_b h
  refine za_callR (va_runV (As := [.int a2]) (rest := []) ⟨hx, hb, hml, hown, hts⟩ (k_X11_isProduct l (D := D) (cI := cI) (cJ := cJ) (ad := ad) hc4) (cwV 1 hts gX11_rule_X11_isProduct rfl rfl rfl ⟨rfl, zd_X11_isProduct⟩ ⟨Nat.le_of_ble_eq_true rfl, Nat.le_of_ble_eq_true rfl⟩) (xPreV (ci := 11) hK hP rfl zO_64) rfl rfl hl.1 rfl (lv_room (Nat.le_of_ble_eq_true rfl)) dX11_rule_2 ⟨Nat.zero_le _, Nat.zero_le _⟩) ?_
  refine lv_if_eq (tgt := 18) hx hb dX11_rule_5 (by decide) (fun c6 => ?_) (fun c6 => ?_)
  · have h := vz_t c6 h
    refine lv_aload_n hx hb dX11_rule_18 rfl (lv_at hl 0 rfl) ?_
    refine lv_iconst (v := (-1 : Int32)) hx hb dX11_rule_19 (by decide) ?_
    obtain ⟨⟨r11, u8, v9⟩, hc7, h⟩ := vz_b h
    try dsimp only at h
    refine za_callWi (va_runV (As := [.int (-1 : Int32)]) (rest := []) ⟨hx, hb, hml, hown, hts⟩ (k_X11_finding l (D := D) (cI := cI) (cJ := cJ) (ad := ad) hD hc7) (cwV 1 hts gX11_rule_X11_finding rfl rfl rfl ⟨rfl, zd_X11_finding⟩ ⟨Nat.le_of_ble_eq_true rfl, Nat.le_of_ble_eq_true rfl⟩) (xPreV (ci := 11) hK hP rfl zO_64) rfl rfl hl.1 rfl (lv_room (Nat.le_of_ble_eq_true rfl)) dX11_rule_20 ⟨Nat.zero_le _, Nat.zero_le _⟩) hS (fun H locs hP hS => ?_)
    cases h
    exact W.iret hx hb hr (fun t ht _ => ⟨rfl, by rw [ht]; exact hP, hS.F ht⟩) hS.2.2 dX11_rule_23
  · have h := vz_f c6 h
    refine lv_iload_n hx hb dX11_rule_8 rfl (lv_at hl 1 rfl) ?_
    refine lv_iconst (v := (0 : Int32)) hx hb dX11_rule_9 (by decide) ?_
    refine lv_bipush (v := (9 : Int32)) hx hb dX11_rule_10 (by decide) ?_
    obtain ⟨r13, hc12, h⟩ := vz_b h
    refine za_callR (va_runS (As := [.int a1, .int (0 : Int32), .int (9 : Int32)]) (rest := []) ⟨hx, hb, hml, hown, hts⟩ (k_X11_isIn l hc12) (va_cwS 3 hts gX11_rule_X11_isIn rfl rfl rfl zd_X11_isIn ⟨Nat.le_of_ble_eq_true rfl, Nat.le_of_ble_eq_true rfl⟩) xPre0 rfl rfl hl.1 rfl (lv_room (Nat.le_of_ble_eq_true rfl)) dX11_rule_12 ⟨Nat.zero_le _, Nat.zero_le _⟩) ?_
    refine lv_if_ne (tgt := 24) hx hb dX11_rule_15 (by decide) (fun c14 => ?_) (fun c14 => ?_)
    · have h := vz_f c14 h
      refine lv_aload_n hx hb dX11_rule_24 rfl (lv_at hl 0 rfl) ?_
      refine za_getr (k := 2) hx hb hts hin11 hown hK hP zF_64_2 rfl (Nat.le_of_ble_eq_true rfl) (Or.inl hw1) dX11_rule_25 ?_
      refine lv_iconst (v := (1 : Int32)) hx hb dX11_rule_28 (by decide) ?_
      refine za_ildc (j := 1) hx hb hK hP zI_66 (by unfold vp_in; decide) rfl dX11_rule_29 ?_
      refine lv_istore_n (lv' := [(3, .int (u 4 1)), (0, .ref (ad 64)), (1, .int a1), (2, .int a2)]) hx hb dX11_rule_30 rfl hl (by decide) rfl (fun ls hl => ?_)
      refine lv_iload_n hx hb dX11_rule_31 rfl (lv_at hl 0 rfl) ?_
      refine lv_bipush (v := (16 : Int32)) hx hb dX11_rule_32 (by decide) ?_
      refine lv_icmp_ne (tgt := 44) hx hb dX11_rule_34 (by decide) (fun c15 => ?_) (fun c15 => ?_)
      · have h := vz_f c15 h
        refine lv_aload_n hx hb dX11_rule_44 rfl (lv_at hl 1 rfl) ?_
        refine za_geti (k := 0) hx hb hts hin11 hown hK hP zF_64_0 rfl (Nat.le_of_ble_eq_true rfl) (Or.inl hw2) dX11_rule_45 ?_
        refine lv_istore (lv' := [(4, .int (u 0 5)), (3, .int (u 4 1)), (0, .ref (ad 64)), (1, .int a1), (2, .int a2)]) hx hb dX11_rule_48 hl (by decide) rfl (fun ls hl => ?_)
        refine lv_aload_n hx hb dX11_rule_50 rfl (lv_at hl 2 rfl) ?_
        refine lv_iconst (v := (0 : Int32)) hx hb dX11_rule_51 (by decide) ?_
        refine za_puti (k := 0) hx hb hts hin11 tyX11 tyX11_ok nmX11 hown hK hP hD hS zF_64_0 rfl (Nat.le_of_ble_eq_true rfl) (Or.inl hw2) rfl rfl rfl dX11_rule_52 (fun H locs hP hS => ?_)
        refine lv_aload_n hx hb dX11_rule_55 rfl (lv_at hl 2 rfl) ?_
        refine lv_bipush (v := (28 : Int32)) hx hb dX11_rule_56 (by decide) ?_
        refine lv_iload hx hb dX11_rule_58 (lv_at hl 0 rfl) ?_
        refine lv_iconst (v := (1 : Int32)) hx hb dX11_rule_60 (by decide) ?_
        refine lv_isub hx hb dX11_rule_61 ?_
        obtain ⟨r17, hc16, h⟩ := vz_b h
        refine za_callR (va_runV (As := [.int (28 : Int32), .int ((u 0 5) - (1 : Int32))]) (rest := []) ⟨hx, hb, hml, hown, hts⟩ (k_X11_hasSign l (D := D) (cI := cI) (cJ := cJ) (ad := ad) hc16) (cwV 2 hts gX11_rule_X11_hasSign rfl rfl rfl ⟨rfl, zd_X11_hasSign⟩ ⟨Nat.le_of_ble_eq_true rfl, Nat.le_of_ble_eq_true rfl⟩) (xPreV (ci := 11) hK hP rfl zO_64) rfl rfl hl.1 rfl (lv_room (Nat.le_of_ble_eq_true rfl)) dX11_rule_62 ⟨Nat.zero_le _, Nat.zero_le _⟩) ?_
        refine lv_if_eq (tgt := 75) hx hb dX11_rule_65 (by decide) (fun c18 => ?_) (fun c18 => ?_)
        · have h := vz_t c18 h
          refine lv_bipush (v := (38 : Int32)) hx hb dX11_rule_75 (by decide) ?_
          refine lv_bipush (v := (15 : Int32)) hx hb dX11_rule_77 (by decide) ?_
          refine lv_iload_n hx hb dX11_rule_79 rfl (lv_at hl 1 rfl) ?_
          refine lv_imul hx hb dX11_rule_80 ?_
          refine lv_iadd hx hb dX11_rule_81 ?_
          refine lv_istore (lv' := [(5, .int ((38 : Int32) + ((15 : Int32) * (u 4 1)))), (4, .int (u 0 5)), (3, .int (u 4 1)), (0, .ref (ad 64)), (1, .int a1), (2, .int a2)]) hx hb dX11_rule_82 hl (by decide) rfl (fun ls hl => ?_)
          refine lv_aload_n hx hb dX11_rule_84 rfl (lv_at hl 3 rfl) ?_
          refine za_getr (k := 2) hx hb hts hin11 hown hK hP zF_64_2 rfl (Nat.le_of_ble_eq_true rfl) (Or.inl hw1) dX11_rule_85 ?_
          refine lv_iload hx hb dX11_rule_88 (lv_at hl 0 rfl) ?_
          refine lv_iload_n hx hb dX11_rule_90 rfl (lv_at hl 4 rfl) ?_
          obtain ⟨g19, h⟩ := gd_s h
          refine za_ist hx hb hK hP hD hS zI_66 g19 dX11_rule_91 (fun H locs hP hS => ?_)
          refine lv_aload_n hx hb dX11_rule_92 rfl (lv_at hl 3 rfl) ?_
          refine za_getr (k := 2) hx hb hts hin11 hown hK hP zF_64_2 rfl (Nat.le_of_ble_eq_true rfl) (Or.inl hw1) dX11_rule_93 ?_
          refine lv_iload hx hb dX11_rule_96 (lv_at hl 0 rfl) ?_
          refine lv_iconst (v := (1 : Int32)) hx hb dX11_rule_98 (by decide) ?_
          refine lv_iadd hx hb dX11_rule_99 ?_
          refine lv_iload_n hx hb dX11_rule_100 rfl (lv_at hl 5 rfl) ?_
          obtain ⟨g20, h⟩ := gd_s h
          refine za_ist hx hb hK hP hD hS zI_66 g20 dX11_rule_101 (fun H locs hP hS => ?_)
          refine lv_aload_n hx hb dX11_rule_102 rfl (lv_at hl 3 rfl) ?_
          refine za_getr (k := 2) hx hb hts hin11 hown hK hP zF_64_2 rfl (Nat.le_of_ble_eq_true rfl) (Or.inl hw1) dX11_rule_103 ?_
          refine lv_iload hx hb dX11_rule_106 (lv_at hl 0 rfl) ?_
          refine lv_iconst (v := (2 : Int32)) hx hb dX11_rule_108 (by decide) ?_
          refine lv_iadd hx hb dX11_rule_109 ?_
          refine lv_iload hx hb dX11_rule_110 (lv_at hl 1 rfl) ?_
          obtain ⟨g21, h⟩ := gd_s h
          refine za_ist hx hb hK hP hD hS zI_66 g21 dX11_rule_112 (fun H locs hP hS => ?_)
          refine lv_iconst (v := (0 : Int32)) hx hb dX11_rule_113 (by decide) ?_
          refine lv_istore (lv' := [(6, .int (0 : Int32)), (5, .int ((38 : Int32) + ((15 : Int32) * (u 4 1)))), (4, .int (u 0 5)), (3, .int (u 4 1)), (0, .ref (ad 64)), (1, .int a1), (2, .int a2)]) hx hb dX11_rule_114 hl (by decide) rfl (fun ls hl => ?_)
          obtain ⟨o22, hL23, h⟩ := vz_b h
          refine L116 (u 4 1) (u 0 5) ((38 : Int32) + ((15 : Int32) * (u 4 1))) fuel (0 : Int32) (sU (sU (sU (sU u 0 5 (0 : Int32)) 4 ((38 : Int32) + ((15 : Int32) * (u 4 1))).toNatClampNeg a1) 4 (((38 : Int32) + ((15 : Int32) * (u 4 1))) + (1 : Int32)).toNatClampNeg a2) 4 (((38 : Int32) + ((15 : Int32) * (u 4 1))) + (2 : Int32)).toNatClampNeg (u 0 5)) v _ _ ls o22 hL23 hP hS (lv_sub hl [4, 3, 2, 1, 0] rfl) (fun u25 v26 H locs ls e24 hP hS hl => ?_)
          try rw [e24] at h
          try dsimp only at h
          refine lv_aload_n hx hb dX11_rule_148 rfl (lv_at hl 0 rfl) ?_
          refine za_getr (k := 2) hx hb hts hin11 hown hK hP zF_64_2 rfl (Nat.le_of_ble_eq_true rfl) (Or.inl hw1) dX11_rule_149 ?_
          refine lv_iconst (v := (1 : Int32)) hx hb dX11_rule_152 (by decide) ?_
          refine lv_dup2_11 hx hb dX11_rule_153 rfl rfl ?_
          refine za_ildc (j := 1) hx hb hK hP zI_66 (by unfold vp_in; decide) rfl dX11_rule_154 ?_
          refine lv_iconst (v := (1 : Int32)) hx hb dX11_rule_155 (by decide) ?_
          refine lv_iadd hx hb dX11_rule_156 ?_
          refine za_istc (j := 1) hx hb hK hP hD hS zI_66 (by unfold vp_in; decide) rfl dX11_rule_157 (fun H locs hP hS => ?_)
          refine lv_iload_n hx hb dX11_rule_158 rfl (lv_at hl 1 rfl) ?_
          cases h
          exact W.iret hx hb hr (fun t ht _ => ⟨rfl, by rw [ht]; exact hP, hS.F ht⟩) hS.2.2 dX11_rule_159
        · have h := vz_f c18 h
          refine lv_aload_n hx hb dX11_rule_68 rfl (lv_at hl 2 rfl) ?_
          refine lv_bipush (v := (-7 : Int32)) hx hb dX11_rule_69 (by decide) ?_
          obtain ⟨⟨r31, u28, v29⟩, hc27, h⟩ := vz_b h
          try dsimp only at h
          refine za_callWi (va_runV (As := [.int (-7 : Int32)]) (rest := []) ⟨hx, hb, hml, hown, hts⟩ (k_X11_finding l (D := D) (cI := cI) (cJ := cJ) (ad := ad) hD hc27) (cwV 1 hts gX11_rule_X11_finding rfl rfl rfl ⟨rfl, zd_X11_finding⟩ ⟨Nat.le_of_ble_eq_true rfl, Nat.le_of_ble_eq_true rfl⟩) (xPreV (ci := 11) hK hP rfl zO_64) rfl rfl hl.1 rfl (lv_room (Nat.le_of_ble_eq_true rfl)) dX11_rule_71 ⟨Nat.zero_le _, Nat.zero_le _⟩) hS (fun H locs hP hS => ?_)
          cases h
          exact W.iret hx hb hr (fun t ht _ => ⟨rfl, by rw [ht]; exact hP, hS.F ht⟩) hS.2.2 dX11_rule_74
      · have h := vz_t c15 h
        refine lv_aload_n hx hb dX11_rule_37 rfl (lv_at hl 1 rfl) ?_
        refine lv_bipush (v := (-3 : Int32)) hx hb dX11_rule_38 (by decide) ?_
        obtain ⟨⟨r36, u33, v34⟩, hc32, h⟩ := vz_b h
        try dsimp only at h
        refine za_callWi (va_runV (As := [.int (-3 : Int32)]) (rest := []) ⟨hx, hb, hml, hown, hts⟩ (k_X11_finding l (D := D) (cI := cI) (cJ := cJ) (ad := ad) hD hc32) (cwV 1 hts gX11_rule_X11_finding rfl rfl rfl ⟨rfl, zd_X11_finding⟩ ⟨Nat.le_of_ble_eq_true rfl, Nat.le_of_ble_eq_true rfl⟩) (xPreV (ci := 11) hK hP rfl zO_64) rfl rfl hl.1 rfl (lv_room (Nat.le_of_ble_eq_true rfl)) dX11_rule_40 ⟨Nat.zero_le _, Nat.zero_le _⟩) hS (fun H locs hP hS => ?_)
        cases h
        exact W.iret hx hb hr (fun t ht _ => ⟨rfl, by rw [ht]; exact hP, hS.F ht⟩) hS.2.2 dX11_rule_43
    · have h := vz_t c14 h
      refine lv_aload_n hx hb dX11_rule_18 rfl (lv_at hl 0 rfl) ?_
      refine lv_iconst (v := (-1 : Int32)) hx hb dX11_rule_19 (by decide) ?_
      obtain ⟨⟨r41, u38, v39⟩, hc37, h⟩ := vz_b h
      try dsimp only at h
      refine za_callWi (va_runV (As := [.int (-1 : Int32)]) (rest := []) ⟨hx, hb, hml, hown, hts⟩ (k_X11_finding l (D := D) (cI := cI) (cJ := cJ) (ad := ad) hD hc37) (cwV 1 hts gX11_rule_X11_finding rfl rfl rfl ⟨rfl, zd_X11_finding⟩ ⟨Nat.le_of_ble_eq_true rfl, Nat.le_of_ble_eq_true rfl⟩) (xPreV (ci := 11) hK hP rfl zO_64) rfl rfl hl.1 rfl (lv_room (Nat.le_of_ble_eq_true rfl)) dX11_rule_20 ⟨Nat.zero_le _, Nat.zero_le _⟩) hS (fun H locs hP hS => ?_)
      cases h
      exact W.iret hx hb hr (fun t ht _ => ⟨rfl, by rw [ht]; exact hP, hS.F ht⟩) hS.2.2 dX11_rule_23
abbrev rmX11_spared : Room := { frames := 6, cells := 0, slots := 0, locals := 142 }
set_option maxHeartbeats 4000000 in
set_option maxRecDepth 100000 in
theorem k_X11_spared (l : Launch) {D : va_G} {cI cJ : ClassId} {ad : Nat → Nat} {u : tU} {v : tV} {A : Nat → Prop} (hD : zD A cI cJ ad) {a1 : Int32}  {r : Int32} {uz : tU} {vz : tV} (h : pX11_spared u v a1 = some (r, uz, vz)) : Met l yX11_spared wsX11_spared rmX11_spared (va_Pc [.ref (ad 64), .int a1] (xPre D cI cJ (wA cI cJ ad u v))) (xWi D cI cJ ad A r uz vz) 0 0 A := by
  refine Met.ofW (cc := cX11_spared) (maxL := 2) (ret := (some .int)) (by decide) rfl ?_
  intro p e s m args below meth c s₁ B hml hv
  obtain ⟨rfl, hP, hK⟩ := hv
  have hx := B.exec
  have hb := B.bytes
  have hr := B.returns
  have hts := atoms_spec (ws := wsX11_spared) B.pre
  have hown : s.vm.findClass RX11 = some m.cls := findClass_of_methodNamed B.named
  have hlocks := B.notSynchronized
  have hS : va_S A s.heap s.heap [] := va_S.rf
  have hin11 : ∀ w ∈ u_ws RX11 TX11 10, w ∈ wsX11_spared := fun _ h => List.mem_cons_of_mem _ (List.mem_append_right _ h)
  have hw1 := hts (.fieldLink RX11 13 "InstallDeskModel" "book" "[I") (List.mem_of_getElem? (i := 1) rfl)
  have hl := lv_entry ([.ref (ad 64), .int a1]) (n := 2) (Nat.le_of_ble_eq_true rfl)
  rw [lg_entry_eq]
  generalize (lg_sl ([.ref (ad 64), .int a1]) ++ List.replicate (2 - (lg_sl ([.ref (ad 64), .int a1])).length) Slot.unset).toArray = ls at hl ⊢
  have hl : lv_has ls 2 [(0, .ref (ad 64)), (1, .int a1)] := hl
  rw [pX11_spared] at h
  refine lv_aload_n hx hb dX11_spared_0 rfl (lv_at hl 0 rfl) ?_
  refine lv_iload_n hx hb dX11_spared_1 rfl (lv_at hl 1 rfl) ?_
  obtain ⟨r2, hc1, h⟩ := vz_b h
  refine za_callR (va_runV (As := [.int a1]) (rest := []) ⟨hx, hb, hml, hown, hts⟩ (k_X11_isHost l (D := D) (cI := cI) (cJ := cJ) (ad := ad) hc1) (cwV 1 hts gX11_spared_X11_isHost rfl rfl rfl ⟨rfl, zd_X11_isHost⟩ ⟨Nat.le_of_ble_eq_true rfl, Nat.le_of_ble_eq_true rfl⟩) (xPreV (ci := 11) hK hP rfl zO_64) rfl rfl hl.1 rfl (lv_room (Nat.le_of_ble_eq_true rfl)) dX11_spared_2 ⟨Nat.zero_le _, Nat.zero_le _⟩) ?_
  refine lv_if_ne (tgt := 14) hx hb dX11_spared_5 (by decide) (fun c3 => ?_) (fun c3 => ?_)
  · have h := vz_f c3 h
    refine lv_aload_n hx hb dX11_spared_14 rfl (lv_at hl 0 rfl) ?_
    obtain ⟨⟨u5, v6⟩, hc4, h⟩ := vz_b h
    try dsimp only at h
    refine za_callWv (va_runV (As := []) (rest := []) ⟨hx, hb, hml, hown, hts⟩ (k_X11_tellHad l (D := D) (cI := cI) (cJ := cJ) (ad := ad) hD hc4) (cwV 0 hts gX11_spared_X11_tellHad rfl rfl rfl ⟨rfl, zd_X11_tellHad⟩ ⟨Nat.le_of_ble_eq_true rfl, Nat.le_of_ble_eq_true rfl⟩) (xPreV (ci := 11) hK hP rfl zO_64) rfl rfl hl.1 rfl (lv_room (Nat.le_of_ble_eq_true rfl)) dX11_spared_15 ⟨Nat.zero_le _, Nat.zero_le _⟩) hS (fun H locs hP hS => ?_)
    refine lv_aload_n hx hb dX11_spared_18 rfl (lv_at hl 0 rfl) ?_
    refine lv_aload_n hx hb dX11_spared_19 rfl (lv_at hl 0 rfl) ?_
    refine za_getr (k := 2) hx hb hts hin11 hown hK hP zF_64_2 rfl (Nat.le_of_ble_eq_true rfl) (Or.inl hw1) dX11_spared_20 ?_
    refine lv_bipush (v := (6 : Int32)) hx hb dX11_spared_23 (by decide) ?_
    refine za_ildc (j := 6) hx hb hK hP zI_66 (by unfold vp_in; decide) rfl dX11_spared_25 ?_
    refine lv_iconst (v := (-1 : Int32)) hx hb dX11_spared_26 (by decide) ?_
    refine lv_iload_n hx hb dX11_spared_27 rfl (lv_at hl 1 rfl) ?_
    obtain ⟨⟨r12, u9, v10⟩, hc8, h⟩ := vz_b h
    try dsimp only at h
    refine za_callWi (va_runV (As := [.int (u5 4 6), .int (-1 : Int32), .int a1]) (rest := []) ⟨hx, hb, hml, hown, hts⟩ (k_X11_lackOn l (D := D) (cI := cI) (cJ := cJ) (ad := ad) hD hc8) (cwV 3 hts gX11_spared_X11_lackOn rfl rfl rfl ⟨rfl, zd_X11_lackOn⟩ ⟨Nat.le_of_ble_eq_true rfl, Nat.le_of_ble_eq_true rfl⟩) (xPreV (ci := 11) hK hP rfl zO_64) rfl rfl hl.1 rfl (lv_room (Nat.le_of_ble_eq_true rfl)) dX11_spared_28 ⟨Nat.zero_le _, Nat.zero_le _⟩) hS (fun H locs hP hS => ?_)
    cases h
    exact W.iret hx hb hr (fun t ht _ => ⟨rfl, by rw [ht]; exact hP, hS.F ht⟩) hS.2.2 dX11_spared_31
  · have h := vz_t c3 h
    refine lv_aload_n hx hb dX11_spared_8 rfl (lv_at hl 0 rfl) ?_
    refine lv_iconst (v := (-1 : Int32)) hx hb dX11_spared_9 (by decide) ?_
    obtain ⟨⟨r17, u14, v15⟩, hc13, h⟩ := vz_b h
    try dsimp only at h
    refine za_callWi (va_runV (As := [.int (-1 : Int32)]) (rest := []) ⟨hx, hb, hml, hown, hts⟩ (k_X11_finding l (D := D) (cI := cI) (cJ := cJ) (ad := ad) hD hc13) (cwV 1 hts gX11_spared_X11_finding rfl rfl rfl ⟨rfl, zd_X11_finding⟩ ⟨Nat.le_of_ble_eq_true rfl, Nat.le_of_ble_eq_true rfl⟩) (xPreV (ci := 11) hK hP rfl zO_64) rfl rfl hl.1 rfl (lv_room (Nat.le_of_ble_eq_true rfl)) dX11_spared_10 ⟨Nat.zero_le _, Nat.zero_le _⟩) hS (fun H locs hP hS => ?_)
    cases h
    exact W.iret hx hb hr (fun t ht _ => ⟨rfl, by rw [ht]; exact hP, hS.F ht⟩) hS.2.2 dX11_spared_13
abbrev rmX11_today : Room := { frames := 1, cells := 0, slots := 0, locals := 22 }
set_option maxHeartbeats 4000000 in
set_option maxRecDepth 100000 in
theorem k_X11_today (l : Launch) {D : va_G} {cI cJ : ClassId} {ad : Nat → Nat} {u : tU} {v : tV} {A : Nat → Prop} (hD : zD A cI cJ ad) {a1 : Int32}  {r : Int32} {uz : tU} {vz : tV} (h : pX11_today u v a1 = some (r, uz, vz)) : Met l yX11_today wsX11_today rmX11_today (va_Pc [.ref (ad 64), .int a1] (xPre D cI cJ (wA cI cJ ad u v))) (xWi D cI cJ ad A r uz vz) 0 0 A := by
  refine Met.ofW (cc := cX11_today) (maxL := 3) (ret := (some .int)) (by decide) rfl ?_
  intro p e s m args below meth c s₁ B hml hv
  obtain ⟨rfl, hP, hK⟩ := hv
  have hx := B.exec
  have hb := B.bytes
  have hr := B.returns
  have hts := atoms_spec (ws := wsX11_today) B.pre
  have hown : s.vm.findClass RX11 = some m.cls := findClass_of_methodNamed B.named
  have hlocks := B.notSynchronized
  have hS : va_S A s.heap s.heap [] := va_S.rf
  have hin11 : ∀ w ∈ u_ws RX11 TX11 10, w ∈ wsX11_today := fun _ h => List.mem_cons_of_mem _ (List.mem_append_right _ h)
  have hw1 := hts (.fieldLink RX11 13 "InstallDeskModel" "book" "[I") (List.mem_of_getElem? (i := 1) rfl)
  have hl := lv_entry ([.ref (ad 64), .int a1]) (n := 3) (Nat.le_of_ble_eq_true rfl)
  rw [lg_entry_eq]
  generalize (lg_sl ([.ref (ad 64), .int a1]) ++ List.replicate (3 - (lg_sl ([.ref (ad 64), .int a1])).length) Slot.unset).toArray = ls at hl ⊢
  have hl : lv_has ls 3 [(0, .ref (ad 64)), (1, .int a1)] := hl
  rw [pX11_today] at h
  refine lv_iload_n hx hb dX11_today_0 rfl (lv_at hl 1 rfl) ?_
  refine lv_iconst (v := (0 : Int32)) hx hb dX11_today_1 (by decide) ?_
  refine lv_sipush (v := (9999 : Int32)) hx hb dX11_today_2 (by decide) ?_
  obtain ⟨r2, hc1, h⟩ := vz_b h
  refine za_callR (va_runS (As := [.int a1, .int (0 : Int32), .int (9999 : Int32)]) (rest := []) ⟨hx, hb, hml, hown, hts⟩ (k_X11_isIn l hc1) (va_cwS 3 hts gX11_today_X11_isIn rfl rfl rfl zd_X11_isIn ⟨Nat.le_of_ble_eq_true rfl, Nat.le_of_ble_eq_true rfl⟩) xPre0 rfl rfl hl.1 rfl (lv_room (Nat.le_of_ble_eq_true rfl)) dX11_today_5 ⟨Nat.zero_le _, Nat.zero_le _⟩) ?_
  refine lv_if_ne (tgt := 17) hx hb dX11_today_8 (by decide) (fun c3 => ?_) (fun c3 => ?_)
  · have h := vz_f c3 h
    refine lv_aload_n hx hb dX11_today_17 rfl (lv_at hl 0 rfl) ?_
    refine za_getr (k := 2) hx hb hts hin11 hown hK hP zF_64_2 rfl (Nat.le_of_ble_eq_true rfl) (Or.inl hw1) dX11_today_18 ?_
    refine lv_bipush (v := (6 : Int32)) hx hb dX11_today_21 (by decide) ?_
    refine za_ildc (j := 6) hx hb hK hP zI_66 (by unfold vp_in; decide) rfl dX11_today_23 ?_
    refine lv_istore_n (lv' := [(2, .int (u 4 6)), (0, .ref (ad 64)), (1, .int a1)]) hx hb dX11_today_24 rfl hl (by decide) rfl (fun ls hl => ?_)
    refine lv_aload_n hx hb dX11_today_25 rfl (lv_at hl 1 rfl) ?_
    refine za_getr (k := 2) hx hb hts hin11 hown hK hP zF_64_2 rfl (Nat.le_of_ble_eq_true rfl) (Or.inl hw1) dX11_today_26 ?_
    refine lv_bipush (v := (6 : Int32)) hx hb dX11_today_29 (by decide) ?_
    refine lv_iload_n hx hb dX11_today_31 rfl (lv_at hl 2 rfl) ?_
    refine za_istc (j := 6) hx hb hK hP hD hS zI_66 (by unfold vp_in; decide) rfl dX11_today_32 (fun H locs hP hS => ?_)
    refine lv_iload_n hx hb dX11_today_33 rfl (lv_at hl 0 rfl) ?_
    cases h
    exact W.iret hx hb hr (fun t ht _ => ⟨rfl, by rw [ht]; exact hP, hS.F ht⟩) hS.2.2 dX11_today_34
  · have h := vz_t c3 h
    refine lv_aload_n hx hb dX11_today_11 rfl (lv_at hl 0 rfl) ?_
    refine lv_iconst (v := (-1 : Int32)) hx hb dX11_today_12 (by decide) ?_
    obtain ⟨⟨r8, u5, v6⟩, hc4, h⟩ := vz_b h
    try dsimp only at h
    refine za_callWi (va_runV (As := [.int (-1 : Int32)]) (rest := []) ⟨hx, hb, hml, hown, hts⟩ (k_X11_finding l (D := D) (cI := cI) (cJ := cJ) (ad := ad) hD hc4) (cwV 1 hts gX11_today_X11_finding rfl rfl rfl ⟨rfl, zd_X11_finding⟩ ⟨Nat.le_of_ble_eq_true rfl, Nat.le_of_ble_eq_true rfl⟩) (xPreV (ci := 11) hK hP rfl zO_64) rfl rfl hl.1 rfl (lv_room (Nat.le_of_ble_eq_true rfl)) dX11_today_13 ⟨Nat.zero_le _, Nat.zero_le _⟩) hS (fun H locs hP hS => ?_)
    cases h
    exact W.iret hx hb hr (fun t ht _ => ⟨rfl, by rw [ht]; exact hP, hS.F ht⟩) hS.2.2 dX11_today_16
