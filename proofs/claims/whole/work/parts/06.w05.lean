abbrev rmX10_finds : Room := { frames := 6, cells := 0, slots := 0, locals := 142 }
set_option maxHeartbeats 4000000 in
set_option maxRecDepth 100000 in
theorem k_X10_finds (l : Launch) {D : va_G} {cI cJ : ClassId} {ad : Nat → Nat} {u : tU} {v : tV} {A : Nat → Prop} (hD : zD A cI cJ ad) {a1 : Int32}  {r : Int32} {uz : tU} {vz : tV} (h : pX10_finds u v a1 = some (r, uz, vz)) : Met l yX10_finds wsX10_finds rmX10_finds (va_Pc [.ref (ad 0), .int a1] (xPre D cI cJ (wA cI cJ ad u v))) (xWi D cI cJ ad A r uz vz) 0 0 A := by
  refine Met.ofW (cc := cX10_finds) (maxL := 4) (ret := (some .int)) (by decide) rfl ?_
  intro p e s m args below meth c s₁ B hml hv
  obtain ⟨rfl, hP, hK⟩ := hv
  have hx := B.exec
  have hb := B.bytes
  have hr := B.returns
  have hts := atoms_spec (ws := wsX10_finds) B.pre
  have hown : s.vm.findClass RX10 = some m.cls := findClass_of_methodNamed B.named
  have hlocks := B.notSynchronized
  have hS : va_S A s.heap s.heap [] := va_S.rf
  have hin0 : ∀ w ∈ u_ws RX0 TX0 8, w ∈ wsX10_finds := fun _ h => List.mem_cons_of_mem _ (List.mem_append_left _ (List.mem_append_left _ (List.mem_append_right _ h)))
  have hin1 : ∀ w ∈ u_ws RX1 TX1 5, w ∈ wsX10_finds := fun _ h => List.mem_cons_of_mem _ (List.mem_append_left _ (List.mem_append_right _ h))
  have hin10 : ∀ w ∈ u_ws RX10 TX10 7, w ∈ wsX10_finds := fun _ h => List.mem_cons_of_mem _ (List.mem_append_left _ (List.mem_append_left _ (List.mem_append_left _ (List.mem_append_right _ h))))
  have hw1 := hts (.fieldLink RX10 19 "InstallDesk" "books" "LInstallDesk$Books;") (List.mem_of_getElem? (i := 1) rfl)
  have hw11 := hts (.instanceMethod yX0_isOfSort) (List.mem_of_getElem? (i := 11) rfl)
  have hw12 := hts (.initialized RX0) (List.mem_of_getElem? (i := 12) rfl)
  have hw13 := hts (.selects RX0 yX0_isOfSort yX0_isOfSort) (List.mem_of_getElem? (i := 13) rfl)
  have hl := lv_entry ([.ref (ad 0), .int a1]) (n := 4) (Nat.le_of_ble_eq_true rfl)
  rw [lg_entry_eq]
  generalize (lg_sl ([.ref (ad 0), .int a1]) ++ List.replicate (4 - (lg_sl ([.ref (ad 0), .int a1])).length) Slot.unset).toArray = ls at hl ⊢
  have hl : lv_has ls 4 [(0, .ref (ad 0)), (1, .int a1)] := hl
  have L19 : ∀ (u : tU) (v : tV) (H : Heap) (locs : List Loc) (x1 : Int32) (n : Nat) (x2 : Int32) (x3 : Int32) (ls : Array Slot) (o : Int32), pX10_finds_L19 u v x1 n x2 x3 = some o → va_P D vwCl (wA cI cJ ad u v) H → va_S A s.heap H locs → lv_has ls 4 [(0, .ref (ad 0)), (1, .int x1), (2, .int x2), (3, .int x3)] → (∀ (y2 : Int32) (ls : Array Slot), o = y2 → lv_has ls 4 [(2, .int y2)] → W p l e (headSpec wsX10_finds rmX10_finds).room s m [Value.ref (ad 0), Value.int a1].toArray below meth c H locs 0 0 (MQ below (xWi D cI cJ ad A r uz vz) [Value.ref (ad 0), Value.int a1].toArray s 0 0 A) (F0 m 54 ls [])) → W p l e (headSpec wsX10_finds rmX10_finds).room s m [Value.ref (ad 0), Value.int a1].toArray below meth c H locs 0 0 (MQ below (xWi D cI cJ ad A r uz vz) [Value.ref (ad 0), Value.int a1].toArray s 0 0 A) (F0 m 19 ls []) := by
    intro u v H locs x1 n
    induction n with
    | zero => intro x2 x3 ls o h; cases h
    | succ n ih =>
      intro x2 x3 ls o h hP hS hl hk
      rw [pX10_finds_L19] at h
      refine lv_iload_n hx hb dX10_finds_19 rfl (lv_at hl 3 rfl) ?_
      refine lv_aload_n hx hb dX10_finds_20 rfl (lv_at hl 0 rfl) ?_
      refine za_getr (k := 1) hx hb hts hin10 hown hK hP zF_0_1 rfl (Nat.le_of_ble_eq_true rfl) (Or.inl hw1) dX10_finds_21 ?_
      refine za_getr (k := 3) hx hb hts hin0 hown hK hP zF_2_3 rfl (Nat.le_of_ble_eq_true rfl) (nw_221 hK.2) dX10_finds_24 ?_
      refine za_geti (k := 0) hx hb hts hin1 hown hK hP zF_14_0 rfl (Nat.le_of_ble_eq_true rfl) (nw_127 hK.2) dX10_finds_27 ?_
      refine lv_icmp_ge (tgt := 54) hx hb dX10_finds_30 (by decide) (fun c1 => ?_) (fun c1 => ?_)
      · have h := vz_t c1 h
        cases h
        exact hk x2 ls rfl (lv_sub hl [2] rfl)
      · have h := vz_f c1 h
        refine lv_aload_n hx hb dX10_finds_33 rfl (lv_at hl 0 rfl) ?_
        refine za_getr (k := 1) hx hb hts hin10 hown hK hP zF_0_1 rfl (Nat.le_of_ble_eq_true rfl) (Or.inl hw1) dX10_finds_34 ?_
        refine lv_iload_n hx hb dX10_finds_37 rfl (lv_at hl 3 rfl) ?_
        refine lv_iload_n hx hb dX10_finds_38 rfl (lv_at hl 1 rfl) ?_
        obtain ⟨r3, hc2, h⟩ := vz_b h
        refine za_callR (va_runVN (As := [.int x3, .int x1]) (rest := []) ⟨hx, hb, hml, hown, hts⟩ (k_X0_isOfSort l (D := D) (cI := cI) (cJ := cJ) (ad := ad) hc2) ⟨va_cnB 2 hts gX10_finds_X0_isOfSort_n149 rfl rfl rfl (nw_449 hK.2) hw12 zd_X0_isOfSort ⟨Nat.le_of_ble_eq_true rfl, Nat.le_of_ble_eq_true rfl⟩, hw11, hw13⟩ (xPreV (ci := 0) hK hP rfl zO_2) rfl rfl hl.1 rfl (lv_room (Nat.le_of_ble_eq_true rfl)) dX10_finds_39 ⟨Nat.zero_le _, Nat.zero_le _⟩) ?_
        refine lv_if_eq (tgt := 48) hx hb dX10_finds_42 (by decide) (fun c4 => ?_) (fun c4 => ?_)
        · have h := vz_t c4 h
          refine lv_iinc (v := (x3 + 1)) (lv' := [(3, .int (x3 + 1)), (0, .ref (ad 0)), (1, .int x1), (2, .int x2)]) hx hb dX10_finds_48 hl (k := 3) rfl rfl (by decide) rfl (fun ls hl => ?_)
          refine lv_goto (tgt := 19) hx hb dX10_finds_51 (by decide) ?_
          exact ih x2 (x3 + 1) ls o h hP hS (lv_sub hl [1, 2, 3, 0] rfl) hk
        · have h := vz_f c4 h
          refine lv_iinc (v := (x2 + 1)) (lv' := [(2, .int (x2 + 1)), (0, .ref (ad 0)), (1, .int x1), (3, .int x3)]) hx hb dX10_finds_45 hl (k := 2) rfl rfl (by decide) rfl (fun ls hl => ?_)
          refine lv_iinc (v := (x3 + 1)) (lv' := [(3, .int (x3 + 1)), (2, .int (x2 + 1)), (0, .ref (ad 0)), (1, .int x1)]) hx hb dX10_finds_48 hl (k := 3) rfl rfl (by decide) rfl (fun ls hl => ?_)
          refine lv_goto (tgt := 19) hx hb dX10_finds_51 (by decide) ?_
          exact ih (x2 + 1) (x3 + 1) ls o h hP hS (lv_sub hl [2, 3, 1, 0] rfl) hk
  rw [pX10_finds] at h
  refine lv_iload_n hx hb dX10_finds_0 rfl (lv_at hl 1 rfl) ?_
  refine lv_iconst (v := (0 : Int32)) hx hb dX10_finds_1 (by decide) ?_
  refine lv_iconst (v := (3 : Int32)) hx hb dX10_finds_2 (by decide) ?_
  obtain ⟨r6, hc5, h⟩ := vz_b h
  refine za_callR (va_runS (As := [.int a1, .int (0 : Int32), .int (3 : Int32)]) (rest := []) ⟨hx, hb, hml, hown, hts⟩ (k_X10_isWithin l hc5) (va_cwS 3 hts gX10_finds_X10_isWithin rfl rfl rfl zd_X10_isWithin ⟨Nat.le_of_ble_eq_true rfl, Nat.le_of_ble_eq_true rfl⟩) xPre0 rfl rfl hl.1 rfl (lv_room (Nat.le_of_ble_eq_true rfl)) dX10_finds_3 ⟨Nat.zero_le _, Nat.zero_le _⟩) ?_
  refine lv_if_ne (tgt := 15) hx hb dX10_finds_6 (by decide) (fun c7 => ?_) (fun c7 => ?_)
  · have h := vz_f c7 h
    refine lv_iconst (v := (0 : Int32)) hx hb dX10_finds_15 (by decide) ?_
    refine lv_istore_n (lv' := [(2, .int (0 : Int32)), (0, .ref (ad 0)), (1, .int a1)]) hx hb dX10_finds_16 rfl hl (by decide) rfl (fun ls hl => ?_)
    refine lv_iconst (v := (0 : Int32)) hx hb dX10_finds_17 (by decide) ?_
    refine lv_istore_n (lv' := [(3, .int (0 : Int32)), (2, .int (0 : Int32)), (0, .ref (ad 0)), (1, .int a1)]) hx hb dX10_finds_18 rfl hl (by decide) rfl (fun ls hl => ?_)
    obtain ⟨o8, hL9, h⟩ := vz_b h
    refine L19 u v _ _ a1 fuel (0 : Int32) (0 : Int32) ls o8 hL9 hP hS (lv_sub hl [2, 3, 1, 0] rfl) (fun y11 ls e10 hl => ?_)
    try rw [e10] at h
    try dsimp only at h
    refine lv_iload_n hx hb dX10_finds_54 rfl (lv_at hl 0 rfl) ?_
    cases h
    exact W.iret hx hb hr (fun t ht _ => ⟨rfl, by rw [ht]; exact hP, hS.F ht⟩) hS.2.2 dX10_finds_55
  · have h := vz_t c7 h
    refine lv_aload_n hx hb dX10_finds_9 rfl (lv_at hl 0 rfl) ?_
    refine lv_iconst (v := (-1 : Int32)) hx hb dX10_finds_10 (by decide) ?_
    obtain ⟨⟨r16, u13, v14⟩, hc12, h⟩ := vz_b h
    try dsimp only at h
    refine za_callWi (va_runV (As := [.int (-1 : Int32)]) (rest := []) ⟨hx, hb, hml, hown, hts⟩ (k_X10_finding l (D := D) (cI := cI) (cJ := cJ) (ad := ad) hD hc12) (cwV 1 hts gX10_finds_X10_finding rfl rfl rfl ⟨rfl, zd_X10_finding⟩ ⟨Nat.le_of_ble_eq_true rfl, Nat.le_of_ble_eq_true rfl⟩) (xPreV (ci := 10) hK hP rfl zO_0) rfl rfl hl.1 rfl (lv_room (Nat.le_of_ble_eq_true rfl)) dX10_finds_11 ⟨Nat.zero_le _, Nat.zero_le _⟩) hS (fun H locs hP hS => ?_)
    cases h
    exact W.iret hx hb hr (fun t ht _ => ⟨rfl, by rw [ht]; exact hP, hS.F ht⟩) hS.2.2 dX10_finds_14
abbrev rmX10_lackOn : Room := { frames := 4, cells := 0, slots := 0, locals := 98 }
set_option maxHeartbeats 4000000 in
set_option maxRecDepth 100000 in
theorem k_X10_lackOn (l : Launch) {D : va_G} {cI cJ : ClassId} {ad : Nat → Nat} {u : tU} {v : tV} {A : Nat → Prop} (hD : zD A cI cJ ad) {a1 : Int32}  {r : Int32} {uz : tU} {vz : tV} (h : pX10_lackOn u v a1 = some (r, uz, vz)) : Met l yX10_lackOn wsX10_lackOn rmX10_lackOn (va_Pc [.ref (ad 0), .int a1] (xPre D cI cJ (wA cI cJ ad u v))) (xWi D cI cJ ad A r uz vz) 0 0 A := by
  refine Met.ofW (cc := cX10_lackOn) (maxL := 2) (ret := (some .int)) (by decide) rfl ?_
  intro p e s m args below meth c s₁ B hml hv
  obtain ⟨rfl, hP, hK⟩ := hv
  have hx := B.exec
  have hb := B.bytes
  have hr := B.returns
  have hts := atoms_spec (ws := wsX10_lackOn) B.pre
  have hown : s.vm.findClass RX10 = some m.cls := findClass_of_methodNamed B.named
  have hlocks := B.notSynchronized
  have hS : va_S A s.heap s.heap [] := va_S.rf
  have hin0 : ∀ w ∈ u_ws RX0 TX0 8, w ∈ wsX10_lackOn := fun _ h => List.mem_cons_of_mem _ (List.mem_append_left _ (List.mem_append_left _ (List.mem_append_left _ (List.mem_append_left _ (List.mem_append_left _ (List.mem_append_right _ h))))))
  have hin5 : ∀ w ∈ u_ws RX5 TX5 3, w ∈ wsX10_lackOn := fun _ h => List.mem_cons_of_mem _ (List.mem_append_left _ (List.mem_append_left _ (List.mem_append_left _ (List.mem_append_left _ (List.mem_append_right _ h)))))
  have hin10 : ∀ w ∈ u_ws RX10 TX10 7, w ∈ wsX10_lackOn := fun _ h => List.mem_cons_of_mem _ (List.mem_append_left _ (List.mem_append_left _ (List.mem_append_left _ (List.mem_append_left _ (List.mem_append_left _ (List.mem_append_left _ (List.mem_append_right _ h)))))))
  have hw1 := hts (.fieldLink RX10 36 "InstallDesk" "match" "LInstallDesk$Match;") (List.mem_of_getElem? (i := 1) rfl)
  have hw2 := hts (.fieldLink RX10 19 "InstallDesk" "books" "LInstallDesk$Books;") (List.mem_of_getElem? (i := 2) rfl)
  have hw3 := hts (.fieldLink RX10 29 "InstallDesk" "holdings" "LInstallDesk$Holdings;") (List.mem_of_getElem? (i := 3) rfl)
  have hw4 := hts (.instanceMethod yX5_begin) (List.mem_of_getElem? (i := 4) rfl)
  have hw5 := hts (.initialized RX5) (List.mem_of_getElem? (i := 5) rfl)
  have hw6 := hts (.selects RX5 yX5_begin yX5_begin) (List.mem_of_getElem? (i := 6) rfl)
  have hw14 := hts (.instanceMethod yX5_serveAll) (List.mem_of_getElem? (i := 14) rfl)
  have hw15 := hts (.selects RX5 yX5_serveAll yX5_serveAll) (List.mem_of_getElem? (i := 15) rfl)
  have hl := lv_entry ([.ref (ad 0), .int a1]) (n := 2) (Nat.le_of_ble_eq_true rfl)
  rw [lg_entry_eq]
  generalize (lg_sl ([.ref (ad 0), .int a1]) ++ List.replicate (2 - (lg_sl ([.ref (ad 0), .int a1])).length) Slot.unset).toArray = ls at hl ⊢
  have hl : lv_has ls 2 [(0, .ref (ad 0)), (1, .int a1)] := hl
  rw [pX10_lackOn] at h
  refine lv_aload_n hx hb dX10_lackOn_0 rfl (lv_at hl 0 rfl) ?_
  refine za_getr (k := 4) hx hb hts hin10 hown hK hP zF_0_4 rfl (Nat.le_of_ble_eq_true rfl) (Or.inl hw1) dX10_lackOn_1 ?_
  refine lv_aload_n hx hb dX10_lackOn_4 rfl (lv_at hl 0 rfl) ?_
  refine za_getr (k := 1) hx hb hts hin10 hown hK hP zF_0_1 rfl (Nat.le_of_ble_eq_true rfl) (Or.inl hw2) dX10_lackOn_5 ?_
  refine za_getr (k := 5) hx hb hts hin0 hown hK hP zF_2_5 rfl (Nat.le_of_ble_eq_true rfl) (nw_226 hK.2) dX10_lackOn_8 ?_
  refine lv_iload_n hx hb dX10_lackOn_11 rfl (lv_at hl 1 rfl) ?_
  obtain ⟨⟨u2, v3⟩, hc1, h⟩ := vz_b h
  try dsimp only at h
  refine za_callWv (va_runVN (As := [.ref (ad 24), .int a1]) (rest := []) ⟨hx, hb, hml, hown, hts⟩ (k_X5_begin l (D := D) (cI := cI) (cJ := cJ) (ad := ad) hD hc1) ⟨va_cnB 2 hts gX10_lackOn_X5_begin_n216 rfl rfl rfl (nw_622 hK.2) hw5 zd_X5_begin ⟨Nat.le_of_ble_eq_true rfl, Nat.le_of_ble_eq_true rfl⟩, hw4, hw6⟩ (xPreV (ci := 5) hK hP rfl zO_62) rfl rfl hl.1 rfl (lv_room (Nat.le_of_ble_eq_true rfl)) dX10_lackOn_12 ⟨Nat.zero_le _, Nat.zero_le _⟩) hS (fun H locs hP hS => ?_)
  refine lv_aload_n hx hb dX10_lackOn_15 rfl (lv_at hl 0 rfl) ?_
  refine za_getr (k := 4) hx hb hts hin10 hown hK hP zF_0_4 rfl (Nat.le_of_ble_eq_true rfl) (Or.inl hw1) dX10_lackOn_16 ?_
  refine lv_aload_n hx hb dX10_lackOn_19 rfl (lv_at hl 0 rfl) ?_
  refine za_getr (k := 1) hx hb hts hin10 hown hK hP zF_0_1 rfl (Nat.le_of_ble_eq_true rfl) (Or.inl hw2) dX10_lackOn_20 ?_
  refine lv_aload_n hx hb dX10_lackOn_23 rfl (lv_at hl 0 rfl) ?_
  refine za_getr (k := 3) hx hb hts hin10 hown hK hP zF_0_3 rfl (Nat.le_of_ble_eq_true rfl) (Or.inl hw3) dX10_lackOn_24 ?_
  obtain ⟨⟨u6, v7⟩, hc5, h⟩ := vz_b h
  try dsimp only at h
  refine za_callWv (va_runVN (As := [.ref (ad 2), .ref (ad 60)]) (rest := []) ⟨hx, hb, hml, hown, hts⟩ (k_X5_serveAll l (D := D) (cI := cI) (cJ := cJ) (ad := ad) hD hc5) ⟨va_cnB 2 hts gX10_lackOn_X5_serveAll_n220 rfl rfl rfl (nw_627 hK.2) hw5 zd_X5_serveAll ⟨Nat.le_of_ble_eq_true rfl, Nat.le_of_ble_eq_true rfl⟩, hw14, hw15⟩ (xPreV (ci := 5) hK hP rfl zO_62) rfl rfl hl.1 rfl (lv_room (Nat.le_of_ble_eq_true rfl)) dX10_lackOn_27 ⟨Nat.zero_le _, Nat.zero_le _⟩) hS (fun H locs hP hS => ?_)
  refine lv_aload_n hx hb dX10_lackOn_30 rfl (lv_at hl 0 rfl) ?_
  refine za_getr (k := 4) hx hb hts hin10 hown hK hP zF_0_4 rfl (Nat.le_of_ble_eq_true rfl) (Or.inl hw1) dX10_lackOn_31 ?_
  refine za_geti (k := 1) hx hb hts hin5 hown hK hP zF_62_1 rfl (Nat.le_of_ble_eq_true rfl) (nw_266 hK.2) dX10_lackOn_34 ?_
  cases h
  exact W.iret hx hb hr (fun t ht _ => ⟨rfl, by rw [ht]; exact hP, hS.F ht⟩) hS.2.2 dX10_lackOn_37
abbrev rmX10_firstDayAbove : Room := { frames := 5, cells := 0, slots := 0, locals := 119 }
set_option maxHeartbeats 4000000 in
set_option maxRecDepth 100000 in
theorem k_X10_firstDayAbove (l : Launch) {D : va_G} {cI cJ : ClassId} {ad : Nat → Nat} {u : tU} {v : tV} {A : Nat → Prop} (hD : zD A cI cJ ad) {a1 : Int32}  {r : Int32} {uz : tU} {vz : tV} (h : pX10_firstDayAbove u v a1 = some (r, uz, vz)) : Met l yX10_firstDayAbove wsX10_firstDayAbove rmX10_firstDayAbove (va_Pc [.ref (ad 0), .int a1] (xPre D cI cJ (wA cI cJ ad u v))) (xWi D cI cJ ad A r uz vz) 0 0 A := by
  refine Met.ofW (cc := cX10_firstDayAbove) (maxL := 5) (ret := (some .int)) (by decide) rfl ?_
  intro p e s m args below meth c s₁ B hml hv
  obtain ⟨rfl, hP, hK⟩ := hv
  have hx := B.exec
  have hb := B.bytes
  have hr := B.returns
  have hts := atoms_spec (ws := wsX10_firstDayAbove) B.pre
  have hown : s.vm.findClass RX10 = some m.cls := findClass_of_methodNamed B.named
  have hlocks := B.notSynchronized
  have hS : va_S A s.heap s.heap [] := va_S.rf
  have hin0 : ∀ w ∈ u_ws RX0 TX0 8, w ∈ wsX10_firstDayAbove := fun _ h => List.mem_cons_of_mem _ (List.mem_append_left _ (List.mem_append_left _ (List.mem_append_left _ (List.mem_append_left _ (List.mem_append_left _ (List.mem_append_right _ h))))))
  have hin7 : ∀ w ∈ u_ws RX7 TX7 7, w ∈ wsX10_firstDayAbove := fun _ h => List.mem_cons_of_mem _ (List.mem_append_left _ (List.mem_append_left _ (List.mem_append_left _ (List.mem_append_left _ (List.mem_append_right _ h)))))
  have hin10 : ∀ w ∈ u_ws RX10 TX10 7, w ∈ wsX10_firstDayAbove := fun _ h => List.mem_cons_of_mem _ (List.mem_append_left _ (List.mem_append_left _ (List.mem_append_left _ (List.mem_append_left _ (List.mem_append_left _ (List.mem_append_left _ (List.mem_append_right _ h)))))))
  have hw1 := hts (.fieldLink RX10 19 "InstallDesk" "books" "LInstallDesk$Books;") (List.mem_of_getElem? (i := 1) rfl)
  have hl := lv_entry ([.ref (ad 0), .int a1]) (n := 5) (Nat.le_of_ble_eq_true rfl)
  rw [lg_entry_eq]
  generalize (lg_sl ([.ref (ad 0), .int a1]) ++ List.replicate (5 - (lg_sl ([.ref (ad 0), .int a1])).length) Slot.unset).toArray = ls at hl ⊢
  have hl : lv_has ls 5 [(0, .ref (ad 0)), (1, .int a1)] := hl
  have L29 : ∀ (x1 : Int32) (n : Nat) (x2 : Int32) (x3 : Int32) (u : tU) (v : tV) (H : Heap) (locs : List Loc) (ls : Array Slot) (o : Int32 × tU × tV), pX10_firstDayAbove_L29 x1 n x2 x3 u v = some o → va_P D vwCl (wA cI cJ ad u v) H → va_S A s.heap H locs → lv_has ls 5 [(0, .ref (ad 0)), (1, .int x1), (2, .int x2), (3, .int x3)] → (∀ (y2 : Int32) (u' : tU) (v' : tV) (H : Heap) (locs : List Loc) (ls : Array Slot), o = (y2, u', v') → va_P D vwCl (wA cI cJ ad u' v') H → va_S A s.heap H locs → lv_has ls 5 [(2, .int y2)] → W p l e (headSpec wsX10_firstDayAbove rmX10_firstDayAbove).room s m [Value.ref (ad 0), Value.int a1].toArray below meth c H locs 0 0 (MQ below (xWi D cI cJ ad A r uz vz) [Value.ref (ad 0), Value.int a1].toArray s 0 0 A) (F0 m 96 ls [])) → W p l e (headSpec wsX10_firstDayAbove rmX10_firstDayAbove).room s m [Value.ref (ad 0), Value.int a1].toArray below meth c H locs 0 0 (MQ below (xWi D cI cJ ad A r uz vz) [Value.ref (ad 0), Value.int a1].toArray s 0 0 A) (F0 m 29 ls []) := by
    intro x1 n
    induction n with
    | zero => intro x2 x3 u v H locs ls o h; cases h
    | succ n ih =>
      intro x2 x3 u v H locs ls o h hP hS hl hk
      rw [pX10_firstDayAbove_L29] at h
      refine lv_iload_n hx hb dX10_firstDayAbove_29 rfl (lv_at hl 3 rfl) ?_
      refine lv_aload_n hx hb dX10_firstDayAbove_30 rfl (lv_at hl 0 rfl) ?_
      refine za_getr (k := 1) hx hb hts hin10 hown hK hP zF_0_1 rfl (Nat.le_of_ble_eq_true rfl) (Or.inl hw1) dX10_firstDayAbove_31 ?_
      refine za_getr (k := 5) hx hb hts hin0 hown hK hP zF_2_5 rfl (Nat.le_of_ble_eq_true rfl) (nw_226 hK.2) dX10_firstDayAbove_34 ?_
      refine za_geti (k := 0) hx hb hts hin7 hown hK hP zF_24_0 rfl (Nat.le_of_ble_eq_true rfl) (nw_178 hK.2) dX10_firstDayAbove_37 ?_
      refine lv_icmp_ge (tgt := 96) hx hb dX10_firstDayAbove_40 (by decide) (fun c1 => ?_) (fun c1 => ?_)
      · have h := vz_t c1 h
        cases h
        exact hk x2 u v _ _ ls rfl hP hS (lv_sub hl [2] rfl)
      · have h := vz_f c1 h
        refine lv_aload_n hx hb dX10_firstDayAbove_43 rfl (lv_at hl 0 rfl) ?_
        refine za_getr (k := 1) hx hb hts hin10 hown hK hP zF_0_1 rfl (Nat.le_of_ble_eq_true rfl) (Or.inl hw1) dX10_firstDayAbove_44 ?_
        refine za_getr (k := 5) hx hb hts hin0 hown hK hP zF_2_5 rfl (Nat.le_of_ble_eq_true rfl) (nw_226 hK.2) dX10_firstDayAbove_47 ?_
        refine za_getr (k := 6) hx hb hts hin7 hown hK hP zF_24_6 rfl (Nat.le_of_ble_eq_true rfl) (nw_193 hK.2) dX10_firstDayAbove_50 ?_
        refine lv_iload_n hx hb dX10_firstDayAbove_53 rfl (lv_at hl 3 rfl) ?_
        obtain ⟨g2, h⟩ := gd_s h
        refine za_ild hx hb hK hP zI_30 g2 dX10_firstDayAbove_54 ?_
        refine lv_iconst (v := (1 : Int32)) hx hb dX10_firstDayAbove_55 (by decide) ?_
        refine lv_iadd hx hb dX10_firstDayAbove_56 ?_
        refine lv_istore (lv' := [(4, .int ((u 30 x3.toNatClampNeg) + (1 : Int32))), (0, .ref (ad 0)), (1, .int x1), (2, .int x2), (3, .int x3)]) hx hb dX10_firstDayAbove_57 hl (by decide) rfl (fun ls hl => ?_)
        refine lv_iload hx hb dX10_firstDayAbove_59 (lv_at hl 0 rfl) ?_
        refine lv_aload_n hx hb dX10_firstDayAbove_61 rfl (lv_at hl 1 rfl) ?_
        refine za_getr (k := 1) hx hb hts hin10 hown hK hP zF_0_1 rfl (Nat.le_of_ble_eq_true rfl) (Or.inl hw1) dX10_firstDayAbove_62 ?_
        refine za_geti (k := 6) hx hb hts hin0 hown hK hP zF_2_6 rfl (Nat.le_of_ble_eq_true rfl) (nw_228 hK.2) dX10_firstDayAbove_65 ?_
        refine lv_icmp_le (tgt := 90) hx hb dX10_firstDayAbove_68 (by decide) (fun c3 => ?_) (fun c3 => ?_)
        · have h := vz_t c3 h
          refine lv_iinc (v := (x3 + 1)) (lv' := [(3, .int (x3 + 1)), (4, .int ((u 30 x3.toNatClampNeg) + (1 : Int32))), (0, .ref (ad 0)), (1, .int x1), (2, .int x2)]) hx hb dX10_firstDayAbove_90 hl (k := 4) rfl rfl (by decide) rfl (fun ls hl => ?_)
          refine lv_goto (tgt := 29) hx hb dX10_firstDayAbove_93 (by decide) ?_
          exact ih x2 (x3 + 1) u v _ _ ls o h hP hS (lv_sub hl [2, 3, 4, 0] rfl) hk
        · have h := vz_f c3 h
          refine lv_iload hx hb dX10_firstDayAbove_71 (lv_at hl 0 rfl) ?_
          refine lv_iload_n hx hb dX10_firstDayAbove_73 rfl (lv_at hl 3 rfl) ?_
          refine lv_icmp_ge (tgt := 90) hx hb dX10_firstDayAbove_74 (by decide) (fun c4 => ?_) (fun c4 => ?_)
          · have h := vz_t c4 h
            refine lv_iinc (v := (x3 + 1)) (lv' := [(3, .int (x3 + 1)), (4, .int ((u 30 x3.toNatClampNeg) + (1 : Int32))), (0, .ref (ad 0)), (1, .int x1), (2, .int x2)]) hx hb dX10_firstDayAbove_90 hl (k := 4) rfl rfl (by decide) rfl (fun ls hl => ?_)
            refine lv_goto (tgt := 29) hx hb dX10_firstDayAbove_93 (by decide) ?_
            exact ih x2 (x3 + 1) u v _ _ ls o h hP hS (lv_sub hl [2, 3, 4, 0] rfl) hk
          · have h := vz_f c4 h
            refine lv_aload_n hx hb dX10_firstDayAbove_77 rfl (lv_at hl 1 rfl) ?_
            refine lv_iload hx hb dX10_firstDayAbove_78 (lv_at hl 0 rfl) ?_
            obtain ⟨⟨r9, u6, v7⟩, hc5, h⟩ := vz_b h
            try dsimp only at h
            refine za_callWi (va_runV (As := [.int ((u 30 x3.toNatClampNeg) + (1 : Int32))]) (rest := []) ⟨hx, hb, hml, hown, hts⟩ (k_X10_lackOn l (D := D) (cI := cI) (cJ := cJ) (ad := ad) hD hc5) (cwV 1 hts gX10_firstDayAbove_X10_lackOn rfl rfl rfl ⟨rfl, zd_X10_lackOn⟩ ⟨Nat.le_of_ble_eq_true rfl, Nat.le_of_ble_eq_true rfl⟩) (xPreV (ci := 10) hK hP rfl zO_0) rfl rfl hl.1 rfl (lv_room (Nat.le_of_ble_eq_true rfl)) dX10_firstDayAbove_80 ⟨Nat.zero_le _, Nat.zero_le _⟩) hS (fun H locs hP hS => ?_)
            refine lv_iload_n hx hb dX10_firstDayAbove_83 rfl (lv_at hl 2 rfl) ?_
            refine lv_icmp_le (tgt := 90) hx hb dX10_firstDayAbove_84 (by decide) (fun c10 => ?_) (fun c10 => ?_)
            · have h := vz_t c10 h
              refine lv_iinc (v := (x3 + 1)) (lv' := [(3, .int (x3 + 1)), (4, .int ((u 30 x3.toNatClampNeg) + (1 : Int32))), (0, .ref (ad 0)), (1, .int x1), (2, .int x2)]) hx hb dX10_firstDayAbove_90 hl (k := 4) rfl rfl (by decide) rfl (fun ls hl => ?_)
              refine lv_goto (tgt := 29) hx hb dX10_firstDayAbove_93 (by decide) ?_
              exact ih x2 (x3 + 1) u6 v7 _ _ ls o h hP hS (lv_sub hl [2, 3, 4, 0] rfl) hk
            · have h := vz_f c10 h
              refine lv_iload hx hb dX10_firstDayAbove_87 (lv_at hl 0 rfl) ?_
              refine lv_istore_n (lv' := [(2, .int ((u 30 x3.toNatClampNeg) + (1 : Int32))), (4, .int ((u 30 x3.toNatClampNeg) + (1 : Int32))), (0, .ref (ad 0)), (1, .int x1), (3, .int x3)]) hx hb dX10_firstDayAbove_89 rfl hl (by decide) rfl (fun ls hl => ?_)
              refine lv_iinc (v := (x3 + 1)) (lv' := [(3, .int (x3 + 1)), (2, .int ((u 30 x3.toNatClampNeg) + (1 : Int32))), (4, .int ((u 30 x3.toNatClampNeg) + (1 : Int32))), (0, .ref (ad 0)), (1, .int x1)]) hx hb dX10_firstDayAbove_90 hl (k := 4) rfl rfl (by decide) rfl (fun ls hl => ?_)
              refine lv_goto (tgt := 29) hx hb dX10_firstDayAbove_93 (by decide) ?_
              exact ih ((u 30 x3.toNatClampNeg) + (1 : Int32)) (x3 + 1) u6 v7 _ _ ls o h hP hS (lv_sub hl [3, 4, 1, 0] rfl) hk
  rw [pX10_firstDayAbove] at h
  refine lv_aload_n hx hb dX10_firstDayAbove_0 rfl (lv_at hl 0 rfl) ?_
  refine lv_aload_n hx hb dX10_firstDayAbove_1 rfl (lv_at hl 0 rfl) ?_
  refine za_getr (k := 1) hx hb hts hin10 hown hK hP zF_0_1 rfl (Nat.le_of_ble_eq_true rfl) (Or.inl hw1) dX10_firstDayAbove_2 ?_
  refine za_geti (k := 6) hx hb hts hin0 hown hK hP zF_2_6 rfl (Nat.le_of_ble_eq_true rfl) (nw_228 hK.2) dX10_firstDayAbove_5 ?_
  obtain ⟨⟨r15, u12, v13⟩, hc11, h⟩ := vz_b h
  try dsimp only at h
  refine za_callWi (va_runV (As := [.int (u 10 6)]) (rest := []) ⟨hx, hb, hml, hown, hts⟩ (k_X10_lackOn l (D := D) (cI := cI) (cJ := cJ) (ad := ad) hD hc11) (cwV 1 hts gX10_firstDayAbove_X10_lackOn rfl rfl rfl ⟨rfl, zd_X10_lackOn⟩ ⟨Nat.le_of_ble_eq_true rfl, Nat.le_of_ble_eq_true rfl⟩) (xPreV (ci := 10) hK hP rfl zO_0) rfl rfl hl.1 rfl (lv_room (Nat.le_of_ble_eq_true rfl)) dX10_firstDayAbove_8 ⟨Nat.zero_le _, Nat.zero_le _⟩) hS (fun H locs hP hS => ?_)
  refine lv_iload_n hx hb dX10_firstDayAbove_11 rfl (lv_at hl 1 rfl) ?_
  refine lv_icmp_le (tgt := 23) hx hb dX10_firstDayAbove_12 (by decide) (fun c16 => ?_) (fun c16 => ?_)
  · have h := vz_t c16 h
    refine lv_sipush (v := (10000 : Int32)) hx hb dX10_firstDayAbove_23 (by decide) ?_
    refine lv_istore_n (lv' := [(2, .int (10000 : Int32)), (0, .ref (ad 0)), (1, .int a1)]) hx hb dX10_firstDayAbove_26 rfl hl (by decide) rfl (fun ls hl => ?_)
    refine lv_iconst (v := (0 : Int32)) hx hb dX10_firstDayAbove_27 (by decide) ?_
    refine lv_istore_n (lv' := [(3, .int (0 : Int32)), (2, .int (10000 : Int32)), (0, .ref (ad 0)), (1, .int a1)]) hx hb dX10_firstDayAbove_28 rfl hl (by decide) rfl (fun ls hl => ?_)
    obtain ⟨o17, hL18, h⟩ := vz_b h
    refine L29 a1 fuel (10000 : Int32) (0 : Int32) u12 v13 _ _ ls o17 hL18 hP hS (lv_sub hl [2, 3, 1, 0] rfl) (fun y20 u21 v22 H locs ls e19 hP hS hl => ?_)
    try rw [e19] at h
    try dsimp only at h
    refine lv_iload_n hx hb dX10_firstDayAbove_96 rfl (lv_at hl 0 rfl) ?_
    cases h
    exact W.iret hx hb hr (fun t ht _ => ⟨rfl, by rw [ht]; exact hP, hS.F ht⟩) hS.2.2 dX10_firstDayAbove_97
  · have h := vz_f c16 h
    refine lv_aload_n hx hb dX10_firstDayAbove_15 rfl (lv_at hl 0 rfl) ?_
    refine za_getr (k := 1) hx hb hts hin10 hown hK hP zF_0_1 rfl (Nat.le_of_ble_eq_true rfl) (Or.inl hw1) dX10_firstDayAbove_16 ?_
    refine za_geti (k := 6) hx hb hts hin0 hown hK hP zF_2_6 rfl (Nat.le_of_ble_eq_true rfl) (nw_228 hK.2) dX10_firstDayAbove_19 ?_
    cases h
    exact W.iret hx hb hr (fun t ht _ => ⟨rfl, by rw [ht]; exact hP, hS.F ht⟩) hS.2.2 dX10_firstDayAbove_22
abbrev rmX8_isOne : Room := { frames := 0, cells := 0, slots := 0, locals := 0 }
set_option maxHeartbeats 4000000 in
set_option maxRecDepth 100000 in
theorem k_X8_isOne (l : Launch) {D : va_G} {cI cJ : ClassId} {ad : Nat → Nat} {u : tU} {v : tV} {a1 : Int32}  {r : Int32}  (h : pX8_isOne u v a1 = some r) : Met l yX8_isOne wsX8_isOne rmX8_isOne (va_Pc [.ref (ad 7), .int a1] (xPre D cI cJ (wA cI cJ ad u v))) (QcRead r) 0 0 (fun _ => False) := by
  refine Met.ofW (cc := cX8_isOne) (maxL := 2) (ret := (some .boolean)) (by decide) rfl ?_
  intro p e s m args below meth c s₁ B hml hv
  obtain ⟨rfl, hP, hK⟩ := hv
  have hx := B.exec
  have hb := B.bytes
  have hr := B.returns
  have hts := atoms_spec (ws := wsX8_isOne) B.pre
  have hown : s.vm.findClass RX8 = some m.cls := findClass_of_methodNamed B.named
  have hlocks := B.notSynchronized
  have hin8 : ∀ w ∈ u_ws RX8 TX8 4, w ∈ wsX8_isOne := fun _ h => List.mem_cons_of_mem _ (List.mem_append_right _ h)
  have hw1 := hts (.fieldLink RX8 22 "InstallDesk$Rules" "count" "I") (List.mem_of_getElem? (i := 1) rfl)
  have hl := lv_entry ([.ref (ad 7), .int a1]) (n := 2) (Nat.le_of_ble_eq_true rfl)
  rw [lg_entry_eq]
  generalize (lg_sl ([.ref (ad 7), .int a1]) ++ List.replicate (2 - (lg_sl ([.ref (ad 7), .int a1])).length) Slot.unset).toArray = ls at hl ⊢
  have hl : lv_has ls 2 [(0, .ref (ad 7)), (1, .int a1)] := hl
  rw [pX8_isOne] at h
  refine lv_iload_n hx hb dX8_isOne_0 rfl (lv_at hl 1 rfl) ?_
  refine lv_if_lt (tgt := 16) hx hb dX8_isOne_1 (by decide) (fun c1 => ?_) (fun c1 => ?_)
  · have h := vz_t c1 h
    refine lv_iconst (v := (0 : Int32)) hx hb dX8_isOne_16 (by decide) ?_
    cases h
    exact W.zret hx hb hr nb0 (fun t ht _ => ⟨rfl, ht⟩) (fun q hq => absurd hq List.not_mem_nil) dX8_isOne_17
  · have h := vz_f c1 h
    refine lv_iload_n hx hb dX8_isOne_4 rfl (lv_at hl 1 rfl) ?_
    refine lv_aload_n hx hb dX8_isOne_5 rfl (lv_at hl 0 rfl) ?_
    refine za_geti (k := 0) hx hb hts hin8 hown hK hP zF_7_0 rfl (Nat.le_of_ble_eq_true rfl) (Or.inl hw1) dX8_isOne_6 ?_
    refine lv_icmp_ge (tgt := 16) hx hb dX8_isOne_9 (by decide) (fun c2 => ?_) (fun c2 => ?_)
    · have h := vz_t c2 h
      refine lv_iconst (v := (0 : Int32)) hx hb dX8_isOne_16 (by decide) ?_
      cases h
      exact W.zret hx hb hr nb0 (fun t ht _ => ⟨rfl, ht⟩) (fun q hq => absurd hq List.not_mem_nil) dX8_isOne_17
    · have h := vz_f c2 h
      refine lv_iconst (v := (1 : Int32)) hx hb dX8_isOne_12 (by decide) ?_
      refine lv_goto (tgt := 17) hx hb dX8_isOne_13 (by decide) ?_
      cases h
      exact W.zret hx hb hr nb1 (fun t ht _ => ⟨rfl, ht⟩) (fun q hq => absurd hq List.not_mem_nil) dX8_isOne_17
abbrev rmX10_fits : Room := { frames := 2, cells := 0, slots := 0, locals := 51 }
set_option maxHeartbeats 4000000 in
set_option maxRecDepth 100000 in
theorem k_X10_fits (l : Launch) {D : va_G} {cI cJ : ClassId} {ad : Nat → Nat} {u : tU} {v : tV} {A : Nat → Prop} (hD : zD A cI cJ ad) {a1 : Int32} {a2 : Int32}  {r : Int32} {uz : tU} {vz : tV} (h : pX10_fits u v a1 a2 = some (r, uz, vz)) : Met l yX10_fits wsX10_fits rmX10_fits (va_Pc [.ref (ad 0), .int a1, .int a2] (xPre D cI cJ (wA cI cJ ad u v))) (xWi D cI cJ ad A r uz vz) 0 0 A := by
  refine Met.ofW (cc := cX10_fits) (maxL := 3) (ret := (some .int)) (by decide) rfl ?_
  intro p e s m args below meth c s₁ B hml hv
  obtain ⟨rfl, hP, hK⟩ := hv
  have hx := B.exec
  have hb := B.bytes
  have hr := B.returns
  have hts := atoms_spec (ws := wsX10_fits) B.pre
  have hown : s.vm.findClass RX10 = some m.cls := findClass_of_methodNamed B.named
  have hlocks := B.notSynchronized
  have hS : va_S A s.heap s.heap [] := va_S.rf
  have hin0 : ∀ w ∈ u_ws RX0 TX0 8, w ∈ wsX10_fits := fun _ h => List.mem_cons_of_mem _ (List.mem_append_left _ (List.mem_append_left _ (List.mem_append_right _ h)))
  have hin10 : ∀ w ∈ u_ws RX10 TX10 7, w ∈ wsX10_fits := fun _ h => List.mem_cons_of_mem _ (List.mem_append_left _ (List.mem_append_left _ (List.mem_append_left _ (List.mem_append_right _ h))))
  have hw1 := hts (.fieldLink RX10 19 "InstallDesk" "books" "LInstallDesk$Books;") (List.mem_of_getElem? (i := 1) rfl)
  have hw2 := hts (.instanceMethod yX8_isOne) (List.mem_of_getElem? (i := 2) rfl)
  have hw3 := hts (.initialized RX8) (List.mem_of_getElem? (i := 3) rfl)
  have hw4 := hts (.selects RX8 yX8_isOne yX8_isOne) (List.mem_of_getElem? (i := 4) rfl)
  have hw7 := hts (.instanceMethod yX1_isOne) (List.mem_of_getElem? (i := 7) rfl)
  have hw8 := hts (.initialized RX1) (List.mem_of_getElem? (i := 8) rfl)
  have hw9 := hts (.selects RX1 yX1_isOne yX1_isOne) (List.mem_of_getElem? (i := 9) rfl)
  have hw18 := hts (.instanceMethod yX0_isFitting) (List.mem_of_getElem? (i := 18) rfl)
  have hw19 := hts (.initialized RX0) (List.mem_of_getElem? (i := 19) rfl)
  have hw20 := hts (.selects RX0 yX0_isFitting yX0_isFitting) (List.mem_of_getElem? (i := 20) rfl)
  have hl := lv_entry ([.ref (ad 0), .int a1, .int a2]) (n := 3) (Nat.le_of_ble_eq_true rfl)
  rw [lg_entry_eq]
  generalize (lg_sl ([.ref (ad 0), .int a1, .int a2]) ++ List.replicate (3 - (lg_sl ([.ref (ad 0), .int a1, .int a2])).length) Slot.unset).toArray = ls at hl ⊢
  have hl : lv_has ls 3 [(0, .ref (ad 0)), (1, .int a1), (2, .int a2)] := hl
  rw [pX10_fits] at h
  refine lv_aload_n hx hb dX10_fits_0 rfl (lv_at hl 0 rfl) ?_
  refine za_getr (k := 1) hx hb hts hin10 hown hK hP zF_0_1 rfl (Nat.le_of_ble_eq_true rfl) (Or.inl hw1) dX10_fits_1 ?_
  refine za_getr (k := 1) hx hb hts hin0 hown hK hP zF_2_1 rfl (Nat.le_of_ble_eq_true rfl) (nw_214 hK.2) dX10_fits_4 ?_
  refine lv_iload_n hx hb dX10_fits_7 rfl (lv_at hl 1 rfl) ?_
  obtain ⟨r2, hc1, h⟩ := vz_b h
  refine za_callR (va_runVN (As := [.int a1]) (rest := []) ⟨hx, hb, hml, hown, hts⟩ (k_X8_isOne l (D := D) (cI := cI) (cJ := cJ) (ad := ad) hc1) ⟨va_cnB 1 hts gX10_fits_X8_isOne_n99 rfl rfl rfl (nw_358 hK.2) hw3 zd_X8_isOne ⟨Nat.le_of_ble_eq_true rfl, Nat.le_of_ble_eq_true rfl⟩, hw2, hw4⟩ (xPreV (ci := 8) hK hP rfl zO_7) rfl rfl hl.1 rfl (lv_room (Nat.le_of_ble_eq_true rfl)) dX10_fits_8 ⟨Nat.zero_le _, Nat.zero_le _⟩) ?_
  refine lv_if_eq (tgt := 28) hx hb dX10_fits_11 (by decide) (fun c3 => ?_) (fun c3 => ?_)
  · have h := vz_t c3 h
    refine lv_aload_n hx hb dX10_fits_28 rfl (lv_at hl 0 rfl) ?_
    refine lv_iconst (v := (-1 : Int32)) hx hb dX10_fits_29 (by decide) ?_
    obtain ⟨⟨r8, u5, v6⟩, hc4, h⟩ := vz_b h
    try dsimp only at h
    refine za_callWi (va_runV (As := [.int (-1 : Int32)]) (rest := []) ⟨hx, hb, hml, hown, hts⟩ (k_X10_finding l (D := D) (cI := cI) (cJ := cJ) (ad := ad) hD hc4) (cwV 1 hts gX10_fits_X10_finding rfl rfl rfl ⟨rfl, zd_X10_finding⟩ ⟨Nat.le_of_ble_eq_true rfl, Nat.le_of_ble_eq_true rfl⟩) (xPreV (ci := 10) hK hP rfl zO_0) rfl rfl hl.1 rfl (lv_room (Nat.le_of_ble_eq_true rfl)) dX10_fits_30 ⟨Nat.zero_le _, Nat.zero_le _⟩) hS (fun H locs hP hS => ?_)
    cases h
    exact W.iret hx hb hr (fun t ht _ => ⟨rfl, by rw [ht]; exact hP, hS.F ht⟩) hS.2.2 dX10_fits_33
  · have h := vz_f c3 h
    refine lv_aload_n hx hb dX10_fits_14 rfl (lv_at hl 0 rfl) ?_
    refine za_getr (k := 1) hx hb hts hin10 hown hK hP zF_0_1 rfl (Nat.le_of_ble_eq_true rfl) (Or.inl hw1) dX10_fits_15 ?_
    refine za_getr (k := 3) hx hb hts hin0 hown hK hP zF_2_3 rfl (Nat.le_of_ble_eq_true rfl) (nw_221 hK.2) dX10_fits_18 ?_
    refine lv_iload_n hx hb dX10_fits_21 rfl (lv_at hl 2 rfl) ?_
    obtain ⟨r10, hc9, h⟩ := vz_b h
    refine za_callR (va_runVN (As := [.int a2]) (rest := []) ⟨hx, hb, hml, hown, hts⟩ (k_X1_isOne l (D := D) (cI := cI) (cJ := cJ) (ad := ad) hc9) ⟨va_cnB 1 hts gX10_fits_X1_isOne_n107 rfl rfl rfl (nw_370 hK.2) hw8 zd_X1_isOne ⟨Nat.le_of_ble_eq_true rfl, Nat.le_of_ble_eq_true rfl⟩, hw7, hw9⟩ (xPreV (ci := 1) hK hP rfl zO_14) rfl rfl hl.1 rfl (lv_room (Nat.le_of_ble_eq_true rfl)) dX10_fits_22 ⟨Nat.zero_le _, Nat.zero_le _⟩) ?_
    refine lv_if_ne (tgt := 34) hx hb dX10_fits_25 (by decide) (fun c11 => ?_) (fun c11 => ?_)
    · have h := vz_f c11 h
      refine lv_aload_n hx hb dX10_fits_34 rfl (lv_at hl 0 rfl) ?_
      refine za_getr (k := 1) hx hb hts hin10 hown hK hP zF_0_1 rfl (Nat.le_of_ble_eq_true rfl) (Or.inl hw1) dX10_fits_35 ?_
      refine lv_iload_n hx hb dX10_fits_38 rfl (lv_at hl 1 rfl) ?_
      refine lv_iload_n hx hb dX10_fits_39 rfl (lv_at hl 2 rfl) ?_
      obtain ⟨r13, hc12, h⟩ := vz_b h
      refine za_callR (va_runVN (As := [.int a1, .int a2]) (rest := []) ⟨hx, hb, hml, hown, hts⟩ (k_X0_isFitting l (D := D) (cI := cI) (cJ := cJ) (ad := ad) hc12) ⟨va_cnB 2 hts gX10_fits_X0_isFitting_n110 rfl rfl rfl (nw_374 hK.2) hw19 zd_X0_isFitting ⟨Nat.le_of_ble_eq_true rfl, Nat.le_of_ble_eq_true rfl⟩, hw18, hw20⟩ (xPreV (ci := 0) hK hP rfl zO_2) rfl rfl hl.1 rfl (lv_room (Nat.le_of_ble_eq_true rfl)) dX10_fits_40 ⟨Nat.zero_le _, Nat.zero_le _⟩) ?_
      refine lv_if_eq (tgt := 50) hx hb dX10_fits_43 (by decide) (fun c14 => ?_) (fun c14 => ?_)
      · have h := vz_t c14 h
        refine lv_iconst (v := (0 : Int32)) hx hb dX10_fits_50 (by decide) ?_
        cases h
        exact W.iret hx hb hr (fun t ht _ => ⟨rfl, by rw [ht]; exact hP, hS.F ht⟩) hS.2.2 dX10_fits_51
      · have h := vz_f c14 h
        refine lv_iconst (v := (1 : Int32)) hx hb dX10_fits_46 (by decide) ?_
        refine lv_goto (tgt := 51) hx hb dX10_fits_47 (by decide) ?_
        cases h
        exact W.iret hx hb hr (fun t ht _ => ⟨rfl, by rw [ht]; exact hP, hS.F ht⟩) hS.2.2 dX10_fits_51
    · have h := vz_t c11 h
      refine lv_aload_n hx hb dX10_fits_28 rfl (lv_at hl 0 rfl) ?_
      refine lv_iconst (v := (-1 : Int32)) hx hb dX10_fits_29 (by decide) ?_
      obtain ⟨⟨r19, u16, v17⟩, hc15, h⟩ := vz_b h
      try dsimp only at h
      refine za_callWi (va_runV (As := [.int (-1 : Int32)]) (rest := []) ⟨hx, hb, hml, hown, hts⟩ (k_X10_finding l (D := D) (cI := cI) (cJ := cJ) (ad := ad) hD hc15) (cwV 1 hts gX10_fits_X10_finding rfl rfl rfl ⟨rfl, zd_X10_finding⟩ ⟨Nat.le_of_ble_eq_true rfl, Nat.le_of_ble_eq_true rfl⟩) (xPreV (ci := 10) hK hP rfl zO_0) rfl rfl hl.1 rfl (lv_room (Nat.le_of_ble_eq_true rfl)) dX10_fits_30 ⟨Nat.zero_le _, Nat.zero_le _⟩) hS (fun H locs hP hS => ?_)
      cases h
      exact W.iret hx hb hr (fun t ht _ => ⟨rfl, by rw [ht]; exact hP, hS.F ht⟩) hS.2.2 dX10_fits_33
abbrev rmX10_goes : Room := { frames := 4, cells := 0, slots := 0, locals := 99 }
set_option maxHeartbeats 4000000 in
set_option maxRecDepth 100000 in
theorem k_X10_goes (l : Launch) {D : va_G} {cI cJ : ClassId} {ad : Nat → Nat} {u : tU} {v : tV} {A : Nat → Prop} (hD : zD A cI cJ ad) {a1 : Int32}  {r : Int32} {uz : tU} {vz : tV} (h : pX10_goes u v a1 = some (r, uz, vz)) : Met l yX10_goes wsX10_goes rmX10_goes (va_Pc [.ref (ad 0), .int a1] (xPre D cI cJ (wA cI cJ ad u v))) (xWi D cI cJ ad A r uz vz) 0 0 A := by
  refine Met.ofW (cc := cX10_goes) (maxL := 3) (ret := (some .int)) (by decide) rfl ?_
  intro p e s m args below meth c s₁ B hml hv
  obtain ⟨rfl, hP, hK⟩ := hv
  have hx := B.exec
  have hb := B.bytes
  have hr := B.returns
  have hts := atoms_spec (ws := wsX10_goes) B.pre
  have hown : s.vm.findClass RX10 = some m.cls := findClass_of_methodNamed B.named
  have hlocks := B.notSynchronized
  have hS : va_S A s.heap s.heap [] := va_S.rf
  have hin0 : ∀ w ∈ u_ws RX0 TX0 8, w ∈ wsX10_goes := fun _ h => List.mem_cons_of_mem _ (List.mem_append_left _ (List.mem_append_left _ (List.mem_append_right _ h)))
  have hin10 : ∀ w ∈ u_ws RX10 TX10 7, w ∈ wsX10_goes := fun _ h => List.mem_cons_of_mem _ (List.mem_append_left _ (List.mem_append_left _ (List.mem_append_left _ (List.mem_append_right _ h))))
  have hw1 := hts (.fieldLink RX10 19 "InstallDesk" "books" "LInstallDesk$Books;") (List.mem_of_getElem? (i := 1) rfl)
  have hw2 := hts (.instanceMethod yX1_isOne) (List.mem_of_getElem? (i := 2) rfl)
  have hw3 := hts (.initialized RX1) (List.mem_of_getElem? (i := 3) rfl)
  have hw4 := hts (.selects RX1 yX1_isOne yX1_isOne) (List.mem_of_getElem? (i := 4) rfl)
  have hw13 := hts (.instanceMethod yX0_goalOf) (List.mem_of_getElem? (i := 13) rfl)
  have hw14 := hts (.initialized RX0) (List.mem_of_getElem? (i := 14) rfl)
  have hw15 := hts (.selects RX0 yX0_goalOf yX0_goalOf) (List.mem_of_getElem? (i := 15) rfl)
  have hl := lv_entry ([.ref (ad 0), .int a1]) (n := 3) (Nat.le_of_ble_eq_true rfl)
  rw [lg_entry_eq]
  generalize (lg_sl ([.ref (ad 0), .int a1]) ++ List.replicate (3 - (lg_sl ([.ref (ad 0), .int a1])).length) Slot.unset).toArray = ls at hl ⊢
  have hl : lv_has ls 3 [(0, .ref (ad 0)), (1, .int a1)] := hl
  rw [pX10_goes] at h
  refine lv_aload_n hx hb dX10_goes_0 rfl (lv_at hl 0 rfl) ?_
  refine za_getr (k := 1) hx hb hts hin10 hown hK hP zF_0_1 rfl (Nat.le_of_ble_eq_true rfl) (Or.inl hw1) dX10_goes_1 ?_
  refine za_getr (k := 3) hx hb hts hin0 hown hK hP zF_2_3 rfl (Nat.le_of_ble_eq_true rfl) (nw_221 hK.2) dX10_goes_4 ?_
  refine lv_iload_n hx hb dX10_goes_7 rfl (lv_at hl 1 rfl) ?_
  obtain ⟨r2, hc1, h⟩ := vz_b h
  refine za_callR (va_runVN (As := [.int a1]) (rest := []) ⟨hx, hb, hml, hown, hts⟩ (k_X1_isOne l (D := D) (cI := cI) (cJ := cJ) (ad := ad) hc1) ⟨va_cnB 1 hts gX10_goes_X1_isOne_n107 rfl rfl rfl (nw_370 hK.2) hw3 zd_X1_isOne ⟨Nat.le_of_ble_eq_true rfl, Nat.le_of_ble_eq_true rfl⟩, hw2, hw4⟩ (xPreV (ci := 1) hK hP rfl zO_14) rfl rfl hl.1 rfl (lv_room (Nat.le_of_ble_eq_true rfl)) dX10_goes_8 ⟨Nat.zero_le _, Nat.zero_le _⟩) ?_
  refine lv_if_ne (tgt := 20) hx hb dX10_goes_11 (by decide) (fun c3 => ?_) (fun c3 => ?_)
  · have h := vz_f c3 h
    refine lv_aload_n hx hb dX10_goes_20 rfl (lv_at hl 0 rfl) ?_
    refine za_getr (k := 1) hx hb hts hin10 hown hK hP zF_0_1 rfl (Nat.le_of_ble_eq_true rfl) (Or.inl hw1) dX10_goes_21 ?_
    refine lv_iload_n hx hb dX10_goes_24 rfl (lv_at hl 1 rfl) ?_
    obtain ⟨r5, hc4, h⟩ := vz_b h
    refine za_callR (va_runVN (As := [.int a1]) (rest := []) ⟨hx, hb, hml, hown, hts⟩ (k_X0_goalOf l (D := D) (cI := cI) (cJ := cJ) (ad := ad) hc4) ⟨va_cnB 1 hts gX10_goes_X0_goalOf_n140 rfl rfl rfl (nw_417 hK.2) hw14 zd_X0_goalOf ⟨Nat.le_of_ble_eq_true rfl, Nat.le_of_ble_eq_true rfl⟩, hw13, hw15⟩ (xPreV (ci := 0) hK hP rfl zO_2) rfl rfl hl.1 rfl (lv_room (Nat.le_of_ble_eq_true rfl)) dX10_goes_25 ⟨Nat.zero_le _, Nat.zero_le _⟩) ?_
    refine lv_istore_n (lv' := [(2, .int r5), (0, .ref (ad 0)), (1, .int a1)]) hx hb dX10_goes_28 rfl hl (by decide) rfl (fun ls hl => ?_)
    refine lv_iload_n hx hb dX10_goes_29 rfl (lv_at hl 0 rfl) ?_
    refine lv_if_ge (tgt := 41) hx hb dX10_goes_30 (by decide) (fun c6 => ?_) (fun c6 => ?_)
    · have h := vz_t c6 h
      refine lv_iload_n hx hb dX10_goes_41 rfl (lv_at hl 0 rfl) ?_
      cases h
      exact W.iret hx hb hr (fun t ht _ => ⟨rfl, by rw [ht]; exact hP, hS.F ht⟩) hS.2.2 dX10_goes_42
    · have h := vz_f c6 h
      refine lv_aload_n hx hb dX10_goes_33 rfl (lv_at hl 1 rfl) ?_
      refine lv_iload_n hx hb dX10_goes_34 rfl (lv_at hl 0 rfl) ?_
      obtain ⟨⟨r11, u8, v9⟩, hc7, h⟩ := vz_b h
      try dsimp only at h
      refine za_callWi (va_runV (As := [.int r5]) (rest := []) ⟨hx, hb, hml, hown, hts⟩ (k_X10_finding l (D := D) (cI := cI) (cJ := cJ) (ad := ad) hD hc7) (cwV 1 hts gX10_goes_X10_finding rfl rfl rfl ⟨rfl, zd_X10_finding⟩ ⟨Nat.le_of_ble_eq_true rfl, Nat.le_of_ble_eq_true rfl⟩) (xPreV (ci := 10) hK hP rfl zO_0) rfl rfl hl.1 rfl (lv_room (Nat.le_of_ble_eq_true rfl)) dX10_goes_35 ⟨Nat.zero_le _, Nat.zero_le _⟩) hS (fun H locs hP hS => ?_)
      refine lv_goto (tgt := 42) hx hb dX10_goes_38 (by decide) ?_
      cases h
      exact W.iret hx hb hr (fun t ht _ => ⟨rfl, by rw [ht]; exact hP, hS.F ht⟩) hS.2.2 dX10_goes_42
  · have h := vz_t c3 h
    refine lv_aload_n hx hb dX10_goes_14 rfl (lv_at hl 0 rfl) ?_
    refine lv_iconst (v := (-1 : Int32)) hx hb dX10_goes_15 (by decide) ?_
    obtain ⟨⟨r16, u13, v14⟩, hc12, h⟩ := vz_b h
    try dsimp only at h
    refine za_callWi (va_runV (As := [.int (-1 : Int32)]) (rest := []) ⟨hx, hb, hml, hown, hts⟩ (k_X10_finding l (D := D) (cI := cI) (cJ := cJ) (ad := ad) hD hc12) (cwV 1 hts gX10_goes_X10_finding rfl rfl rfl ⟨rfl, zd_X10_finding⟩ ⟨Nat.le_of_ble_eq_true rfl, Nat.le_of_ble_eq_true rfl⟩) (xPreV (ci := 10) hK hP rfl zO_0) rfl rfl hl.1 rfl (lv_room (Nat.le_of_ble_eq_true rfl)) dX10_goes_16 ⟨Nat.zero_le _, Nat.zero_le _⟩) hS (fun H locs hP hS => ?_)
    cases h
    exact W.iret hx hb hr (fun t ht _ => ⟨rfl, by rw [ht]; exact hP, hS.F ht⟩) hS.2.2 dX10_goes_19
abbrev rmX10_has : Room := { frames := 6, cells := 0, slots := 0, locals := 141 }
set_option maxHeartbeats 4000000 in
set_option maxRecDepth 100000 in
theorem k_X10_has (l : Launch) {D : va_G} {cI cJ : ClassId} {ad : Nat → Nat} {u : tU} {v : tV} {A : Nat → Prop} (hD : zD A cI cJ ad) {a1 : Int32} {a2 : Int32}  {r : Int32} {uz : tU} {vz : tV} (h : pX10_has u v a1 a2 = some (r, uz, vz)) : Met l yX10_has wsX10_has rmX10_has (va_Pc [.ref (ad 0), .int a1, .int a2] (xPre D cI cJ (wA cI cJ ad u v))) (xWi D cI cJ ad A r uz vz) 0 0 A := by
  refine Met.ofW (cc := cX10_has) (maxL := 4) (ret := (some .int)) (by decide) rfl ?_
  intro p e s m args below meth c s₁ B hml hv
  obtain ⟨rfl, hP, hK⟩ := hv
  have hx := B.exec
  have hb := B.bytes
  have hr := B.returns
  have hts := atoms_spec (ws := wsX10_has) B.pre
  have hown : s.vm.findClass RX10 = some m.cls := findClass_of_methodNamed B.named
  have hlocks := B.notSynchronized
  have hS : va_S A s.heap s.heap [] := va_S.rf
  have hin0 : ∀ w ∈ u_ws RX0 TX0 8, w ∈ wsX10_has := fun _ h => List.mem_cons_of_mem _ (List.mem_append_left _ (List.mem_append_left _ (List.mem_append_left _ (List.mem_append_left _ (List.mem_append_left _ (List.mem_append_right _ h))))))
  have hin10 : ∀ w ∈ u_ws RX10 TX10 7, w ∈ wsX10_has := fun _ h => List.mem_cons_of_mem _ (List.mem_append_left _ (List.mem_append_left _ (List.mem_append_left _ (List.mem_append_left _ (List.mem_append_left _ (List.mem_append_left _ (List.mem_append_right _ h)))))))
  have hw1 := hts (.fieldLink RX10 19 "InstallDesk" "books" "LInstallDesk$Books;") (List.mem_of_getElem? (i := 1) rfl)
  have hw2 := hts (.fieldLink RX10 29 "InstallDesk" "holdings" "LInstallDesk$Holdings;") (List.mem_of_getElem? (i := 2) rfl)
  have hw3 := hts (.instanceMethod yX3_isOne) (List.mem_of_getElem? (i := 3) rfl)
  have hw4 := hts (.initialized RX3) (List.mem_of_getElem? (i := 4) rfl)
  have hw5 := hts (.selects RX3 yX3_isOne yX3_isOne) (List.mem_of_getElem? (i := 5) rfl)
  have hw8 := hts (.instanceMethod yX6_isOne) (List.mem_of_getElem? (i := 8) rfl)
  have hw9 := hts (.initialized RX6) (List.mem_of_getElem? (i := 9) rfl)
  have hw10 := hts (.selects RX6 yX6_isOne yX6_isOne) (List.mem_of_getElem? (i := 10) rfl)
  have hw19 := hts (.instanceMethod yX2_fill) (List.mem_of_getElem? (i := 19) rfl)
  have hw20 := hts (.initialized RX2) (List.mem_of_getElem? (i := 20) rfl)
  have hw21 := hts (.selects RX2 yX2_fill yX2_fill) (List.mem_of_getElem? (i := 21) rfl)
  have hw81 := hts (.instanceMethod yX2_versionAt) (List.mem_of_getElem? (i := 81) rfl)
  have hw82 := hts (.selects RX2 yX2_versionAt yX2_versionAt) (List.mem_of_getElem? (i := 82) rfl)
  have hl := lv_entry ([.ref (ad 0), .int a1, .int a2]) (n := 4) (Nat.le_of_ble_eq_true rfl)
  rw [lg_entry_eq]
  generalize (lg_sl ([.ref (ad 0), .int a1, .int a2]) ++ List.replicate (4 - (lg_sl ([.ref (ad 0), .int a1, .int a2])).length) Slot.unset).toArray = ls at hl ⊢
  have hl : lv_has ls 4 [(0, .ref (ad 0)), (1, .int a1), (2, .int a2)] := hl
  rw [pX10_has] at h
  refine lv_aload_n hx hb dX10_has_0 rfl (lv_at hl 0 rfl) ?_
  refine za_getr (k := 1) hx hb hts hin10 hown hK hP zF_0_1 rfl (Nat.le_of_ble_eq_true rfl) (Or.inl hw1) dX10_has_1 ?_
  refine za_getr (k := 2) hx hb hts hin0 hown hK hP zF_2_2 rfl (Nat.le_of_ble_eq_true rfl) (nw_218 hK.2) dX10_has_4 ?_
  refine lv_iload_n hx hb dX10_has_7 rfl (lv_at hl 1 rfl) ?_
  obtain ⟨r2, hc1, h⟩ := vz_b h
  refine za_callR (va_runVN (As := [.int a1]) (rest := []) ⟨hx, hb, hml, hown, hts⟩ (k_X3_isOne l (D := D) (cI := cI) (cJ := cJ) (ad := ad) hc1) ⟨va_cnB 1 hts gX10_has_X3_isOne_n123 rfl rfl rfl (nw_391 hK.2) hw4 zd_X3_isOne ⟨Nat.le_of_ble_eq_true rfl, Nat.le_of_ble_eq_true rfl⟩, hw3, hw5⟩ (xPreV (ci := 3) hK hP rfl zO_11) rfl rfl hl.1 rfl (lv_room (Nat.le_of_ble_eq_true rfl)) dX10_has_8 ⟨Nat.zero_le _, Nat.zero_le _⟩) ?_
  refine lv_if_eq (tgt := 28) hx hb dX10_has_11 (by decide) (fun c3 => ?_) (fun c3 => ?_)
  · have h := vz_t c3 h
    refine lv_aload_n hx hb dX10_has_28 rfl (lv_at hl 0 rfl) ?_
    refine lv_iconst (v := (-1 : Int32)) hx hb dX10_has_29 (by decide) ?_
    obtain ⟨⟨r8, u5, v6⟩, hc4, h⟩ := vz_b h
    try dsimp only at h
    refine za_callWi (va_runV (As := [.int (-1 : Int32)]) (rest := []) ⟨hx, hb, hml, hown, hts⟩ (k_X10_finding l (D := D) (cI := cI) (cJ := cJ) (ad := ad) hD hc4) (cwV 1 hts gX10_has_X10_finding rfl rfl rfl ⟨rfl, zd_X10_finding⟩ ⟨Nat.le_of_ble_eq_true rfl, Nat.le_of_ble_eq_true rfl⟩) (xPreV (ci := 10) hK hP rfl zO_0) rfl rfl hl.1 rfl (lv_room (Nat.le_of_ble_eq_true rfl)) dX10_has_30 ⟨Nat.zero_le _, Nat.zero_le _⟩) hS (fun H locs hP hS => ?_)
    cases h
    exact W.iret hx hb hr (fun t ht _ => ⟨rfl, by rw [ht]; exact hP, hS.F ht⟩) hS.2.2 dX10_has_33
  · have h := vz_f c3 h
    refine lv_aload_n hx hb dX10_has_14 rfl (lv_at hl 0 rfl) ?_
    refine za_getr (k := 1) hx hb hts hin10 hown hK hP zF_0_1 rfl (Nat.le_of_ble_eq_true rfl) (Or.inl hw1) dX10_has_15 ?_
    refine za_getr (k := 0) hx hb hts hin0 hown hK hP zF_2_0 rfl (Nat.le_of_ble_eq_true rfl) (nw_210 hK.2) dX10_has_18 ?_
    refine lv_iload_n hx hb dX10_has_21 rfl (lv_at hl 2 rfl) ?_
    obtain ⟨r10, hc9, h⟩ := vz_b h
    refine za_callR (va_runVN (As := [.int a2]) (rest := []) ⟨hx, hb, hml, hown, hts⟩ (k_X6_isOne l (D := D) (cI := cI) (cJ := cJ) (ad := ad) hc9) ⟨va_cnB 1 hts gX10_has_X6_isOne_n74 rfl rfl rfl (nw_331 hK.2) hw9 zd_X6_isOne ⟨Nat.le_of_ble_eq_true rfl, Nat.le_of_ble_eq_true rfl⟩, hw8, hw10⟩ (xPreV (ci := 6) hK hP rfl zO_3) rfl rfl hl.1 rfl (lv_room (Nat.le_of_ble_eq_true rfl)) dX10_has_22 ⟨Nat.zero_le _, Nat.zero_le _⟩) ?_
    refine lv_if_ne (tgt := 34) hx hb dX10_has_25 (by decide) (fun c11 => ?_) (fun c11 => ?_)
    · have h := vz_f c11 h
      refine lv_aload_n hx hb dX10_has_34 rfl (lv_at hl 0 rfl) ?_
      refine za_getr (k := 3) hx hb hts hin10 hown hK hP zF_0_3 rfl (Nat.le_of_ble_eq_true rfl) (Or.inl hw2) dX10_has_35 ?_
      refine lv_aload_n hx hb dX10_has_38 rfl (lv_at hl 0 rfl) ?_
      refine za_getr (k := 1) hx hb hts hin10 hown hK hP zF_0_1 rfl (Nat.le_of_ble_eq_true rfl) (Or.inl hw1) dX10_has_39 ?_
      obtain ⟨⟨u13, v14⟩, hc12, h⟩ := vz_b h
      try dsimp only at h
      refine za_callWv (va_runVN (As := [.ref (ad 2)]) (rest := []) ⟨hx, hb, hml, hown, hts⟩ (k_X2_fill l (D := D) (cI := cI) (cJ := cJ) (ad := ad) hD hc12) ⟨va_cnB 1 hts gX10_has_X2_fill_n159 rfl rfl rfl (nw_474 hK.2) hw20 zd_X2_fill ⟨Nat.le_of_ble_eq_true rfl, Nat.le_of_ble_eq_true rfl⟩, hw19, hw21⟩ (xPreV (ci := 2) hK hP rfl zO_60) rfl rfl hl.1 rfl (lv_room (Nat.le_of_ble_eq_true rfl)) dX10_has_42 ⟨Nat.zero_le _, Nat.zero_le _⟩) hS (fun H locs hP hS => ?_)
      refine lv_aload_n hx hb dX10_has_45 rfl (lv_at hl 0 rfl) ?_
      refine za_getr (k := 3) hx hb hts hin10 hown hK hP zF_0_3 rfl (Nat.le_of_ble_eq_true rfl) (Or.inl hw2) dX10_has_46 ?_
      refine lv_iload_n hx hb dX10_has_49 rfl (lv_at hl 1 rfl) ?_
      refine lv_iload_n hx hb dX10_has_50 rfl (lv_at hl 2 rfl) ?_
      obtain ⟨r17, hc16, h⟩ := vz_b h
      refine za_callR (va_runVN (As := [.int a1, .int a2]) (rest := []) ⟨hx, hb, hml, hown, hts⟩ (k_X2_versionAt l (D := D) (cI := cI) (cJ := cJ) (ad := ad) hc16) ⟨va_cnB 2 hts gX10_has_X2_versionAt_n163 rfl rfl rfl (nw_520 hK.2) hw20 zd_X2_versionAt ⟨Nat.le_of_ble_eq_true rfl, Nat.le_of_ble_eq_true rfl⟩, hw81, hw82⟩ (xPreV (ci := 2) hK hP rfl zO_60) rfl rfl hl.1 rfl (lv_room (Nat.le_of_ble_eq_true rfl)) dX10_has_51 ⟨Nat.zero_le _, Nat.zero_le _⟩) ?_
      refine lv_istore_n (lv' := [(3, .int r17), (0, .ref (ad 0)), (1, .int a1), (2, .int a2)]) hx hb dX10_has_54 rfl hl (by decide) rfl (fun ls hl => ?_)
      refine lv_iload_n hx hb dX10_has_55 rfl (lv_at hl 0 rfl) ?_
      refine lv_if_ne (tgt := 68) hx hb dX10_has_56 (by decide) (fun c18 => ?_) (fun c18 => ?_)
      · have h := vz_f c18 h
        refine lv_iload_n hx hb dX10_has_68 rfl (lv_at hl 0 rfl) ?_
        cases h
        exact W.iret hx hb hr (fun t ht _ => ⟨rfl, by rw [ht]; exact hP, hS.F ht⟩) hS.2.2 dX10_has_69
      · have h := vz_t c18 h
        refine lv_aload_n hx hb dX10_has_59 rfl (lv_at hl 1 rfl) ?_
        refine lv_bipush (v := (-2 : Int32)) hx hb dX10_has_60 (by decide) ?_
        obtain ⟨⟨r23, u20, v21⟩, hc19, h⟩ := vz_b h
        try dsimp only at h
        refine za_callWi (va_runV (As := [.int (-2 : Int32)]) (rest := []) ⟨hx, hb, hml, hown, hts⟩ (k_X10_finding l (D := D) (cI := cI) (cJ := cJ) (ad := ad) hD hc19) (cwV 1 hts gX10_has_X10_finding rfl rfl rfl ⟨rfl, zd_X10_finding⟩ ⟨Nat.le_of_ble_eq_true rfl, Nat.le_of_ble_eq_true rfl⟩) (xPreV (ci := 10) hK hP rfl zO_0) rfl rfl hl.1 rfl (lv_room (Nat.le_of_ble_eq_true rfl)) dX10_has_62 ⟨Nat.zero_le _, Nat.zero_le _⟩) hS (fun H locs hP hS => ?_)
        refine lv_goto (tgt := 69) hx hb dX10_has_65 (by decide) ?_
        cases h
        exact W.iret hx hb hr (fun t ht _ => ⟨rfl, by rw [ht]; exact hP, hS.F ht⟩) hS.2.2 dX10_has_69
    · have h := vz_t c11 h
      refine lv_aload_n hx hb dX10_has_28 rfl (lv_at hl 0 rfl) ?_
      refine lv_iconst (v := (-1 : Int32)) hx hb dX10_has_29 (by decide) ?_
      obtain ⟨⟨r28, u25, v26⟩, hc24, h⟩ := vz_b h
      try dsimp only at h
      refine za_callWi (va_runV (As := [.int (-1 : Int32)]) (rest := []) ⟨hx, hb, hml, hown, hts⟩ (k_X10_finding l (D := D) (cI := cI) (cJ := cJ) (ad := ad) hD hc24) (cwV 1 hts gX10_has_X10_finding rfl rfl rfl ⟨rfl, zd_X10_finding⟩ ⟨Nat.le_of_ble_eq_true rfl, Nat.le_of_ble_eq_true rfl⟩) (xPreV (ci := 10) hK hP rfl zO_0) rfl rfl hl.1 rfl (lv_room (Nat.le_of_ble_eq_true rfl)) dX10_has_30 ⟨Nat.zero_le _, Nat.zero_le _⟩) hS (fun H locs hP hS => ?_)
      cases h
      exact W.iret hx hb hr (fun t ht _ => ⟨rfl, by rw [ht]; exact hP, hS.F ht⟩) hS.2.2 dX10_has_33
abbrev rmX3_add : Room := { frames := 0, cells := 0, slots := 0, locals := 0 }
set_option maxHeartbeats 4000000 in
set_option maxRecDepth 100000 in
theorem k_X3_add (l : Launch) {D : va_G} {cI cJ : ClassId} {ad : Nat → Nat} {u : tU} {v : tV} {A : Nat → Prop} (hD : zD A cI cJ ad) {a1 : Int32} {a2 : Int32}  {r : Int32} {uz : tU} {vz : tV} (h : pX3_add u v a1 a2 = some (r, uz, vz)) : Met l yX3_add wsX3_add rmX3_add (va_Pc [.ref (ad 11), .int a1, .int a2] (xPre D cI cJ (wA cI cJ ad u v))) (xWi D cI cJ ad A r uz vz) 0 0 A := by
  refine Met.ofW (cc := cX3_add) (maxL := 3) (ret := (some .int)) (by decide) rfl ?_
  intro p e s m args below meth c s₁ B hml hv
  obtain ⟨rfl, hP, hK⟩ := hv
  have hx := B.exec
  have hb := B.bytes
  have hr := B.returns
  have hts := atoms_spec (ws := wsX3_add) B.pre
  have hown : s.vm.findClass RX3 = some m.cls := findClass_of_methodNamed B.named
  have hlocks := B.notSynchronized
  have hS : va_S A s.heap s.heap [] := va_S.rf
  have hin3 : ∀ w ∈ u_ws RX3 TX3 3, w ∈ wsX3_add := fun _ h => List.mem_cons_of_mem _ (List.mem_append_right _ h)
  have hw1 := hts (.fieldLink RX3 9 "InstallDesk$Hosts" "cores" "[I") (List.mem_of_getElem? (i := 1) rfl)
  have hw2 := hts (.fieldLink RX3 18 "InstallDesk$Hosts" "count" "I") (List.mem_of_getElem? (i := 2) rfl)
  have hw3 := hts (.fieldLink RX3 15 "InstallDesk$Hosts" "persons" "[I") (List.mem_of_getElem? (i := 3) rfl)
  have hl := lv_entry ([.ref (ad 11), .int a1, .int a2]) (n := 3) (Nat.le_of_ble_eq_true rfl)
  rw [lg_entry_eq]
  generalize (lg_sl ([.ref (ad 11), .int a1, .int a2]) ++ List.replicate (3 - (lg_sl ([.ref (ad 11), .int a1, .int a2])).length) Slot.unset).toArray = ls at hl ⊢
  have hl : lv_has ls 3 [(0, .ref (ad 11)), (1, .int a1), (2, .int a2)] := hl
  rw [pX3_add] at h
  refine lv_aload_n hx hb dX3_add_0 rfl (lv_at hl 0 rfl) ?_
  refine za_getr (k := 1) hx hb hts hin3 hown hK hP zF_11_1 rfl (Nat.le_of_ble_eq_true rfl) (Or.inl hw1) dX3_add_1 ?_
  refine lv_aload_n hx hb dX3_add_4 rfl (lv_at hl 0 rfl) ?_
  refine za_geti (k := 0) hx hb hts hin3 hown hK hP zF_11_0 rfl (Nat.le_of_ble_eq_true rfl) (Or.inl hw2) dX3_add_5 ?_
  refine lv_iload_n hx hb dX3_add_8 rfl (lv_at hl 1 rfl) ?_
  obtain ⟨g1, h⟩ := gd_s h
  refine za_ist hx hb hK hP hD hS zI_12 g1 dX3_add_9 (fun H locs hP hS => ?_)
  refine lv_aload_n hx hb dX3_add_10 rfl (lv_at hl 0 rfl) ?_
  refine za_getr (k := 2) hx hb hts hin3 hown hK hP zF_11_2 rfl (Nat.le_of_ble_eq_true rfl) (Or.inl hw3) dX3_add_11 ?_
  refine lv_aload_n hx hb dX3_add_14 rfl (lv_at hl 0 rfl) ?_
  refine za_geti (k := 0) hx hb hts hin3 hown hK hP zF_11_0 rfl (Nat.le_of_ble_eq_true rfl) (Or.inl hw2) dX3_add_15 ?_
  refine lv_iload_n hx hb dX3_add_18 rfl (lv_at hl 2 rfl) ?_
  obtain ⟨g2, h⟩ := gd_s h
  refine za_ist hx hb hK hP hD hS zI_13 g2 dX3_add_19 (fun H locs hP hS => ?_)
  refine lv_aload_n hx hb dX3_add_20 rfl (lv_at hl 0 rfl) ?_
  refine lv_dup hx hb dX3_add_21 rfl ?_
  refine za_geti (k := 0) hx hb hts hin3 hown hK hP zF_11_0 rfl (Nat.le_of_ble_eq_true rfl) (Or.inl hw2) dX3_add_22 ?_
  refine lv_iconst (v := (1 : Int32)) hx hb dX3_add_25 (by decide) ?_
  refine lv_iadd hx hb dX3_add_26 ?_
  refine za_puti (k := 0) hx hb hts hin3 tyX3 tyX3_ok nmX3 hown hK hP hD hS zF_11_0 rfl (Nat.le_of_ble_eq_true rfl) (Or.inl hw2) rfl rfl rfl dX3_add_27 (fun H locs hP hS => ?_)
  refine lv_aload_n hx hb dX3_add_30 rfl (lv_at hl 0 rfl) ?_
  refine za_geti (k := 0) hx hb hts hin3 hown hK hP zF_11_0 rfl (Nat.le_of_ble_eq_true rfl) (Or.inl hw2) dX3_add_31 ?_
  refine lv_iconst (v := (1 : Int32)) hx hb dX3_add_34 (by decide) ?_
  refine lv_isub hx hb dX3_add_35 ?_
  cases h
  exact W.iret hx hb hr (fun t ht _ => ⟨rfl, by rw [ht]; exact hP, hS.F ht⟩) hS.2.2 dX3_add_36
abbrev rmX10_host : Room := { frames := 1, cells := 0, slots := 0, locals := 22 }
set_option maxHeartbeats 4000000 in
set_option maxRecDepth 100000 in
theorem k_X10_host (l : Launch) {D : va_G} {cI cJ : ClassId} {ad : Nat → Nat} {u : tU} {v : tV} {A : Nat → Prop} (hD : zD A cI cJ ad) {a1 : Int32} {a2 : Int32}  {r : Int32} {uz : tU} {vz : tV} (h : pX10_host u v a1 a2 = some (r, uz, vz)) : Met l yX10_host wsX10_host rmX10_host (va_Pc [.ref (ad 0), .int a1, .int a2] (xPre D cI cJ (wA cI cJ ad u v))) (xWi D cI cJ ad A r uz vz) 0 0 A := by
  refine Met.ofW (cc := cX10_host) (maxL := 3) (ret := (some .int)) (by decide) rfl ?_
  intro p e s m args below meth c s₁ B hml hv
  obtain ⟨rfl, hP, hK⟩ := hv
  have hx := B.exec
  have hb := B.bytes
  have hr := B.returns
  have hts := atoms_spec (ws := wsX10_host) B.pre
  have hown : s.vm.findClass RX10 = some m.cls := findClass_of_methodNamed B.named
  have hlocks := B.notSynchronized
  have hS : va_S A s.heap s.heap [] := va_S.rf
  have hin0 : ∀ w ∈ u_ws RX0 TX0 8, w ∈ wsX10_host := fun _ h => List.mem_cons_of_mem _ (List.mem_append_left _ (List.mem_append_right _ h))
  have hin3 : ∀ w ∈ u_ws RX3 TX3 3, w ∈ wsX10_host := fun _ h => List.mem_cons_of_mem _ (List.mem_append_right _ h)
  have hin10 : ∀ w ∈ u_ws RX10 TX10 7, w ∈ wsX10_host := fun _ h => List.mem_cons_of_mem _ (List.mem_append_left _ (List.mem_append_left _ (List.mem_append_right _ h)))
  have hw1 := hts (.fieldLink RX10 19 "InstallDesk" "books" "LInstallDesk$Books;") (List.mem_of_getElem? (i := 1) rfl)
  have hw11 := hts (.instanceMethod yX3_add) (List.mem_of_getElem? (i := 11) rfl)
  have hw12 := hts (.initialized RX3) (List.mem_of_getElem? (i := 12) rfl)
  have hw13 := hts (.selects RX3 yX3_add yX3_add) (List.mem_of_getElem? (i := 13) rfl)
  have hl := lv_entry ([.ref (ad 0), .int a1, .int a2]) (n := 3) (Nat.le_of_ble_eq_true rfl)
  rw [lg_entry_eq]
  generalize (lg_sl ([.ref (ad 0), .int a1, .int a2]) ++ List.replicate (3 - (lg_sl ([.ref (ad 0), .int a1, .int a2])).length) Slot.unset).toArray = ls at hl ⊢
  have hl : lv_has ls 3 [(0, .ref (ad 0)), (1, .int a1), (2, .int a2)] := hl
  rw [pX10_host] at h
  refine lv_iload_n hx hb dX10_host_0 rfl (lv_at hl 1 rfl) ?_
  refine lv_iconst (v := (1 : Int32)) hx hb dX10_host_1 (by decide) ?_
  refine lv_bipush (v := (64 : Int32)) hx hb dX10_host_2 (by decide) ?_
  obtain ⟨r2, hc1, h⟩ := vz_b h
  refine za_callR (va_runS (As := [.int a1, .int (1 : Int32), .int (64 : Int32)]) (rest := []) ⟨hx, hb, hml, hown, hts⟩ (k_X10_isWithin l hc1) (va_cwS 3 hts gX10_host_X10_isWithin rfl rfl rfl zd_X10_isWithin ⟨Nat.le_of_ble_eq_true rfl, Nat.le_of_ble_eq_true rfl⟩) xPre0 rfl rfl hl.1 rfl (lv_room (Nat.le_of_ble_eq_true rfl)) dX10_host_4 ⟨Nat.zero_le _, Nat.zero_le _⟩) ?_
  refine lv_if_eq (tgt := 20) hx hb dX10_host_7 (by decide) (fun c3 => ?_) (fun c3 => ?_)
  · have h := vz_t c3 h
    refine lv_aload_n hx hb dX10_host_20 rfl (lv_at hl 0 rfl) ?_
    refine lv_iconst (v := (-1 : Int32)) hx hb dX10_host_21 (by decide) ?_
    obtain ⟨⟨r8, u5, v6⟩, hc4, h⟩ := vz_b h
    try dsimp only at h
    refine za_callWi (va_runV (As := [.int (-1 : Int32)]) (rest := []) ⟨hx, hb, hml, hown, hts⟩ (k_X10_finding l (D := D) (cI := cI) (cJ := cJ) (ad := ad) hD hc4) (cwV 1 hts gX10_host_X10_finding rfl rfl rfl ⟨rfl, zd_X10_finding⟩ ⟨Nat.le_of_ble_eq_true rfl, Nat.le_of_ble_eq_true rfl⟩) (xPreV (ci := 10) hK hP rfl zO_0) rfl rfl hl.1 rfl (lv_room (Nat.le_of_ble_eq_true rfl)) dX10_host_22 ⟨Nat.zero_le _, Nat.zero_le _⟩) hS (fun H locs hP hS => ?_)
    cases h
    exact W.iret hx hb hr (fun t ht _ => ⟨rfl, by rw [ht]; exact hP, hS.F ht⟩) hS.2.2 dX10_host_25
  · have h := vz_f c3 h
    refine lv_iload_n hx hb dX10_host_10 rfl (lv_at hl 2 rfl) ?_
    refine lv_iconst (v := (0 : Int32)) hx hb dX10_host_11 (by decide) ?_
    refine lv_bipush (v := (9 : Int32)) hx hb dX10_host_12 (by decide) ?_
    obtain ⟨r10, hc9, h⟩ := vz_b h
    refine za_callR (va_runS (As := [.int a2, .int (0 : Int32), .int (9 : Int32)]) (rest := []) ⟨hx, hb, hml, hown, hts⟩ (k_X10_isWithin l hc9) (va_cwS 3 hts gX10_host_X10_isWithin rfl rfl rfl zd_X10_isWithin ⟨Nat.le_of_ble_eq_true rfl, Nat.le_of_ble_eq_true rfl⟩) xPre0 rfl rfl hl.1 rfl (lv_room (Nat.le_of_ble_eq_true rfl)) dX10_host_14 ⟨Nat.zero_le _, Nat.zero_le _⟩) ?_
    refine lv_if_ne (tgt := 26) hx hb dX10_host_17 (by decide) (fun c11 => ?_) (fun c11 => ?_)
    · have h := vz_f c11 h
      refine lv_aload_n hx hb dX10_host_26 rfl (lv_at hl 0 rfl) ?_
      refine za_getr (k := 1) hx hb hts hin10 hown hK hP zF_0_1 rfl (Nat.le_of_ble_eq_true rfl) (Or.inl hw1) dX10_host_27 ?_
      refine za_getr (k := 2) hx hb hts hin0 hown hK hP zF_2_2 rfl (Nat.le_of_ble_eq_true rfl) (nw_218 hK.2) dX10_host_30 ?_
      refine za_geti (k := 0) hx hb hts hin3 hown hK hP zF_11_0 rfl (Nat.le_of_ble_eq_true rfl) (nw_106 hK.2) dX10_host_33 ?_
      refine lv_bipush (v := (8 : Int32)) hx hb dX10_host_36 (by decide) ?_
      refine lv_icmp_lt (tgt := 48) hx hb dX10_host_38 (by decide) (fun c12 => ?_) (fun c12 => ?_)
      · have h := vz_t c12 h
        refine lv_aload_n hx hb dX10_host_48 rfl (lv_at hl 0 rfl) ?_
        refine za_getr (k := 1) hx hb hts hin10 hown hK hP zF_0_1 rfl (Nat.le_of_ble_eq_true rfl) (Or.inl hw1) dX10_host_49 ?_
        refine za_getr (k := 2) hx hb hts hin0 hown hK hP zF_2_2 rfl (Nat.le_of_ble_eq_true rfl) (nw_218 hK.2) dX10_host_52 ?_
        refine lv_iload_n hx hb dX10_host_55 rfl (lv_at hl 1 rfl) ?_
        refine lv_iload_n hx hb dX10_host_56 rfl (lv_at hl 2 rfl) ?_
        obtain ⟨⟨r17, u14, v15⟩, hc13, h⟩ := vz_b h
        try dsimp only at h
        refine za_callWi (va_runVN (As := [.int a1, .int a2]) (rest := []) ⟨hx, hb, hml, hown, hts⟩ (k_X3_add l (D := D) (cI := cI) (cJ := cJ) (ad := ad) hD hc13) ⟨va_cnB 2 hts gX10_host_X3_add_n120 rfl rfl rfl (nw_383 hK.2) hw12 zd_X3_add ⟨Nat.le_of_ble_eq_true rfl, Nat.le_of_ble_eq_true rfl⟩, hw11, hw13⟩ (xPreV (ci := 3) hK hP rfl zO_11) rfl rfl hl.1 rfl (lv_room (Nat.le_of_ble_eq_true rfl)) dX10_host_57 ⟨Nat.zero_le _, Nat.zero_le _⟩) hS (fun H locs hP hS => ?_)
        cases h
        exact W.iret hx hb hr (fun t ht _ => ⟨rfl, by rw [ht]; exact hP, hS.F ht⟩) hS.2.2 dX10_host_60
      · have h := vz_f c12 h
        refine lv_aload_n hx hb dX10_host_41 rfl (lv_at hl 0 rfl) ?_
        refine lv_bipush (v := (-3 : Int32)) hx hb dX10_host_42 (by decide) ?_
        obtain ⟨⟨r22, u19, v20⟩, hc18, h⟩ := vz_b h
        try dsimp only at h
        refine za_callWi (va_runV (As := [.int (-3 : Int32)]) (rest := []) ⟨hx, hb, hml, hown, hts⟩ (k_X10_finding l (D := D) (cI := cI) (cJ := cJ) (ad := ad) hD hc18) (cwV 1 hts gX10_host_X10_finding rfl rfl rfl ⟨rfl, zd_X10_finding⟩ ⟨Nat.le_of_ble_eq_true rfl, Nat.le_of_ble_eq_true rfl⟩) (xPreV (ci := 10) hK hP rfl zO_0) rfl rfl hl.1 rfl (lv_room (Nat.le_of_ble_eq_true rfl)) dX10_host_44 ⟨Nat.zero_le _, Nat.zero_le _⟩) hS (fun H locs hP hS => ?_)
        cases h
        exact W.iret hx hb hr (fun t ht _ => ⟨rfl, by rw [ht]; exact hP, hS.F ht⟩) hS.2.2 dX10_host_47
    · have h := vz_t c11 h
      refine lv_aload_n hx hb dX10_host_20 rfl (lv_at hl 0 rfl) ?_
      refine lv_iconst (v := (-1 : Int32)) hx hb dX10_host_21 (by decide) ?_
      obtain ⟨⟨r27, u24, v25⟩, hc23, h⟩ := vz_b h
      try dsimp only at h
      refine za_callWi (va_runV (As := [.int (-1 : Int32)]) (rest := []) ⟨hx, hb, hml, hown, hts⟩ (k_X10_finding l (D := D) (cI := cI) (cJ := cJ) (ad := ad) hD hc23) (cwV 1 hts gX10_host_X10_finding rfl rfl rfl ⟨rfl, zd_X10_finding⟩ ⟨Nat.le_of_ble_eq_true rfl, Nat.le_of_ble_eq_true rfl⟩) (xPreV (ci := 10) hK hP rfl zO_0) rfl rfl hl.1 rfl (lv_room (Nat.le_of_ble_eq_true rfl)) dX10_host_22 ⟨Nat.zero_le _, Nat.zero_le _⟩) hS (fun H locs hP hS => ?_)
      cases h
      exact W.iret hx hb hr (fun t ht _ => ⟨rfl, by rw [ht]; exact hP, hS.F ht⟩) hS.2.2 dX10_host_25
abbrev rmX6_copyFrom_S : Room := { frames := 1, cells := 0, slots := 0, locals := 18 }
set_option maxHeartbeats 4000000 in
set_option maxRecDepth 100000 in
theorem k_X6_copyFrom_S (l : Launch) {D : va_G} {cI cJ : ClassId} {ad : Nat → Nat} {u : tU} {v : tV} {A : Nat → Prop} (hD : zD A cI cJ ad) {uz : tU} {vz : tV} (h : pX6_copyFrom_S u v  = some (uz, vz)) : Met l yX6_copyFrom wsX6_copyFrom rmX6_copyFrom_S (va_Pc [.ref (ad 32), .ref (ad 3)] (xPre D cI cJ (wA cI cJ ad u v))) (xWv D cI cJ ad A uz vz) 0 0 A := by
  refine Met.ofW (cc := cX6_copyFrom) (maxL := 2) (ret := none) (by decide) rfl ?_
  intro p e s m args below meth c s₁ B hml hv
  obtain ⟨rfl, hP, hK⟩ := hv
  have hx := B.exec
  have hb := B.bytes
  have hr := B.returns
  have hts := atoms_spec (ws := wsX6_copyFrom) B.pre
  have hown : s.vm.findClass RX6 = some m.cls := findClass_of_methodNamed B.named
  have hlocks := B.notSynchronized
  have hS : va_S A s.heap s.heap [] := va_S.rf
  have hin6 : ∀ w ∈ u_ws RX6 TX6 4, w ∈ wsX6_copyFrom := fun _ h => List.mem_cons_of_mem _ (List.mem_append_right _ h)
  have hw1 := hts (.fieldLink RX6 21 "InstallDesk$Products" "count" "I") (List.mem_of_getElem? (i := 1) rfl)
  have hw2 := hts (.fieldLink RX6 9 "InstallDesk$Products" "kinds" "[I") (List.mem_of_getElem? (i := 2) rfl)
  have hw3 := hts (.methodLink RX6 29 arraycopyName) (List.mem_of_getElem? (i := 3) rfl)
  have hw4 := hts (.native arraycopyName) (List.mem_of_getElem? (i := 4) rfl)
  have hw5 := hts (.static arraycopyName) (List.mem_of_getElem? (i := 5) rfl)
  have hw6 := hts (.initialized "java/lang/System") (List.mem_of_getElem? (i := 6) rfl)
  have hw7 := hts (.fieldLink RX6 15 "InstallDesk$Products" "parts" "[I") (List.mem_of_getElem? (i := 7) rfl)
  have hw8 := hts (.fieldLink RX6 18 "InstallDesk$Products" "leasts" "[I") (List.mem_of_getElem? (i := 8) rfl)
  have hl := lv_entry ([.ref (ad 32), .ref (ad 3)]) (n := 2) (Nat.le_of_ble_eq_true rfl)
  rw [lg_entry_eq]
  generalize (lg_sl ([.ref (ad 32), .ref (ad 3)]) ++ List.replicate (2 - (lg_sl ([.ref (ad 32), .ref (ad 3)])).length) Slot.unset).toArray = ls at hl ⊢
  have hl : lv_has ls 2 [(0, .ref (ad 32)), (1, .ref (ad 3))] := hl
  rw [pX6_copyFrom_S] at h
  refine lv_aload_n hx hb dX6_copyFrom_0 rfl (lv_at hl 0 rfl) ?_
  refine lv_aload_n hx hb dX6_copyFrom_1 rfl (lv_at hl 1 rfl) ?_
  refine za_geti (k := 0) hx hb hts hin6 hown hK hP zF_3_0 rfl (Nat.le_of_ble_eq_true rfl) (Or.inl hw1) dX6_copyFrom_2 ?_
  refine za_puti (k := 0) hx hb hts hin6 tyX6 tyX6_ok nmX6 hown hK hP hD hS zF_32_0 rfl (Nat.le_of_ble_eq_true rfl) (Or.inl hw1) rfl rfl rfl dX6_copyFrom_5 (fun H locs hP hS => ?_)
  refine lv_aload_n hx hb dX6_copyFrom_8 rfl (lv_at hl 1 rfl) ?_
  refine za_getr (k := 1) hx hb hts hin6 hown hK hP zF_3_1 rfl (Nat.le_of_ble_eq_true rfl) (Or.inl hw2) dX6_copyFrom_9 ?_
  refine lv_iconst (v := (0 : Int32)) hx hb dX6_copyFrom_12 (by decide) ?_
  refine lv_aload_n hx hb dX6_copyFrom_13 rfl (lv_at hl 0 rfl) ?_
  refine za_getr (k := 1) hx hb hts hin6 hown hK hP zF_32_1 rfl (Nat.le_of_ble_eq_true rfl) (Or.inl hw2) dX6_copyFrom_14 ?_
  refine lv_iconst (v := (0 : Int32)) hx hb dX6_copyFrom_17 (by decide) ?_
  refine lv_bipush (v := (10 : Int32)) hx hb dX6_copyFrom_18 (by decide) ?_
  refine za_cpi0 (k' := 10) hx hb (by rw [hml]; exact hl.1.symm) hown hw3 hw4 hw5 hw6 hK hP hD hS zI_4 zI_33 (by decide) rfl (by decide) (by decide) (Nat.le_of_ble_eq_true rfl) (Nat.le_of_ble_eq_true rfl) dX6_copyFrom_20 (fun H locs hP hS => ?_)
  refine lv_aload_n hx hb dX6_copyFrom_23 rfl (lv_at hl 1 rfl) ?_
  refine za_getr (k := 2) hx hb hts hin6 hown hK hP zF_3_2 rfl (Nat.le_of_ble_eq_true rfl) (Or.inl hw7) dX6_copyFrom_24 ?_
  refine lv_iconst (v := (0 : Int32)) hx hb dX6_copyFrom_27 (by decide) ?_
  refine lv_aload_n hx hb dX6_copyFrom_28 rfl (lv_at hl 0 rfl) ?_
  refine za_getr (k := 2) hx hb hts hin6 hown hK hP zF_32_2 rfl (Nat.le_of_ble_eq_true rfl) (Or.inl hw7) dX6_copyFrom_29 ?_
  refine lv_iconst (v := (0 : Int32)) hx hb dX6_copyFrom_32 (by decide) ?_
  refine lv_bipush (v := (10 : Int32)) hx hb dX6_copyFrom_33 (by decide) ?_
  refine za_cpi0 (k' := 10) hx hb (by rw [hml]; exact hl.1.symm) hown hw3 hw4 hw5 hw6 hK hP hD hS zI_5 zI_34 (by decide) rfl (by decide) (by decide) (Nat.le_of_ble_eq_true rfl) (Nat.le_of_ble_eq_true rfl) dX6_copyFrom_35 (fun H locs hP hS => ?_)
  refine lv_aload_n hx hb dX6_copyFrom_38 rfl (lv_at hl 1 rfl) ?_
  refine za_getr (k := 3) hx hb hts hin6 hown hK hP zF_3_3 rfl (Nat.le_of_ble_eq_true rfl) (Or.inl hw8) dX6_copyFrom_39 ?_
  refine lv_iconst (v := (0 : Int32)) hx hb dX6_copyFrom_42 (by decide) ?_
  refine lv_aload_n hx hb dX6_copyFrom_43 rfl (lv_at hl 0 rfl) ?_
  refine za_getr (k := 3) hx hb hts hin6 hown hK hP zF_32_3 rfl (Nat.le_of_ble_eq_true rfl) (Or.inl hw8) dX6_copyFrom_44 ?_
  refine lv_iconst (v := (0 : Int32)) hx hb dX6_copyFrom_47 (by decide) ?_
  refine lv_bipush (v := (10 : Int32)) hx hb dX6_copyFrom_48 (by decide) ?_
  refine za_cpi0 (k' := 10) hx hb (by rw [hml]; exact hl.1.symm) hown hw3 hw4 hw5 hw6 hK hP hD hS zI_6 zI_35 (by decide) rfl (by decide) (by decide) (Nat.le_of_ble_eq_true rfl) (Nat.le_of_ble_eq_true rfl) dX6_copyFrom_50 (fun H locs hP hS => ?_)
  cases h
  exact W.vret hx hb hr (fun t ht _ => ⟨rfl, by rw [ht]; exact hP, hS.F ht⟩) hS.2.2 dX6_copyFrom_53
abbrev rmX8_copyFrom_S : Room := { frames := 1, cells := 0, slots := 0, locals := 18 }
set_option maxHeartbeats 4000000 in
set_option maxRecDepth 100000 in
theorem k_X8_copyFrom_S (l : Launch) {D : va_G} {cI cJ : ClassId} {ad : Nat → Nat} {u : tU} {v : tV} {A : Nat → Prop} (hD : zD A cI cJ ad) {uz : tU} {vz : tV} (h : pX8_copyFrom_S u v  = some (uz, vz)) : Met l yX8_copyFrom wsX8_copyFrom rmX8_copyFrom_S (va_Pc [.ref (ad 36), .ref (ad 7)] (xPre D cI cJ (wA cI cJ ad u v))) (xWv D cI cJ ad A uz vz) 0 0 A := by
  refine Met.ofW (cc := cX8_copyFrom) (maxL := 2) (ret := none) (by decide) rfl ?_
  intro p e s m args below meth c s₁ B hml hv
  obtain ⟨rfl, hP, hK⟩ := hv
  have hx := B.exec
  have hb := B.bytes
  have hr := B.returns
  have hts := atoms_spec (ws := wsX8_copyFrom) B.pre
  have hown : s.vm.findClass RX8 = some m.cls := findClass_of_methodNamed B.named
  have hlocks := B.notSynchronized
  have hS : va_S A s.heap s.heap [] := va_S.rf
  have hin8 : ∀ w ∈ u_ws RX8 TX8 4, w ∈ wsX8_copyFrom := fun _ h => List.mem_cons_of_mem _ (List.mem_append_right _ h)
  have hw1 := hts (.fieldLink RX8 22 "InstallDesk$Rules" "count" "I") (List.mem_of_getElem? (i := 1) rfl)
  have hw2 := hts (.fieldLink RX8 9 "InstallDesk$Rules" "patterns" "[J") (List.mem_of_getElem? (i := 2) rfl)
  have hw3 := hts (.methodLink RX8 26 arraycopyName) (List.mem_of_getElem? (i := 3) rfl)
  have hw4 := hts (.native arraycopyName) (List.mem_of_getElem? (i := 4) rfl)
  have hw5 := hts (.static arraycopyName) (List.mem_of_getElem? (i := 5) rfl)
  have hw6 := hts (.initialized "java/lang/System") (List.mem_of_getElem? (i := 6) rfl)
  have hw7 := hts (.fieldLink RX8 15 "InstallDesk$Rules" "ranks" "[I") (List.mem_of_getElem? (i := 7) rfl)
  have hw8 := hts (.fieldLink RX8 19 "InstallDesk$Rules" "products" "[I") (List.mem_of_getElem? (i := 8) rfl)
  have hl := lv_entry ([.ref (ad 36), .ref (ad 7)]) (n := 2) (Nat.le_of_ble_eq_true rfl)
  rw [lg_entry_eq]
  generalize (lg_sl ([.ref (ad 36), .ref (ad 7)]) ++ List.replicate (2 - (lg_sl ([.ref (ad 36), .ref (ad 7)])).length) Slot.unset).toArray = ls at hl ⊢
  have hl : lv_has ls 2 [(0, .ref (ad 36)), (1, .ref (ad 7))] := hl
  rw [pX8_copyFrom_S] at h
  refine lv_aload_n hx hb dX8_copyFrom_0 rfl (lv_at hl 0 rfl) ?_
  refine lv_aload_n hx hb dX8_copyFrom_1 rfl (lv_at hl 1 rfl) ?_
  refine za_geti (k := 0) hx hb hts hin8 hown hK hP zF_7_0 rfl (Nat.le_of_ble_eq_true rfl) (Or.inl hw1) dX8_copyFrom_2 ?_
  refine za_puti (k := 0) hx hb hts hin8 tyX8 tyX8_ok nmX8 hown hK hP hD hS zF_36_0 rfl (Nat.le_of_ble_eq_true rfl) (Or.inl hw1) rfl rfl rfl dX8_copyFrom_5 (fun H locs hP hS => ?_)
  refine lv_aload_n hx hb dX8_copyFrom_8 rfl (lv_at hl 1 rfl) ?_
  refine za_getr (k := 1) hx hb hts hin8 hown hK hP zF_7_1 rfl (Nat.le_of_ble_eq_true rfl) (Or.inl hw2) dX8_copyFrom_9 ?_
  refine lv_iconst (v := (0 : Int32)) hx hb dX8_copyFrom_12 (by decide) ?_
  refine lv_aload_n hx hb dX8_copyFrom_13 rfl (lv_at hl 0 rfl) ?_
  refine za_getr (k := 1) hx hb hts hin8 hown hK hP zF_36_1 rfl (Nat.le_of_ble_eq_true rfl) (Or.inl hw2) dX8_copyFrom_14 ?_
  refine lv_iconst (v := (0 : Int32)) hx hb dX8_copyFrom_17 (by decide) ?_
  refine lv_bipush (v := (16 : Int32)) hx hb dX8_copyFrom_18 (by decide) ?_
  refine za_cpl0 (k' := 16) hx hb (by rw [hml]; exact hl.1.symm) hown hw3 hw4 hw5 hw6 hK hP hD hS zJ_8 zJ_37 (by decide) rfl (by decide) (by decide) (Nat.le_of_ble_eq_true rfl) (Nat.le_of_ble_eq_true rfl) dX8_copyFrom_20 (fun H locs hP hS => ?_)
  refine lv_aload_n hx hb dX8_copyFrom_23 rfl (lv_at hl 1 rfl) ?_
  refine za_getr (k := 2) hx hb hts hin8 hown hK hP zF_7_2 rfl (Nat.le_of_ble_eq_true rfl) (Or.inl hw7) dX8_copyFrom_24 ?_
  refine lv_iconst (v := (0 : Int32)) hx hb dX8_copyFrom_27 (by decide) ?_
  refine lv_aload_n hx hb dX8_copyFrom_28 rfl (lv_at hl 0 rfl) ?_
  refine za_getr (k := 2) hx hb hts hin8 hown hK hP zF_36_2 rfl (Nat.le_of_ble_eq_true rfl) (Or.inl hw7) dX8_copyFrom_29 ?_
  refine lv_iconst (v := (0 : Int32)) hx hb dX8_copyFrom_32 (by decide) ?_
  refine lv_bipush (v := (16 : Int32)) hx hb dX8_copyFrom_33 (by decide) ?_
  refine za_cpi0 (k' := 16) hx hb (by rw [hml]; exact hl.1.symm) hown hw3 hw4 hw5 hw6 hK hP hD hS zI_9 zI_38 (by decide) rfl (by decide) (by decide) (Nat.le_of_ble_eq_true rfl) (Nat.le_of_ble_eq_true rfl) dX8_copyFrom_35 (fun H locs hP hS => ?_)
  refine lv_aload_n hx hb dX8_copyFrom_38 rfl (lv_at hl 1 rfl) ?_
  refine za_getr (k := 3) hx hb hts hin8 hown hK hP zF_7_3 rfl (Nat.le_of_ble_eq_true rfl) (Or.inl hw8) dX8_copyFrom_39 ?_
  refine lv_iconst (v := (0 : Int32)) hx hb dX8_copyFrom_42 (by decide) ?_
  refine lv_aload_n hx hb dX8_copyFrom_43 rfl (lv_at hl 0 rfl) ?_
  refine za_getr (k := 3) hx hb hts hin8 hown hK hP zF_36_3 rfl (Nat.le_of_ble_eq_true rfl) (Or.inl hw8) dX8_copyFrom_44 ?_
  refine lv_iconst (v := (0 : Int32)) hx hb dX8_copyFrom_47 (by decide) ?_
  refine lv_bipush (v := (16 : Int32)) hx hb dX8_copyFrom_48 (by decide) ?_
  refine za_cpi0 (k' := 16) hx hb (by rw [hml]; exact hl.1.symm) hown hw3 hw4 hw5 hw6 hK hP hD hS zI_10 zI_39 (by decide) rfl (by decide) (by decide) (Nat.le_of_ble_eq_true rfl) (Nat.le_of_ble_eq_true rfl) dX8_copyFrom_50 (fun H locs hP hS => ?_)
  cases h
  exact W.vret hx hb hr (fun t ht _ => ⟨rfl, by rw [ht]; exact hP, hS.F ht⟩) hS.2.2 dX8_copyFrom_53
abbrev rmX3_copyFrom_S : Room := { frames := 1, cells := 0, slots := 0, locals := 18 }
set_option maxHeartbeats 4000000 in
set_option maxRecDepth 100000 in
theorem k_X3_copyFrom_S (l : Launch) {D : va_G} {cI cJ : ClassId} {ad : Nat → Nat} {u : tU} {v : tV} {A : Nat → Prop} (hD : zD A cI cJ ad) {uz : tU} {vz : tV} (h : pX3_copyFrom_S u v  = some (uz, vz)) : Met l yX3_copyFrom wsX3_copyFrom rmX3_copyFrom_S (va_Pc [.ref (ad 40), .ref (ad 11)] (xPre D cI cJ (wA cI cJ ad u v))) (xWv D cI cJ ad A uz vz) 0 0 A := by
  refine Met.ofW (cc := cX3_copyFrom) (maxL := 2) (ret := none) (by decide) rfl ?_
  intro p e s m args below meth c s₁ B hml hv
  obtain ⟨rfl, hP, hK⟩ := hv
  have hx := B.exec
  have hb := B.bytes
  have hr := B.returns
  have hts := atoms_spec (ws := wsX3_copyFrom) B.pre
  have hown : s.vm.findClass RX3 = some m.cls := findClass_of_methodNamed B.named
  have hlocks := B.notSynchronized
  have hS : va_S A s.heap s.heap [] := va_S.rf
  have hin3 : ∀ w ∈ u_ws RX3 TX3 3, w ∈ wsX3_copyFrom := fun _ h => List.mem_cons_of_mem _ (List.mem_append_right _ h)
  have hw1 := hts (.fieldLink RX3 18 "InstallDesk$Hosts" "count" "I") (List.mem_of_getElem? (i := 1) rfl)
  have hw2 := hts (.fieldLink RX3 9 "InstallDesk$Hosts" "cores" "[I") (List.mem_of_getElem? (i := 2) rfl)
  have hw3 := hts (.methodLink RX3 22 arraycopyName) (List.mem_of_getElem? (i := 3) rfl)
  have hw4 := hts (.native arraycopyName) (List.mem_of_getElem? (i := 4) rfl)
  have hw5 := hts (.static arraycopyName) (List.mem_of_getElem? (i := 5) rfl)
  have hw6 := hts (.initialized "java/lang/System") (List.mem_of_getElem? (i := 6) rfl)
  have hw7 := hts (.fieldLink RX3 15 "InstallDesk$Hosts" "persons" "[I") (List.mem_of_getElem? (i := 7) rfl)
  have hl := lv_entry ([.ref (ad 40), .ref (ad 11)]) (n := 2) (Nat.le_of_ble_eq_true rfl)
  rw [lg_entry_eq]
  generalize (lg_sl ([.ref (ad 40), .ref (ad 11)]) ++ List.replicate (2 - (lg_sl ([.ref (ad 40), .ref (ad 11)])).length) Slot.unset).toArray = ls at hl ⊢
  have hl : lv_has ls 2 [(0, .ref (ad 40)), (1, .ref (ad 11))] := hl
  rw [pX3_copyFrom_S] at h
  refine lv_aload_n hx hb dX3_copyFrom_0 rfl (lv_at hl 0 rfl) ?_
  refine lv_aload_n hx hb dX3_copyFrom_1 rfl (lv_at hl 1 rfl) ?_
  refine za_geti (k := 0) hx hb hts hin3 hown hK hP zF_11_0 rfl (Nat.le_of_ble_eq_true rfl) (Or.inl hw1) dX3_copyFrom_2 ?_
  refine za_puti (k := 0) hx hb hts hin3 tyX3 tyX3_ok nmX3 hown hK hP hD hS zF_40_0 rfl (Nat.le_of_ble_eq_true rfl) (Or.inl hw1) rfl rfl rfl dX3_copyFrom_5 (fun H locs hP hS => ?_)
  refine lv_aload_n hx hb dX3_copyFrom_8 rfl (lv_at hl 1 rfl) ?_
  refine za_getr (k := 1) hx hb hts hin3 hown hK hP zF_11_1 rfl (Nat.le_of_ble_eq_true rfl) (Or.inl hw2) dX3_copyFrom_9 ?_
  refine lv_iconst (v := (0 : Int32)) hx hb dX3_copyFrom_12 (by decide) ?_
  refine lv_aload_n hx hb dX3_copyFrom_13 rfl (lv_at hl 0 rfl) ?_
  refine za_getr (k := 1) hx hb hts hin3 hown hK hP zF_40_1 rfl (Nat.le_of_ble_eq_true rfl) (Or.inl hw2) dX3_copyFrom_14 ?_
  refine lv_iconst (v := (0 : Int32)) hx hb dX3_copyFrom_17 (by decide) ?_
  refine lv_bipush (v := (8 : Int32)) hx hb dX3_copyFrom_18 (by decide) ?_
  refine za_cpi0 (k' := 8) hx hb (by rw [hml]; exact hl.1.symm) hown hw3 hw4 hw5 hw6 hK hP hD hS zI_12 zI_41 (by decide) rfl (by decide) (by decide) (Nat.le_of_ble_eq_true rfl) (Nat.le_of_ble_eq_true rfl) dX3_copyFrom_20 (fun H locs hP hS => ?_)
  refine lv_aload_n hx hb dX3_copyFrom_23 rfl (lv_at hl 1 rfl) ?_
  refine za_getr (k := 2) hx hb hts hin3 hown hK hP zF_11_2 rfl (Nat.le_of_ble_eq_true rfl) (Or.inl hw7) dX3_copyFrom_24 ?_
  refine lv_iconst (v := (0 : Int32)) hx hb dX3_copyFrom_27 (by decide) ?_
  refine lv_aload_n hx hb dX3_copyFrom_28 rfl (lv_at hl 0 rfl) ?_
  refine za_getr (k := 2) hx hb hts hin3 hown hK hP zF_40_2 rfl (Nat.le_of_ble_eq_true rfl) (Or.inl hw7) dX3_copyFrom_29 ?_
  refine lv_iconst (v := (0 : Int32)) hx hb dX3_copyFrom_32 (by decide) ?_
  refine lv_bipush (v := (8 : Int32)) hx hb dX3_copyFrom_33 (by decide) ?_
  refine za_cpi0 (k' := 8) hx hb (by rw [hml]; exact hl.1.symm) hown hw3 hw4 hw5 hw6 hK hP hD hS zI_13 zI_42 (by decide) rfl (by decide) (by decide) (Nat.le_of_ble_eq_true rfl) (Nat.le_of_ble_eq_true rfl) dX3_copyFrom_35 (fun H locs hP hS => ?_)
  cases h
  exact W.vret hx hb hr (fun t ht _ => ⟨rfl, by rw [ht]; exact hP, hS.F ht⟩) hS.2.2 dX3_copyFrom_38
abbrev rmX1_copyFrom_S : Room := { frames := 1, cells := 0, slots := 0, locals := 18 }
set_option maxHeartbeats 4000000 in
set_option maxRecDepth 100000 in
theorem k_X1_copyFrom_S (l : Launch) {D : va_G} {cI cJ : ClassId} {ad : Nat → Nat} {u : tU} {v : tV} {A : Nat → Prop} (hD : zD A cI cJ ad) {uz : tU} {vz : tV} (h : pX1_copyFrom_S u v  = some (uz, vz)) : Met l yX1_copyFrom wsX1_copyFrom rmX1_copyFrom_S (va_Pc [.ref (ad 43), .ref (ad 14)] (xPre D cI cJ (wA cI cJ ad u v))) (xWv D cI cJ ad A uz vz) 0 0 A := by
  refine Met.ofW (cc := cX1_copyFrom) (maxL := 2) (ret := none) (by decide) rfl ?_
  intro p e s m args below meth c s₁ B hml hv
  obtain ⟨rfl, hP, hK⟩ := hv
  have hx := B.exec
  have hb := B.bytes
  have hr := B.returns
  have hts := atoms_spec (ws := wsX1_copyFrom) B.pre
  have hown : s.vm.findClass RX1 = some m.cls := findClass_of_methodNamed B.named
  have hlocks := B.notSynchronized
  have hS : va_S A s.heap s.heap [] := va_S.rf
  have hin1 : ∀ w ∈ u_ws RX1 TX1 5, w ∈ wsX1_copyFrom := fun _ h => List.mem_cons_of_mem _ (List.mem_append_right _ h)
  have hw1 := hts (.fieldLink RX1 25 "InstallDesk$Finds" "count" "I") (List.mem_of_getElem? (i := 1) rfl)
  have hw2 := hts (.fieldLink RX1 9 "InstallDesk$Finds" "names" "[J") (List.mem_of_getElem? (i := 2) rfl)
  have hw3 := hts (.methodLink RX1 29 arraycopyName) (List.mem_of_getElem? (i := 3) rfl)
  have hw4 := hts (.native arraycopyName) (List.mem_of_getElem? (i := 4) rfl)
  have hw5 := hts (.static arraycopyName) (List.mem_of_getElem? (i := 5) rfl)
  have hw6 := hts (.initialized "java/lang/System") (List.mem_of_getElem? (i := 6) rfl)
  have hw7 := hts (.fieldLink RX1 15 "InstallDesk$Finds" "hosts" "[I") (List.mem_of_getElem? (i := 7) rfl)
  have hw8 := hts (.fieldLink RX1 19 "InstallDesk$Finds" "days" "[I") (List.mem_of_getElem? (i := 8) rfl)
  have hw9 := hts (.fieldLink RX1 22 "InstallDesk$Finds" "versions" "[I") (List.mem_of_getElem? (i := 9) rfl)
  have hl := lv_entry ([.ref (ad 43), .ref (ad 14)]) (n := 2) (Nat.le_of_ble_eq_true rfl)
  rw [lg_entry_eq]
  generalize (lg_sl ([.ref (ad 43), .ref (ad 14)]) ++ List.replicate (2 - (lg_sl ([.ref (ad 43), .ref (ad 14)])).length) Slot.unset).toArray = ls at hl ⊢
  have hl : lv_has ls 2 [(0, .ref (ad 43)), (1, .ref (ad 14))] := hl
  rw [pX1_copyFrom_S] at h
  refine lv_aload_n hx hb dX1_copyFrom_0 rfl (lv_at hl 0 rfl) ?_
  refine lv_aload_n hx hb dX1_copyFrom_1 rfl (lv_at hl 1 rfl) ?_
  refine za_geti (k := 0) hx hb hts hin1 hown hK hP zF_14_0 rfl (Nat.le_of_ble_eq_true rfl) (Or.inl hw1) dX1_copyFrom_2 ?_
  refine za_puti (k := 0) hx hb hts hin1 tyX1 tyX1_ok nmX1 hown hK hP hD hS zF_43_0 rfl (Nat.le_of_ble_eq_true rfl) (Or.inl hw1) rfl rfl rfl dX1_copyFrom_5 (fun H locs hP hS => ?_)
  refine lv_aload_n hx hb dX1_copyFrom_8 rfl (lv_at hl 1 rfl) ?_
  refine za_getr (k := 1) hx hb hts hin1 hown hK hP zF_14_1 rfl (Nat.le_of_ble_eq_true rfl) (Or.inl hw2) dX1_copyFrom_9 ?_
  refine lv_iconst (v := (0 : Int32)) hx hb dX1_copyFrom_12 (by decide) ?_
  refine lv_aload_n hx hb dX1_copyFrom_13 rfl (lv_at hl 0 rfl) ?_
  refine za_getr (k := 1) hx hb hts hin1 hown hK hP zF_43_1 rfl (Nat.le_of_ble_eq_true rfl) (Or.inl hw2) dX1_copyFrom_14 ?_
  refine lv_iconst (v := (0 : Int32)) hx hb dX1_copyFrom_17 (by decide) ?_
  refine lv_bipush (v := (40 : Int32)) hx hb dX1_copyFrom_18 (by decide) ?_
  refine za_cpl0 (k' := 40) hx hb (by rw [hml]; exact hl.1.symm) hown hw3 hw4 hw5 hw6 hK hP hD hS zJ_15 zJ_44 (by decide) rfl (by decide) (by decide) (Nat.le_of_ble_eq_true rfl) (Nat.le_of_ble_eq_true rfl) dX1_copyFrom_20 (fun H locs hP hS => ?_)
  refine lv_aload_n hx hb dX1_copyFrom_23 rfl (lv_at hl 1 rfl) ?_
  refine za_getr (k := 2) hx hb hts hin1 hown hK hP zF_14_2 rfl (Nat.le_of_ble_eq_true rfl) (Or.inl hw7) dX1_copyFrom_24 ?_
  refine lv_iconst (v := (0 : Int32)) hx hb dX1_copyFrom_27 (by decide) ?_
  refine lv_aload_n hx hb dX1_copyFrom_28 rfl (lv_at hl 0 rfl) ?_
  refine za_getr (k := 2) hx hb hts hin1 hown hK hP zF_43_2 rfl (Nat.le_of_ble_eq_true rfl) (Or.inl hw7) dX1_copyFrom_29 ?_
  refine lv_iconst (v := (0 : Int32)) hx hb dX1_copyFrom_32 (by decide) ?_
  refine lv_bipush (v := (40 : Int32)) hx hb dX1_copyFrom_33 (by decide) ?_
  refine za_cpi0 (k' := 40) hx hb (by rw [hml]; exact hl.1.symm) hown hw3 hw4 hw5 hw6 hK hP hD hS zI_16 zI_45 (by decide) rfl (by decide) (by decide) (Nat.le_of_ble_eq_true rfl) (Nat.le_of_ble_eq_true rfl) dX1_copyFrom_35 (fun H locs hP hS => ?_)
  refine lv_aload_n hx hb dX1_copyFrom_38 rfl (lv_at hl 1 rfl) ?_
  refine za_getr (k := 3) hx hb hts hin1 hown hK hP zF_14_3 rfl (Nat.le_of_ble_eq_true rfl) (Or.inl hw8) dX1_copyFrom_39 ?_
  refine lv_iconst (v := (0 : Int32)) hx hb dX1_copyFrom_42 (by decide) ?_
  refine lv_aload_n hx hb dX1_copyFrom_43 rfl (lv_at hl 0 rfl) ?_
  refine za_getr (k := 3) hx hb hts hin1 hown hK hP zF_43_3 rfl (Nat.le_of_ble_eq_true rfl) (Or.inl hw8) dX1_copyFrom_44 ?_
  refine lv_iconst (v := (0 : Int32)) hx hb dX1_copyFrom_47 (by decide) ?_
  refine lv_bipush (v := (40 : Int32)) hx hb dX1_copyFrom_48 (by decide) ?_
  refine za_cpi0 (k' := 40) hx hb (by rw [hml]; exact hl.1.symm) hown hw3 hw4 hw5 hw6 hK hP hD hS zI_17 zI_46 (by decide) rfl (by decide) (by decide) (Nat.le_of_ble_eq_true rfl) (Nat.le_of_ble_eq_true rfl) dX1_copyFrom_50 (fun H locs hP hS => ?_)
  refine lv_aload_n hx hb dX1_copyFrom_53 rfl (lv_at hl 1 rfl) ?_
  refine za_getr (k := 4) hx hb hts hin1 hown hK hP zF_14_4 rfl (Nat.le_of_ble_eq_true rfl) (Or.inl hw9) dX1_copyFrom_54 ?_
  refine lv_iconst (v := (0 : Int32)) hx hb dX1_copyFrom_57 (by decide) ?_
  refine lv_aload_n hx hb dX1_copyFrom_58 rfl (lv_at hl 0 rfl) ?_
  refine za_getr (k := 4) hx hb hts hin1 hown hK hP zF_43_4 rfl (Nat.le_of_ble_eq_true rfl) (Or.inl hw9) dX1_copyFrom_59 ?_
  refine lv_iconst (v := (0 : Int32)) hx hb dX1_copyFrom_62 (by decide) ?_
  refine lv_bipush (v := (40 : Int32)) hx hb dX1_copyFrom_63 (by decide) ?_
  refine za_cpi0 (k' := 40) hx hb (by rw [hml]; exact hl.1.symm) hown hw3 hw4 hw5 hw6 hK hP hD hS zI_18 zI_47 (by decide) rfl (by decide) (by decide) (Nat.le_of_ble_eq_true rfl) (Nat.le_of_ble_eq_true rfl) dX1_copyFrom_65 (fun H locs hP hS => ?_)
  cases h
  exact W.vret hx hb hr (fun t ht _ => ⟨rfl, by rw [ht]; exact hP, hS.F ht⟩) hS.2.2 dX1_copyFrom_68
abbrev rmX9_copyFrom_S : Room := { frames := 1, cells := 0, slots := 0, locals := 18 }
set_option maxHeartbeats 4000000 in
set_option maxRecDepth 100000 in
theorem k_X9_copyFrom_S (l : Launch) {D : va_G} {cI cJ : ClassId} {ad : Nat → Nat} {u : tU} {v : tV} {A : Nat → Prop} (hD : zD A cI cJ ad) {uz : tU} {vz : tV} (h : pX9_copyFrom_S u v  = some (uz, vz)) : Met l yX9_copyFrom wsX9_copyFrom rmX9_copyFrom_S (va_Pc [.ref (ad 48), .ref (ad 19)] (xPre D cI cJ (wA cI cJ ad u v))) (xWv D cI cJ ad A uz vz) 0 0 A := by
  refine Met.ofW (cc := cX9_copyFrom) (maxL := 2) (ret := none) (by decide) rfl ?_
  intro p e s m args below meth c s₁ B hml hv
  obtain ⟨rfl, hP, hK⟩ := hv
  have hx := B.exec
  have hb := B.bytes
  have hr := B.returns
  have hts := atoms_spec (ws := wsX9_copyFrom) B.pre
  have hown : s.vm.findClass RX9 = some m.cls := findClass_of_methodNamed B.named
  have hlocks := B.notSynchronized
  have hS : va_S A s.heap s.heap [] := va_S.rf
  have hin9 : ∀ w ∈ u_ws RX9 TX9 5, w ∈ wsX9_copyFrom := fun _ h => List.mem_cons_of_mem _ (List.mem_append_right _ h)
  have hw1 := hts (.fieldLink RX9 24 "InstallDesk$Uses" "count" "I") (List.mem_of_getElem? (i := 1) rfl)
  have hw2 := hts (.fieldLink RX9 9 "InstallDesk$Uses" "persons" "[I") (List.mem_of_getElem? (i := 2) rfl)
  have hw3 := hts (.methodLink RX9 36 arraycopyName) (List.mem_of_getElem? (i := 3) rfl)
  have hw4 := hts (.native arraycopyName) (List.mem_of_getElem? (i := 4) rfl)
  have hw5 := hts (.static arraycopyName) (List.mem_of_getElem? (i := 5) rfl)
  have hw6 := hts (.initialized "java/lang/System") (List.mem_of_getElem? (i := 6) rfl)
  have hw7 := hts (.fieldLink RX9 15 "InstallDesk$Uses" "products" "[I") (List.mem_of_getElem? (i := 7) rfl)
  have hw8 := hts (.fieldLink RX9 18 "InstallDesk$Uses" "starts" "[I") (List.mem_of_getElem? (i := 8) rfl)
  have hw9 := hts (.fieldLink RX9 21 "InstallDesk$Uses" "ends" "[I") (List.mem_of_getElem? (i := 9) rfl)
  have hl := lv_entry ([.ref (ad 48), .ref (ad 19)]) (n := 2) (Nat.le_of_ble_eq_true rfl)
  rw [lg_entry_eq]
  generalize (lg_sl ([.ref (ad 48), .ref (ad 19)]) ++ List.replicate (2 - (lg_sl ([.ref (ad 48), .ref (ad 19)])).length) Slot.unset).toArray = ls at hl ⊢
  have hl : lv_has ls 2 [(0, .ref (ad 48)), (1, .ref (ad 19))] := hl
  rw [pX9_copyFrom_S] at h
  refine lv_aload_n hx hb dX9_copyFrom_0 rfl (lv_at hl 0 rfl) ?_
  refine lv_aload_n hx hb dX9_copyFrom_1 rfl (lv_at hl 1 rfl) ?_
  refine za_geti (k := 0) hx hb hts hin9 hown hK hP zF_19_0 rfl (Nat.le_of_ble_eq_true rfl) (Or.inl hw1) dX9_copyFrom_2 ?_
  refine za_puti (k := 0) hx hb hts hin9 tyX9 tyX9_ok nmX9 hown hK hP hD hS zF_48_0 rfl (Nat.le_of_ble_eq_true rfl) (Or.inl hw1) rfl rfl rfl dX9_copyFrom_5 (fun H locs hP hS => ?_)
  refine lv_aload_n hx hb dX9_copyFrom_8 rfl (lv_at hl 1 rfl) ?_
  refine za_getr (k := 1) hx hb hts hin9 hown hK hP zF_19_1 rfl (Nat.le_of_ble_eq_true rfl) (Or.inl hw2) dX9_copyFrom_9 ?_
  refine lv_iconst (v := (0 : Int32)) hx hb dX9_copyFrom_12 (by decide) ?_
  refine lv_aload_n hx hb dX9_copyFrom_13 rfl (lv_at hl 0 rfl) ?_
  refine za_getr (k := 1) hx hb hts hin9 hown hK hP zF_48_1 rfl (Nat.le_of_ble_eq_true rfl) (Or.inl hw2) dX9_copyFrom_14 ?_
  refine lv_iconst (v := (0 : Int32)) hx hb dX9_copyFrom_17 (by decide) ?_
  refine lv_bipush (v := (30 : Int32)) hx hb dX9_copyFrom_18 (by decide) ?_
  refine za_cpi0 (k' := 30) hx hb (by rw [hml]; exact hl.1.symm) hown hw3 hw4 hw5 hw6 hK hP hD hS zI_20 zI_49 (by decide) rfl (by decide) (by decide) (Nat.le_of_ble_eq_true rfl) (Nat.le_of_ble_eq_true rfl) dX9_copyFrom_20 (fun H locs hP hS => ?_)
  refine lv_aload_n hx hb dX9_copyFrom_23 rfl (lv_at hl 1 rfl) ?_
  refine za_getr (k := 2) hx hb hts hin9 hown hK hP zF_19_2 rfl (Nat.le_of_ble_eq_true rfl) (Or.inl hw7) dX9_copyFrom_24 ?_
  refine lv_iconst (v := (0 : Int32)) hx hb dX9_copyFrom_27 (by decide) ?_
  refine lv_aload_n hx hb dX9_copyFrom_28 rfl (lv_at hl 0 rfl) ?_
  refine za_getr (k := 2) hx hb hts hin9 hown hK hP zF_48_2 rfl (Nat.le_of_ble_eq_true rfl) (Or.inl hw7) dX9_copyFrom_29 ?_
  refine lv_iconst (v := (0 : Int32)) hx hb dX9_copyFrom_32 (by decide) ?_
  refine lv_bipush (v := (30 : Int32)) hx hb dX9_copyFrom_33 (by decide) ?_
  refine za_cpi0 (k' := 30) hx hb (by rw [hml]; exact hl.1.symm) hown hw3 hw4 hw5 hw6 hK hP hD hS zI_21 zI_50 (by decide) rfl (by decide) (by decide) (Nat.le_of_ble_eq_true rfl) (Nat.le_of_ble_eq_true rfl) dX9_copyFrom_35 (fun H locs hP hS => ?_)
  refine lv_aload_n hx hb dX9_copyFrom_38 rfl (lv_at hl 1 rfl) ?_
  refine za_getr (k := 3) hx hb hts hin9 hown hK hP zF_19_3 rfl (Nat.le_of_ble_eq_true rfl) (Or.inl hw8) dX9_copyFrom_39 ?_
  refine lv_iconst (v := (0 : Int32)) hx hb dX9_copyFrom_42 (by decide) ?_
  refine lv_aload_n hx hb dX9_copyFrom_43 rfl (lv_at hl 0 rfl) ?_
  refine za_getr (k := 3) hx hb hts hin9 hown hK hP zF_48_3 rfl (Nat.le_of_ble_eq_true rfl) (Or.inl hw8) dX9_copyFrom_44 ?_
  refine lv_iconst (v := (0 : Int32)) hx hb dX9_copyFrom_47 (by decide) ?_
  refine lv_bipush (v := (30 : Int32)) hx hb dX9_copyFrom_48 (by decide) ?_
  refine za_cpi0 (k' := 30) hx hb (by rw [hml]; exact hl.1.symm) hown hw3 hw4 hw5 hw6 hK hP hD hS zI_22 zI_51 (by decide) rfl (by decide) (by decide) (Nat.le_of_ble_eq_true rfl) (Nat.le_of_ble_eq_true rfl) dX9_copyFrom_50 (fun H locs hP hS => ?_)
  refine lv_aload_n hx hb dX9_copyFrom_53 rfl (lv_at hl 1 rfl) ?_
  refine za_getr (k := 4) hx hb hts hin9 hown hK hP zF_19_4 rfl (Nat.le_of_ble_eq_true rfl) (Or.inl hw9) dX9_copyFrom_54 ?_
  refine lv_iconst (v := (0 : Int32)) hx hb dX9_copyFrom_57 (by decide) ?_
  refine lv_aload_n hx hb dX9_copyFrom_58 rfl (lv_at hl 0 rfl) ?_
  refine za_getr (k := 4) hx hb hts hin9 hown hK hP zF_48_4 rfl (Nat.le_of_ble_eq_true rfl) (Or.inl hw9) dX9_copyFrom_59 ?_
  refine lv_iconst (v := (0 : Int32)) hx hb dX9_copyFrom_62 (by decide) ?_
  refine lv_bipush (v := (30 : Int32)) hx hb dX9_copyFrom_63 (by decide) ?_
  refine za_cpi0 (k' := 30) hx hb (by rw [hml]; exact hl.1.symm) hown hw3 hw4 hw5 hw6 hK hP hD hS zI_23 zI_52 (by decide) rfl (by decide) (by decide) (Nat.le_of_ble_eq_true rfl) (Nat.le_of_ble_eq_true rfl) dX9_copyFrom_65 (fun H locs hP hS => ?_)
  cases h
  exact W.vret hx hb hr (fun t ht _ => ⟨rfl, by rw [ht]; exact hP, hS.F ht⟩) hS.2.2 dX9_copyFrom_68
abbrev rmX7_copyFrom_S : Room := { frames := 1, cells := 0, slots := 0, locals := 18 }
set_option maxHeartbeats 4000000 in
set_option maxRecDepth 100000 in
theorem k_X7_copyFrom_S (l : Launch) {D : va_G} {cI cJ : ClassId} {ad : Nat → Nat} {u : tU} {v : tV} {A : Nat → Prop} (hD : zD A cI cJ ad) {uz : tU} {vz : tV} (h : pX7_copyFrom_S u v  = some (uz, vz)) : Met l yX7_copyFrom wsX7_copyFrom rmX7_copyFrom_S (va_Pc [.ref (ad 53), .ref (ad 24)] (xPre D cI cJ (wA cI cJ ad u v))) (xWv D cI cJ ad A uz vz) 0 0 A := by
  refine Met.ofW (cc := cX7_copyFrom) (maxL := 2) (ret := none) (by decide) rfl ?_
  intro p e s m args below meth c s₁ B hml hv
  obtain ⟨rfl, hP, hK⟩ := hv
  have hx := B.exec
  have hb := B.bytes
  have hr := B.returns
  have hts := atoms_spec (ws := wsX7_copyFrom) B.pre
  have hown : s.vm.findClass RX7 = some m.cls := findClass_of_methodNamed B.named
  have hlocks := B.notSynchronized
  have hS : va_S A s.heap s.heap [] := va_S.rf
  have hin7 : ∀ w ∈ u_ws RX7 TX7 7, w ∈ wsX7_copyFrom := fun _ h => List.mem_cons_of_mem _ (List.mem_append_right _ h)
  have hw1 := hts (.fieldLink RX7 30 "InstallDesk$Rights" "count" "I") (List.mem_of_getElem? (i := 1) rfl)
  have hw2 := hts (.fieldLink RX7 9 "InstallDesk$Rights" "products" "[I") (List.mem_of_getElem? (i := 2) rfl)
  have hw3 := hts (.methodLink RX7 38 arraycopyName) (List.mem_of_getElem? (i := 3) rfl)
  have hw4 := hts (.native arraycopyName) (List.mem_of_getElem? (i := 4) rfl)
  have hw5 := hts (.static arraycopyName) (List.mem_of_getElem? (i := 5) rfl)
  have hw6 := hts (.initialized "java/lang/System") (List.mem_of_getElem? (i := 6) rfl)
  have hw7 := hts (.fieldLink RX7 15 "InstallDesk$Rights" "versions" "[I") (List.mem_of_getElem? (i := 7) rfl)
  have hw8 := hts (.fieldLink RX7 18 "InstallDesk$Rights" "amounts" "[I") (List.mem_of_getElem? (i := 8) rfl)
  have hw9 := hts (.fieldLink RX7 21 "InstallDesk$Rights" "prices" "[I") (List.mem_of_getElem? (i := 9) rfl)
  have hw10 := hts (.fieldLink RX7 24 "InstallDesk$Rights" "firstDays" "[I") (List.mem_of_getElem? (i := 10) rfl)
  have hw11 := hts (.fieldLink RX7 27 "InstallDesk$Rights" "lastDays" "[I") (List.mem_of_getElem? (i := 11) rfl)
  have hl := lv_entry ([.ref (ad 53), .ref (ad 24)]) (n := 2) (Nat.le_of_ble_eq_true rfl)
  rw [lg_entry_eq]
  generalize (lg_sl ([.ref (ad 53), .ref (ad 24)]) ++ List.replicate (2 - (lg_sl ([.ref (ad 53), .ref (ad 24)])).length) Slot.unset).toArray = ls at hl ⊢
  have hl : lv_has ls 2 [(0, .ref (ad 53)), (1, .ref (ad 24))] := hl
  rw [pX7_copyFrom_S] at h
  refine lv_aload_n hx hb dX7_copyFrom_0 rfl (lv_at hl 0 rfl) ?_
  refine lv_aload_n hx hb dX7_copyFrom_1 rfl (lv_at hl 1 rfl) ?_
  refine za_geti (k := 0) hx hb hts hin7 hown hK hP zF_24_0 rfl (Nat.le_of_ble_eq_true rfl) (Or.inl hw1) dX7_copyFrom_2 ?_
  refine za_puti (k := 0) hx hb hts hin7 tyX7 tyX7_ok nmX7 hown hK hP hD hS zF_53_0 rfl (Nat.le_of_ble_eq_true rfl) (Or.inl hw1) rfl rfl rfl dX7_copyFrom_5 (fun H locs hP hS => ?_)
  refine lv_aload_n hx hb dX7_copyFrom_8 rfl (lv_at hl 1 rfl) ?_
  refine za_getr (k := 1) hx hb hts hin7 hown hK hP zF_24_1 rfl (Nat.le_of_ble_eq_true rfl) (Or.inl hw2) dX7_copyFrom_9 ?_
  refine lv_iconst (v := (0 : Int32)) hx hb dX7_copyFrom_12 (by decide) ?_
  refine lv_aload_n hx hb dX7_copyFrom_13 rfl (lv_at hl 0 rfl) ?_
  refine za_getr (k := 1) hx hb hts hin7 hown hK hP zF_53_1 rfl (Nat.le_of_ble_eq_true rfl) (Or.inl hw2) dX7_copyFrom_14 ?_
  refine lv_iconst (v := (0 : Int32)) hx hb dX7_copyFrom_17 (by decide) ?_
  refine lv_bipush (v := (10 : Int32)) hx hb dX7_copyFrom_18 (by decide) ?_
  refine za_cpi0 (k' := 10) hx hb (by rw [hml]; exact hl.1.symm) hown hw3 hw4 hw5 hw6 hK hP hD hS zI_25 zI_54 (by decide) rfl (by decide) (by decide) (Nat.le_of_ble_eq_true rfl) (Nat.le_of_ble_eq_true rfl) dX7_copyFrom_20 (fun H locs hP hS => ?_)
  refine lv_aload_n hx hb dX7_copyFrom_23 rfl (lv_at hl 1 rfl) ?_
  refine za_getr (k := 2) hx hb hts hin7 hown hK hP zF_24_2 rfl (Nat.le_of_ble_eq_true rfl) (Or.inl hw7) dX7_copyFrom_24 ?_
  refine lv_iconst (v := (0 : Int32)) hx hb dX7_copyFrom_27 (by decide) ?_
  refine lv_aload_n hx hb dX7_copyFrom_28 rfl (lv_at hl 0 rfl) ?_
  refine za_getr (k := 2) hx hb hts hin7 hown hK hP zF_53_2 rfl (Nat.le_of_ble_eq_true rfl) (Or.inl hw7) dX7_copyFrom_29 ?_
  refine lv_iconst (v := (0 : Int32)) hx hb dX7_copyFrom_32 (by decide) ?_
  refine lv_bipush (v := (10 : Int32)) hx hb dX7_copyFrom_33 (by decide) ?_
  refine za_cpi0 (k' := 10) hx hb (by rw [hml]; exact hl.1.symm) hown hw3 hw4 hw5 hw6 hK hP hD hS zI_26 zI_55 (by decide) rfl (by decide) (by decide) (Nat.le_of_ble_eq_true rfl) (Nat.le_of_ble_eq_true rfl) dX7_copyFrom_35 (fun H locs hP hS => ?_)
  refine lv_aload_n hx hb dX7_copyFrom_38 rfl (lv_at hl 1 rfl) ?_
  refine za_getr (k := 3) hx hb hts hin7 hown hK hP zF_24_3 rfl (Nat.le_of_ble_eq_true rfl) (Or.inl hw8) dX7_copyFrom_39 ?_
  refine lv_iconst (v := (0 : Int32)) hx hb dX7_copyFrom_42 (by decide) ?_
  refine lv_aload_n hx hb dX7_copyFrom_43 rfl (lv_at hl 0 rfl) ?_
  refine za_getr (k := 3) hx hb hts hin7 hown hK hP zF_53_3 rfl (Nat.le_of_ble_eq_true rfl) (Or.inl hw8) dX7_copyFrom_44 ?_
  refine lv_iconst (v := (0 : Int32)) hx hb dX7_copyFrom_47 (by decide) ?_
  refine lv_bipush (v := (10 : Int32)) hx hb dX7_copyFrom_48 (by decide) ?_
  refine za_cpi0 (k' := 10) hx hb (by rw [hml]; exact hl.1.symm) hown hw3 hw4 hw5 hw6 hK hP hD hS zI_27 zI_56 (by decide) rfl (by decide) (by decide) (Nat.le_of_ble_eq_true rfl) (Nat.le_of_ble_eq_true rfl) dX7_copyFrom_50 (fun H locs hP hS => ?_)
  refine lv_aload_n hx hb dX7_copyFrom_53 rfl (lv_at hl 1 rfl) ?_
  refine za_getr (k := 4) hx hb hts hin7 hown hK hP zF_24_4 rfl (Nat.le_of_ble_eq_true rfl) (Or.inl hw9) dX7_copyFrom_54 ?_
  refine lv_iconst (v := (0 : Int32)) hx hb dX7_copyFrom_57 (by decide) ?_
  refine lv_aload_n hx hb dX7_copyFrom_58 rfl (lv_at hl 0 rfl) ?_
  refine za_getr (k := 4) hx hb hts hin7 hown hK hP zF_53_4 rfl (Nat.le_of_ble_eq_true rfl) (Or.inl hw9) dX7_copyFrom_59 ?_
  refine lv_iconst (v := (0 : Int32)) hx hb dX7_copyFrom_62 (by decide) ?_
  refine lv_bipush (v := (10 : Int32)) hx hb dX7_copyFrom_63 (by decide) ?_
  refine za_cpi0 (k' := 10) hx hb (by rw [hml]; exact hl.1.symm) hown hw3 hw4 hw5 hw6 hK hP hD hS zI_28 zI_57 (by decide) rfl (by decide) (by decide) (Nat.le_of_ble_eq_true rfl) (Nat.le_of_ble_eq_true rfl) dX7_copyFrom_65 (fun H locs hP hS => ?_)
  refine lv_aload_n hx hb dX7_copyFrom_68 rfl (lv_at hl 1 rfl) ?_
  refine za_getr (k := 5) hx hb hts hin7 hown hK hP zF_24_5 rfl (Nat.le_of_ble_eq_true rfl) (Or.inl hw10) dX7_copyFrom_69 ?_
  refine lv_iconst (v := (0 : Int32)) hx hb dX7_copyFrom_72 (by decide) ?_
  refine lv_aload_n hx hb dX7_copyFrom_73 rfl (lv_at hl 0 rfl) ?_
  refine za_getr (k := 5) hx hb hts hin7 hown hK hP zF_53_5 rfl (Nat.le_of_ble_eq_true rfl) (Or.inl hw10) dX7_copyFrom_74 ?_
  refine lv_iconst (v := (0 : Int32)) hx hb dX7_copyFrom_77 (by decide) ?_
  refine lv_bipush (v := (10 : Int32)) hx hb dX7_copyFrom_78 (by decide) ?_
  refine za_cpi0 (k' := 10) hx hb (by rw [hml]; exact hl.1.symm) hown hw3 hw4 hw5 hw6 hK hP hD hS zI_29 zI_58 (by decide) rfl (by decide) (by decide) (Nat.le_of_ble_eq_true rfl) (Nat.le_of_ble_eq_true rfl) dX7_copyFrom_80 (fun H locs hP hS => ?_)
  refine lv_aload_n hx hb dX7_copyFrom_83 rfl (lv_at hl 1 rfl) ?_
  refine za_getr (k := 6) hx hb hts hin7 hown hK hP zF_24_6 rfl (Nat.le_of_ble_eq_true rfl) (Or.inl hw11) dX7_copyFrom_84 ?_
  refine lv_iconst (v := (0 : Int32)) hx hb dX7_copyFrom_87 (by decide) ?_
  refine lv_aload_n hx hb dX7_copyFrom_88 rfl (lv_at hl 0 rfl) ?_
  refine za_getr (k := 6) hx hb hts hin7 hown hK hP zF_53_6 rfl (Nat.le_of_ble_eq_true rfl) (Or.inl hw11) dX7_copyFrom_89 ?_
  refine lv_iconst (v := (0 : Int32)) hx hb dX7_copyFrom_92 (by decide) ?_
  refine lv_bipush (v := (10 : Int32)) hx hb dX7_copyFrom_93 (by decide) ?_
  refine za_cpi0 (k' := 10) hx hb (by rw [hml]; exact hl.1.symm) hown hw3 hw4 hw5 hw6 hK hP hD hS zI_30 zI_59 (by decide) rfl (by decide) (by decide) (Nat.le_of_ble_eq_true rfl) (Nat.le_of_ble_eq_true rfl) dX7_copyFrom_95 (fun H locs hP hS => ?_)
  cases h
  exact W.vret hx hb hr (fun t ht _ => ⟨rfl, by rw [ht]; exact hP, hS.F ht⟩) hS.2.2 dX7_copyFrom_98
