abbrev rmX9_howManyAt : Room := { frames := 0, cells := 0, slots := 0, locals := 0 }
set_option maxHeartbeats 4000000 in
set_option maxRecDepth 100000 in
theorem k_X9_howManyAt (l : Launch) {D : va_G} {cI cJ : ClassId} {ad : Nat → Nat} {u : tU} {v : tV} {a1 : Int32} {a2 : Int32}  {r : Int32}  (h : pX9_howManyAt u v a1 a2 = some r) : Met l yX9_howManyAt wsX9_howManyAt rmX9_howManyAt (va_Pc [.ref (ad 19), .int a1, .int a2] (xPre D cI cJ (wA cI cJ ad u v))) (QcRead r) 0 0 (fun _ => False) := by
  refine Met.ofW (cc := cX9_howManyAt) (maxL := 5) (ret := (some .int)) (by decide) rfl ?_
  intro p e s m args below meth c s₁ B hml hv
  obtain ⟨rfl, hP, hK⟩ := hv
  have hx := B.exec
  have hb := B.bytes
  have hr := B.returns
  have hts := atoms_spec (ws := wsX9_howManyAt) B.pre
  have hown : s.vm.findClass RX9 = some m.cls := findClass_of_methodNamed B.named
  have hlocks := B.notSynchronized
  have hin9 : ∀ w ∈ u_ws RX9 TX9 5, w ∈ wsX9_howManyAt := fun _ h => List.mem_cons_of_mem _ (List.mem_append_right _ h)
  have hw1 := hts (.fieldLink RX9 24 "InstallDesk$Uses" "count" "I") (List.mem_of_getElem? (i := 1) rfl)
  have hw2 := hts (.fieldLink RX9 15 "InstallDesk$Uses" "products" "[I") (List.mem_of_getElem? (i := 2) rfl)
  have hw3 := hts (.fieldLink RX9 18 "InstallDesk$Uses" "starts" "[I") (List.mem_of_getElem? (i := 3) rfl)
  have hw4 := hts (.fieldLink RX9 21 "InstallDesk$Uses" "ends" "[I") (List.mem_of_getElem? (i := 4) rfl)
  have hl := lv_entry ([.ref (ad 19), .int a1, .int a2]) (n := 5) (Nat.le_of_ble_eq_true rfl)
  rw [lg_entry_eq]
  generalize (lg_sl ([.ref (ad 19), .int a1, .int a2]) ++ List.replicate (5 - (lg_sl ([.ref (ad 19), .int a1, .int a2])).length) Slot.unset).toArray = ls at hl ⊢
  have hl : lv_has ls 5 [(0, .ref (ad 19)), (1, .int a1), (2, .int a2)] := hl
  have L5 : ∀ (x1 : Int32) (x2 : Int32) (n : Nat) (x3 : Int32) (x4 : Int32) (ls : Array Slot) (o : Int32), pX9_howManyAt_L5 u v x1 x2 n x3 x4 = some o → lv_has ls 5 [(0, .ref (ad 19)), (1, .int x1), (2, .int x2), (3, .int x3), (4, .int x4)] → (∀ (y3 : Int32) (ls : Array Slot), o = y3 → lv_has ls 5 [(3, .int y3)] → W p l e (headSpec wsX9_howManyAt rmX9_howManyAt).room s m [Value.ref (ad 19), Value.int a1, Value.int a2].toArray below meth c s.heap [] 0 0 (MQ below (QcRead r) [Value.ref (ad 19), Value.int a1, Value.int a2].toArray s 0 0 (fun _ => False)) (F0 m 56 ls [])) → W p l e (headSpec wsX9_howManyAt rmX9_howManyAt).room s m [Value.ref (ad 19), Value.int a1, Value.int a2].toArray below meth c s.heap [] 0 0 (MQ below (QcRead r) [Value.ref (ad 19), Value.int a1, Value.int a2].toArray s 0 0 (fun _ => False)) (F0 m 5 ls []) := by
    intro x1 x2 n
    induction n with
    | zero => intro x3 x4 ls o h; cases h
    | succ n ih =>
      intro x3 x4 ls o h hl hk
      rw [pX9_howManyAt_L5] at h
      refine lv_iload hx hb dX9_howManyAt_5 (lv_at hl 4 rfl) ?_
      refine lv_aload_n hx hb dX9_howManyAt_7 rfl (lv_at hl 0 rfl) ?_
      refine za_geti (k := 0) hx hb hts hin9 hown hK hP zF_19_0 rfl (Nat.le_of_ble_eq_true rfl) (Or.inl hw1) dX9_howManyAt_8 ?_
      refine lv_icmp_ge (tgt := 56) hx hb dX9_howManyAt_11 (by decide) (fun c1 => ?_) (fun c1 => ?_)
      · have h := vz_t c1 h
        cases h
        exact hk x3 ls rfl (lv_sub hl [3] rfl)
      · have h := vz_f c1 h
        refine lv_aload_n hx hb dX9_howManyAt_14 rfl (lv_at hl 0 rfl) ?_
        refine za_getr (k := 2) hx hb hts hin9 hown hK hP zF_19_2 rfl (Nat.le_of_ble_eq_true rfl) (Or.inl hw2) dX9_howManyAt_15 ?_
        refine lv_iload hx hb dX9_howManyAt_18 (lv_at hl 4 rfl) ?_
        obtain ⟨g2, h⟩ := gd_s h
        refine za_ild hx hb hK hP zI_21 g2 dX9_howManyAt_20 ?_
        refine lv_iload_n hx hb dX9_howManyAt_21 rfl (lv_at hl 1 rfl) ?_
        refine lv_icmp_ne (tgt := 50) hx hb dX9_howManyAt_22 (by decide) (fun c3 => ?_) (fun c3 => ?_)
        · have h := vz_f c3 h
          refine lv_iinc (v := (x4 + 1)) (lv' := [(4, .int (x4 + 1)), (0, .ref (ad 19)), (1, .int x1), (2, .int x2), (3, .int x3)]) hx hb dX9_howManyAt_50 hl (k := 4) rfl rfl (by decide) rfl (fun ls hl => ?_)
          refine lv_goto (tgt := 5) hx hb dX9_howManyAt_53 (by decide) ?_
          exact ih x3 (x4 + 1) ls o h (lv_sub hl [1, 2, 3, 4, 0] rfl) hk
        · have h := vz_t c3 h
          refine lv_aload_n hx hb dX9_howManyAt_25 rfl (lv_at hl 0 rfl) ?_
          refine za_getr (k := 3) hx hb hts hin9 hown hK hP zF_19_3 rfl (Nat.le_of_ble_eq_true rfl) (Or.inl hw3) dX9_howManyAt_26 ?_
          refine lv_iload hx hb dX9_howManyAt_29 (lv_at hl 4 rfl) ?_
          obtain ⟨g4, h⟩ := gd_s h
          refine za_ild hx hb hK hP zI_22 g4 dX9_howManyAt_31 ?_
          refine lv_iload_n hx hb dX9_howManyAt_32 rfl (lv_at hl 2 rfl) ?_
          refine lv_icmp_gt (tgt := 50) hx hb dX9_howManyAt_33 (by decide) (fun c5 => ?_) (fun c5 => ?_)
          · have h := vz_t c5 h
            refine lv_iinc (v := (x4 + 1)) (lv' := [(4, .int (x4 + 1)), (0, .ref (ad 19)), (1, .int x1), (2, .int x2), (3, .int x3)]) hx hb dX9_howManyAt_50 hl (k := 4) rfl rfl (by decide) rfl (fun ls hl => ?_)
            refine lv_goto (tgt := 5) hx hb dX9_howManyAt_53 (by decide) ?_
            exact ih x3 (x4 + 1) ls o h (lv_sub hl [1, 2, 3, 4, 0] rfl) hk
          · have h := vz_f c5 h
            refine lv_iload_n hx hb dX9_howManyAt_36 rfl (lv_at hl 2 rfl) ?_
            refine lv_aload_n hx hb dX9_howManyAt_37 rfl (lv_at hl 0 rfl) ?_
            refine za_getr (k := 4) hx hb hts hin9 hown hK hP zF_19_4 rfl (Nat.le_of_ble_eq_true rfl) (Or.inl hw4) dX9_howManyAt_38 ?_
            refine lv_iload hx hb dX9_howManyAt_41 (lv_at hl 4 rfl) ?_
            obtain ⟨g6, h⟩ := gd_s h
            refine za_ild hx hb hK hP zI_23 g6 dX9_howManyAt_43 ?_
            refine lv_icmp_ge (tgt := 50) hx hb dX9_howManyAt_44 (by decide) (fun c7 => ?_) (fun c7 => ?_)
            · have h := vz_t c7 h
              refine lv_iinc (v := (x4 + 1)) (lv' := [(4, .int (x4 + 1)), (0, .ref (ad 19)), (1, .int x1), (2, .int x2), (3, .int x3)]) hx hb dX9_howManyAt_50 hl (k := 4) rfl rfl (by decide) rfl (fun ls hl => ?_)
              refine lv_goto (tgt := 5) hx hb dX9_howManyAt_53 (by decide) ?_
              exact ih x3 (x4 + 1) ls o h (lv_sub hl [1, 2, 3, 4, 0] rfl) hk
            · have h := vz_f c7 h
              refine lv_iinc (v := (x3 + 1)) (lv' := [(3, .int (x3 + 1)), (0, .ref (ad 19)), (1, .int x1), (2, .int x2), (4, .int x4)]) hx hb dX9_howManyAt_47 hl (k := 3) rfl rfl (by decide) rfl (fun ls hl => ?_)
              refine lv_iinc (v := (x4 + 1)) (lv' := [(4, .int (x4 + 1)), (3, .int (x3 + 1)), (0, .ref (ad 19)), (1, .int x1), (2, .int x2)]) hx hb dX9_howManyAt_50 hl (k := 4) rfl rfl (by decide) rfl (fun ls hl => ?_)
              refine lv_goto (tgt := 5) hx hb dX9_howManyAt_53 (by decide) ?_
              exact ih (x3 + 1) (x4 + 1) ls o h (lv_sub hl [2, 3, 4, 1, 0] rfl) hk
  rw [pX9_howManyAt] at h
  refine lv_iconst (v := (0 : Int32)) hx hb dX9_howManyAt_0 (by decide) ?_
  refine lv_istore_n (lv' := [(3, .int (0 : Int32)), (0, .ref (ad 19)), (1, .int a1), (2, .int a2)]) hx hb dX9_howManyAt_1 rfl hl (by decide) rfl (fun ls hl => ?_)
  refine lv_iconst (v := (0 : Int32)) hx hb dX9_howManyAt_2 (by decide) ?_
  refine lv_istore (lv' := [(4, .int (0 : Int32)), (3, .int (0 : Int32)), (0, .ref (ad 19)), (1, .int a1), (2, .int a2)]) hx hb dX9_howManyAt_3 hl (by decide) rfl (fun ls hl => ?_)
  obtain ⟨o8, hL9, h⟩ := vz_b h
  refine L5 a1 a2 fuel (0 : Int32) (0 : Int32) ls o8 hL9 (lv_sub hl [2, 3, 4, 1, 0] rfl) (fun y11 ls e10 hl => ?_)
  try rw [e10] at h
  try dsimp only at h
  refine lv_iload_n hx hb dX9_howManyAt_56 rfl (lv_at hl 0 rfl) ?_
  cases h
  exact W.iret hx hb hr (fun t ht _ => ⟨rfl, ht⟩) (fun q hq => absurd hq List.not_mem_nil) dX9_howManyAt_57
abbrev rmX9_peakTick : Room := { frames := 1, cells := 0, slots := 0, locals := 24 }
set_option maxHeartbeats 4000000 in
set_option maxRecDepth 100000 in
theorem k_X9_peakTick (l : Launch) {D : va_G} {cI cJ : ClassId} {ad : Nat → Nat} {u : tU} {v : tV} {a1 : Int32}  {r : Int32}  (h : pX9_peakTick u v a1 = some r) : Met l yX9_peakTick wsX9_peakTick rmX9_peakTick (va_Pc [.ref (ad 19), .int a1] (xPre D cI cJ (wA cI cJ ad u v))) (QcRead r) 0 0 (fun _ => False) := by
  refine Met.ofW (cc := cX9_peakTick) (maxL := 6) (ret := (some .int)) (by decide) rfl ?_
  intro p e s m args below meth c s₁ B hml hv
  obtain ⟨rfl, hP, hK⟩ := hv
  have hx := B.exec
  have hb := B.bytes
  have hr := B.returns
  have hts := atoms_spec (ws := wsX9_peakTick) B.pre
  have hown : s.vm.findClass RX9 = some m.cls := findClass_of_methodNamed B.named
  have hlocks := B.notSynchronized
  have hin9 : ∀ w ∈ u_ws RX9 TX9 5, w ∈ wsX9_peakTick := fun _ h => List.mem_cons_of_mem _ (List.mem_append_right _ h)
  have hw1 := hts (.fieldLink RX9 24 "InstallDesk$Uses" "count" "I") (List.mem_of_getElem? (i := 1) rfl)
  have hw2 := hts (.fieldLink RX9 15 "InstallDesk$Uses" "products" "[I") (List.mem_of_getElem? (i := 2) rfl)
  have hw3 := hts (.fieldLink RX9 18 "InstallDesk$Uses" "starts" "[I") (List.mem_of_getElem? (i := 3) rfl)
  have hl := lv_entry ([.ref (ad 19), .int a1]) (n := 6) (Nat.le_of_ble_eq_true rfl)
  rw [lg_entry_eq]
  generalize (lg_sl ([.ref (ad 19), .int a1]) ++ List.replicate (6 - (lg_sl ([.ref (ad 19), .int a1])).length) Slot.unset).toArray = ls at hl ⊢
  have hl : lv_has ls 6 [(0, .ref (ad 19)), (1, .int a1)] := hl
  have L8 : ∀ (x1 : Int32) (n : Nat) (x2 : Int32) (x3 : Int32) (x4 : Int32) (ls : Array Slot) (o : Int32), pX9_peakTick_L8 u v x1 n x2 x3 x4 = some o → lv_has ls 6 [(0, .ref (ad 19)), (1, .int x1), (2, .int x2), (3, .int x3), (4, .int x4)] → (∀ (y2 : Int32) (ls : Array Slot), o = y2 → lv_has ls 6 [(2, .int y2)] → W p l e (headSpec wsX9_peakTick rmX9_peakTick).room s m [Value.ref (ad 19), Value.int a1].toArray below meth c s.heap [] 0 0 (MQ below (QcRead r) [Value.ref (ad 19), Value.int a1].toArray s 0 0 (fun _ => False)) (F0 m 82 ls [])) → W p l e (headSpec wsX9_peakTick rmX9_peakTick).room s m [Value.ref (ad 19), Value.int a1].toArray below meth c s.heap [] 0 0 (MQ below (QcRead r) [Value.ref (ad 19), Value.int a1].toArray s 0 0 (fun _ => False)) (F0 m 8 ls []) := by
    intro x1 n
    induction n with
    | zero => intro x2 x3 x4 ls o h; cases h
    | succ n ih =>
      intro x2 x3 x4 ls o h hl hk
      rw [pX9_peakTick_L8] at h
      refine lv_iload hx hb dX9_peakTick_8 (lv_at hl 4 rfl) ?_
      refine lv_aload_n hx hb dX9_peakTick_10 rfl (lv_at hl 0 rfl) ?_
      refine za_geti (k := 0) hx hb hts hin9 hown hK hP zF_19_0 rfl (Nat.le_of_ble_eq_true rfl) (Or.inl hw1) dX9_peakTick_11 ?_
      refine lv_icmp_ge (tgt := 82) hx hb dX9_peakTick_14 (by decide) (fun c1 => ?_) (fun c1 => ?_)
      · have h := vz_t c1 h
        cases h
        exact hk x2 ls rfl (lv_sub hl [2] rfl)
      · have h := vz_f c1 h
        refine lv_aload_n hx hb dX9_peakTick_17 rfl (lv_at hl 0 rfl) ?_
        refine za_getr (k := 2) hx hb hts hin9 hown hK hP zF_19_2 rfl (Nat.le_of_ble_eq_true rfl) (Or.inl hw2) dX9_peakTick_18 ?_
        refine lv_iload hx hb dX9_peakTick_21 (lv_at hl 4 rfl) ?_
        obtain ⟨g2, h⟩ := gd_s h
        refine za_ild hx hb hK hP zI_21 g2 dX9_peakTick_23 ?_
        refine lv_iload_n hx hb dX9_peakTick_24 rfl (lv_at hl 1 rfl) ?_
        refine lv_icmp_ne (tgt := 76) hx hb dX9_peakTick_25 (by decide) (fun c3 => ?_) (fun c3 => ?_)
        · have h := vz_f c3 h
          refine lv_iinc (v := (x4 + 1)) (lv' := [(4, .int (x4 + 1)), (0, .ref (ad 19)), (1, .int x1), (2, .int x2), (3, .int x3)]) hx hb dX9_peakTick_76 hl (k := 4) rfl rfl (by decide) rfl (fun ls hl => ?_)
          refine lv_goto (tgt := 8) hx hb dX9_peakTick_79 (by decide) ?_
          exact ih x2 x3 (x4 + 1) ls o h (lv_sub hl [1, 2, 3, 4, 0] rfl) hk
        · have h := vz_t c3 h
          refine lv_aload_n hx hb dX9_peakTick_28 rfl (lv_at hl 0 rfl) ?_
          refine lv_iload_n hx hb dX9_peakTick_29 rfl (lv_at hl 1 rfl) ?_
          refine lv_aload_n hx hb dX9_peakTick_30 rfl (lv_at hl 0 rfl) ?_
          refine za_getr (k := 3) hx hb hts hin9 hown hK hP zF_19_3 rfl (Nat.le_of_ble_eq_true rfl) (Or.inl hw3) dX9_peakTick_31 ?_
          refine lv_iload hx hb dX9_peakTick_34 (lv_at hl 4 rfl) ?_
          obtain ⟨g4, h⟩ := gd_s h
          refine za_ild hx hb hK hP zI_22 g4 dX9_peakTick_36 ?_
          obtain ⟨r6, hc5, h⟩ := vz_b h
          refine za_callR (va_runV (As := [.int x1, .int (u 23 x4.toNatClampNeg)]) (rest := []) ⟨hx, hb, hml, hown, hts⟩ (k_X9_howManyAt l (D := D) (cI := cI) (cJ := cJ) (ad := ad) hc5) (cwV 2 hts gX9_peakTick_X9_howManyAt rfl rfl rfl ⟨rfl, zd_X9_howManyAt⟩ ⟨Nat.le_of_ble_eq_true rfl, Nat.le_of_ble_eq_true rfl⟩) (xPreV (ci := 9) hK hP rfl zO_19) rfl rfl hl.1 rfl (lv_room (Nat.le_of_ble_eq_true rfl)) dX9_peakTick_37 ⟨Nat.zero_le _, Nat.zero_le _⟩) ?_
          refine lv_istore (lv' := [(5, .int r6), (0, .ref (ad 19)), (1, .int x1), (2, .int x2), (3, .int x3), (4, .int x4)]) hx hb dX9_peakTick_40 hl (by decide) rfl (fun ls hl => ?_)
          refine lv_iload hx hb dX9_peakTick_42 (lv_at hl 0 rfl) ?_
          refine lv_iload_n hx hb dX9_peakTick_44 rfl (lv_at hl 4 rfl) ?_
          refine lv_icmp_gt (tgt := 65) hx hb dX9_peakTick_45 (by decide) (fun c7 => ?_) (fun c7 => ?_)
          · have h := vz_t c7 h
            refine lv_aload_n hx hb dX9_peakTick_65 rfl (lv_at hl 1 rfl) ?_
            refine za_getr (k := 3) hx hb hts hin9 hown hK hP zF_19_3 rfl (Nat.le_of_ble_eq_true rfl) (Or.inl hw3) dX9_peakTick_66 ?_
            refine lv_iload hx hb dX9_peakTick_69 (lv_at hl 5 rfl) ?_
            obtain ⟨g8, h⟩ := gd_s h
            refine za_ild hx hb hK hP zI_22 g8 dX9_peakTick_71 ?_
            refine lv_istore_n (lv' := [(2, .int (u 23 x4.toNatClampNeg)), (5, .int r6), (0, .ref (ad 19)), (1, .int x1), (3, .int x3), (4, .int x4)]) hx hb dX9_peakTick_72 rfl hl (by decide) rfl (fun ls hl => ?_)
            refine lv_iload hx hb dX9_peakTick_73 (lv_at hl 1 rfl) ?_
            refine lv_istore_n (lv' := [(3, .int r6), (2, .int (u 23 x4.toNatClampNeg)), (5, .int r6), (0, .ref (ad 19)), (1, .int x1), (4, .int x4)]) hx hb dX9_peakTick_75 rfl hl (by decide) rfl (fun ls hl => ?_)
            refine lv_iinc (v := (x4 + 1)) (lv' := [(4, .int (x4 + 1)), (3, .int r6), (2, .int (u 23 x4.toNatClampNeg)), (5, .int r6), (0, .ref (ad 19)), (1, .int x1)]) hx hb dX9_peakTick_76 hl (k := 5) rfl rfl (by decide) rfl (fun ls hl => ?_)
            refine lv_goto (tgt := 8) hx hb dX9_peakTick_79 (by decide) ?_
            exact ih (u 23 x4.toNatClampNeg) r6 (x4 + 1) ls o h (lv_sub hl [4, 5, 2, 1, 0] rfl) hk
          · have h := vz_f c7 h
            refine lv_iload hx hb dX9_peakTick_48 (lv_at hl 0 rfl) ?_
            refine lv_iload_n hx hb dX9_peakTick_50 rfl (lv_at hl 4 rfl) ?_
            refine lv_icmp_ne (tgt := 76) hx hb dX9_peakTick_51 (by decide) (fun c9 => ?_) (fun c9 => ?_)
            · have h := vz_f c9 h
              refine lv_iinc (v := (x4 + 1)) (lv' := [(4, .int (x4 + 1)), (5, .int r6), (0, .ref (ad 19)), (1, .int x1), (2, .int x2), (3, .int x3)]) hx hb dX9_peakTick_76 hl (k := 5) rfl rfl (by decide) rfl (fun ls hl => ?_)
              refine lv_goto (tgt := 8) hx hb dX9_peakTick_79 (by decide) ?_
              exact ih x2 x3 (x4 + 1) ls o h (lv_sub hl [2, 3, 4, 5, 0] rfl) hk
            · have h := vz_t c9 h
              refine lv_aload_n hx hb dX9_peakTick_54 rfl (lv_at hl 1 rfl) ?_
              refine za_getr (k := 3) hx hb hts hin9 hown hK hP zF_19_3 rfl (Nat.le_of_ble_eq_true rfl) (Or.inl hw3) dX9_peakTick_55 ?_
              refine lv_iload hx hb dX9_peakTick_58 (lv_at hl 5 rfl) ?_
              obtain ⟨g10, h⟩ := gd_s h
              refine za_ild hx hb hK hP zI_22 g10 dX9_peakTick_60 ?_
              refine lv_iload_n hx hb dX9_peakTick_61 rfl (lv_at hl 3 rfl) ?_
              refine lv_icmp_ge (tgt := 76) hx hb dX9_peakTick_62 (by decide) (fun c11 => ?_) (fun c11 => ?_)
              · have h := vz_t c11 h
                refine lv_iinc (v := (x4 + 1)) (lv' := [(4, .int (x4 + 1)), (5, .int r6), (0, .ref (ad 19)), (1, .int x1), (2, .int x2), (3, .int x3)]) hx hb dX9_peakTick_76 hl (k := 5) rfl rfl (by decide) rfl (fun ls hl => ?_)
                refine lv_goto (tgt := 8) hx hb dX9_peakTick_79 (by decide) ?_
                exact ih x2 x3 (x4 + 1) ls o h (lv_sub hl [2, 3, 4, 5, 0] rfl) hk
              · have h := vz_f c11 h
                refine lv_aload_n hx hb dX9_peakTick_65 rfl (lv_at hl 1 rfl) ?_
                refine za_getr (k := 3) hx hb hts hin9 hown hK hP zF_19_3 rfl (Nat.le_of_ble_eq_true rfl) (Or.inl hw3) dX9_peakTick_66 ?_
                refine lv_iload hx hb dX9_peakTick_69 (lv_at hl 5 rfl) ?_
                obtain ⟨g12, h⟩ := gd_s h
                refine za_ild hx hb hK hP zI_22 g12 dX9_peakTick_71 ?_
                refine lv_istore_n (lv' := [(2, .int (u 23 x4.toNatClampNeg)), (5, .int r6), (0, .ref (ad 19)), (1, .int x1), (3, .int x3), (4, .int x4)]) hx hb dX9_peakTick_72 rfl hl (by decide) rfl (fun ls hl => ?_)
                refine lv_iload hx hb dX9_peakTick_73 (lv_at hl 1 rfl) ?_
                refine lv_istore_n (lv' := [(3, .int r6), (2, .int (u 23 x4.toNatClampNeg)), (5, .int r6), (0, .ref (ad 19)), (1, .int x1), (4, .int x4)]) hx hb dX9_peakTick_75 rfl hl (by decide) rfl (fun ls hl => ?_)
                refine lv_iinc (v := (x4 + 1)) (lv' := [(4, .int (x4 + 1)), (3, .int r6), (2, .int (u 23 x4.toNatClampNeg)), (5, .int r6), (0, .ref (ad 19)), (1, .int x1)]) hx hb dX9_peakTick_76 hl (k := 5) rfl rfl (by decide) rfl (fun ls hl => ?_)
                refine lv_goto (tgt := 8) hx hb dX9_peakTick_79 (by decide) ?_
                exact ih (u 23 x4.toNatClampNeg) r6 (x4 + 1) ls o h (lv_sub hl [4, 5, 2, 1, 0] rfl) hk
  rw [pX9_peakTick] at h
  refine lv_bipush (v := (-2 : Int32)) hx hb dX9_peakTick_0 (by decide) ?_
  refine lv_istore_n (lv' := [(2, .int (-2 : Int32)), (0, .ref (ad 19)), (1, .int a1)]) hx hb dX9_peakTick_2 rfl hl (by decide) rfl (fun ls hl => ?_)
  refine lv_iconst (v := (0 : Int32)) hx hb dX9_peakTick_3 (by decide) ?_
  refine lv_istore_n (lv' := [(3, .int (0 : Int32)), (2, .int (-2 : Int32)), (0, .ref (ad 19)), (1, .int a1)]) hx hb dX9_peakTick_4 rfl hl (by decide) rfl (fun ls hl => ?_)
  refine lv_iconst (v := (0 : Int32)) hx hb dX9_peakTick_5 (by decide) ?_
  refine lv_istore (lv' := [(4, .int (0 : Int32)), (3, .int (0 : Int32)), (2, .int (-2 : Int32)), (0, .ref (ad 19)), (1, .int a1)]) hx hb dX9_peakTick_6 hl (by decide) rfl (fun ls hl => ?_)
  obtain ⟨o13, hL14, h⟩ := vz_b h
  refine L8 a1 fuel (-2 : Int32) (0 : Int32) (0 : Int32) ls o13 hL14 (lv_sub hl [3, 4, 2, 1, 0] rfl) (fun y16 ls e15 hl => ?_)
  try rw [e15] at h
  try dsimp only at h
  refine lv_iload_n hx hb dX9_peakTick_82 rfl (lv_at hl 0 rfl) ?_
  cases h
  exact W.iret hx hb hr (fun t ht _ => ⟨rfl, ht⟩) (fun q hq => absurd hq List.not_mem_nil) dX9_peakTick_83
abbrev rmX9_most : Room := { frames := 2, cells := 0, slots := 0, locals := 49 }
set_option maxHeartbeats 4000000 in
set_option maxRecDepth 100000 in
theorem k_X9_most (l : Launch) {D : va_G} {cI cJ : ClassId} {ad : Nat → Nat} {u : tU} {v : tV} {a1 : Int32}  {r : Int32}  (h : pX9_most u v a1 = some r) : Met l yX9_most wsX9_most rmX9_most (va_Pc [.ref (ad 19), .int a1] (xPre D cI cJ (wA cI cJ ad u v))) (QcRead r) 0 0 (fun _ => False) := by
  refine Met.ofW (cc := cX9_most) (maxL := 3) (ret := (some .int)) (by decide) rfl ?_
  intro p e s m args below meth c s₁ B hml hv
  obtain ⟨rfl, hP, hK⟩ := hv
  have hx := B.exec
  have hb := B.bytes
  have hr := B.returns
  have hts := atoms_spec (ws := wsX9_most) B.pre
  have hown : s.vm.findClass RX9 = some m.cls := findClass_of_methodNamed B.named
  have hlocks := B.notSynchronized
  have hl := lv_entry ([.ref (ad 19), .int a1]) (n := 3) (Nat.le_of_ble_eq_true rfl)
  rw [lg_entry_eq]
  generalize (lg_sl ([.ref (ad 19), .int a1]) ++ List.replicate (3 - (lg_sl ([.ref (ad 19), .int a1])).length) Slot.unset).toArray = ls at hl ⊢
  have hl : lv_has ls 3 [(0, .ref (ad 19)), (1, .int a1)] := hl
  rw [pX9_most] at h
  refine lv_aload_n hx hb dX9_most_0 rfl (lv_at hl 0 rfl) ?_
  refine lv_iload_n hx hb dX9_most_1 rfl (lv_at hl 1 rfl) ?_
  obtain ⟨r2, hc1, h⟩ := vz_b h
  refine za_callR (va_runV (As := [.int a1]) (rest := []) ⟨hx, hb, hml, hown, hts⟩ (k_X9_peakTick l (D := D) (cI := cI) (cJ := cJ) (ad := ad) hc1) (cwV 1 hts gX9_most_X9_peakTick rfl rfl rfl ⟨rfl, zd_X9_peakTick⟩ ⟨Nat.le_of_ble_eq_true rfl, Nat.le_of_ble_eq_true rfl⟩) (xPreV (ci := 9) hK hP rfl zO_19) rfl rfl hl.1 rfl (lv_room (Nat.le_of_ble_eq_true rfl)) dX9_most_2 ⟨Nat.zero_le _, Nat.zero_le _⟩) ?_
  refine lv_istore_n (lv' := [(2, .int r2), (0, .ref (ad 19)), (1, .int a1)]) hx hb dX9_most_5 rfl hl (by decide) rfl (fun ls hl => ?_)
  refine lv_iload_n hx hb dX9_most_6 rfl (lv_at hl 0 rfl) ?_
  refine lv_if_ge (tgt := 14) hx hb dX9_most_7 (by decide) (fun c3 => ?_) (fun c3 => ?_)
  · have h := vz_t c3 h
    refine lv_aload_n hx hb dX9_most_14 rfl (lv_at hl 1 rfl) ?_
    refine lv_iload_n hx hb dX9_most_15 rfl (lv_at hl 2 rfl) ?_
    refine lv_iload_n hx hb dX9_most_16 rfl (lv_at hl 0 rfl) ?_
    obtain ⟨r5, hc4, h⟩ := vz_b h
    refine za_callR (va_runV (As := [.int a1, .int r2]) (rest := []) ⟨hx, hb, hml, hown, hts⟩ (k_X9_howManyAt l (D := D) (cI := cI) (cJ := cJ) (ad := ad) hc4) (cwV 2 hts gX9_most_X9_howManyAt rfl rfl rfl ⟨rfl, zd_X9_howManyAt⟩ ⟨Nat.le_of_ble_eq_true rfl, Nat.le_of_ble_eq_true rfl⟩) (xPreV (ci := 9) hK hP rfl zO_19) rfl rfl hl.1 rfl (lv_room (Nat.le_of_ble_eq_true rfl)) dX9_most_17 ⟨Nat.zero_le _, Nat.zero_le _⟩) ?_
    cases h
    exact W.iret hx hb hr (fun t ht _ => ⟨rfl, ht⟩) (fun q hq => absurd hq List.not_mem_nil) dX9_most_20
  · have h := vz_f c3 h
    refine lv_iconst (v := (0 : Int32)) hx hb dX9_most_10 (by decide) ?_
    refine lv_goto (tgt := 20) hx hb dX9_most_11 (by decide) ?_
    cases h
    exact W.iret hx hb hr (fun t ht _ => ⟨rfl, ht⟩) (fun q hq => absurd hq List.not_mem_nil) dX9_most_20
abbrev rmX10_measured : Room := { frames := 3, cells := 0, slots := 0, locals := 71 }
set_option maxHeartbeats 4000000 in
set_option maxRecDepth 100000 in
theorem k_X10_measured (l : Launch) {D : va_G} {cI cJ : ClassId} {ad : Nat → Nat} {u : tU} {v : tV} {a1 : Int32} {a2 : Int32}  {r : Int32}  (h : pX10_measured u v a1 a2 = some r) : Met l yX10_measured wsX10_measured rmX10_measured (va_Pc [.ref (ad 0), .int a1, .int a2] (xPre D cI cJ (wA cI cJ ad u v))) (QcRead r) 0 0 (fun _ => False) := by
  refine Met.ofW (cc := cX10_measured) (maxL := 3) (ret := (some .int)) (by decide) rfl ?_
  intro p e s m args below meth c s₁ B hml hv
  obtain ⟨rfl, hP, hK⟩ := hv
  have hx := B.exec
  have hb := B.bytes
  have hr := B.returns
  have hts := atoms_spec (ws := wsX10_measured) B.pre
  have hown : s.vm.findClass RX10 = some m.cls := findClass_of_methodNamed B.named
  have hlocks := B.notSynchronized
  have hin0 : ∀ w ∈ u_ws RX0 TX0 8, w ∈ wsX10_measured := fun _ h => List.mem_cons_of_mem _ (List.mem_append_left _ (List.mem_append_left _ (List.mem_append_left _ (List.mem_append_right _ h))))
  have hin10 : ∀ w ∈ u_ws RX10 TX10 7, w ∈ wsX10_measured := fun _ h => List.mem_cons_of_mem _ (List.mem_append_left _ (List.mem_append_left _ (List.mem_append_left _ (List.mem_append_left _ (List.mem_append_right _ h)))))
  have hw1 := hts (.fieldLink RX10 29 "InstallDesk" "holdings" "LInstallDesk$Holdings;") (List.mem_of_getElem? (i := 1) rfl)
  have hw2 := hts (.fieldLink RX10 19 "InstallDesk" "books" "LInstallDesk$Books;") (List.mem_of_getElem? (i := 2) rfl)
  have hw3 := hts (.instanceMethod yX2_howManyHosts) (List.mem_of_getElem? (i := 3) rfl)
  have hw4 := hts (.initialized RX2) (List.mem_of_getElem? (i := 4) rfl)
  have hw5 := hts (.selects RX2 yX2_howManyHosts yX2_howManyHosts) (List.mem_of_getElem? (i := 5) rfl)
  have hw15 := hts (.instanceMethod yX2_howManyPersons) (List.mem_of_getElem? (i := 15) rfl)
  have hw16 := hts (.selects RX2 yX2_howManyPersons yX2_howManyPersons) (List.mem_of_getElem? (i := 16) rfl)
  have hw25 := hts (.instanceMethod yX2_coresByEight) (List.mem_of_getElem? (i := 25) rfl)
  have hw26 := hts (.selects RX2 yX2_coresByEight yX2_coresByEight) (List.mem_of_getElem? (i := 26) rfl)
  have hw28 := hts (.instanceMethod yX9_most) (List.mem_of_getElem? (i := 28) rfl)
  have hw29 := hts (.initialized RX9) (List.mem_of_getElem? (i := 29) rfl)
  have hw30 := hts (.selects RX9 yX9_most yX9_most) (List.mem_of_getElem? (i := 30) rfl)
  have hl := lv_entry ([.ref (ad 0), .int a1, .int a2]) (n := 3) (Nat.le_of_ble_eq_true rfl)
  rw [lg_entry_eq]
  generalize (lg_sl ([.ref (ad 0), .int a1, .int a2]) ++ List.replicate (3 - (lg_sl ([.ref (ad 0), .int a1, .int a2])).length) Slot.unset).toArray = ls at hl ⊢
  have hl : lv_has ls 3 [(0, .ref (ad 0)), (1, .int a1), (2, .int a2)] := hl
  rw [pX10_measured] at h
  refine lv_iload_n hx hb dX10_measured_0 rfl (lv_at hl 2 rfl) ?_
  by_cases c1 : a2 = (0 : Int32)
  · have h := vz_t c1 h
    refine lv_tableIn (tgt := 28) hx hb dX10_measured_1 (by rw [c1]; decide) (by rw [c1]; decide) (by rw [c1]; rfl) (by decide) ?_
    refine lv_aload_n hx hb dX10_measured_28 rfl (lv_at hl 0 rfl) ?_
    refine za_getr (k := 3) hx hb hts hin10 hown hK hP zF_0_3 rfl (Nat.le_of_ble_eq_true rfl) (Or.inl hw1) dX10_measured_29 ?_
    refine lv_aload_n hx hb dX10_measured_32 rfl (lv_at hl 0 rfl) ?_
    refine za_getr (k := 1) hx hb hts hin10 hown hK hP zF_0_1 rfl (Nat.le_of_ble_eq_true rfl) (Or.inl hw2) dX10_measured_33 ?_
    refine za_getr (k := 2) hx hb hts hin0 hown hK hP zF_2_2 rfl (Nat.le_of_ble_eq_true rfl) (nw_218 hK.2) dX10_measured_36 ?_
    refine lv_iload_n hx hb dX10_measured_39 rfl (lv_at hl 1 rfl) ?_
    obtain ⟨r3, hc2, h⟩ := vz_b h
    refine za_callR (va_runVN (As := [.ref (ad 11), .int a1]) (rest := []) ⟨hx, hb, hml, hown, hts⟩ (k_X2_howManyHosts l (D := D) (cI := cI) (cJ := cJ) (ad := ad) hc2) ⟨va_cnB 2 hts gX10_measured_X2_howManyHosts_n251 rfl rfl rfl (nw_532 hK.2) hw4 zd_X2_howManyHosts ⟨Nat.le_of_ble_eq_true rfl, Nat.le_of_ble_eq_true rfl⟩, hw3, hw5⟩ (xPreV (ci := 2) hK hP rfl zO_60) rfl rfl hl.1 rfl (lv_room (Nat.le_of_ble_eq_true rfl)) dX10_measured_40 ⟨Nat.zero_le _, Nat.zero_le _⟩) ?_
    cases h
    exact W.iret hx hb hr (fun t ht _ => ⟨rfl, ht⟩) (fun q hq => absurd hq List.not_mem_nil) dX10_measured_43
  have h := vz_f c1 h
  by_cases c4 : a2 = (1 : Int32)
  · have h := vz_t c4 h
    refine lv_tableIn (tgt := 44) hx hb dX10_measured_1 (by rw [c4]; decide) (by rw [c4]; decide) (by rw [c4]; rfl) (by decide) ?_
    refine lv_aload_n hx hb dX10_measured_44 rfl (lv_at hl 0 rfl) ?_
    refine za_getr (k := 3) hx hb hts hin10 hown hK hP zF_0_3 rfl (Nat.le_of_ble_eq_true rfl) (Or.inl hw1) dX10_measured_45 ?_
    refine lv_aload_n hx hb dX10_measured_48 rfl (lv_at hl 0 rfl) ?_
    refine za_getr (k := 1) hx hb hts hin10 hown hK hP zF_0_1 rfl (Nat.le_of_ble_eq_true rfl) (Or.inl hw2) dX10_measured_49 ?_
    refine za_getr (k := 2) hx hb hts hin0 hown hK hP zF_2_2 rfl (Nat.le_of_ble_eq_true rfl) (nw_218 hK.2) dX10_measured_52 ?_
    refine lv_iload_n hx hb dX10_measured_55 rfl (lv_at hl 1 rfl) ?_
    obtain ⟨r6, hc5, h⟩ := vz_b h
    refine za_callR (va_runVN (As := [.ref (ad 11), .int a1]) (rest := []) ⟨hx, hb, hml, hown, hts⟩ (k_X2_howManyPersons l (D := D) (cI := cI) (cJ := cJ) (ad := ad) hc5) ⟨va_cnB 2 hts gX10_measured_X2_howManyPersons_n255 rfl rfl rfl (nw_536 hK.2) hw4 zd_X2_howManyPersons ⟨Nat.le_of_ble_eq_true rfl, Nat.le_of_ble_eq_true rfl⟩, hw15, hw16⟩ (xPreV (ci := 2) hK hP rfl zO_60) rfl rfl hl.1 rfl (lv_room (Nat.le_of_ble_eq_true rfl)) dX10_measured_56 ⟨Nat.zero_le _, Nat.zero_le _⟩) ?_
    cases h
    exact W.iret hx hb hr (fun t ht _ => ⟨rfl, ht⟩) (fun q hq => absurd hq List.not_mem_nil) dX10_measured_59
  have h := vz_f c4 h
  by_cases c7 : a2 = (2 : Int32)
  · have h := vz_t c7 h
    refine lv_tableIn (tgt := 60) hx hb dX10_measured_1 (by rw [c7]; decide) (by rw [c7]; decide) (by rw [c7]; rfl) (by decide) ?_
    refine lv_aload_n hx hb dX10_measured_60 rfl (lv_at hl 0 rfl) ?_
    refine za_getr (k := 3) hx hb hts hin10 hown hK hP zF_0_3 rfl (Nat.le_of_ble_eq_true rfl) (Or.inl hw1) dX10_measured_61 ?_
    refine lv_aload_n hx hb dX10_measured_64 rfl (lv_at hl 0 rfl) ?_
    refine za_getr (k := 1) hx hb hts hin10 hown hK hP zF_0_1 rfl (Nat.le_of_ble_eq_true rfl) (Or.inl hw2) dX10_measured_65 ?_
    refine za_getr (k := 2) hx hb hts hin0 hown hK hP zF_2_2 rfl (Nat.le_of_ble_eq_true rfl) (nw_218 hK.2) dX10_measured_68 ?_
    refine lv_iload_n hx hb dX10_measured_71 rfl (lv_at hl 1 rfl) ?_
    obtain ⟨r9, hc8, h⟩ := vz_b h
    refine za_callR (va_runVN (As := [.ref (ad 11), .int a1]) (rest := []) ⟨hx, hb, hml, hown, hts⟩ (k_X2_coresByEight l (D := D) (cI := cI) (cJ := cJ) (ad := ad) hc8) ⟨va_cnB 2 hts gX10_measured_X2_coresByEight_n258 rfl rfl rfl (nw_540 hK.2) hw4 zd_X2_coresByEight ⟨Nat.le_of_ble_eq_true rfl, Nat.le_of_ble_eq_true rfl⟩, hw25, hw26⟩ (xPreV (ci := 2) hK hP rfl zO_60) rfl rfl hl.1 rfl (lv_room (Nat.le_of_ble_eq_true rfl)) dX10_measured_72 ⟨Nat.zero_le _, Nat.zero_le _⟩) ?_
    cases h
    exact W.iret hx hb hr (fun t ht _ => ⟨rfl, ht⟩) (fun q hq => absurd hq List.not_mem_nil) dX10_measured_75
  have h := vz_f c7 h
  refine lv_tableOut (tgt := 76) hx hb dX10_measured_1 (tsw2 c1 c4 c7) (by decide) ?_
  refine lv_aload_n hx hb dX10_measured_76 rfl (lv_at hl 0 rfl) ?_
  refine za_getr (k := 1) hx hb hts hin10 hown hK hP zF_0_1 rfl (Nat.le_of_ble_eq_true rfl) (Or.inl hw2) dX10_measured_77 ?_
  refine za_getr (k := 4) hx hb hts hin0 hown hK hP zF_2_4 rfl (Nat.le_of_ble_eq_true rfl) (nw_223 hK.2) dX10_measured_80 ?_
  refine lv_iload_n hx hb dX10_measured_83 rfl (lv_at hl 1 rfl) ?_
  obtain ⟨r11, hc10, h⟩ := vz_b h
  refine za_callR (va_runVN (As := [.int a1]) (rest := []) ⟨hx, hb, hml, hown, hts⟩ (k_X9_most l (D := D) (cI := cI) (cJ := cJ) (ad := ad) hc10) ⟨va_cnB 1 hts gX10_measured_X9_most_n261 rfl rfl rfl (nw_544 hK.2) hw29 zd_X9_most ⟨Nat.le_of_ble_eq_true rfl, Nat.le_of_ble_eq_true rfl⟩, hw28, hw30⟩ (xPreV (ci := 9) hK hP rfl zO_19) rfl rfl hl.1 rfl (lv_room (Nat.le_of_ble_eq_true rfl)) dX10_measured_84 ⟨Nat.zero_le _, Nat.zero_le _⟩) ?_
  cases h
  exact W.iret hx hb hr (fun t ht _ => ⟨rfl, ht⟩) (fun q hq => absurd hq List.not_mem_nil) dX10_measured_87
abbrev rmX10_isMeasure : Room := { frames := 1, cells := 0, slots := 0, locals := 22 }
set_option maxHeartbeats 4000000 in
set_option maxRecDepth 100000 in
theorem k_X10_isMeasure (l : Launch) {a0 : Int32}  {r : Int32}  (h : pX10_isMeasure a0 = some r) : Met l yX10_isMeasure wsX10_isMeasure rmX10_isMeasure (va_Pc [.int a0] (fun _ => True)) (QcRead r) 0 0 (fun _ => False) := by
  refine Met.ofW (cc := cX10_isMeasure) (maxL := 1) (ret := (some .boolean)) (by decide) rfl ?_
  intro p e s m args below meth c s₁ B hml hv
  obtain ⟨rfl, -⟩ := hv
  have hx := B.exec
  have hb := B.bytes
  have hr := B.returns
  have hts := atoms_spec (ws := wsX10_isMeasure) B.pre
  have hown : s.vm.findClass RX10 = some m.cls := findClass_of_methodNamed B.named
  have hlocks := B.notSynchronized
  have hl := lv_entry ([.int a0]) (n := 1) (Nat.le_of_ble_eq_true rfl)
  rw [lg_entry_eq]
  generalize (lg_sl ([.int a0]) ++ List.replicate (1 - (lg_sl ([.int a0])).length) Slot.unset).toArray = ls at hl ⊢
  have hl : lv_has ls 1 [(0, .int a0)] := hl
  rw [pX10_isMeasure] at h
  refine lv_iload_n hx hb dX10_isMeasure_0 rfl (lv_at hl 0 rfl) ?_
  refine lv_iconst (v := (0 : Int32)) hx hb dX10_isMeasure_1 (by decide) ?_
  refine lv_iconst (v := (3 : Int32)) hx hb dX10_isMeasure_2 (by decide) ?_
  obtain ⟨r2, hc1, h⟩ := vz_b h
  refine za_callR (va_runS (As := [.int a0, .int (0 : Int32), .int (3 : Int32)]) (rest := []) ⟨hx, hb, hml, hown, hts⟩ (k_X10_isWithin l hc1) (va_cwS 3 hts gX10_isMeasure_X10_isWithin rfl rfl rfl zd_X10_isWithin ⟨Nat.le_of_ble_eq_true rfl, Nat.le_of_ble_eq_true rfl⟩) xPre0 rfl rfl hl.1 rfl (lv_room (Nat.le_of_ble_eq_true rfl)) dX10_isMeasure_3 ⟨Nat.zero_le _, Nat.zero_le _⟩) ?_
  obtain ⟨hn, h⟩ := gb_s h
  cases h
  exact W.zret hx hb hr hn (fun t ht _ => ⟨rfl, ht⟩) (fun q hq => absurd hq List.not_mem_nil) dX10_isMeasure_6
abbrev rmX10_isUnder : Room := { frames := 0, cells := 0, slots := 0, locals := 0 }
set_option maxHeartbeats 4000000 in
set_option maxRecDepth 100000 in
theorem k_X10_isUnder (l : Launch) {a0 : Int32} {a1 : Int32}  {r : Int32}  (h : pX10_isUnder a0 a1 = some r) : Met l yX10_isUnder wsX10_isUnder rmX10_isUnder (va_Pc [.int a0, .int a1] (fun _ => True)) (QcRead r) 0 0 (fun _ => False) := by
  refine Met.ofW (cc := cX10_isUnder) (maxL := 2) (ret := (some .boolean)) (by decide) rfl ?_
  intro p e s m args below meth c s₁ B hml hv
  obtain ⟨rfl, -⟩ := hv
  have hx := B.exec
  have hb := B.bytes
  have hr := B.returns
  have hts := atoms_spec (ws := wsX10_isUnder) B.pre
  have hown : s.vm.findClass RX10 = some m.cls := findClass_of_methodNamed B.named
  have hlocks := B.notSynchronized
  have hl := lv_entry ([.int a0, .int a1]) (n := 2) (Nat.le_of_ble_eq_true rfl)
  rw [lg_entry_eq]
  generalize (lg_sl ([.int a0, .int a1]) ++ List.replicate (2 - (lg_sl ([.int a0, .int a1])).length) Slot.unset).toArray = ls at hl ⊢
  have hl : lv_has ls 2 [(0, .int a0), (1, .int a1)] := hl
  rw [pX10_isUnder] at h
  refine lv_iload_n hx hb dX10_isUnder_0 rfl (lv_at hl 0 rfl) ?_
  refine lv_iload_n hx hb dX10_isUnder_1 rfl (lv_at hl 1 rfl) ?_
  refine lv_icmp_eq (tgt := 19) hx hb dX10_isUnder_2 (by decide) (fun c1 => ?_) (fun c1 => ?_)
  · have h := vz_t c1 h
    refine lv_iconst (v := (1 : Int32)) hx hb dX10_isUnder_19 (by decide) ?_
    refine lv_goto (tgt := 24) hx hb dX10_isUnder_20 (by decide) ?_
    cases h
    exact W.zret hx hb hr nb1 (fun t ht _ => ⟨rfl, ht⟩) (fun q hq => absurd hq List.not_mem_nil) dX10_isUnder_24
  · have h := vz_f c1 h
    refine lv_iload_n hx hb dX10_isUnder_5 rfl (lv_at hl 1 rfl) ?_
    refine lv_if_eq (tgt := 19) hx hb dX10_isUnder_6 (by decide) (fun c2 => ?_) (fun c2 => ?_)
    · have h := vz_t c2 h
      refine lv_iconst (v := (1 : Int32)) hx hb dX10_isUnder_19 (by decide) ?_
      refine lv_goto (tgt := 24) hx hb dX10_isUnder_20 (by decide) ?_
      cases h
      exact W.zret hx hb hr nb1 (fun t ht _ => ⟨rfl, ht⟩) (fun q hq => absurd hq List.not_mem_nil) dX10_isUnder_24
    · have h := vz_f c2 h
      refine lv_iload_n hx hb dX10_isUnder_9 rfl (lv_at hl 1 rfl) ?_
      refine lv_iconst (v := (1 : Int32)) hx hb dX10_isUnder_10 (by decide) ?_
      refine lv_icmp_ne (tgt := 23) hx hb dX10_isUnder_11 (by decide) (fun c3 => ?_) (fun c3 => ?_)
      · have h := vz_f c3 h
        refine lv_iconst (v := (0 : Int32)) hx hb dX10_isUnder_23 (by decide) ?_
        cases h
        exact W.zret hx hb hr nb0 (fun t ht _ => ⟨rfl, ht⟩) (fun q hq => absurd hq List.not_mem_nil) dX10_isUnder_24
      · have h := vz_t c3 h
        refine lv_iload_n hx hb dX10_isUnder_14 rfl (lv_at hl 0 rfl) ?_
        refine lv_iconst (v := (3 : Int32)) hx hb dX10_isUnder_15 (by decide) ?_
        refine lv_icmp_ne (tgt := 23) hx hb dX10_isUnder_16 (by decide) (fun c4 => ?_) (fun c4 => ?_)
        · have h := vz_f c4 h
          refine lv_iconst (v := (0 : Int32)) hx hb dX10_isUnder_23 (by decide) ?_
          cases h
          exact W.zret hx hb hr nb0 (fun t ht _ => ⟨rfl, ht⟩) (fun q hq => absurd hq List.not_mem_nil) dX10_isUnder_24
        · have h := vz_t c4 h
          refine lv_iconst (v := (1 : Int32)) hx hb dX10_isUnder_19 (by decide) ?_
          refine lv_goto (tgt := 24) hx hb dX10_isUnder_20 (by decide) ?_
          cases h
          exact W.zret hx hb hr nb1 (fun t ht _ => ⟨rfl, ht⟩) (fun q hq => absurd hq List.not_mem_nil) dX10_isUnder_24
abbrev rmX6_isSuite : Room := { frames := 1, cells := 0, slots := 0, locals := 21 }
set_option maxHeartbeats 4000000 in
set_option maxRecDepth 100000 in
theorem k_X6_isSuite (l : Launch) {D : va_G} {cI cJ : ClassId} {ad : Nat → Nat} {u : tU} {v : tV} {a1 : Int32}  {r : Int32}  (h : pX6_isSuite u v a1 = some r) : Met l yX6_isSuite wsX6_isSuite rmX6_isSuite (va_Pc [.ref (ad 3), .int a1] (xPre D cI cJ (wA cI cJ ad u v))) (QcRead r) 0 0 (fun _ => False) := by
  refine Met.ofW (cc := cX6_isSuite) (maxL := 2) (ret := (some .boolean)) (by decide) rfl ?_
  intro p e s m args below meth c s₁ B hml hv
  obtain ⟨rfl, hP, hK⟩ := hv
  have hx := B.exec
  have hb := B.bytes
  have hr := B.returns
  have hts := atoms_spec (ws := wsX6_isSuite) B.pre
  have hown : s.vm.findClass RX6 = some m.cls := findClass_of_methodNamed B.named
  have hlocks := B.notSynchronized
  have hin6 : ∀ w ∈ u_ws RX6 TX6 4, w ∈ wsX6_isSuite := fun _ h => List.mem_cons_of_mem _ (List.mem_append_right _ h)
  have hw1 := hts (.fieldLink RX6 9 "InstallDesk$Products" "kinds" "[I") (List.mem_of_getElem? (i := 1) rfl)
  have hw2 := hts (.static yX10_isUnder) (List.mem_of_getElem? (i := 2) rfl)
  have hw3 := hts (.initialized RX10) (List.mem_of_getElem? (i := 3) rfl)
  have hl := lv_entry ([.ref (ad 3), .int a1]) (n := 2) (Nat.le_of_ble_eq_true rfl)
  rw [lg_entry_eq]
  generalize (lg_sl ([.ref (ad 3), .int a1]) ++ List.replicate (2 - (lg_sl ([.ref (ad 3), .int a1])).length) Slot.unset).toArray = ls at hl ⊢
  have hl : lv_has ls 2 [(0, .ref (ad 3)), (1, .int a1)] := hl
  rw [pX6_isSuite] at h
  refine lv_aload_n hx hb dX6_isSuite_0 rfl (lv_at hl 0 rfl) ?_
  refine za_getr (k := 1) hx hb hts hin6 hown hK hP zF_3_1 rfl (Nat.le_of_ble_eq_true rfl) (Or.inl hw1) dX6_isSuite_1 ?_
  refine lv_iload_n hx hb dX6_isSuite_4 rfl (lv_at hl 1 rfl) ?_
  obtain ⟨g1, h⟩ := gd_s h
  refine za_ild hx hb hK hP zI_4 g1 dX6_isSuite_5 ?_
  refine lv_iconst (v := (1 : Int32)) hx hb dX6_isSuite_6 (by decide) ?_
  obtain ⟨r3, hc2, h⟩ := vz_b h
  refine za_callR (va_runSN (As := [.int (u 11 a1.toNatClampNeg), .int (1 : Int32)]) (rest := []) ⟨hx, hb, hml, hown, hts⟩ (k_X10_isUnder l hc2) ⟨va_cnB 2 hts gX6_isSuite_X10_isUnder_n25 rfl rfl rfl (nw_501 hK.2) hw3 zd_X10_isUnder ⟨Nat.le_of_ble_eq_true rfl, Nat.le_of_ble_eq_true rfl⟩, hw2, trivial⟩ xPre0 rfl rfl hl.1 rfl (lv_room (Nat.le_of_ble_eq_true rfl)) dX6_isSuite_7 ⟨Nat.zero_le _, Nat.zero_le _⟩) ?_
  obtain ⟨hn, h⟩ := gb_s h
  cases h
  exact W.zret hx hb hr hn (fun t ht _ => ⟨rfl, ht⟩) (fun q hq => absurd hq List.not_mem_nil) dX6_isSuite_10
abbrev rmX2_raise : Room := { frames := 1, cells := 0, slots := 0, locals := 21 }
set_option maxHeartbeats 4000000 in
set_option maxRecDepth 100000 in
theorem k_X2_raise (l : Launch) {D : va_G} {cI cJ : ClassId} {ad : Nat → Nat} {u : tU} {v : tV} {A : Nat → Prop} (hD : zD A cI cJ ad) {a1 : Int32} {a2 : Int32} {a3 : Int32}  {uz : tU} {vz : tV} (h : pX2_raise u v a1 a2 a3 = some (uz, vz)) : Met l yX2_raise wsX2_raise rmX2_raise (va_Pc [.ref (ad 60), .int a1, .int a2, .int a3] (xPre D cI cJ (wA cI cJ ad u v))) (xWv D cI cJ ad A uz vz) 0 0 A := by
  refine Met.ofW (cc := cX2_raise) (maxL := 5) (ret := none) (by decide) rfl ?_
  intro p e s m args below meth c s₁ B hml hv
  obtain ⟨rfl, hP, hK⟩ := hv
  have hx := B.exec
  have hb := B.bytes
  have hr := B.returns
  have hts := atoms_spec (ws := wsX2_raise) B.pre
  have hown : s.vm.findClass RX2 = some m.cls := findClass_of_methodNamed B.named
  have hlocks := B.notSynchronized
  have hS : va_S A s.heap s.heap [] := va_S.rf
  have hin2 : ∀ w ∈ u_ws RX2 TX2 1, w ∈ wsX2_raise := fun _ h => List.mem_cons_of_mem _ (List.mem_append_right _ h)
  have hw1 := hts (.fieldLink RX2 9 "InstallDesk$Holdings" "versions" "[I") (List.mem_of_getElem? (i := 1) rfl)
  have hw2 := hts (.methodLink RX2 19 Lib.Math.max.name) (List.mem_of_getElem? (i := 2) rfl)
  have hw3 := hts (.static Lib.Math.max.name) (List.mem_of_getElem? (i := 3) rfl)
  have hw4 := hts (.initialized "java/lang/Math") (List.mem_of_getElem? (i := 4) rfl)
  have hw5 := hts (.code Lib.Math.max.name Lib.Math.max.code 2 (some .int)) (List.mem_of_getElem? (i := 5) rfl)
  have hl := lv_entry ([.ref (ad 60), .int a1, .int a2, .int a3]) (n := 5) (Nat.le_of_ble_eq_true rfl)
  rw [lg_entry_eq]
  generalize (lg_sl ([.ref (ad 60), .int a1, .int a2, .int a3]) ++ List.replicate (5 - (lg_sl ([.ref (ad 60), .int a1, .int a2, .int a3])).length) Slot.unset).toArray = ls at hl ⊢
  have hl : lv_has ls 5 [(0, .ref (ad 60)), (1, .int a1), (2, .int a2), (3, .int a3)] := hl
  rw [pX2_raise] at h
  refine lv_iload_n hx hb dX2_raise_0 rfl (lv_at hl 1 rfl) ?_
  refine lv_iload_n hx hb dX2_raise_1 rfl (lv_at hl 2 rfl) ?_
  obtain ⟨r2, hc1, h⟩ := vz_b h
  refine za_callR (va_runS (As := [.int a1, .int a2]) (rest := []) ⟨hx, hb, hml, hown, hts⟩ (k_X2_cellOf l hc1) (va_cwS 2 hts gX2_raise_X2_cellOf rfl rfl rfl zd_X2_cellOf ⟨Nat.le_of_ble_eq_true rfl, Nat.le_of_ble_eq_true rfl⟩) xPre0 rfl rfl hl.1 rfl (lv_room (Nat.le_of_ble_eq_true rfl)) dX2_raise_2 ⟨Nat.zero_le _, Nat.zero_le _⟩) ?_
  refine lv_istore (lv' := [(4, .int r2), (0, .ref (ad 60)), (1, .int a1), (2, .int a2), (3, .int a3)]) hx hb dX2_raise_5 hl (by decide) rfl (fun ls hl => ?_)
  refine lv_aload_n hx hb dX2_raise_7 rfl (lv_at hl 1 rfl) ?_
  refine za_getr (k := 0) hx hb hts hin2 hown hK hP zF_60_0 rfl (Nat.le_of_ble_eq_true rfl) (Or.inl hw1) dX2_raise_8 ?_
  refine lv_iload hx hb dX2_raise_11 (lv_at hl 0 rfl) ?_
  refine lv_aload_n hx hb dX2_raise_13 rfl (lv_at hl 1 rfl) ?_
  refine za_getr (k := 0) hx hb hts hin2 hown hK hP zF_60_0 rfl (Nat.le_of_ble_eq_true rfl) (Or.inl hw1) dX2_raise_14 ?_
  refine lv_iload hx hb dX2_raise_17 (lv_at hl 0 rfl) ?_
  obtain ⟨g3, h⟩ := gd_s h
  refine za_ild hx hb hK hP zI_61 g3 dX2_raise_19 ?_
  refine lv_iload_n hx hb dX2_raise_20 rfl (lv_at hl 4 rfl) ?_
  refine va_mmax hx hb (by rw [hml]; exact hl.1.symm) hown hw2 hw3 hw4 hw5 (Nat.le_of_ble_eq_true rfl) (Nat.le_of_ble_eq_true rfl) (Nat.zero_le _) (Nat.zero_le _) dX2_raise_21 ?_
  obtain ⟨g4, h⟩ := gd_s h
  refine za_ist hx hb hK hP hD hS zI_61 g4 dX2_raise_24 (fun H locs hP hS => ?_)
  cases h
  exact W.vret hx hb hr (fun t ht _ => ⟨rfl, by rw [ht]; exact hP, hS.F ht⟩) hS.2.2 dX2_raise_25
abbrev rmX2_hadParts : Room := { frames := 2, cells := 0, slots := 0, locals := 43 }
set_option maxHeartbeats 4000000 in
set_option maxRecDepth 100000 in
theorem k_X2_hadParts (l : Launch) {D : va_G} {cI cJ : ClassId} {ad : Nat → Nat} {u : tU} {v : tV} {a2 : Int32} {a3 : Int32}  {r : Int32}  (h : pX2_hadParts u v a2 a3 = some r) : Met l yX2_hadParts wsX2_hadParts rmX2_hadParts (va_Pc [.ref (ad 60), .ref (ad 3), .int a2, .int a3] (xPre D cI cJ (wA cI cJ ad u v))) (QcRead r) 0 0 (fun _ => False) := by
  refine Met.ofW (cc := cX2_hadParts) (maxL := 7) (ret := (some .int)) (by decide) rfl ?_
  intro p e s m args below meth c s₁ B hml hv
  obtain ⟨rfl, hP, hK⟩ := hv
  have hx := B.exec
  have hb := B.bytes
  have hr := B.returns
  have hts := atoms_spec (ws := wsX2_hadParts) B.pre
  have hown : s.vm.findClass RX2 = some m.cls := findClass_of_methodNamed B.named
  have hlocks := B.notSynchronized
  have hin6 : ∀ w ∈ u_ws RX6 TX6 4, w ∈ wsX2_hadParts := fun _ h => List.mem_cons_of_mem _ (List.mem_append_left _ (List.mem_append_right _ h))
  have hl := lv_entry ([.ref (ad 60), .ref (ad 3), .int a2, .int a3]) (n := 7) (Nat.le_of_ble_eq_true rfl)
  rw [lg_entry_eq]
  generalize (lg_sl ([.ref (ad 60), .ref (ad 3), .int a2, .int a3]) ++ List.replicate (7 - (lg_sl ([.ref (ad 60), .ref (ad 3), .int a2, .int a3])).length) Slot.unset).toArray = ls at hl ⊢
  have hl : lv_has ls 7 [(0, .ref (ad 60)), (1, .ref (ad 3)), (2, .int a2), (3, .int a3)] := hl
  have L6 : ∀ (x2 : Int32) (x3 : Int32) (n : Nat) (x4 : Int32) (x5 : Int32) (ls : Array Slot) (o : Int32), pX2_hadParts_L6 u v x2 x3 n x4 x5 = some o → lv_has ls 7 [(0, .ref (ad 60)), (1, .ref (ad 3)), (2, .int x2), (3, .int x3), (4, .int x4), (5, .int x5)] → (∀ (y4 : Int32) (ls : Array Slot), o = y4 → lv_has ls 7 [(4, .int y4)] → W p l e (headSpec wsX2_hadParts rmX2_hadParts).room s m [Value.ref (ad 60), Value.ref (ad 3), Value.int a2, Value.int a3].toArray below meth c s.heap [] 0 0 (MQ below (QcRead r) [Value.ref (ad 60), Value.ref (ad 3), Value.int a2, Value.int a3].toArray s 0 0 (fun _ => False)) (F0 m 73 ls [])) → W p l e (headSpec wsX2_hadParts rmX2_hadParts).room s m [Value.ref (ad 60), Value.ref (ad 3), Value.int a2, Value.int a3].toArray below meth c s.heap [] 0 0 (MQ below (QcRead r) [Value.ref (ad 60), Value.ref (ad 3), Value.int a2, Value.int a3].toArray s 0 0 (fun _ => False)) (F0 m 6 ls []) := by
    intro x2 x3 n
    induction n with
    | zero => intro x4 x5 ls o h; cases h
    | succ n ih =>
      intro x4 x5 ls o h hl hk
      rw [pX2_hadParts_L6] at h
      refine lv_iload hx hb dX2_hadParts_6 (lv_at hl 5 rfl) ?_
      refine lv_aload_n hx hb dX2_hadParts_8 rfl (lv_at hl 1 rfl) ?_
      refine za_geti (k := 0) hx hb hts hin6 hown hK hP zF_3_0 rfl (Nat.le_of_ble_eq_true rfl) (nw_54 hK.2) dX2_hadParts_9 ?_
      refine lv_icmp_ge (tgt := 73) hx hb dX2_hadParts_12 (by decide) (fun c1 => ?_) (fun c1 => ?_)
      · have h := vz_t c1 h
        cases h
        exact hk x4 ls rfl (lv_sub hl [4] rfl)
      · have h := vz_f c1 h
        refine lv_iload hx hb dX2_hadParts_15 (lv_at hl 5 rfl) ?_
        refine lv_iload_n hx hb dX2_hadParts_17 rfl (lv_at hl 3 rfl) ?_
        refine lv_icmp_eq (tgt := 40) hx hb dX2_hadParts_18 (by decide) (fun c2 => ?_) (fun c2 => ?_)
        · have h := vz_t c2 h
          refine lv_iconst (v := (0 : Int32)) hx hb dX2_hadParts_40 (by decide) ?_
          refine lv_istore (lv' := [(6, .int (0 : Int32)), (0, .ref (ad 60)), (1, .ref (ad 3)), (2, .int x2), (3, .int x3), (4, .int x4), (5, .int x5)]) hx hb dX2_hadParts_41 hl (by decide) rfl (fun ls hl => ?_)
          refine lv_iload hx hb dX2_hadParts_43 (lv_at hl 0 rfl) ?_
          refine lv_if_eq (tgt := 67) hx hb dX2_hadParts_45 (by decide) (fun c3 => ?_) (fun c3 => ?_)
          rotate_left
          · exact absurd c3 (by decide)
          refine lv_iinc (v := (x5 + 1)) (lv' := [(5, .int (x5 + 1)), (6, .int (0 : Int32)), (0, .ref (ad 60)), (1, .ref (ad 3)), (2, .int x2), (3, .int x3), (4, .int x4)]) hx hb dX2_hadParts_67 hl (k := 6) rfl rfl (by decide) rfl (fun ls hl => ?_)
          refine lv_goto (tgt := 6) hx hb dX2_hadParts_70 (by decide) ?_
          exact ih x4 (x5 + 1) ls o h (lv_sub hl [2, 3, 4, 5, 6, 0] rfl) hk
        · have h := vz_f c2 h
          refine lv_aload_n hx hb dX2_hadParts_21 rfl (lv_at hl 1 rfl) ?_
          refine za_getr (k := 2) hx hb hts hin6 hown hK hP zF_3_2 rfl (Nat.le_of_ble_eq_true rfl) (nw_59 hK.2) dX2_hadParts_22 ?_
          refine lv_iload_n hx hb dX2_hadParts_25 rfl (lv_at hl 3 rfl) ?_
          obtain ⟨g4, h⟩ := gd_s h
          refine za_ild hx hb hK hP zI_5 g4 dX2_hadParts_26 ?_
          refine lv_iload hx hb dX2_hadParts_27 (lv_at hl 5 rfl) ?_
          refine lv_ishr hx hb dX2_hadParts_29 ?_
          refine lv_iconst (v := (1 : Int32)) hx hb dX2_hadParts_30 (by decide) ?_
          refine lv_iand hx hb dX2_hadParts_31 ?_
          refine lv_iconst (v := (1 : Int32)) hx hb dX2_hadParts_32 (by decide) ?_
          refine lv_icmp_ne (tgt := 40) hx hb dX2_hadParts_33 (by decide) (fun c5 => ?_) (fun c5 => ?_)
          · have h := vz_f c5 h
            refine lv_iconst (v := (0 : Int32)) hx hb dX2_hadParts_40 (by decide) ?_
            refine lv_istore (lv' := [(6, .int (0 : Int32)), (0, .ref (ad 60)), (1, .ref (ad 3)), (2, .int x2), (3, .int x3), (4, .int x4), (5, .int x5)]) hx hb dX2_hadParts_41 hl (by decide) rfl (fun ls hl => ?_)
            refine lv_iload hx hb dX2_hadParts_43 (lv_at hl 0 rfl) ?_
            refine lv_if_eq (tgt := 67) hx hb dX2_hadParts_45 (by decide) (fun c6 => ?_) (fun c6 => ?_)
            rotate_left
            · exact absurd c6 (by decide)
            refine lv_iinc (v := (x5 + 1)) (lv' := [(5, .int (x5 + 1)), (6, .int (0 : Int32)), (0, .ref (ad 60)), (1, .ref (ad 3)), (2, .int x2), (3, .int x3), (4, .int x4)]) hx hb dX2_hadParts_67 hl (k := 6) rfl rfl (by decide) rfl (fun ls hl => ?_)
            refine lv_goto (tgt := 6) hx hb dX2_hadParts_70 (by decide) ?_
            exact ih x4 (x5 + 1) ls o h (lv_sub hl [2, 3, 4, 5, 6, 0] rfl) hk
          · have h := vz_t c5 h
            refine lv_iconst (v := (1 : Int32)) hx hb dX2_hadParts_36 (by decide) ?_
            refine lv_goto (tgt := 41) hx hb dX2_hadParts_37 (by decide) ?_
            refine lv_istore (lv' := [(6, .int (1 : Int32)), (0, .ref (ad 60)), (1, .ref (ad 3)), (2, .int x2), (3, .int x3), (4, .int x4), (5, .int x5)]) hx hb dX2_hadParts_41 hl (by decide) rfl (fun ls hl => ?_)
            refine lv_iload hx hb dX2_hadParts_43 (lv_at hl 0 rfl) ?_
            refine lv_if_eq (tgt := 67) hx hb dX2_hadParts_45 (by decide) (fun c7 => ?_) (fun c7 => ?_)
            · exact absurd c7 (by decide)
            refine lv_aload_n hx hb dX2_hadParts_48 rfl (lv_at hl 1 rfl) ?_
            refine lv_iload_n hx hb dX2_hadParts_49 rfl (lv_at hl 3 rfl) ?_
            refine lv_iload hx hb dX2_hadParts_50 (lv_at hl 6 rfl) ?_
            obtain ⟨r9, hc8, h⟩ := vz_b h
            refine za_callR (va_runV (As := [.int x2, .int x5]) (rest := []) ⟨hx, hb, hml, hown, hts⟩ (k_X2_versionAt l (D := D) (cI := cI) (cJ := cJ) (ad := ad) hc8) (cwV 2 hts gX2_hadParts_X2_versionAt rfl rfl rfl ⟨rfl, zd_X2_versionAt⟩ ⟨Nat.le_of_ble_eq_true rfl, Nat.le_of_ble_eq_true rfl⟩) (xPreV (ci := 2) hK hP rfl zO_60) rfl rfl hl.1 rfl (lv_room (Nat.le_of_ble_eq_true rfl)) dX2_hadParts_52 ⟨Nat.zero_le _, Nat.zero_le _⟩) ?_
            refine lv_if_le (tgt := 67) hx hb dX2_hadParts_55 (by decide) (fun c10 => ?_) (fun c10 => ?_)
            · have h := vz_t c10 h
              refine lv_iinc (v := (x5 + 1)) (lv' := [(5, .int (x5 + 1)), (6, .int (1 : Int32)), (0, .ref (ad 60)), (1, .ref (ad 3)), (2, .int x2), (3, .int x3), (4, .int x4)]) hx hb dX2_hadParts_67 hl (k := 6) rfl rfl (by decide) rfl (fun ls hl => ?_)
              refine lv_goto (tgt := 6) hx hb dX2_hadParts_70 (by decide) ?_
              exact ih x4 (x5 + 1) ls o h (lv_sub hl [2, 3, 4, 5, 6, 0] rfl) hk
            · have h := vz_f c10 h
              refine lv_iload hx hb dX2_hadParts_58 (lv_at hl 5 rfl) ?_
              refine lv_iconst (v := (1 : Int32)) hx hb dX2_hadParts_60 (by decide) ?_
              refine lv_iload hx hb dX2_hadParts_61 (lv_at hl 6 rfl) ?_
              refine lv_ishl hx hb dX2_hadParts_63 ?_
              refine lv_ior hx hb dX2_hadParts_64 ?_
              refine lv_istore (lv' := [(4, .int (x4 ||| ((1 : Int32) <<< (x5 &&& 31)))), (6, .int (1 : Int32)), (0, .ref (ad 60)), (1, .ref (ad 3)), (2, .int x2), (3, .int x3), (5, .int x5)]) hx hb dX2_hadParts_65 hl (by decide) rfl (fun ls hl => ?_)
              refine lv_iinc (v := (x5 + 1)) (lv' := [(5, .int (x5 + 1)), (4, .int (x4 ||| ((1 : Int32) <<< (x5 &&& 31)))), (6, .int (1 : Int32)), (0, .ref (ad 60)), (1, .ref (ad 3)), (2, .int x2), (3, .int x3)]) hx hb dX2_hadParts_67 hl (k := 6) rfl rfl (by decide) rfl (fun ls hl => ?_)
              refine lv_goto (tgt := 6) hx hb dX2_hadParts_70 (by decide) ?_
              exact ih (x4 ||| ((1 : Int32) <<< (x5 &&& 31))) (x5 + 1) ls o h (lv_sub hl [3, 4, 5, 6, 1, 0] rfl) hk
  rw [pX2_hadParts] at h
  refine lv_iconst (v := (0 : Int32)) hx hb dX2_hadParts_0 (by decide) ?_
  refine lv_istore (lv' := [(4, .int (0 : Int32)), (0, .ref (ad 60)), (1, .ref (ad 3)), (2, .int a2), (3, .int a3)]) hx hb dX2_hadParts_1 hl (by decide) rfl (fun ls hl => ?_)
  refine lv_iconst (v := (0 : Int32)) hx hb dX2_hadParts_3 (by decide) ?_
  refine lv_istore (lv' := [(5, .int (0 : Int32)), (4, .int (0 : Int32)), (0, .ref (ad 60)), (1, .ref (ad 3)), (2, .int a2), (3, .int a3)]) hx hb dX2_hadParts_4 hl (by decide) rfl (fun ls hl => ?_)
  obtain ⟨o11, hL12, h⟩ := vz_b h
  refine L6 a2 a3 fuel (0 : Int32) (0 : Int32) ls o11 hL12 (lv_sub hl [2, 3, 4, 5, 1, 0] rfl) (fun y14 ls e13 hl => ?_)
  try rw [e13] at h
  try dsimp only at h
  refine lv_iload hx hb dX2_hadParts_73 (lv_at hl 0 rfl) ?_
  cases h
  exact W.iret hx hb hr (fun t ht _ => ⟨rfl, ht⟩) (fun q hq => absurd hq List.not_mem_nil) dX2_hadParts_75
abbrev rmX2_makeSuite : Room := { frames := 3, cells := 0, slots := 0, locals := 69 }
set_option maxHeartbeats 4000000 in
set_option maxRecDepth 100000 in
theorem k_X2_makeSuite (l : Launch) {D : va_G} {cI cJ : ClassId} {ad : Nat → Nat} {u : tU} {v : tV} {A : Nat → Prop} (hD : zD A cI cJ ad) {a2 : Int32} {a3 : Int32}  {uz : tU} {vz : tV} (h : pX2_makeSuite u v a2 a3 = some (uz, vz)) : Met l yX2_makeSuite wsX2_makeSuite rmX2_makeSuite (va_Pc [.ref (ad 60), .ref (ad 3), .int a2, .int a3] (xPre D cI cJ (wA cI cJ ad u v))) (xWv D cI cJ ad A uz vz) 0 0 A := by
  refine Met.ofW (cc := cX2_makeSuite) (maxL := 7) (ret := none) (by decide) rfl ?_
  intro p e s m args below meth c s₁ B hml hv
  obtain ⟨rfl, hP, hK⟩ := hv
  have hx := B.exec
  have hb := B.bytes
  have hr := B.returns
  have hts := atoms_spec (ws := wsX2_makeSuite) B.pre
  have hown : s.vm.findClass RX2 = some m.cls := findClass_of_methodNamed B.named
  have hlocks := B.notSynchronized
  have hS : va_S A s.heap s.heap [] := va_S.rf
  have hin2 : ∀ w ∈ u_ws RX2 TX2 1, w ∈ wsX2_makeSuite := fun _ h => List.mem_cons_of_mem _ (List.mem_append_right _ h)
  have hin6 : ∀ w ∈ u_ws RX6 TX6 4, w ∈ wsX2_makeSuite := fun _ h => List.mem_cons_of_mem _ (List.mem_append_left _ (List.mem_append_right _ h))
  have hw1 := hts (.fieldLink RX2 9 "InstallDesk$Holdings" "versions" "[I") (List.mem_of_getElem? (i := 1) rfl)
  have hl := lv_entry ([.ref (ad 60), .ref (ad 3), .int a2, .int a3]) (n := 7) (Nat.le_of_ble_eq_true rfl)
  rw [lg_entry_eq]
  generalize (lg_sl ([.ref (ad 60), .ref (ad 3), .int a2, .int a3]) ++ List.replicate (7 - (lg_sl ([.ref (ad 60), .ref (ad 3), .int a2, .int a3])).length) Slot.unset).toArray = ls at hl ⊢
  have hl : lv_has ls 7 [(0, .ref (ad 60)), (1, .ref (ad 3)), (2, .int a2), (3, .int a3)] := hl
  have L44 : ∀ (x2 : Int32) (x3 : Int32) (x4 : Int32) (x5 : Int32) (n : Nat) (x6 : Int32) (u : tU) (v : tV) (H : Heap) (locs : List Loc) (ls : Array Slot) (o : tU × tV), pX2_makeSuite_L44 x2 x3 x4 x5 n x6 u v = some o → va_P D vwCl (wA cI cJ ad u v) H → va_S A s.heap H locs → lv_has ls 7 [(0, .ref (ad 60)), (1, .ref (ad 3)), (2, .int x2), (3, .int x3), (4, .int x4), (5, .int x5), (6, .int x6)] → (∀ (u' : tU) (v' : tV) (H : Heap) (locs : List Loc) (ls : Array Slot), o = (u', v') → va_P D vwCl (wA cI cJ ad u' v') H → va_S A s.heap H locs → lv_has ls 7 [] → W p l e (headSpec wsX2_makeSuite rmX2_makeSuite).room s m [Value.ref (ad 60), Value.ref (ad 3), Value.int a2, Value.int a3].toArray below meth c H locs 0 0 (MQ below (xWv D cI cJ ad A uz vz) [Value.ref (ad 60), Value.ref (ad 3), Value.int a2, Value.int a3].toArray s 0 0 A) (F0 m 100 ls [])) → W p l e (headSpec wsX2_makeSuite rmX2_makeSuite).room s m [Value.ref (ad 60), Value.ref (ad 3), Value.int a2, Value.int a3].toArray below meth c H locs 0 0 (MQ below (xWv D cI cJ ad A uz vz) [Value.ref (ad 60), Value.ref (ad 3), Value.int a2, Value.int a3].toArray s 0 0 A) (F0 m 44 ls []) := by
    intro x2 x3 x4 x5 n
    induction n with
    | zero => intro x6 u v H locs ls o h; cases h
    | succ n ih =>
      intro x6 u v H locs ls o h hP hS hl hk
      rw [pX2_makeSuite_L44] at h
      refine lv_iload hx hb dX2_makeSuite_44 (lv_at hl 6 rfl) ?_
      refine lv_aload_n hx hb dX2_makeSuite_46 rfl (lv_at hl 1 rfl) ?_
      refine za_geti (k := 0) hx hb hts hin6 hown hK hP zF_3_0 rfl (Nat.le_of_ble_eq_true rfl) (nw_54 hK.2) dX2_makeSuite_47 ?_
      refine lv_icmp_ge (tgt := 100) hx hb dX2_makeSuite_50 (by decide) (fun c1 => ?_) (fun c1 => ?_)
      · have h := vz_t c1 h
        cases h
        exact hk u v _ _ ls rfl hP hS (lv_sub hl [] rfl)
      · have h := vz_f c1 h
        refine lv_iload hx hb dX2_makeSuite_53 (lv_at hl 4 rfl) ?_
        refine lv_iload hx hb dX2_makeSuite_55 (lv_at hl 6 rfl) ?_
        refine lv_ishr hx hb dX2_makeSuite_57 ?_
        refine lv_iconst (v := (1 : Int32)) hx hb dX2_makeSuite_58 (by decide) ?_
        refine lv_iand hx hb dX2_makeSuite_59 ?_
        refine lv_iconst (v := (1 : Int32)) hx hb dX2_makeSuite_60 (by decide) ?_
        refine lv_icmp_ne (tgt := 94) hx hb dX2_makeSuite_61 (by decide) (fun c2 => ?_) (fun c2 => ?_)
        · have h := vz_f c2 h
          refine lv_iinc (v := (x6 + 1)) (lv' := [(6, .int (x6 + 1)), (0, .ref (ad 60)), (1, .ref (ad 3)), (2, .int x2), (3, .int x3), (4, .int x4), (5, .int x5)]) hx hb dX2_makeSuite_94 hl (k := 6) rfl rfl (by decide) rfl (fun ls hl => ?_)
          refine lv_goto (tgt := 44) hx hb dX2_makeSuite_97 (by decide) ?_
          exact ih (x6 + 1) u v _ _ ls o h hP hS (lv_sub hl [1, 2, 3, 4, 5, 6, 0] rfl) hk
        · have h := vz_t c2 h
          refine lv_aload_n hx hb dX2_makeSuite_64 rfl (lv_at hl 0 rfl) ?_
          refine lv_iload_n hx hb dX2_makeSuite_65 rfl (lv_at hl 2 rfl) ?_
          refine lv_iload_n hx hb dX2_makeSuite_66 rfl (lv_at hl 3 rfl) ?_
          refine lv_aload_n hx hb dX2_makeSuite_67 rfl (lv_at hl 0 rfl) ?_
          refine lv_iload_n hx hb dX2_makeSuite_68 rfl (lv_at hl 2 rfl) ?_
          refine lv_iload hx hb dX2_makeSuite_69 (lv_at hl 6 rfl) ?_
          obtain ⟨r4, hc3, h⟩ := vz_b h
          refine za_callR (va_runV (As := [.int x2, .int x6]) (rest := [.int x3, .int x2, .ref (ad 60)]) ⟨hx, hb, hml, hown, hts⟩ (k_X2_versionAt l (D := D) (cI := cI) (cJ := cJ) (ad := ad) hc3) (cwV 2 hts gX2_makeSuite_X2_versionAt rfl rfl rfl ⟨rfl, zd_X2_versionAt⟩ ⟨Nat.le_of_ble_eq_true rfl, Nat.le_of_ble_eq_true rfl⟩) (xPreV (ci := 2) hK hP rfl zO_60) rfl rfl hl.1 rfl (lv_room (Nat.le_of_ble_eq_true rfl)) dX2_makeSuite_71 ⟨Nat.zero_le _, Nat.zero_le _⟩) ?_
          obtain ⟨⟨u6, v7⟩, hc5, h⟩ := vz_b h
          try dsimp only at h
          refine za_callWv (va_runV (As := [.int x2, .int x3, .int r4]) (rest := []) ⟨hx, hb, hml, hown, hts⟩ (k_X2_raise l (D := D) (cI := cI) (cJ := cJ) (ad := ad) hD hc5) (cwV 3 hts gX2_makeSuite_X2_raise rfl rfl rfl ⟨rfl, zd_X2_raise⟩ ⟨Nat.le_of_ble_eq_true rfl, Nat.le_of_ble_eq_true rfl⟩) (xPreV (ci := 2) hK hP rfl zO_60) rfl rfl hl.1 rfl (lv_room (Nat.le_of_ble_eq_true rfl)) dX2_makeSuite_74 ⟨Nat.zero_le _, Nat.zero_le _⟩) hS (fun H locs hP hS => ?_)
          refine lv_iload hx hb dX2_makeSuite_77 (lv_at hl 5 rfl) ?_
          refine lv_if_ne (tgt := 94) hx hb dX2_makeSuite_79 (by decide) (fun c9 => ?_) (fun c9 => ?_)
          · have h := vz_f c9 h
            refine lv_iinc (v := (x6 + 1)) (lv' := [(6, .int (x6 + 1)), (0, .ref (ad 60)), (1, .ref (ad 3)), (2, .int x2), (3, .int x3), (4, .int x4), (5, .int x5)]) hx hb dX2_makeSuite_94 hl (k := 6) rfl rfl (by decide) rfl (fun ls hl => ?_)
            refine lv_goto (tgt := 44) hx hb dX2_makeSuite_97 (by decide) ?_
            exact ih (x6 + 1) u6 v7 _ _ ls o h hP hS (lv_sub hl [1, 2, 3, 4, 5, 6, 0] rfl) hk
          · have h := vz_t c9 h
            refine lv_aload_n hx hb dX2_makeSuite_82 rfl (lv_at hl 0 rfl) ?_
            refine za_getr (k := 0) hx hb hts hin2 hown hK hP zF_60_0 rfl (Nat.le_of_ble_eq_true rfl) (Or.inl hw1) dX2_makeSuite_83 ?_
            refine lv_iload_n hx hb dX2_makeSuite_86 rfl (lv_at hl 2 rfl) ?_
            refine lv_iload hx hb dX2_makeSuite_87 (lv_at hl 6 rfl) ?_
            obtain ⟨r11, hc10, h⟩ := vz_b h
            refine za_callR (va_runS (As := [.int x2, .int x6]) (rest := [.ref (ad 61)]) ⟨hx, hb, hml, hown, hts⟩ (k_X2_cellOf l hc10) (va_cwS 2 hts gX2_makeSuite_X2_cellOf rfl rfl rfl zd_X2_cellOf ⟨Nat.le_of_ble_eq_true rfl, Nat.le_of_ble_eq_true rfl⟩) xPre0 rfl rfl hl.1 rfl (lv_room (Nat.le_of_ble_eq_true rfl)) dX2_makeSuite_89 ⟨Nat.zero_le _, Nat.zero_le _⟩) ?_
            refine lv_iconst (v := (0 : Int32)) hx hb dX2_makeSuite_92 (by decide) ?_
            obtain ⟨g12, h⟩ := gd_s h
            refine za_ist hx hb hK hP hD hS zI_61 g12 dX2_makeSuite_93 (fun H locs hP hS => ?_)
            refine lv_iinc (v := (x6 + 1)) (lv' := [(6, .int (x6 + 1)), (0, .ref (ad 60)), (1, .ref (ad 3)), (2, .int x2), (3, .int x3), (4, .int x4), (5, .int x5)]) hx hb dX2_makeSuite_94 hl (k := 6) rfl rfl (by decide) rfl (fun ls hl => ?_)
            refine lv_goto (tgt := 44) hx hb dX2_makeSuite_97 (by decide) ?_
            exact ih (x6 + 1) (sU u6 1 r11.toNatClampNeg (0 : Int32)) v7 _ _ ls o h hP hS (lv_sub hl [1, 2, 3, 4, 5, 6, 0] rfl) hk
  rw [pX2_makeSuite] at h
  refine lv_aload_n hx hb dX2_makeSuite_0 rfl (lv_at hl 0 rfl) ?_
  refine lv_aload_n hx hb dX2_makeSuite_1 rfl (lv_at hl 1 rfl) ?_
  refine lv_iload_n hx hb dX2_makeSuite_2 rfl (lv_at hl 2 rfl) ?_
  refine lv_iload_n hx hb dX2_makeSuite_3 rfl (lv_at hl 3 rfl) ?_
  obtain ⟨r14, hc13, h⟩ := vz_b h
  refine za_callR (va_runV (As := [.ref (ad 3), .int a2, .int a3]) (rest := []) ⟨hx, hb, hml, hown, hts⟩ (k_X2_hadParts l (D := D) (cI := cI) (cJ := cJ) (ad := ad) hc13) (cwV 3 hts gX2_makeSuite_X2_hadParts rfl rfl rfl ⟨rfl, zd_X2_hadParts⟩ ⟨Nat.le_of_ble_eq_true rfl, Nat.le_of_ble_eq_true rfl⟩) (xPreV (ci := 2) hK hP rfl zO_60) rfl rfl hl.1 rfl (lv_room (Nat.le_of_ble_eq_true rfl)) dX2_makeSuite_4 ⟨Nat.zero_le _, Nat.zero_le _⟩) ?_
  refine lv_istore (lv' := [(4, .int r14), (0, .ref (ad 60)), (1, .ref (ad 3)), (2, .int a2), (3, .int a3)]) hx hb dX2_makeSuite_7 hl (by decide) rfl (fun ls hl => ?_)
  refine lv_iload hx hb dX2_makeSuite_9 (lv_at hl 0 rfl) ?_
  obtain ⟨r16, hc15, h⟩ := vz_b h
  refine za_callR (va_runS (As := [.int r14]) (rest := []) ⟨hx, hb, hml, hown, hts⟩ (k_J6_bitCount_0f7a4 l hc15) (va_cwS 1 hts gX2_makeSuite_J6_bitCount_0f7a4 rfl rfl rfl zd_J6_bitCount_0f7a4 ⟨Nat.le_of_ble_eq_true rfl, Nat.le_of_ble_eq_true rfl⟩) xPre0 rfl rfl hl.1 rfl (lv_room (Nat.le_of_ble_eq_true rfl)) dX2_makeSuite_11 ⟨Nat.zero_le _, Nat.zero_le _⟩) ?_
  refine lv_aload_n hx hb dX2_makeSuite_14 rfl (lv_at hl 2 rfl) ?_
  refine za_getr (k := 3) hx hb hts hin6 hown hK hP zF_3_3 rfl (Nat.le_of_ble_eq_true rfl) (nw_61 hK.2) dX2_makeSuite_15 ?_
  refine lv_iload_n hx hb dX2_makeSuite_18 rfl (lv_at hl 4 rfl) ?_
  obtain ⟨g17, h⟩ := gd_s h
  refine za_ild hx hb hK hP zI_6 g17 dX2_makeSuite_19 ?_
  refine lv_icmp_ge (tgt := 24) hx hb dX2_makeSuite_20 (by decide) (fun c18 => ?_) (fun c18 => ?_)
  · have h := vz_t c18 h
    refine lv_aload_n hx hb dX2_makeSuite_24 rfl (lv_at hl 2 rfl) ?_
    refine za_getr (k := 1) hx hb hts hin6 hown hK hP zF_3_1 rfl (Nat.le_of_ble_eq_true rfl) (nw_57 hK.2) dX2_makeSuite_25 ?_
    refine lv_iload_n hx hb dX2_makeSuite_28 rfl (lv_at hl 4 rfl) ?_
    obtain ⟨g19, h⟩ := gd_s h
    refine za_ild hx hb hK hP zI_4 g19 dX2_makeSuite_29 ?_
    refine lv_iconst (v := (3 : Int32)) hx hb dX2_makeSuite_30 (by decide) ?_
    refine lv_icmp_ne (tgt := 38) hx hb dX2_makeSuite_31 (by decide) (fun c20 => ?_) (fun c20 => ?_)
    · have h := vz_f c20 h
      refine lv_iconst (v := (0 : Int32)) hx hb dX2_makeSuite_38 (by decide) ?_
      refine lv_istore (lv' := [(5, .int (0 : Int32)), (4, .int r14), (0, .ref (ad 60)), (1, .ref (ad 3)), (2, .int a2), (3, .int a3)]) hx hb dX2_makeSuite_39 hl (by decide) rfl (fun ls hl => ?_)
      refine lv_iconst (v := (0 : Int32)) hx hb dX2_makeSuite_41 (by decide) ?_
      refine lv_istore (lv' := [(6, .int (0 : Int32)), (5, .int (0 : Int32)), (4, .int r14), (0, .ref (ad 60)), (1, .ref (ad 3)), (2, .int a2), (3, .int a3)]) hx hb dX2_makeSuite_42 hl (by decide) rfl (fun ls hl => ?_)
      obtain ⟨o21, hL22, h⟩ := vz_b h
      refine L44 a2 a3 r14 (0 : Int32) fuel (0 : Int32) u v _ _ ls o21 hL22 hP hS (lv_sub hl [3, 4, 5, 6, 2, 1, 0] rfl) (fun u24 v25 H locs ls e23 hP hS hl => ?_)
      try rw [e23] at h
      try dsimp only at h
      cases h
      exact W.vret hx hb hr (fun t ht _ => ⟨rfl, by rw [ht]; exact hP, hS.F ht⟩) hS.2.2 dX2_makeSuite_100
    · have h := vz_t c20 h
      refine lv_iconst (v := (1 : Int32)) hx hb dX2_makeSuite_34 (by decide) ?_
      refine lv_goto (tgt := 39) hx hb dX2_makeSuite_35 (by decide) ?_
      refine lv_istore (lv' := [(5, .int (1 : Int32)), (4, .int r14), (0, .ref (ad 60)), (1, .ref (ad 3)), (2, .int a2), (3, .int a3)]) hx hb dX2_makeSuite_39 hl (by decide) rfl (fun ls hl => ?_)
      refine lv_iconst (v := (0 : Int32)) hx hb dX2_makeSuite_41 (by decide) ?_
      refine lv_istore (lv' := [(6, .int (0 : Int32)), (5, .int (1 : Int32)), (4, .int r14), (0, .ref (ad 60)), (1, .ref (ad 3)), (2, .int a2), (3, .int a3)]) hx hb dX2_makeSuite_42 hl (by decide) rfl (fun ls hl => ?_)
      obtain ⟨o26, hL27, h⟩ := vz_b h
      refine L44 a2 a3 r14 (1 : Int32) fuel (0 : Int32) u v _ _ ls o26 hL27 hP hS (lv_sub hl [3, 4, 5, 6, 2, 1, 0] rfl) (fun u29 v30 H locs ls e28 hP hS hl => ?_)
      try rw [e28] at h
      try dsimp only at h
      cases h
      exact W.vret hx hb hr (fun t ht _ => ⟨rfl, by rw [ht]; exact hP, hS.F ht⟩) hS.2.2 dX2_makeSuite_100
  · have h := vz_f c18 h
    cases h
    exact W.vret hx hb hr (fun t ht _ => ⟨rfl, by rw [ht]; exact hP, hS.F ht⟩) hS.2.2 dX2_makeSuite_23
abbrev rmX2_makeSuites : Room := { frames := 4, cells := 0, slots := 0, locals := 95 }
set_option maxHeartbeats 4000000 in
set_option maxRecDepth 100000 in
theorem k_X2_makeSuites (l : Launch) {D : va_G} {cI cJ : ClassId} {ad : Nat → Nat} {u : tU} {v : tV} {A : Nat → Prop} (hD : zD A cI cJ ad) {a2 : Int32}  {uz : tU} {vz : tV} (h : pX2_makeSuites u v a2 = some (uz, vz)) : Met l yX2_makeSuites wsX2_makeSuites rmX2_makeSuites (va_Pc [.ref (ad 60), .ref (ad 3), .int a2] (xPre D cI cJ (wA cI cJ ad u v))) (xWv D cI cJ ad A uz vz) 0 0 A := by
  refine Met.ofW (cc := cX2_makeSuites) (maxL := 4) (ret := none) (by decide) rfl ?_
  intro p e s m args below meth c s₁ B hml hv
  obtain ⟨rfl, hP, hK⟩ := hv
  have hx := B.exec
  have hb := B.bytes
  have hr := B.returns
  have hts := atoms_spec (ws := wsX2_makeSuites) B.pre
  have hown : s.vm.findClass RX2 = some m.cls := findClass_of_methodNamed B.named
  have hlocks := B.notSynchronized
  have hS : va_S A s.heap s.heap [] := va_S.rf
  have hin6 : ∀ w ∈ u_ws RX6 TX6 4, w ∈ wsX2_makeSuites := fun _ h => List.mem_cons_of_mem _ (List.mem_append_left _ (List.mem_append_right _ h))
  have hw1 := hts (.instanceMethod yX6_isSuite) (List.mem_of_getElem? (i := 1) rfl)
  have hw2 := hts (.initialized RX6) (List.mem_of_getElem? (i := 2) rfl)
  have hw3 := hts (.selects RX6 yX6_isSuite yX6_isSuite) (List.mem_of_getElem? (i := 3) rfl)
  have hl := lv_entry ([.ref (ad 60), .ref (ad 3), .int a2]) (n := 4) (Nat.le_of_ble_eq_true rfl)
  rw [lg_entry_eq]
  generalize (lg_sl ([.ref (ad 60), .ref (ad 3), .int a2]) ++ List.replicate (4 - (lg_sl ([.ref (ad 60), .ref (ad 3), .int a2])).length) Slot.unset).toArray = ls at hl ⊢
  have hl : lv_has ls 4 [(0, .ref (ad 60)), (1, .ref (ad 3)), (2, .int a2)] := hl
  have L2 : ∀ (x2 : Int32) (n : Nat) (x3 : Int32) (u : tU) (v : tV) (H : Heap) (locs : List Loc) (ls : Array Slot) (o : tU × tV), pX2_makeSuites_L2 x2 n x3 u v = some o → va_P D vwCl (wA cI cJ ad u v) H → va_S A s.heap H locs → lv_has ls 4 [(0, .ref (ad 60)), (1, .ref (ad 3)), (2, .int x2), (3, .int x3)] → (∀ (u' : tU) (v' : tV) (H : Heap) (locs : List Loc) (ls : Array Slot), o = (u', v') → va_P D vwCl (wA cI cJ ad u' v') H → va_S A s.heap H locs → lv_has ls 4 [] → W p l e (headSpec wsX2_makeSuites rmX2_makeSuites).room s m [Value.ref (ad 60), Value.ref (ad 3), Value.int a2].toArray below meth c H locs 0 0 (MQ below (xWv D cI cJ ad A uz vz) [Value.ref (ad 60), Value.ref (ad 3), Value.int a2].toArray s 0 0 A) (F0 m 31 ls [])) → W p l e (headSpec wsX2_makeSuites rmX2_makeSuites).room s m [Value.ref (ad 60), Value.ref (ad 3), Value.int a2].toArray below meth c H locs 0 0 (MQ below (xWv D cI cJ ad A uz vz) [Value.ref (ad 60), Value.ref (ad 3), Value.int a2].toArray s 0 0 A) (F0 m 2 ls []) := by
    intro x2 n
    induction n with
    | zero => intro x3 u v H locs ls o h; cases h
    | succ n ih =>
      intro x3 u v H locs ls o h hP hS hl hk
      rw [pX2_makeSuites_L2] at h
      refine lv_iload_n hx hb dX2_makeSuites_2 rfl (lv_at hl 3 rfl) ?_
      refine lv_aload_n hx hb dX2_makeSuites_3 rfl (lv_at hl 1 rfl) ?_
      refine za_geti (k := 0) hx hb hts hin6 hown hK hP zF_3_0 rfl (Nat.le_of_ble_eq_true rfl) (nw_54 hK.2) dX2_makeSuites_4 ?_
      refine lv_icmp_ge (tgt := 31) hx hb dX2_makeSuites_7 (by decide) (fun c1 => ?_) (fun c1 => ?_)
      · have h := vz_t c1 h
        cases h
        exact hk u v _ _ ls rfl hP hS (lv_sub hl [] rfl)
      · have h := vz_f c1 h
        refine lv_aload_n hx hb dX2_makeSuites_10 rfl (lv_at hl 1 rfl) ?_
        refine lv_iload_n hx hb dX2_makeSuites_11 rfl (lv_at hl 3 rfl) ?_
        obtain ⟨r3, hc2, h⟩ := vz_b h
        refine za_callR (va_runVN (As := [.int x3]) (rest := []) ⟨hx, hb, hml, hown, hts⟩ (k_X6_isSuite l (D := D) (cI := cI) (cJ := cJ) (ad := ad) hc2) ⟨va_cnB 1 hts gX2_makeSuites_X6_isSuite_n75 rfl rfl rfl (nw_497 hK.2) hw2 zd_X6_isSuite ⟨Nat.le_of_ble_eq_true rfl, Nat.le_of_ble_eq_true rfl⟩, hw1, hw3⟩ (xPreV (ci := 6) hK hP rfl zO_3) rfl rfl hl.1 rfl (lv_room (Nat.le_of_ble_eq_true rfl)) dX2_makeSuites_12 ⟨Nat.zero_le _, Nat.zero_le _⟩) ?_
        refine lv_if_eq (tgt := 25) hx hb dX2_makeSuites_15 (by decide) (fun c4 => ?_) (fun c4 => ?_)
        · have h := vz_t c4 h
          refine lv_iinc (v := (x3 + 1)) (lv' := [(3, .int (x3 + 1)), (0, .ref (ad 60)), (1, .ref (ad 3)), (2, .int x2)]) hx hb dX2_makeSuites_25 hl (k := 3) rfl rfl (by decide) rfl (fun ls hl => ?_)
          refine lv_goto (tgt := 2) hx hb dX2_makeSuites_28 (by decide) ?_
          exact ih (x3 + 1) u v _ _ ls o h hP hS (lv_sub hl [1, 2, 3, 0] rfl) hk
        · have h := vz_f c4 h
          refine lv_aload_n hx hb dX2_makeSuites_18 rfl (lv_at hl 0 rfl) ?_
          refine lv_aload_n hx hb dX2_makeSuites_19 rfl (lv_at hl 1 rfl) ?_
          refine lv_iload_n hx hb dX2_makeSuites_20 rfl (lv_at hl 2 rfl) ?_
          refine lv_iload_n hx hb dX2_makeSuites_21 rfl (lv_at hl 3 rfl) ?_
          obtain ⟨⟨u6, v7⟩, hc5, h⟩ := vz_b h
          try dsimp only at h
          refine za_callWv (va_runV (As := [.ref (ad 3), .int x2, .int x3]) (rest := []) ⟨hx, hb, hml, hown, hts⟩ (k_X2_makeSuite l (D := D) (cI := cI) (cJ := cJ) (ad := ad) hD hc5) (cwV 3 hts gX2_makeSuites_X2_makeSuite rfl rfl rfl ⟨rfl, zd_X2_makeSuite⟩ ⟨Nat.le_of_ble_eq_true rfl, Nat.le_of_ble_eq_true rfl⟩) (xPreV (ci := 2) hK hP rfl zO_60) rfl rfl hl.1 rfl (lv_room (Nat.le_of_ble_eq_true rfl)) dX2_makeSuites_22 ⟨Nat.zero_le _, Nat.zero_le _⟩) hS (fun H locs hP hS => ?_)
          refine lv_iinc (v := (x3 + 1)) (lv' := [(3, .int (x3 + 1)), (0, .ref (ad 60)), (1, .ref (ad 3)), (2, .int x2)]) hx hb dX2_makeSuites_25 hl (k := 3) rfl rfl (by decide) rfl (fun ls hl => ?_)
          refine lv_goto (tgt := 2) hx hb dX2_makeSuites_28 (by decide) ?_
          exact ih (x3 + 1) u6 v7 _ _ ls o h hP hS (lv_sub hl [1, 2, 3, 0] rfl) hk
  rw [pX2_makeSuites] at h
  refine lv_iconst (v := (0 : Int32)) hx hb dX2_makeSuites_0 (by decide) ?_
  refine lv_istore_n (lv' := [(3, .int (0 : Int32)), (0, .ref (ad 60)), (1, .ref (ad 3)), (2, .int a2)]) hx hb dX2_makeSuites_1 rfl hl (by decide) rfl (fun ls hl => ?_)
  obtain ⟨o9, hL10, h⟩ := vz_b h
  refine L2 a2 fuel (0 : Int32) u v _ _ ls o9 hL10 hP hS (lv_sub hl [1, 2, 3, 0] rfl) (fun u12 v13 H locs ls e11 hP hS hl => ?_)
  try rw [e11] at h
  try dsimp only at h
  cases h
  exact W.vret hx hb hr (fun t ht _ => ⟨rfl, by rw [ht]; exact hP, hS.F ht⟩) hS.2.2 dX2_makeSuites_31
abbrev rmX2_fill : Room := { frames := 5, cells := 0, slots := 0, locals := 118 }
set_option maxHeartbeats 4000000 in
set_option maxRecDepth 100000 in
theorem k_X2_fill (l : Launch) {D : va_G} {cI cJ : ClassId} {ad : Nat → Nat} {u : tU} {v : tV} {A : Nat → Prop} (hD : zD A cI cJ ad) {uz : tU} {vz : tV} (h : pX2_fill u v  = some (uz, vz)) : Met l yX2_fill wsX2_fill rmX2_fill (va_Pc [.ref (ad 60), .ref (ad 2)] (xPre D cI cJ (wA cI cJ ad u v))) (xWv D cI cJ ad A uz vz) 0 0 A := by
  refine Met.ofW (cc := cX2_fill) (maxL := 4) (ret := none) (by decide) rfl ?_
  intro p e s m args below meth c s₁ B hml hv
  obtain ⟨rfl, hP, hK⟩ := hv
  have hx := B.exec
  have hb := B.bytes
  have hr := B.returns
  have hts := atoms_spec (ws := wsX2_fill) B.pre
  have hown : s.vm.findClass RX2 = some m.cls := findClass_of_methodNamed B.named
  have hlocks := B.notSynchronized
  have hS : va_S A s.heap s.heap [] := va_S.rf
  have hin0 : ∀ w ∈ u_ws RX0 TX0 8, w ∈ wsX2_fill := fun _ h => List.mem_cons_of_mem _ (List.mem_append_left _ (List.mem_append_left _ (List.mem_append_left _ (List.mem_append_left _ (List.mem_append_right _ h)))))
  have hin1 : ∀ w ∈ u_ws RX1 TX1 5, w ∈ wsX2_fill := fun _ h => List.mem_cons_of_mem _ (List.mem_append_left _ (List.mem_append_left _ (List.mem_append_left _ (List.mem_append_right _ h))))
  have hin2 : ∀ w ∈ u_ws RX2 TX2 1, w ∈ wsX2_fill := fun _ h => List.mem_cons_of_mem _ (List.mem_append_left _ (List.mem_append_left _ (List.mem_append_left _ (List.mem_append_left _ (List.mem_append_left _ (List.mem_append_right _ h))))))
  have hin3 : ∀ w ∈ u_ws RX3 TX3 3, w ∈ wsX2_fill := fun _ h => List.mem_cons_of_mem _ (List.mem_append_left _ (List.mem_append_left _ (List.mem_append_right _ h)))
  have hw1 := hts (.fieldLink RX2 9 "InstallDesk$Holdings" "versions" "[I") (List.mem_of_getElem? (i := 1) rfl)
  have hw6 := hts (.instanceMethod yX0_isInTime) (List.mem_of_getElem? (i := 6) rfl)
  have hw7 := hts (.initialized RX0) (List.mem_of_getElem? (i := 7) rfl)
  have hw8 := hts (.selects RX0 yX0_isInTime yX0_isInTime) (List.mem_of_getElem? (i := 8) rfl)
  have hw16 := hts (.instanceMethod yX0_goalOf) (List.mem_of_getElem? (i := 16) rfl)
  have hw17 := hts (.selects RX0 yX0_goalOf yX0_goalOf) (List.mem_of_getElem? (i := 17) rfl)
  have hl := lv_entry ([.ref (ad 60), .ref (ad 2)]) (n := 4) (Nat.le_of_ble_eq_true rfl)
  rw [lg_entry_eq]
  generalize (lg_sl ([.ref (ad 60), .ref (ad 2)]) ++ List.replicate (4 - (lg_sl ([.ref (ad 60), .ref (ad 2)])).length) Slot.unset).toArray = ls at hl ⊢
  have hl : lv_has ls 4 [(0, .ref (ad 60)), (1, .ref (ad 2))] := hl
  have L75 : ∀ (n : Nat) (x2 : Int32) (u : tU) (v : tV) (H : Heap) (locs : List Loc) (ls : Array Slot) (o : tU × tV), pX2_fill_L75 n x2 u v = some o → va_P D vwCl (wA cI cJ ad u v) H → va_S A s.heap H locs → lv_has ls 4 [(0, .ref (ad 60)), (1, .ref (ad 2)), (2, .int x2)] → (∀ (u' : tU) (v' : tV) (H : Heap) (locs : List Loc) (ls : Array Slot), o = (u', v') → va_P D vwCl (wA cI cJ ad u' v') H → va_S A s.heap H locs → lv_has ls 4 [] → W p l e (headSpec wsX2_fill rmX2_fill).room s m [Value.ref (ad 60), Value.ref (ad 2)].toArray below meth c H locs 0 0 (MQ below (xWv D cI cJ ad A uz vz) [Value.ref (ad 60), Value.ref (ad 2)].toArray s 0 0 A) (F0 m 101 ls [])) → W p l e (headSpec wsX2_fill rmX2_fill).room s m [Value.ref (ad 60), Value.ref (ad 2)].toArray below meth c H locs 0 0 (MQ below (xWv D cI cJ ad A uz vz) [Value.ref (ad 60), Value.ref (ad 2)].toArray s 0 0 A) (F0 m 75 ls []) := by
    intro n
    induction n with
    | zero => intro x2 u v H locs ls o h; cases h
    | succ n ih =>
      intro x2 u v H locs ls o h hP hS hl hk
      rw [pX2_fill_L75] at h
      refine lv_iload_n hx hb dX2_fill_75 rfl (lv_at hl 2 rfl) ?_
      refine lv_aload_n hx hb dX2_fill_76 rfl (lv_at hl 1 rfl) ?_
      refine za_getr (k := 2) hx hb hts hin0 hown hK hP zF_2_2 rfl (Nat.le_of_ble_eq_true rfl) (nw_217 hK.2) dX2_fill_77 ?_
      refine za_geti (k := 0) hx hb hts hin3 hown hK hP zF_11_0 rfl (Nat.le_of_ble_eq_true rfl) (nw_105 hK.2) dX2_fill_80 ?_
      refine lv_icmp_ge (tgt := 101) hx hb dX2_fill_83 (by decide) (fun c1 => ?_) (fun c1 => ?_)
      · have h := vz_t c1 h
        cases h
        exact hk u v _ _ ls rfl hP hS (lv_sub hl [] rfl)
      · have h := vz_f c1 h
        refine lv_aload_n hx hb dX2_fill_86 rfl (lv_at hl 0 rfl) ?_
        refine lv_aload_n hx hb dX2_fill_87 rfl (lv_at hl 1 rfl) ?_
        refine za_getr (k := 0) hx hb hts hin0 hown hK hP zF_2_0 rfl (Nat.le_of_ble_eq_true rfl) (nw_212 hK.2) dX2_fill_88 ?_
        refine lv_iload_n hx hb dX2_fill_91 rfl (lv_at hl 2 rfl) ?_
        obtain ⟨⟨u3, v4⟩, hc2, h⟩ := vz_b h
        try dsimp only at h
        refine za_callWv (va_runV (As := [.ref (ad 3), .int x2]) (rest := []) ⟨hx, hb, hml, hown, hts⟩ (k_X2_makeSuites l (D := D) (cI := cI) (cJ := cJ) (ad := ad) hD hc2) (cwV 2 hts gX2_fill_X2_makeSuites rfl rfl rfl ⟨rfl, zd_X2_makeSuites⟩ ⟨Nat.le_of_ble_eq_true rfl, Nat.le_of_ble_eq_true rfl⟩) (xPreV (ci := 2) hK hP rfl zO_60) rfl rfl hl.1 rfl (lv_room (Nat.le_of_ble_eq_true rfl)) dX2_fill_92 ⟨Nat.zero_le _, Nat.zero_le _⟩) hS (fun H locs hP hS => ?_)
        refine lv_iinc (v := (x2 + 1)) (lv' := [(2, .int (x2 + 1)), (0, .ref (ad 60)), (1, .ref (ad 2))]) hx hb dX2_fill_95 hl (k := 2) rfl rfl (by decide) rfl (fun ls hl => ?_)
        refine lv_goto (tgt := 75) hx hb dX2_fill_98 (by decide) ?_
        exact ih (x2 + 1) u3 v4 _ _ ls o h hP hS (lv_sub hl [1, 2, 0] rfl) hk
  have L10 : ∀ (n : Nat) (x2 : Int32) (u : tU) (v : tV) (H : Heap) (locs : List Loc) (ls : Array Slot) (o : tU × tV), pX2_fill_L10 n x2 u v = some o → va_P D vwCl (wA cI cJ ad u v) H → va_S A s.heap H locs → lv_has ls 4 [(0, .ref (ad 60)), (1, .ref (ad 2)), (2, .int x2)] → (∀ (u' : tU) (v' : tV) (H : Heap) (locs : List Loc) (ls : Array Slot), o = (u', v') → va_P D vwCl (wA cI cJ ad u' v') H → va_S A s.heap H locs → lv_has ls 4 [(0, .ref (ad 60)), (1, .ref (ad 2))] → W p l e (headSpec wsX2_fill rmX2_fill).room s m [Value.ref (ad 60), Value.ref (ad 2)].toArray below meth c H locs 0 0 (MQ below (xWv D cI cJ ad A uz vz) [Value.ref (ad 60), Value.ref (ad 2)].toArray s 0 0 A) (F0 m 73 ls [])) → W p l e (headSpec wsX2_fill rmX2_fill).room s m [Value.ref (ad 60), Value.ref (ad 2)].toArray below meth c H locs 0 0 (MQ below (xWv D cI cJ ad A uz vz) [Value.ref (ad 60), Value.ref (ad 2)].toArray s 0 0 A) (F0 m 10 ls []) := by
    intro n
    induction n with
    | zero => intro x2 u v H locs ls o h; cases h
    | succ n ih =>
      intro x2 u v H locs ls o h hP hS hl hk
      rw [pX2_fill_L10] at h
      refine lv_iload_n hx hb dX2_fill_10 rfl (lv_at hl 2 rfl) ?_
      refine lv_aload_n hx hb dX2_fill_11 rfl (lv_at hl 1 rfl) ?_
      refine za_getr (k := 3) hx hb hts hin0 hown hK hP zF_2_3 rfl (Nat.le_of_ble_eq_true rfl) (nw_220 hK.2) dX2_fill_12 ?_
      refine za_geti (k := 0) hx hb hts hin1 hown hK hP zF_14_0 rfl (Nat.le_of_ble_eq_true rfl) (nw_126 hK.2) dX2_fill_15 ?_
      refine lv_icmp_ge (tgt := 73) hx hb dX2_fill_18 (by decide) (fun c6 => ?_) (fun c6 => ?_)
      · have h := vz_t c6 h
        cases h
        exact hk u v _ _ ls rfl hP hS (lv_sub hl [0, 1] rfl)
      · have h := vz_f c6 h
        refine lv_aload_n hx hb dX2_fill_21 rfl (lv_at hl 1 rfl) ?_
        refine lv_iload_n hx hb dX2_fill_22 rfl (lv_at hl 2 rfl) ?_
        obtain ⟨r8, hc7, h⟩ := vz_b h
        refine za_callR (va_runVN (As := [.int x2]) (rest := []) ⟨hx, hb, hml, hown, hts⟩ (k_X0_isInTime l (D := D) (cI := cI) (cJ := cJ) (ad := ad) hc7) ⟨va_cnB 1 hts gX2_fill_X0_isInTime_n42 rfl rfl rfl (nw_481 hK.2) hw7 zd_X0_isInTime ⟨Nat.le_of_ble_eq_true rfl, Nat.le_of_ble_eq_true rfl⟩, hw6, hw8⟩ (xPreV (ci := 0) hK hP rfl zO_2) rfl rfl hl.1 rfl (lv_room (Nat.le_of_ble_eq_true rfl)) dX2_fill_23 ⟨Nat.zero_le _, Nat.zero_le _⟩) ?_
        refine lv_if_eq (tgt := 37) hx hb dX2_fill_26 (by decide) (fun c9 => ?_) (fun c9 => ?_)
        · have h := vz_t c9 h
          refine lv_bipush (v := (-2 : Int32)) hx hb dX2_fill_37 (by decide) ?_
          refine lv_istore_n (lv' := [(3, .int (-2 : Int32)), (0, .ref (ad 60)), (1, .ref (ad 2)), (2, .int x2)]) hx hb dX2_fill_39 rfl hl (by decide) rfl (fun ls hl => ?_)
          refine lv_iload_n hx hb dX2_fill_40 rfl (lv_at hl 0 rfl) ?_
          refine lv_if_lt (tgt := 67) hx hb dX2_fill_41 (by decide) (fun c10 => ?_) (fun c10 => ?_)
          rotate_left
          · exact absurd c10 (by decide)
          refine lv_iinc (v := (x2 + 1)) (lv' := [(2, .int (x2 + 1)), (3, .int (-2 : Int32)), (0, .ref (ad 60)), (1, .ref (ad 2))]) hx hb dX2_fill_67 hl (k := 3) rfl rfl (by decide) rfl (fun ls hl => ?_)
          refine lv_goto (tgt := 10) hx hb dX2_fill_70 (by decide) ?_
          exact ih (x2 + 1) u v _ _ ls o h hP hS (lv_sub hl [2, 3, 0] rfl) hk
        · have h := vz_f c9 h
          refine lv_aload_n hx hb dX2_fill_29 rfl (lv_at hl 1 rfl) ?_
          refine lv_iload_n hx hb dX2_fill_30 rfl (lv_at hl 2 rfl) ?_
          obtain ⟨r12, hc11, h⟩ := vz_b h
          refine za_callR (va_runVN (As := [.int x2]) (rest := []) ⟨hx, hb, hml, hown, hts⟩ (k_X0_goalOf l (D := D) (cI := cI) (cJ := cJ) (ad := ad) hc11) ⟨va_cnB 1 hts gX2_fill_X0_goalOf_n46 rfl rfl rfl (nw_482 hK.2) hw7 zd_X0_goalOf ⟨Nat.le_of_ble_eq_true rfl, Nat.le_of_ble_eq_true rfl⟩, hw16, hw17⟩ (xPreV (ci := 0) hK hP rfl zO_2) rfl rfl hl.1 rfl (lv_room (Nat.le_of_ble_eq_true rfl)) dX2_fill_31 ⟨Nat.zero_le _, Nat.zero_le _⟩) ?_
          refine lv_goto (tgt := 39) hx hb dX2_fill_34 (by decide) ?_
          refine lv_istore_n (lv' := [(3, .int r12), (0, .ref (ad 60)), (1, .ref (ad 2)), (2, .int x2)]) hx hb dX2_fill_39 rfl hl (by decide) rfl (fun ls hl => ?_)
          refine lv_iload_n hx hb dX2_fill_40 rfl (lv_at hl 0 rfl) ?_
          refine lv_if_lt (tgt := 67) hx hb dX2_fill_41 (by decide) (fun c13 => ?_) (fun c13 => ?_)
          · have h := vz_t c13 h
            refine lv_iinc (v := (x2 + 1)) (lv' := [(2, .int (x2 + 1)), (3, .int r12), (0, .ref (ad 60)), (1, .ref (ad 2))]) hx hb dX2_fill_67 hl (k := 3) rfl rfl (by decide) rfl (fun ls hl => ?_)
            refine lv_goto (tgt := 10) hx hb dX2_fill_70 (by decide) ?_
            exact ih (x2 + 1) u v _ _ ls o h hP hS (lv_sub hl [2, 3, 0] rfl) hk
          · have h := vz_f c13 h
            refine lv_aload_n hx hb dX2_fill_44 rfl (lv_at hl 1 rfl) ?_
            refine lv_aload_n hx hb dX2_fill_45 rfl (lv_at hl 2 rfl) ?_
            refine za_getr (k := 3) hx hb hts hin0 hown hK hP zF_2_3 rfl (Nat.le_of_ble_eq_true rfl) (nw_220 hK.2) dX2_fill_46 ?_
            refine za_getr (k := 2) hx hb hts hin1 hown hK hP zF_14_2 rfl (Nat.le_of_ble_eq_true rfl) (nw_131 hK.2) dX2_fill_49 ?_
            refine lv_iload_n hx hb dX2_fill_52 rfl (lv_at hl 3 rfl) ?_
            obtain ⟨g14, h⟩ := gd_s h
            refine za_ild hx hb hK hP zI_16 g14 dX2_fill_53 ?_
            refine lv_iload_n hx hb dX2_fill_54 rfl (lv_at hl 0 rfl) ?_
            refine lv_aload_n hx hb dX2_fill_55 rfl (lv_at hl 2 rfl) ?_
            refine za_getr (k := 3) hx hb hts hin0 hown hK hP zF_2_3 rfl (Nat.le_of_ble_eq_true rfl) (nw_220 hK.2) dX2_fill_56 ?_
            refine za_getr (k := 4) hx hb hts hin1 hown hK hP zF_14_4 rfl (Nat.le_of_ble_eq_true rfl) (nw_135 hK.2) dX2_fill_59 ?_
            refine lv_iload_n hx hb dX2_fill_62 rfl (lv_at hl 3 rfl) ?_
            obtain ⟨g15, h⟩ := gd_s h
            refine za_ild hx hb hK hP zI_18 g15 dX2_fill_63 ?_
            obtain ⟨⟨u17, v18⟩, hc16, h⟩ := vz_b h
            try dsimp only at h
            refine za_callWv (va_runV (As := [.int (u 18 x2.toNatClampNeg), .int r12, .int (u 20 x2.toNatClampNeg)]) (rest := []) ⟨hx, hb, hml, hown, hts⟩ (k_X2_raise l (D := D) (cI := cI) (cJ := cJ) (ad := ad) hD hc16) (cwV 3 hts gX2_fill_X2_raise rfl rfl rfl ⟨rfl, zd_X2_raise⟩ ⟨Nat.le_of_ble_eq_true rfl, Nat.le_of_ble_eq_true rfl⟩) (xPreV (ci := 2) hK hP rfl zO_60) rfl rfl hl.1 rfl (lv_room (Nat.le_of_ble_eq_true rfl)) dX2_fill_64 ⟨Nat.zero_le _, Nat.zero_le _⟩) hS (fun H locs hP hS => ?_)
            refine lv_iinc (v := (x2 + 1)) (lv' := [(2, .int (x2 + 1)), (3, .int r12), (0, .ref (ad 60)), (1, .ref (ad 2))]) hx hb dX2_fill_67 hl (k := 3) rfl rfl (by decide) rfl (fun ls hl => ?_)
            refine lv_goto (tgt := 10) hx hb dX2_fill_70 (by decide) ?_
            exact ih (x2 + 1) u17 v18 _ _ ls o h hP hS (lv_sub hl [2, 3, 0] rfl) hk
  rw [pX2_fill] at h
  refine lv_aload_n hx hb dX2_fill_0 rfl (lv_at hl 0 rfl) ?_
  refine za_getr (k := 0) hx hb hts hin2 hown hK hP zF_60_0 rfl (Nat.le_of_ble_eq_true rfl) (Or.inl hw1) dX2_fill_1 ?_
  refine lv_iconst (v := (0 : Int32)) hx hb dX2_fill_4 (by decide) ?_
  obtain ⟨⟨u21, v22⟩, hc20, h⟩ := vz_b h
  try dsimp only at h
  refine za_callWv (va_runS (As := [.ref (ad 61), .int (0 : Int32)]) (rest := []) ⟨hx, hb, hml, hown, hts⟩ (k_J7_fill_53178 l (D := D) (cI := cI) (cJ := cJ) (ad := ad) hD hc20) (va_cwS 2 hts gX2_fill_J7_fill_53178 rfl rfl rfl zd_J7_fill_53178 ⟨Nat.le_of_ble_eq_true rfl, Nat.le_of_ble_eq_true rfl⟩) (xPreS hK hP) rfl rfl hl.1 rfl (lv_room (Nat.le_of_ble_eq_true rfl)) dX2_fill_5 ⟨Nat.zero_le _, Nat.zero_le _⟩) hS (fun H locs hP hS => ?_)
  refine lv_iconst (v := (0 : Int32)) hx hb dX2_fill_8 (by decide) ?_
  refine lv_istore_n (lv' := [(2, .int (0 : Int32)), (0, .ref (ad 60)), (1, .ref (ad 2))]) hx hb dX2_fill_9 rfl hl (by decide) rfl (fun ls hl => ?_)
  obtain ⟨o24, hL25, h⟩ := vz_b h
  refine L10 fuel (0 : Int32) u21 v22 _ _ ls o24 hL25 hP hS (lv_sub hl [1, 2, 0] rfl) (fun u27 v28 H locs ls e26 hP hS hl => ?_)
  try rw [e26] at h
  try dsimp only at h
  refine lv_iconst (v := (0 : Int32)) hx hb dX2_fill_73 (by decide) ?_
  refine lv_istore_n (lv' := [(2, .int (0 : Int32)), (0, .ref (ad 60)), (1, .ref (ad 2))]) hx hb dX2_fill_74 rfl hl (by decide) rfl (fun ls hl => ?_)
  obtain ⟨o29, hL30, h⟩ := vz_b h
  refine L75 fuel (0 : Int32) u27 v28 _ _ ls o29 hL30 hP hS (lv_sub hl [1, 2, 0] rfl) (fun u32 v33 H locs ls e31 hP hS hl => ?_)
  try rw [e31] at h
  try dsimp only at h
  cases h
  exact W.vret hx hb hr (fun t ht _ => ⟨rfl, by rw [ht]; exact hP, hS.F ht⟩) hS.2.2 dX2_fill_101
abbrev rmX10_finding : Room := { frames := 0, cells := 0, slots := 0, locals := 0 }
set_option maxHeartbeats 4000000 in
set_option maxRecDepth 100000 in
theorem k_X10_finding (l : Launch) {D : va_G} {cI cJ : ClassId} {ad : Nat → Nat} {u : tU} {v : tV} {A : Nat → Prop} (hD : zD A cI cJ ad) {a1 : Int32}  {r : Int32} {uz : tU} {vz : tV} (h : pX10_finding u v a1 = some (r, uz, vz)) : Met l yX10_finding wsX10_finding rmX10_finding (va_Pc [.ref (ad 0), .int a1] (xPre D cI cJ (wA cI cJ ad u v))) (xWi D cI cJ ad A r uz vz) 0 0 A := by
  refine Met.ofW (cc := cX10_finding) (maxL := 2) (ret := (some .int)) (by decide) rfl ?_
  intro p e s m args below meth c s₁ B hml hv
  obtain ⟨rfl, hP, hK⟩ := hv
  have hx := B.exec
  have hb := B.bytes
  have hr := B.returns
  have hts := atoms_spec (ws := wsX10_finding) B.pre
  have hown : s.vm.findClass RX10 = some m.cls := findClass_of_methodNamed B.named
  have hlocks := B.notSynchronized
  have hS : va_S A s.heap s.heap [] := va_S.rf
  have hin10 : ∀ w ∈ u_ws RX10 TX10 7, w ∈ wsX10_finding := fun _ h => List.mem_cons_of_mem _ (List.mem_append_right _ h)
  have hw1 := hts (.fieldLink RX10 248 "InstallDesk" "findingsTold" "I") (List.mem_of_getElem? (i := 1) rfl)
  have hl := lv_entry ([.ref (ad 0), .int a1]) (n := 2) (Nat.le_of_ble_eq_true rfl)
  rw [lg_entry_eq]
  generalize (lg_sl ([.ref (ad 0), .int a1]) ++ List.replicate (2 - (lg_sl ([.ref (ad 0), .int a1])).length) Slot.unset).toArray = ls at hl ⊢
  have hl : lv_has ls 2 [(0, .ref (ad 0)), (1, .int a1)] := hl
  rw [pX10_finding] at h
  refine lv_aload_n hx hb dX10_finding_0 rfl (lv_at hl 0 rfl) ?_
  refine lv_dup hx hb dX10_finding_1 rfl ?_
  refine za_geti (k := 6) hx hb hts hin10 hown hK hP zF_0_6 rfl (Nat.le_of_ble_eq_true rfl) (Or.inl hw1) dX10_finding_2 ?_
  refine lv_iconst (v := (1 : Int32)) hx hb dX10_finding_5 (by decide) ?_
  refine lv_iadd hx hb dX10_finding_6 ?_
  refine za_puti (k := 6) hx hb hts hin10 tyX10 tyX10_ok nmX10 hown hK hP hD hS zF_0_6 rfl (Nat.le_of_ble_eq_true rfl) (Or.inl hw1) rfl rfl rfl dX10_finding_7 (fun H locs hP hS => ?_)
  refine lv_iload_n hx hb dX10_finding_10 rfl (lv_at hl 1 rfl) ?_
  cases h
  exact W.iret hx hb hr (fun t ht _ => ⟨rfl, by rw [ht]; exact hP, hS.F ht⟩) hS.2.2 dX10_finding_11
abbrev rmX10_all : Room := { frames := 6, cells := 0, slots := 0, locals := 141 }
set_option maxHeartbeats 4000000 in
set_option maxRecDepth 100000 in
theorem k_X10_all (l : Launch) {D : va_G} {cI cJ : ClassId} {ad : Nat → Nat} {u : tU} {v : tV} {A : Nat → Prop} (hD : zD A cI cJ ad) {a1 : Int32}  {r : Int32} {uz : tU} {vz : tV} (h : pX10_all u v a1 = some (r, uz, vz)) : Met l yX10_all wsX10_all rmX10_all (va_Pc [.ref (ad 0), .int a1] (xPre D cI cJ (wA cI cJ ad u v))) (xWi D cI cJ ad A r uz vz) 0 0 A := by
  refine Met.ofW (cc := cX10_all) (maxL := 4) (ret := (some .int)) (by decide) rfl ?_
  intro p e s m args below meth c s₁ B hml hv
  obtain ⟨rfl, hP, hK⟩ := hv
  have hx := B.exec
  have hb := B.bytes
  have hr := B.returns
  have hts := atoms_spec (ws := wsX10_all) B.pre
  have hown : s.vm.findClass RX10 = some m.cls := findClass_of_methodNamed B.named
  have hlocks := B.notSynchronized
  have hS : va_S A s.heap s.heap [] := va_S.rf
  have hin0 : ∀ w ∈ u_ws RX0 TX0 8, w ∈ wsX10_all := fun _ h => List.mem_cons_of_mem _ (List.mem_append_left _ (List.mem_append_left _ (List.mem_append_left _ (List.mem_append_left _ (List.mem_append_left _ (List.mem_append_left _ (List.mem_append_right _ h)))))))
  have hin6 : ∀ w ∈ u_ws RX6 TX6 4, w ∈ wsX10_all := fun _ h => List.mem_cons_of_mem _ (List.mem_append_left _ (List.mem_append_left _ (List.mem_append_left _ (List.mem_append_left _ (List.mem_append_left _ (List.mem_append_right _ h))))))
  have hin10 : ∀ w ∈ u_ws RX10 TX10 7, w ∈ wsX10_all := fun _ h => List.mem_cons_of_mem _ (List.mem_append_left _ (List.mem_append_left _ (List.mem_append_left _ (List.mem_append_left _ (List.mem_append_left _ (List.mem_append_left _ (List.mem_append_left _ (List.mem_append_right _ h))))))))
  have hw1 := hts (.fieldLink RX10 29 "InstallDesk" "holdings" "LInstallDesk$Holdings;") (List.mem_of_getElem? (i := 1) rfl)
  have hw2 := hts (.fieldLink RX10 19 "InstallDesk" "books" "LInstallDesk$Books;") (List.mem_of_getElem? (i := 2) rfl)
  have hw15 := hts (.instanceMethod yX2_fill) (List.mem_of_getElem? (i := 15) rfl)
  have hw16 := hts (.initialized RX2) (List.mem_of_getElem? (i := 16) rfl)
  have hw17 := hts (.selects RX2 yX2_fill yX2_fill) (List.mem_of_getElem? (i := 17) rfl)
  have hl := lv_entry ([.ref (ad 0), .int a1]) (n := 4) (Nat.le_of_ble_eq_true rfl)
  rw [lg_entry_eq]
  generalize (lg_sl ([.ref (ad 0), .int a1]) ++ List.replicate (4 - (lg_sl ([.ref (ad 0), .int a1])).length) Slot.unset).toArray = ls at hl ⊢
  have hl : lv_has ls 4 [(0, .ref (ad 0)), (1, .int a1)] := hl
  have L28 : ∀ (u : tU) (v : tV) (H : Heap) (locs : List Loc) (x1 : Int32) (n : Nat) (x2 : Int32) (x3 : Int32) (ls : Array Slot) (o : Int32), pX10_all_L28 u v x1 n x2 x3 = some o → va_P D vwCl (wA cI cJ ad u v) H → va_S A s.heap H locs → lv_has ls 4 [(0, .ref (ad 0)), (1, .int x1), (2, .int x2), (3, .int x3)] → (∀ (y2 : Int32) (ls : Array Slot), o = y2 → lv_has ls 4 [(2, .int y2)] → W p l e (headSpec wsX10_all rmX10_all).room s m [Value.ref (ad 0), Value.int a1].toArray below meth c H locs 0 0 (MQ below (xWi D cI cJ ad A r uz vz) [Value.ref (ad 0), Value.int a1].toArray s 0 0 A) (F0 m 57 ls [])) → W p l e (headSpec wsX10_all rmX10_all).room s m [Value.ref (ad 0), Value.int a1].toArray below meth c H locs 0 0 (MQ below (xWi D cI cJ ad A r uz vz) [Value.ref (ad 0), Value.int a1].toArray s 0 0 A) (F0 m 28 ls []) := by
    intro u v H locs x1 n
    induction n with
    | zero => intro x2 x3 ls o h; cases h
    | succ n ih =>
      intro x2 x3 ls o h hP hS hl hk
      rw [pX10_all_L28] at h
      refine lv_iload_n hx hb dX10_all_28 rfl (lv_at hl 3 rfl) ?_
      refine lv_aload_n hx hb dX10_all_29 rfl (lv_at hl 0 rfl) ?_
      refine za_getr (k := 1) hx hb hts hin10 hown hK hP zF_0_1 rfl (Nat.le_of_ble_eq_true rfl) (Or.inl hw2) dX10_all_30 ?_
      refine za_getr (k := 0) hx hb hts hin0 hown hK hP zF_2_0 rfl (Nat.le_of_ble_eq_true rfl) (nw_210 hK.2) dX10_all_33 ?_
      refine za_geti (k := 0) hx hb hts hin6 hown hK hP zF_3_0 rfl (Nat.le_of_ble_eq_true rfl) (nw_52 hK.2) dX10_all_36 ?_
      refine lv_icmp_ge (tgt := 57) hx hb dX10_all_39 (by decide) (fun c1 => ?_) (fun c1 => ?_)
      · have h := vz_t c1 h
        cases h
        exact hk x2 ls rfl (lv_sub hl [2] rfl)
      · have h := vz_f c1 h
        refine lv_iload_n hx hb dX10_all_42 rfl (lv_at hl 2 rfl) ?_
        refine lv_aload_n hx hb dX10_all_43 rfl (lv_at hl 0 rfl) ?_
        refine lv_iload_n hx hb dX10_all_44 rfl (lv_at hl 3 rfl) ?_
        refine lv_iload_n hx hb dX10_all_45 rfl (lv_at hl 1 rfl) ?_
        obtain ⟨r3, hc2, h⟩ := vz_b h
        refine za_callR (va_runV (As := [.int x3, .int x1]) (rest := [.int x2]) ⟨hx, hb, hml, hown, hts⟩ (k_X10_measured l (D := D) (cI := cI) (cJ := cJ) (ad := ad) hc2) (cwV 2 hts gX10_all_X10_measured rfl rfl rfl ⟨rfl, zd_X10_measured⟩ ⟨Nat.le_of_ble_eq_true rfl, Nat.le_of_ble_eq_true rfl⟩) (xPreV (ci := 10) hK hP rfl zO_0) rfl rfl hl.1 rfl (lv_room (Nat.le_of_ble_eq_true rfl)) dX10_all_46 ⟨Nat.zero_le _, Nat.zero_le _⟩) ?_
        refine lv_iadd hx hb dX10_all_49 ?_
        refine lv_istore_n (lv' := [(2, .int (x2 + r3)), (0, .ref (ad 0)), (1, .int x1), (3, .int x3)]) hx hb dX10_all_50 rfl hl (by decide) rfl (fun ls hl => ?_)
        refine lv_iinc (v := (x3 + 1)) (lv' := [(3, .int (x3 + 1)), (2, .int (x2 + r3)), (0, .ref (ad 0)), (1, .int x1)]) hx hb dX10_all_51 hl (k := 3) rfl rfl (by decide) rfl (fun ls hl => ?_)
        refine lv_goto (tgt := 28) hx hb dX10_all_54 (by decide) ?_
        exact ih (x2 + r3) (x3 + 1) ls o h hP hS (lv_sub hl [2, 3, 1, 0] rfl) hk
  rw [pX10_all] at h
  refine lv_iload_n hx hb dX10_all_0 rfl (lv_at hl 1 rfl) ?_
  obtain ⟨r5, hc4, h⟩ := vz_b h
  refine za_callR (va_runS (As := [.int a1]) (rest := []) ⟨hx, hb, hml, hown, hts⟩ (k_X10_isMeasure l hc4) (va_cwS 1 hts gX10_all_X10_isMeasure rfl rfl rfl zd_X10_isMeasure ⟨Nat.le_of_ble_eq_true rfl, Nat.le_of_ble_eq_true rfl⟩) xPre0 rfl rfl hl.1 rfl (lv_room (Nat.le_of_ble_eq_true rfl)) dX10_all_1 ⟨Nat.zero_le _, Nat.zero_le _⟩) ?_
  refine lv_if_ne (tgt := 13) hx hb dX10_all_4 (by decide) (fun c6 => ?_) (fun c6 => ?_)
  · have h := vz_f c6 h
    refine lv_aload_n hx hb dX10_all_13 rfl (lv_at hl 0 rfl) ?_
    refine za_getr (k := 3) hx hb hts hin10 hown hK hP zF_0_3 rfl (Nat.le_of_ble_eq_true rfl) (Or.inl hw1) dX10_all_14 ?_
    refine lv_aload_n hx hb dX10_all_17 rfl (lv_at hl 0 rfl) ?_
    refine za_getr (k := 1) hx hb hts hin10 hown hK hP zF_0_1 rfl (Nat.le_of_ble_eq_true rfl) (Or.inl hw2) dX10_all_18 ?_
    obtain ⟨⟨u8, v9⟩, hc7, h⟩ := vz_b h
    try dsimp only at h
    refine za_callWv (va_runVN (As := [.ref (ad 2)]) (rest := []) ⟨hx, hb, hml, hown, hts⟩ (k_X2_fill l (D := D) (cI := cI) (cJ := cJ) (ad := ad) hD hc7) ⟨va_cnB 1 hts gX10_all_X2_fill_n159 rfl rfl rfl (nw_474 hK.2) hw16 zd_X2_fill ⟨Nat.le_of_ble_eq_true rfl, Nat.le_of_ble_eq_true rfl⟩, hw15, hw17⟩ (xPreV (ci := 2) hK hP rfl zO_60) rfl rfl hl.1 rfl (lv_room (Nat.le_of_ble_eq_true rfl)) dX10_all_21 ⟨Nat.zero_le _, Nat.zero_le _⟩) hS (fun H locs hP hS => ?_)
    refine lv_iconst (v := (0 : Int32)) hx hb dX10_all_24 (by decide) ?_
    refine lv_istore_n (lv' := [(2, .int (0 : Int32)), (0, .ref (ad 0)), (1, .int a1)]) hx hb dX10_all_25 rfl hl (by decide) rfl (fun ls hl => ?_)
    refine lv_iconst (v := (0 : Int32)) hx hb dX10_all_26 (by decide) ?_
    refine lv_istore_n (lv' := [(3, .int (0 : Int32)), (2, .int (0 : Int32)), (0, .ref (ad 0)), (1, .int a1)]) hx hb dX10_all_27 rfl hl (by decide) rfl (fun ls hl => ?_)
    obtain ⟨o11, hL12, h⟩ := vz_b h
    refine L28 u8 v9 _ _ a1 fuel (0 : Int32) (0 : Int32) ls o11 hL12 hP hS (lv_sub hl [2, 3, 1, 0] rfl) (fun y14 ls e13 hl => ?_)
    try rw [e13] at h
    try dsimp only at h
    refine lv_iload_n hx hb dX10_all_57 rfl (lv_at hl 0 rfl) ?_
    cases h
    exact W.iret hx hb hr (fun t ht _ => ⟨rfl, by rw [ht]; exact hP, hS.F ht⟩) hS.2.2 dX10_all_58
  · have h := vz_t c6 h
    refine lv_aload_n hx hb dX10_all_7 rfl (lv_at hl 0 rfl) ?_
    refine lv_iconst (v := (-1 : Int32)) hx hb dX10_all_8 (by decide) ?_
    obtain ⟨⟨r19, u16, v17⟩, hc15, h⟩ := vz_b h
    try dsimp only at h
    refine za_callWi (va_runV (As := [.int (-1 : Int32)]) (rest := []) ⟨hx, hb, hml, hown, hts⟩ (k_X10_finding l (D := D) (cI := cI) (cJ := cJ) (ad := ad) hD hc15) (cwV 1 hts gX10_all_X10_finding rfl rfl rfl ⟨rfl, zd_X10_finding⟩ ⟨Nat.le_of_ble_eq_true rfl, Nat.le_of_ble_eq_true rfl⟩) (xPreV (ci := 10) hK hP rfl zO_0) rfl rfl hl.1 rfl (lv_room (Nat.le_of_ble_eq_true rfl)) dX10_all_9 ⟨Nat.zero_le _, Nat.zero_le _⟩) hS (fun H locs hP hS => ?_)
    cases h
    exact W.iret hx hb hr (fun t ht _ => ⟨rfl, by rw [ht]; exact hP, hS.F ht⟩) hS.2.2 dX10_all_12
